/-! truth as a number; small numbers; frames -/
def bI (c : Prop) [Decidable c] : Int32 := if c then nI 1 else nI 0
theorem bI_t {c : Prop} [Decidable c] (h : c) : bI c = nI 1 := if_pos h
theorem bI_f {c : Prop} [Decidable c] (h : ¬ c) : bI c = nI 0 := if_neg h
theorem bI_0 {c : Prop} [Decidable c] : bI c = 0 ↔ ¬ c := by
  unfold bI
  split
  · rename_i h
    exact ⟨fun q => absurd q (by decide), fun q => absurd h q⟩
  · rename_i h
    exact ⟨fun _ => h, fun _ => rfl⟩
theorem bI_n {c : Prop} [Decidable c] : ¬ bI c = 0 ↔ c := by
  rw [bI_0]
  exact Decidable.not_not
theorem bI_c {c d : Prop} [Decidable c] [Decidable d] (h : c ↔ d) : bI c = bI d := by
  unfold bI
  by_cases hc : c
  · rw [if_pos hc, if_pos (h.mp hc)]
  · rw [if_neg hc, if_neg (fun q => hc (h.mpr q))]
theorem bI_nar {c : Prop} [Decidable c] : narrow .boolean (.int (bI c)) = .int (bI c) := by
  unfold bI
  split <;> decide
def oI (o : Option Nat) : Int32 := match o with
  | some i => nI i
  | none => -5
theorem oI_neg {i : Nat} (h : i < 2 ^ 31) : ¬ (oI (some i) < 0) := nI_pos h
theorem oI_none : oI none < 0 := by decide
theorem shl_o0 (m : Mem) {a o i n j : Nat} (h : o ≠ a) : shl m a i n o j = m o j := by simp only [shl, if_neg h]
def Fr (lo hi : Nat) (mem mem' : Mem) : Prop := ∀ o, (o < lo ∨ hi ≤ o) → mem' o = mem o
theorem Fr.rf {lo hi : Nat} {mem : Mem} : Fr lo hi mem mem := fun _ _ => rfl
theorem Fr.tr {lo hi : Nat} {m1 m2 m3 : Mem} (h : Fr lo hi m1 m2) (k : Fr lo hi m2 m3) : Fr lo hi m1 m3 := fun o ho => (k o ho).trans (h o ho)
theorem Fr.up {lo hi lo' hi' : Nat} {m1 m2 : Mem} (h : Fr lo hi m1 m2) (h1 : lo' ≤ lo) (h2 : hi ≤ hi') : Fr lo' hi' m1 m2 := fun o ho => h o (by omega)
theorem Fr.um {lo hi a k : Nat} {m : Mem} {x : Int32} (h1 : lo ≤ a) (h2 : a < hi) : Fr lo hi m (um m a k x) := fun o ho => um_ne m k x (by omega)
theorem Fr.shl {lo hi a i n : Nat} {m : Mem} (h1 : lo ≤ a) (h2 : a < hi) : Fr lo hi m (shl m a i n) := fun o ho => by
  funext j
  have h3 : o ≠ a := by omega
  exact shl_o0 m h3
theorem Fr.cpm {lo hi a b n : Nat} {m : Mem} (h1 : lo ≤ b) (h2 : b < hi) : Fr lo hi m (cpm m a b n) := fun o ho => if_neg (by omega)
theorem um_eq (m : Mem) (a k : Nat) (x : Int32) : um m a k x a k = x := by simp only [um, if_true]
theorem um_k (m : Mem) {a k j : Nat} (x : Int32) (h : j ≠ k) : um m a k x a j = m a j := by simp only [um, if_true, if_neg h]
theorem um_o (m : Mem) {a o k j : Nat} (x : Int32) (h : o ≠ a) : um m a k x o j = m o j := by simp only [um, if_neg h]
theorem shl_ge (m : Mem) {a i n j : Nat} (h : i ≤ j) (h2 : j + 1 < n) : shl m a i n a j = m a (j + 1) := by simp only [shl, if_true, if_pos (And.intro h h2)]
theorem shl_lt (m : Mem) {a i n j : Nat} (h : j < i) : shl m a i n a j = m a j := by simp only [shl, if_true, if_neg (show ¬ (i ≤ j ∧ j + 1 < n) by omega)]
theorem shl_o (m : Mem) {a o i n j : Nat} (h : o ≠ a) : shl m a i n o j = m o j := by simp only [shl, if_neg h]
theorem cpm_in (m : Mem) {a b n j : Nat} (h : j < n) : cpm m a b n b j = m a j := by
  simp only [cpm, if_true]
  rw [pk_cpy_in (Nat.zero_le j) (by omega)]
  simp
theorem cpm_o (m : Mem) {a b o n : Nat} (h : o ≠ b) : cpm m a b n o = m o := if_neg h
theorem nI_le' {a b : Nat} (ha : a < 2 ^ 31) (hb : b < 2 ^ 31) (h : nI a ≤ nI b) : a ≤ b := (nI_leI ha hb).mp h
theorem nI_nle' {a b : Nat} (ha : a < 2 ^ 31) (hb : b < 2 ^ 31) (h : ¬ nI a ≤ nI b) : b < a := Nat.lt_of_not_le fun q => h ((nI_leI ha hb).mpr q)
theorem nI_lt' {a b : Nat} (ha : a < 2 ^ 31) (hb : b < 2 ^ 31) (h : nI a < nI b) : a < b := (nI_ltI ha hb).mp h
theorem nI_nlt' {a b : Nat} (ha : a < 2 ^ 31) (hb : b < 2 ^ 31) (h : ¬ nI a < nI b) : b ≤ a := Nat.le_of_not_lt fun q => h ((nI_ltI ha hb).mpr q)
theorem nI_eq' {a b : Nat} (ha : a < 2 ^ 31) (hb : b < 2 ^ 31) (h : nI a = nI b) : a = b := (nI_eq ha hb).mp h
theorem nI_ne' {a b : Nat} (h : ¬ nI a = nI b) : a ≠ b := fun q => h (by rw [q])
theorem mul_b {a b A B : Nat} (h : a ≤ A) (k : b ≤ B) : a * b ≤ A * B := Nat.mul_le_mul h k
