/-! Offcuts: a list of (number, roll, width, length) -/
abbrev OE : Type := Nat × Nat × Nat × Nat
def eN (E : List OE) (i : Nat) : Nat := ((E[i]?).getD (0, 0, 0, 0)).1
def eR (E : List OE) (i : Nat) : Nat := ((E[i]?).getD (0, 0, 0, 0)).2.1
def eW (E : List OE) (i : Nat) : Nat := ((E[i]?).getD (0, 0, 0, 0)).2.2.1
def eL (E : List OE) (i : Nat) : Nat := ((E[i]?).getD (0, 0, 0, 0)).2.2.2
def eA (E : List OE) (i : Nat) : Nat := eW E i * eL E i
def OfRep (mem : Mem) (ρ : Nat) (E : List OE) (cut : Nat) : Prop := E.length ≤ 60 ∧ cut ≤ 300 ∧ mem ρ 0 = nI E.length ∧ mem ρ 1 = nI cut ∧ ∀ i, i < E.length → (eN E i < 300 ∧ eR E i < 12 ∧ eW E i ≤ 60 ∧ eL E i ≤ 60) ∧ mem (ρ + 2) i = nI (eN E i) ∧ mem (ρ + 4) i = nI (eR E i) ∧ mem (ρ + 6) i = nI (eW E i) ∧ mem (ρ + 8) i = nI (eL E i)
def cnt (p : Nat → Bool) : Nat → Nat
  | 0 => 0
  | j + 1 => cnt p j + (if p j then 1 else 0)
def sN (f : Nat → Nat) : Nat → Nat
  | 0 => 0
  | j + 1 => sN f j + f j
def ff (p : Nat → Bool) : Nat → Nat → Option Nat
  | 0, _ => none
  | n + 1, i => if p i then some i else ff p n (i + 1)
theorem ff_t {p : Nat → Bool} {n i : Nat} (hi : i < n) (h : p i = true) : ff p (n - i) i = some i := by
  obtain ⟨k, hk⟩ : ∃ k, n - i = k + 1 := ⟨n - i - 1, by omega⟩
  rw [hk]
  simp only [ff, h, if_true]
theorem ff_f {p : Nat → Bool} {n i : Nat} (hi : i < n) (h : p i = false) : ff p (n - i) i = ff p (n - (i + 1)) (i + 1) := by
  obtain ⟨k, hk⟩ : ∃ k, n - i = k + 1 := ⟨n - i - 1, by omega⟩
  rw [hk, show n - (i + 1) = k by omega]
  simp only [ff, h]
  rfl
theorem ff_e {p : Nat → Bool} {n i : Nat} (hi : n ≤ i) : ff p (n - i) i = none := by
  rw [show n - i = 0 by omega]
  rfl
theorem ff_lt {p : Nat → Bool} : ∀ (n i j : Nat), ff p n i = some j → i ≤ j ∧ j < i + n ∧ p j = true
  | 0, i, j, h => by cases h
  | n + 1, i, j, h => by
    unfold ff at h
    split at h
    · rename_i h1
      cases h
      exact ⟨Nat.le_refl _, by omega, h1⟩
    · obtain ⟨h1, h2, h3⟩ := ff_lt n (i + 1) j h
      exact ⟨by omega, by omega, h3⟩
def fit (E : List OE) (r w l i : Nat) : Bool := decide (eR E i = r) && (decide (w ≤ eW E i) && decide (l ≤ eL E i))
def pfo (E : List OE) (r w l : Nat) : Nat → Option Nat
  | 0 => none
  | j + 1 => if fit E r w l j then (match pfo E r w l j with
    | none => some j
    | some b => if eA E j < eA E b then some j else some b) else pfo E r w l j
theorem pfo_lt {E : List OE} {r w l : Nat} : ∀ (j b : Nat), pfo E r w l j = some b → b < j ∧ fit E r w l b = true
  | 0, b, h => by cases h
  | j + 1, b, h => by
    unfold pfo at h
    split at h
    · rename_i h1
      cases h2 : pfo E r w l j with
      | none => rw [h2] at h; cases h; exact ⟨by omega, h1⟩
      | some q =>
        rw [h2] at h
        have h3 := pfo_lt j q h2
        dsimp only at h
        split at h <;> cases h
        · exact ⟨by omega, h1⟩
        · exact ⟨by omega, h3.2⟩
    · have := pfo_lt j b h
      exact ⟨by omega, this.2⟩
def rkp (E : List OE) (p j : Nat) : Bool := decide (eA E j < eA E p) || (decide (eA E j = eA E p) && decide (j < p))
def rnk (E : List OE) (p : Nat) : Nat := cnt (rkp E p) E.length
theorem OfRep.ar {mem : Mem} {ρ : Nat} {E : List OE} {cut : Nat} (h : OfRep mem ρ E cut) {i : Nat} (hi : i < E.length) : eA E i ≤ 3600 := mul_b (h.2.2.2.2 i hi).1.2.2.1 (h.2.2.2.2 i hi).1.2.2.2
theorem cnt_t {p : Nat → Bool} {j : Nat} (h : p j = true) : cnt p (j + 1) = cnt p j + 1 := by simp only [cnt, h, if_true]
theorem cnt_f {p : Nat → Bool} {j : Nat} (h : p j = false) : cnt p (j + 1) = cnt p j := by simp [cnt, h]
theorem cnt_le (p : Nat → Bool) : ∀ j, cnt p j ≤ j
  | 0 => Nat.le_refl 0
  | j + 1 => by have := cnt_le p j; unfold cnt; split <;> omega
section
variable {l : Launch} {g : XG} {sh : Nat → Sh} {mem : Mem} {ρ : Nat} {E : List OE} {cut : Nat}
theorem ct_Of_area (hO : LayOf sh ρ) (hR : OfRep mem ρ E cut) {i : Nat} (hi : i < E.length) : Ct l g M_Of_area [rf g ρ, .int (nI i)] none sh mem (Pq (.int (nI (eA E i))) none sh mem) := by
  obtain ⟨hlen, hcut, hk, hc, hE⟩ := hR
  obtain ⟨hb, h1, h2, h3, h4⟩ := hE i hi
  refine x_begin rfl rfl rfl (by decide) rfl ?_
  refine x_aload_n d_Of_area_0 rfl ?_
  refine x_getR hO.f0 rfl fs_Of_23 d_Of_area_1 ?_
  refine x_iload_n d_Of_area_4 rfl ?_
  refine x_v1p d_Of_area_5 ml_Of_43 v_Rw_at rfl ⟨rfl, rfl⟩ (row_io hO.f5) (Nat.le_of_ble_eq_true rfl) (ct_Rw_at hO.f5 hO.f6 (by omega)) ?_
  rw [h3]
  refine x_aload_n d_Of_area_8 rfl ?_
  refine x_getR hO.f0 rfl fs_Of_26 d_Of_area_9 ?_
  refine x_iload_n d_Of_area_12 rfl ?_
  refine x_v1p d_Of_area_13 ml_Of_43 v_Rw_at rfl ⟨rfl, rfl⟩ (row_io hO.f7) (Nat.le_of_ble_eq_true rfl) (ct_Rw_at hO.f7 hO.f8 (by omega)) ?_
  rw [h4]
  refine x_imul d_Of_area_16 ?_
  rw [pk_mul]
  refine x_iret rfl rfl d_Of_area_17 (Nat.zero_le _) (Nat.zero_le _) ?_
  exact ⟨rfl, rfl, rfl, rfl⟩
theorem ct_Of_holds (hO : LayOf sh ρ) (hR : OfRep mem ρ E cut) {i w k : Nat} (hi : i < E.length) (hw : w < 2 ^ 31) (hk2 : k < 2 ^ 31) : Ct l g M_Of_holds [rf g ρ, .int (nI i), .int (nI w), .int (nI k)] none sh mem (Pq (.int (bI (w ≤ eW E i ∧ k ≤ eL E i))) none sh mem) := by
  obtain ⟨hlen, hcut, hk, hc, hE⟩ := hR
  obtain ⟨hb, h1, h2, h3, h4⟩ := hE i hi
  refine x_begin rfl rfl rfl (by decide) rfl ?_
  refine x_aload_n d_Of_holds_0 rfl ?_
  refine x_getR hO.f0 rfl fs_Of_23 d_Of_holds_1 ?_
  refine x_iload_n d_Of_holds_4 rfl ?_
  refine x_v1p d_Of_holds_5 ml_Of_43 v_Rw_at rfl ⟨rfl, rfl⟩ (row_io hO.f5) (Nat.le_of_ble_eq_true rfl) (ct_Rw_at hO.f5 hO.f6 (by omega)) ?_
  rw [h3]
  refine x_iload_n d_Of_holds_8 rfl ?_
  refine x_icmp_lt (tgt := 28) d_Of_holds_9 (by decide) (fun c9 => ?_) (fun c9 => ?_)
  · have c9 := nI_lt' (by omega) (by omega) c9
    refine x_iconst (v := nI 0) d_Of_holds_28 (by decide) ?_
    refine x_iret rfl (by decide) d_Of_holds_29 (Nat.zero_le _) (Nat.zero_le _) ?_
    exact ⟨by first | (rw [bI_t (by omega)]; done) | (rw [bI_f (by omega)]; done), rfl, rfl, rfl⟩
  · have c9 := nI_nlt' (by omega) (by omega) c9
    refine x_aload_n d_Of_holds_12 rfl ?_
    refine x_getR hO.f0 rfl fs_Of_26 d_Of_holds_13 ?_
    refine x_iload_n d_Of_holds_16 rfl ?_
    refine x_v1p d_Of_holds_17 ml_Of_43 v_Rw_at rfl ⟨rfl, rfl⟩ (row_io hO.f7) (Nat.le_of_ble_eq_true rfl) (ct_Rw_at hO.f7 hO.f8 (by omega)) ?_
    rw [h4]
    refine x_iload_n d_Of_holds_20 rfl ?_
    refine x_icmp_lt (tgt := 28) d_Of_holds_21 (by decide) (fun c21 => ?_) (fun c21 => ?_)
    · have c21 := nI_lt' (by omega) (by omega) c21
      refine x_iconst (v := nI 0) d_Of_holds_28 (by decide) ?_
      refine x_iret rfl (by decide) d_Of_holds_29 (Nat.zero_le _) (Nat.zero_le _) ?_
      exact ⟨by first | (rw [bI_t (by omega)]; done) | (rw [bI_f (by omega)]; done), rfl, rfl, rfl⟩
    · have c21 := nI_nlt' (by omega) (by omega) c21
      refine x_iconst (v := nI 1) d_Of_holds_24 (by decide) ?_
      refine x_goto (tgt := 29) d_Of_holds_25 (by decide) ?_
      refine x_iret rfl (by decide) d_Of_holds_29 (Nat.zero_le _) (Nat.zero_le _) ?_
      exact ⟨by first | (rw [bI_t (by omega)]; done) | (rw [bI_f (by omega)]; done), rfl, rfl, rfl⟩
theorem ct_Of_keptOf (hO : LayOf sh ρ) (hR : OfRep mem ρ E cut) {r : Int32} : Ct l g M_Of_keptOf [rf g ρ, .int r] none sh mem (Pq (.int (nI (cnt (fun i => decide (nI (eR E i) = r)) E.length))) none sh mem) := by
  obtain ⟨hlen, hcut, hk, hc, hE⟩ := hR
  refine x_begin rfl rfl rfl (by decide) rfl ?_
  refine x_iconst (v := nI 0) d_Of_keptOf_0 (by decide) ?_
  refine x_istore_n d_Of_keptOf_1 (by decide) ?_
  refine x_iconst (v := nI 0) d_Of_keptOf_2 (by decide) ?_
  refine x_istore_n d_Of_keptOf_3 (by decide) ?_
  refine up_ind E.length (P := fun j => X l g M_Of_keptOf (XF g (Pq (.int (nI (cnt (fun i => decide (nI (eR E i) = r)) E.length))) none sh mem) M_Of_keptOf) 4 [some (rf g ρ), some (.int r), some (.int (nI (cnt (fun i => decide (nI (eR E i) = r)) j))), some (.int (nI j))] [] none sh mem 0 0) (fun j hj ih => ?_) 0 (Nat.zero_le _)
  refine x_iload_n d_Of_keptOf_4 rfl ?_
  refine x_aload_n d_Of_keptOf_5 rfl ?_
  refine x_getI hO.f0 rfl fs_Of_29 d_Of_keptOf_6 ?_
  rw [hk]
  refine x_icmp_ge (tgt := 33) d_Of_keptOf_9 (by decide) (fun c9 => ?_) (fun c9 => ?_)
  · have hj2 : j = E.length := by have := nI_le' (by omega) (by omega) c9; omega
    refine x_iload_n d_Of_keptOf_33 rfl ?_
    refine x_iret rfl rfl d_Of_keptOf_34 (Nat.zero_le _) (Nat.zero_le _) ?_
    exact ⟨by rw [hj2], rfl, rfl, rfl⟩
  · have hj3 := nI_nle' (by omega) (by omega) c9
    obtain ⟨hb, h1, h2, h3, h4⟩ := hE j hj3
    refine x_aload_n d_Of_keptOf_12 rfl ?_
    refine x_getR hO.f0 rfl fs_Of_20 d_Of_keptOf_13 ?_
    refine x_iload_n d_Of_keptOf_16 rfl ?_
    refine x_v1p d_Of_keptOf_17 ml_Of_43 v_Rw_at rfl ⟨rfl, rfl⟩ (row_io hO.f3) (Nat.le_of_ble_eq_true rfl) (ct_Rw_at hO.f3 hO.f4 (by omega)) ?_
    rw [h2]
    refine x_iload_n d_Of_keptOf_20 rfl ?_
    refine x_icmp_ne (tgt := 27) d_Of_keptOf_21 (by decide) (fun c21 => ?_) (fun c21 => ?_)
    · refine x_iinc d_Of_keptOf_27 rfl (by first | exact inc1 _ | rfl) (by decide) ?_
      refine x_goto (tgt := 4) d_Of_keptOf_30 (by decide) ?_
      have h9 := ih hj3
      first | (rw [cnt_t (by simpa using c21)] at h9; exact h9) | (rw [cnt_f (by simpa using c21)] at h9; exact h9)
    · refine x_iinc d_Of_keptOf_24 rfl (by first | exact inc1 _ | rfl) (by decide) ?_
      refine x_iinc d_Of_keptOf_27 rfl (by first | exact inc1 _ | rfl) (by decide) ?_
      refine x_goto (tgt := 4) d_Of_keptOf_30 (by decide) ?_
      have h9 := ih hj3
      first | (rw [cnt_t (by simpa using c21)] at h9; exact h9) | (rw [cnt_f (by simpa using c21)] at h9; exact h9)
theorem ct_Of_areaOf (hO : LayOf sh ρ) (hR : OfRep mem ρ E cut) {r : Int32} : Ct l g M_Of_areaOf [rf g ρ, .int r] none sh mem (Pq (.int (nI (sN (fun i => if nI (eR E i) = r then eA E i else 0) E.length))) none sh mem) := by
  have hR0 := hR
  obtain ⟨hlen, hcut, hk, hc, hE⟩ := hR
  refine x_begin rfl rfl rfl (by decide) rfl ?_
  refine x_iconst (v := nI 0) d_Of_areaOf_0 (by decide) ?_
  refine x_istore_n d_Of_areaOf_1 (by decide) ?_
  refine x_iconst (v := nI 0) d_Of_areaOf_2 (by decide) ?_
  refine x_istore_n d_Of_areaOf_3 (by decide) ?_
  refine up_ind E.length (P := fun j => X l g M_Of_areaOf (XF g (Pq (.int (nI (sN (fun i => if nI (eR E i) = r then eA E i else 0) E.length))) none sh mem) M_Of_areaOf) 4 [some (rf g ρ), some (.int r), some (.int (nI (sN (fun i => if nI (eR E i) = r then eA E i else 0) j))), some (.int (nI j))] [] none sh mem 0 0) (fun j hj ih => ?_) 0 (Nat.zero_le _)
  refine x_iload_n d_Of_areaOf_4 rfl ?_
  refine x_aload_n d_Of_areaOf_5 rfl ?_
  refine x_getI hO.f0 rfl fs_Of_29 d_Of_areaOf_6 ?_
  rw [hk]
  refine x_icmp_ge (tgt := 38) d_Of_areaOf_9 (by decide) (fun c9 => ?_) (fun c9 => ?_)
  · have hj2 : j = E.length := by have := nI_le' (by omega) (by omega) c9; omega
    refine x_iload_n d_Of_areaOf_38 rfl ?_
    refine x_iret rfl rfl d_Of_areaOf_39 (Nat.zero_le _) (Nat.zero_le _) ?_
    exact ⟨by rw [hj2], rfl, rfl, rfl⟩
  · have hj3 := nI_nle' (by omega) (by omega) c9
    obtain ⟨hb, h1, h2, h3, h4⟩ := hE j hj3
    refine x_aload_n d_Of_areaOf_12 rfl ?_
    refine x_getR hO.f0 rfl fs_Of_20 d_Of_areaOf_13 ?_
    refine x_iload_n d_Of_areaOf_16 rfl ?_
    refine x_v1p d_Of_areaOf_17 ml_Of_43 v_Rw_at rfl ⟨rfl, rfl⟩ (row_io hO.f3) (Nat.le_of_ble_eq_true rfl) (ct_Rw_at hO.f3 hO.f4 (by omega)) ?_
    rw [h2]
    refine x_iload_n d_Of_areaOf_20 rfl ?_
    refine x_icmp_ne (tgt := 32) d_Of_areaOf_21 (by decide) (fun c21 => ?_) (fun c21 => ?_)
    · refine x_iinc d_Of_areaOf_32 rfl (by first | exact inc1 _ | rfl) (by decide) ?_
      refine x_goto (tgt := 4) d_Of_areaOf_35 (by decide) ?_
      have h9 := ih hj3
      first | (rw [sN, if_pos c21] at h9; exact h9) | (rw [sN, if_neg c21] at h9; exact h9)
    · refine x_iload_n d_Of_areaOf_24 rfl ?_
      refine x_aload_n d_Of_areaOf_25 rfl ?_
      refine x_iload_n d_Of_areaOf_26 rfl ?_
      refine x_v1p d_Of_areaOf_27 ml_Of_47 v_Of_area rfl ⟨rfl, rfl⟩ hO.io (Nat.le_of_ble_eq_true rfl) (ct_Of_area hO hR0 hj3) ?_
      refine x_iadd d_Of_areaOf_30 ?_
      rw [nI_add]
      refine x_istore_n d_Of_areaOf_31 (by decide) ?_
      refine x_iinc d_Of_areaOf_32 rfl (by first | exact inc1 _ | rfl) (by decide) ?_
      refine x_goto (tgt := 4) d_Of_areaOf_35 (by decide) ?_
      have h9 := ih hj3
      first | (rw [sN, if_pos c21] at h9; exact h9) | (rw [sN, if_neg c21] at h9; exact h9)
theorem ct_Of_isSmall (hO : LayOf sh ρ) (hR : OfRep mem ρ E cut) {i : Nat} {r m : Int32} (hi : i < E.length) : Ct l g M_Of_isSmall [rf g ρ, .int (nI i), .int r, .int m] none sh mem (Pq (.int (bI (nI (eR E i) = r ∧ nI (eA E i) < m))) none sh mem) := by
  have hR0 := hR
  obtain ⟨hlen, hcut, hk, hc, hE⟩ := hR
  obtain ⟨hb, h1, h2, h3, h4⟩ := hE i hi
  refine x_begin rfl rfl rfl (by decide) rfl ?_
  refine x_aload_n d_Of_isSmall_0 rfl ?_
  refine x_getR hO.f0 rfl fs_Of_20 d_Of_isSmall_1 ?_
  refine x_iload_n d_Of_isSmall_4 rfl ?_
  refine x_v1p d_Of_isSmall_5 ml_Of_43 v_Rw_at rfl ⟨rfl, rfl⟩ (row_io hO.f3) (Nat.le_of_ble_eq_true rfl) (ct_Rw_at hO.f3 hO.f4 (by omega)) ?_
  rw [h2]
  refine x_iload_n d_Of_isSmall_8 rfl ?_
  refine x_icmp_ne (tgt := 25) d_Of_isSmall_9 (by decide) (fun c9 => ?_) (fun c9 => ?_)
  · refine x_iconst (v := nI 0) d_Of_isSmall_25 (by decide) ?_
    refine x_iret rfl (by decide) d_Of_isSmall_26 (Nat.zero_le _) (Nat.zero_le _) ?_
    exact ⟨by first | (rw [bI_t ⟨c9, Int32.not_le.mp c18⟩]; done) | (rw [bI_f (fun q => c9 q.1)]; done) | (rw [bI_f (fun q => absurd q.2 (Int32.not_lt.mpr c18))]; done), rfl, rfl, rfl⟩
  · refine x_aload_n d_Of_isSmall_12 rfl ?_
    refine x_iload_n d_Of_isSmall_13 rfl ?_
    refine x_v1p d_Of_isSmall_14 ml_Of_47 v_Of_area rfl ⟨rfl, rfl⟩ hO.io (Nat.le_of_ble_eq_true rfl) (ct_Of_area hO hR0 hi) ?_
    refine x_iload_n d_Of_isSmall_17 rfl ?_
    refine x_icmp_ge (tgt := 25) d_Of_isSmall_18 (by decide) (fun c18 => ?_) (fun c18 => ?_)
    · refine x_iconst (v := nI 0) d_Of_isSmall_25 (by decide) ?_
      refine x_iret rfl (by decide) d_Of_isSmall_26 (Nat.zero_le _) (Nat.zero_le _) ?_
      exact ⟨by first | (rw [bI_t ⟨c9, Int32.not_le.mp c18⟩]; done) | (rw [bI_f (fun q => c9 q.1)]; done) | (rw [bI_f (fun q => absurd q.2 (Int32.not_lt.mpr c18))]; done), rfl, rfl, rfl⟩
    · refine x_iconst (v := nI 1) d_Of_isSmall_21 (by decide) ?_
      refine x_goto (tgt := 26) d_Of_isSmall_22 (by decide) ?_
      refine x_iret rfl (by decide) d_Of_isSmall_26 (Nat.zero_le _) (Nat.zero_le _) ?_
      exact ⟨by first | (rw [bI_t ⟨c9, Int32.not_le.mp c18⟩]; done) | (rw [bI_f (fun q => c9 q.1)]; done) | (rw [bI_f (fun q => absurd q.2 (Int32.not_lt.mpr c18))]; done), rfl, rfl, rfl⟩
theorem ct_Of_smallOnes (hO : LayOf sh ρ) (hR : OfRep mem ρ E cut) {r m : Int32} : Ct l g M_Of_smallOnes [rf g ρ, .int r, .int m] none sh mem (Pq (.int (nI (cnt (fun i => decide (nI (eR E i) = r ∧ nI (eA E i) < m)) E.length))) none sh mem) := by
  have hR0 := hR
  obtain ⟨hlen, hcut, hk, hc, hE⟩ := hR
  refine x_begin rfl rfl rfl (by decide) rfl ?_
  refine x_iconst (v := nI 0) d_Of_smallOnes_0 (by decide) ?_
  refine x_istore_n d_Of_smallOnes_1 (by decide) ?_
  refine x_iconst (v := nI 0) d_Of_smallOnes_2 (by decide) ?_
  refine x_istore d_Of_smallOnes_3 (by decide) ?_
  refine up_ind E.length (P := fun j => X l g M_Of_smallOnes (XF g (Pq (.int (nI (cnt (fun i => decide (nI (eR E i) = r ∧ nI (eA E i) < m)) E.length))) none sh mem) M_Of_smallOnes) 5 [some (rf g ρ), some (.int r), some (.int m), some (.int (nI (cnt (fun i => decide (nI (eR E i) = r ∧ nI (eA E i) < m)) j))), some (.int (nI j))] [] none sh mem 0 0) (fun j hj ih => ?_) 0 (Nat.zero_le _)
  refine x_iload d_Of_smallOnes_5 rfl ?_
  refine x_aload_n d_Of_smallOnes_7 rfl ?_
  refine x_getI hO.f0 rfl fs_Of_29 d_Of_smallOnes_8 ?_
  rw [hk]
  refine x_icmp_ge (tgt := 34) d_Of_smallOnes_11 (by decide) (fun c11 => ?_) (fun c11 => ?_)
  · have hj2 : j = E.length := by have := nI_le' (by omega) (by omega) c11; omega
    refine x_iload_n d_Of_smallOnes_34 rfl ?_
    refine x_iret rfl rfl d_Of_smallOnes_35 (Nat.zero_le _) (Nat.zero_le _) ?_
    exact ⟨by rw [hj2], rfl, rfl, rfl⟩
  · have hj3 := nI_nle' (by omega) (by omega) c11
    refine x_aload_n d_Of_smallOnes_14 rfl ?_
    refine x_iload d_Of_smallOnes_15 rfl ?_
    refine x_iload_n d_Of_smallOnes_17 rfl ?_
    refine x_iload_n d_Of_smallOnes_18 rfl ?_
    refine x_v3p d_Of_smallOnes_19 ml_Of_50 v_Of_isSmall rfl ⟨rfl, rfl⟩ hO.io (Nat.le_of_ble_eq_true rfl) (ct_Of_isSmall hO hR0 hj3) ?_
    refine x_if_eq (tgt := 28) d_Of_smallOnes_22 (by decide) (fun c22 => ?_) (fun c22 => ?_)
    · refine x_iinc d_Of_smallOnes_28 rfl (by first | exact inc1 _ | rfl) (by decide) ?_
      refine x_goto (tgt := 5) d_Of_smallOnes_31 (by decide) ?_
      have h9 := ih hj3
      first | (rw [cnt_f (by simpa using bI_0.mp c22)] at h9; exact h9) | (rw [cnt_t (by simpa using bI_n.mp c22)] at h9; exact h9)
    · refine x_iinc d_Of_smallOnes_25 rfl (by first | exact inc1 _ | rfl) (by decide) ?_
      refine x_iinc d_Of_smallOnes_28 rfl (by first | exact inc1 _ | rfl) (by decide) ?_
      refine x_goto (tgt := 5) d_Of_smallOnes_31 (by decide) ?_
      have h9 := ih hj3
      first | (rw [cnt_f (by simpa using bI_0.mp c22)] at h9; exact h9) | (rw [cnt_t (by simpa using bI_n.mp c22)] at h9; exact h9)
theorem ct_Of_placeOf (hO : LayOf sh ρ) (hR : OfRep mem ρ E cut) {x : Int32} : Ct l g M_Of_placeOf [rf g ρ, .int x] none sh mem (Pq (.int (oI (ff (fun i => decide (nI (eN E i) = x)) E.length 0))) none sh mem) := by
  obtain ⟨hlen, hcut, hk, hc, hE⟩ := hR
  refine x_begin rfl rfl rfl (by decide) rfl ?_
  refine x_iconst (v := nI 0) d_Of_placeOf_0 (by decide) ?_
  refine x_istore_n d_Of_placeOf_1 (by decide) ?_
  refine up_ind E.length (P := fun j => ff (fun i => decide (nI (eN E i) = x)) E.length 0 = ff (fun i => decide (nI (eN E i) = x)) (E.length - j) j → X l g M_Of_placeOf (XF g (Pq (.int (oI (ff (fun i => decide (nI (eN E i) = x)) E.length 0))) none sh mem) M_Of_placeOf) 2 [some (rf g ρ), some (.int x), some (.int (nI j))] [] none sh mem 0 0) (fun j hj ih hf => ?_) 0 (Nat.zero_le _) rfl
  refine x_iload_n d_Of_placeOf_2 rfl ?_
  refine x_aload_n d_Of_placeOf_3 rfl ?_
  refine x_getI hO.f0 rfl fs_Of_29 d_Of_placeOf_4 ?_
  rw [hk]
  refine x_icmp_ge (tgt := 30) d_Of_placeOf_7 (by decide) (fun c7 => ?_) (fun c7 => ?_)
  · have hj2 := nI_le' (by omega) (by omega) c7
    rw [ff_e hj2] at hf
    refine x_bipush (v := -5) d_Of_placeOf_30 (by decide) ?_
    refine x_iret rfl rfl d_Of_placeOf_32 (Nat.zero_le _) (Nat.zero_le _) ?_
    exact ⟨by rw [hf]; rfl, rfl, rfl, rfl⟩
  · have hj3 := nI_nle' (by omega) (by omega) c7
    obtain ⟨hb, h1, h2, h3, h4⟩ := hE j hj3
    refine x_aload_n d_Of_placeOf_10 rfl ?_
    refine x_getR hO.f0 rfl fs_Of_14 d_Of_placeOf_11 ?_
    refine x_iload_n d_Of_placeOf_14 rfl ?_
    refine x_v1p d_Of_placeOf_15 ml_Of_43 v_Rw_at rfl ⟨rfl, rfl⟩ (row_io hO.f1) (Nat.le_of_ble_eq_true rfl) (ct_Rw_at hO.f1 hO.f2 (by omega)) ?_
    rw [h1]
    refine x_iload_n d_Of_placeOf_18 rfl ?_
    refine x_icmp_ne (tgt := 24) d_Of_placeOf_19 (by decide) (fun c19 => ?_) (fun c19 => ?_)
    · refine x_iinc d_Of_placeOf_24 rfl (by first | exact inc1 _ | rfl) (by decide) ?_
      refine x_goto (tgt := 2) d_Of_placeOf_27 (by decide) ?_
      exact ih hj3 (by rw [hf, ff_f hj3 (by simpa using c19)])
    · refine x_iload_n d_Of_placeOf_22 rfl ?_
      refine x_iret rfl rfl d_Of_placeOf_23 (Nat.zero_le _) (Nat.zero_le _) ?_
      exact ⟨by rw [hf, ff_t hj3 (by simpa using c19)]; rfl, rfl, rfl, rfl⟩
theorem ct_Of_placeFor (hO : LayOf sh ρ) (hR : OfRep mem ρ E cut) {r w k : Nat} (hr : r < 12) (hw : w < 2 ^ 31) (hk2 : k < 2 ^ 31) : Ct l g M_Of_placeFor [rf g ρ, .int (nI r), .int (nI w), .int (nI k)] none sh mem (Pq (.int (oI (pfo E r w k E.length))) none sh mem) := by
  have hR0 := hR
  obtain ⟨hlen, hcut, hk, hc, hE⟩ := hR
  refine x_begin rfl rfl rfl (by decide) rfl ?_
  refine x_bipush (v := -5) d_Of_placeFor_0 (by decide) ?_
  refine x_istore d_Of_placeFor_2 (by decide) ?_
  refine x_iconst (v := nI 0) d_Of_placeFor_4 (by decide) ?_
  refine x_istore d_Of_placeFor_5 (by decide) ?_
  refine up_ind E.length (P := fun j => X l g M_Of_placeFor (XF g (Pq (.int (oI (pfo E r w k E.length))) none sh mem) M_Of_placeFor) 7 [some (rf g ρ), some (.int (nI r)), some (.int (nI w)), some (.int (nI k)), some (.int (oI (pfo E r w k j))), some (.int (nI j))] [] none sh mem 0 0) (fun j hj ih => ?_) 0 (Nat.zero_le _)
  refine x_iload d_Of_placeFor_7 rfl ?_
  refine x_aload_n d_Of_placeFor_9 rfl ?_
  refine x_getI hO.f0 rfl fs_Of_29 d_Of_placeFor_10 ?_
  rw [hk]
  refine x_icmp_ge (tgt := 70) d_Of_placeFor_13 (by decide) (fun c13 => ?_) (fun c13 => ?_)
  · have hj2 : j = E.length := by have := nI_le' (by omega) (by omega) c13; omega
    refine x_iload d_Of_placeFor_70 rfl ?_
    refine x_iret rfl rfl d_Of_placeFor_72 (Nat.zero_le _) (Nat.zero_le _) ?_
    exact ⟨by rw [hj2], rfl, rfl, rfl⟩
  · have hj3 := nI_nle' (by omega) (by omega) c13
    obtain ⟨hb, h1, h2, h3, h4⟩ := hE j hj3
    have h9 := ih hj3
    refine x_aload_n d_Of_placeFor_16 rfl ?_
    refine x_getR hO.f0 rfl fs_Of_20 d_Of_placeFor_17 ?_
    refine x_iload d_Of_placeFor_20 rfl ?_
    refine x_v1p d_Of_placeFor_22 ml_Of_43 v_Rw_at rfl ⟨rfl, rfl⟩ (row_io hO.f3) (Nat.le_of_ble_eq_true rfl) (ct_Rw_at hO.f3 hO.f4 (by omega)) ?_
    rw [h2]
    refine x_iload_n d_Of_placeFor_25 rfl ?_
    refine x_icmp_ne (tgt := 64) d_Of_placeFor_26 (by decide) (fun c26 => ?_) (fun c26 => ?_)
    · have h10 : fit E r w k j = false := by
        have := nI_ne' c26
        simp [fit, this]
      rw [pfo, h10] at h9
      refine x_iinc d_Of_placeFor_64 rfl (by first | exact inc1 _ | rfl) (by decide) ?_
      refine x_goto (tgt := 7) d_Of_placeFor_67 (by decide) ?_
      exact h9
    · have c26 := nI_eq' (by omega) (by omega) c26
      refine x_aload_n d_Of_placeFor_29 rfl ?_
      refine x_iload d_Of_placeFor_30 rfl ?_
      refine x_iload_n d_Of_placeFor_32 rfl ?_
      refine x_iload_n d_Of_placeFor_33 rfl ?_
      refine x_v3p d_Of_placeFor_34 ml_Of_54 v_Of_holds rfl ⟨rfl, rfl⟩ hO.io (Nat.le_of_ble_eq_true rfl) (ct_Of_holds hO hR0 hj3 hw hk2) ?_
      refine x_if_eq (tgt := 64) d_Of_placeFor_37 (by decide) (fun c37 => ?_) (fun c37 => ?_)
      · have h10 : fit E r w k j = false := by
          have h11 := bI_0.mp c37
          simp only [fit, c26, decide_true, Bool.true_and, Bool.and_eq_false_iff, decide_eq_false_iff_not]
          omega
        rw [pfo, h10] at h9
        refine x_iinc d_Of_placeFor_64 rfl (by first | exact inc1 _ | rfl) (by decide) ?_
        refine x_goto (tgt := 7) d_Of_placeFor_67 (by decide) ?_
        exact h9
      · have h10 : fit E r w k j = true := by
          have h11 := bI_n.mp c37
          simp only [fit, c26, decide_true, Bool.true_and, Bool.and_eq_true, decide_eq_true_eq]
          exact h11
        rw [pfo, if_pos h10] at h9
        cases hq : pfo E r w k j with
        | none =>
          rw [hq] at h9
          refine x_iload d_Of_placeFor_40 rfl ?_
          refine x_if_lt (tgt := 60) d_Of_placeFor_42 (by decide) (fun c42 => ?_) (fun c42 => ?_)
          · refine x_iload d_Of_placeFor_60 rfl ?_
            refine x_istore d_Of_placeFor_62 (by decide) ?_
            refine x_iinc d_Of_placeFor_64 rfl (by first | exact inc1 _ | rfl) (by decide) ?_
            refine x_goto (tgt := 7) d_Of_placeFor_67 (by decide) ?_
            exact h9
          · exact absurd oI_none c42
        | some b =>
          rw [hq] at h9
          have hbj := (pfo_lt j b hq).1
          have hA1 := hR0.ar hj3
          have hA2 := hR0.ar (i := b) (by omega)
          refine x_iload d_Of_placeFor_40 rfl ?_
          refine x_if_lt (tgt := 60) d_Of_placeFor_42 (by decide) (fun c42 => ?_) (fun c42 => ?_)
          · exact absurd c42 (oI_neg (by omega))
          · refine x_aload_n d_Of_placeFor_45 rfl ?_
            refine x_iload d_Of_placeFor_46 rfl ?_
            refine x_v1p d_Of_placeFor_48 ml_Of_47 v_Of_area rfl ⟨rfl, rfl⟩ hO.io (Nat.le_of_ble_eq_true rfl) (ct_Of_area hO hR0 hj3) ?_
            refine x_aload_n d_Of_placeFor_51 rfl ?_
            refine x_iload d_Of_placeFor_52 rfl ?_
            refine x_v1p d_Of_placeFor_54 ml_Of_47 v_Of_area rfl ⟨rfl, rfl⟩ hO.io (Nat.le_of_ble_eq_true rfl) (ct_Of_area hO hR0 (i := b) (by omega)) ?_
            refine x_icmp_ge (tgt := 64) d_Of_placeFor_57 (by decide) (fun c57 => ?_) (fun c57 => ?_)
            · have c57 := nI_le' (by omega) (by omega) c57
              dsimp only at h9
              rw [if_neg (by omega)] at h9
              refine x_iinc d_Of_placeFor_64 rfl (by first | exact inc1 _ | rfl) (by decide) ?_
              refine x_goto (tgt := 7) d_Of_placeFor_67 (by decide) ?_
              exact h9
            · have c57 := nI_nle' (by omega) (by omega) c57
              dsimp only at h9
              rw [if_pos c57] at h9
              refine x_iload d_Of_placeFor_60 rfl ?_
              refine x_istore d_Of_placeFor_62 (by decide) ?_
              refine x_iinc d_Of_placeFor_64 rfl (by first | exact inc1 _ | rfl) (by decide) ?_
              refine x_goto (tgt := 7) d_Of_placeFor_67 (by decide) ?_
              exact h9
theorem e_app (E : List OE) (e : OE) {i : Nat} (h : i < E.length) : eN (E ++ [e]) i = eN E i ∧ eR (E ++ [e]) i = eR E i ∧ eW (E ++ [e]) i = eW E i ∧ eL (E ++ [e]) i = eL E i := by
  have h1 : (E ++ [e])[i]? = E[i]? := List.getElem?_append_left h
  simp only [eN, eR, eW, eL, h1, and_self]
theorem e_last (E : List OE) (e : OE) : eN (E ++ [e]) E.length = e.1 ∧ eR (E ++ [e]) E.length = e.2.1 ∧ eW (E ++ [e]) E.length = e.2.2.1 ∧ eL (E ++ [e]) E.length = e.2.2.2 := by
  have h1 : (E ++ [e])[E.length]? = some e := by rw [List.getElem?_append_right (Nat.le_refl _)]; simp
  simp only [eN, eR, eW, eL, h1, Option.getD_some, and_self]
theorem e_del (E : List OE) (p i : Nat) : eN (E.eraseIdx p) i = eN E (if i < p then i else i + 1) ∧ eR (E.eraseIdx p) i = eR E (if i < p then i else i + 1) ∧ eW (E.eraseIdx p) i = eW E (if i < p then i else i + 1) ∧ eL (E.eraseIdx p) i = eL E (if i < p then i else i + 1) := by
  have h1 : (E.eraseIdx p)[i]? = E[if i < p then i else i + 1]? := by
    rw [List.getElem?_eraseIdx]
    split <;> rfl
  simp only [eN, eR, eW, eL, h1, and_self]
theorem ct_Of_append (hO : LayOf sh ρ) (hR : OfRep mem ρ E cut) {r w k : Nat} (hr : r < 12) (hw : w ≤ 60) (hk2 : k ≤ 60) : Ct l g M_Of_append [rf g ρ, .int (nI r), .int (nI w), .int (nI k)] none sh mem (Ri none sh (fun x m => ((60 ≤ E.length ∨ 300 ≤ cut) ∧ x = nI 0 ∧ m = mem) ∨ (¬ (60 ≤ E.length ∨ 300 ≤ cut) ∧ x = nI 1 ∧ OfRep m ρ (E ++ [(cut, r, w, k)]) (cut + 1) ∧ Fr ρ (ρ + 9) mem m))) := by
  obtain ⟨hlen, hcut, hk, hc, hE⟩ := hR
  refine x_begin rfl rfl rfl (by decide) rfl ?_
  refine x_aload_n d_Of_append_0 rfl ?_
  refine x_getI hO.f0 rfl fs_Of_29 d_Of_append_1 ?_
  rw [hk]
  refine x_bipush (v := nI 60) d_Of_append_4 (by decide) ?_
  refine x_icmp_ge (tgt := 19) d_Of_append_6 (by decide) (fun c6 => ?_) (fun c6 => ?_)
  · have c6 := nI_le' (by omega) (by omega) c6
    refine x_iconst (v := nI 0) d_Of_append_19 (by decide) ?_
    refine x_iret rfl (by decide) d_Of_append_20 (Nat.zero_le _) (Nat.zero_le _) ?_
    exact ⟨_, rfl, rfl, rfl, Or.inl ⟨by omega, rfl, rfl⟩⟩
  · have c6 := nI_nle' (by omega) (by omega) c6
    refine x_aload_n d_Of_append_9 rfl ?_
    refine x_getI hO.f0 rfl fs_Of_33 d_Of_append_10 ?_
    rw [hc]
    refine x_sipush (v := nI 300) d_Of_append_13 (by decide) ?_
    refine x_icmp_lt (tgt := 21) d_Of_append_16 (by decide) (fun c16 => ?_) (fun c16 => ?_)
    · have c16 := nI_lt' (by omega) (by omega) c16
      refine x_aload_n d_Of_append_21 rfl ?_
      refine x_getR hO.f0 rfl fs_Of_14 d_Of_append_22 ?_
      refine x_aload_n d_Of_append_25 rfl ?_
      refine x_getI hO.f0 rfl fs_Of_29 d_Of_append_26 ?_
      rw [hk]
      refine x_aload_n d_Of_append_29 rfl ?_
      refine x_getI hO.f0 rfl fs_Of_33 d_Of_append_30 ?_
      rw [hc]
      refine x_v2v d_Of_append_33 ml_Of_36 v_Rw_put rfl ⟨rfl, rfl⟩ (row_io hO.f1) (Nat.le_of_ble_eq_true rfl) (ct_Rw_put hO.f1 hO.f2 (by omega)) (fun mem33 h33 => ?_)
      have hk33 : mem33 ρ 0 = nI E.length := by rw [h33, um_o _ _ (by omega)]; exact hk
      have hc33 : mem33 ρ 1 = nI cut := by rw [h33, um_o _ _ (by omega)]; exact hc
      refine x_aload_n d_Of_append_36 rfl ?_
      refine x_getR hO.f0 rfl fs_Of_20 d_Of_append_37 ?_
      refine x_aload_n d_Of_append_40 rfl ?_
      refine x_getI hO.f0 rfl fs_Of_29 d_Of_append_41 ?_
      rw [hk33]
      refine x_iload_n d_Of_append_44 rfl ?_
      refine x_v2v d_Of_append_45 ml_Of_36 v_Rw_put rfl ⟨rfl, rfl⟩ (row_io hO.f3) (Nat.le_of_ble_eq_true rfl) (ct_Rw_put hO.f3 hO.f4 (by omega)) (fun mem45 h45 => ?_)
      have hk45 : mem45 ρ 0 = nI E.length := by rw [h45, um_o _ _ (by omega)]; exact hk33
      have hc45 : mem45 ρ 1 = nI cut := by rw [h45, um_o _ _ (by omega)]; exact hc33
      refine x_aload_n d_Of_append_48 rfl ?_
      refine x_getR hO.f0 rfl fs_Of_23 d_Of_append_49 ?_
      refine x_aload_n d_Of_append_52 rfl ?_
      refine x_getI hO.f0 rfl fs_Of_29 d_Of_append_53 ?_
      rw [hk45]
      refine x_iload_n d_Of_append_56 rfl ?_
      refine x_v2v d_Of_append_57 ml_Of_36 v_Rw_put rfl ⟨rfl, rfl⟩ (row_io hO.f5) (Nat.le_of_ble_eq_true rfl) (ct_Rw_put hO.f5 hO.f6 (by omega)) (fun mem57 h57 => ?_)
      have hk57 : mem57 ρ 0 = nI E.length := by rw [h57, um_o _ _ (by omega)]; exact hk45
      have hc57 : mem57 ρ 1 = nI cut := by rw [h57, um_o _ _ (by omega)]; exact hc45
      refine x_aload_n d_Of_append_60 rfl ?_
      refine x_getR hO.f0 rfl fs_Of_26 d_Of_append_61 ?_
      refine x_aload_n d_Of_append_64 rfl ?_
      refine x_getI hO.f0 rfl fs_Of_29 d_Of_append_65 ?_
      rw [hk57]
      refine x_iload_n d_Of_append_68 rfl ?_
      refine x_v2v d_Of_append_69 ml_Of_36 v_Rw_put rfl ⟨rfl, rfl⟩ (row_io hO.f7) (Nat.le_of_ble_eq_true rfl) (ct_Rw_put hO.f7 hO.f8 (by omega)) (fun mem69 h69 => ?_)
      have hk69 : mem69 ρ 0 = nI E.length := by rw [h69, um_o _ _ (by omega)]; exact hk57
      have hc69 : mem69 ρ 1 = nI cut := by rw [h69, um_o _ _ (by omega)]; exact hc57
      refine x_aload_n d_Of_append_72 rfl ?_
      refine x_dup d_Of_append_73 rfl ?_
      refine x_getI hO.f0 rfl fs_Of_29 d_Of_append_74 ?_
      rw [hk69]
      refine x_iconst (v := nI 1) d_Of_append_77 (by decide) ?_
      refine x_iadd d_Of_append_78 ?_
      rw [nI_add]
      refine x_putI hO.f0 rfl ps_Of_29 rfl rfl d_Of_append_79 ?_
      refine x_aload_n d_Of_append_82 rfl ?_
      refine x_dup d_Of_append_83 rfl ?_
      refine x_getI hO.f0 rfl fs_Of_33 d_Of_append_84 ?_
      rw [um_k _ _ (show (1 : Nat) ≠ 0 by decide), hc69]
      refine x_iconst (v := nI 1) d_Of_append_87 (by decide) ?_
      refine x_iadd d_Of_append_88 ?_
      rw [nI_add]
      refine x_putI hO.f0 rfl ps_Of_33 rfl rfl d_Of_append_89 ?_
      refine x_iconst (v := nI 1) d_Of_append_92 (by decide) ?_
      refine x_iret rfl (by decide) d_Of_append_93 (Nat.zero_le _) (Nat.zero_le _) ?_
      subst h33 h45 h57 h69
      refine ⟨_, rfl, rfl, rfl, Or.inr ⟨by omega, rfl, ⟨by simp; omega, by omega, ?_, ?_, fun i hi => ?_⟩, ?_⟩⟩
      · simp [um]
      · simp [um]
      · rw [List.length_append, List.length_singleton] at hi
        by_cases hil : i < E.length
        · obtain ⟨q1, q2, q3, q4⟩ := e_app E (cut, r, w, k) hil
          rw [q1, q2, q3, q4]
          obtain ⟨hb, h1, h2, h3, h4⟩ := hE i hil
          have h9 : i ≠ E.length := by omega
          refine ⟨hb, ?_, ?_, ?_, ?_⟩ <;> simp [um, h9, h1, h2, h3, h4]
        · have hie : i = E.length := by omega
          subst hie
          obtain ⟨q1, q2, q3, q4⟩ := e_last E (cut, r, w, k)
          rw [q1, q2, q3, q4]
          refine ⟨⟨by show cut < 300; omega, hr, hw, hk2⟩, ?_, ?_, ?_, ?_⟩ <;> simp [um]
      · intro o ho
        rw [um_ne _ _ _ (by omega), um_ne _ _ _ (by omega), um_ne _ _ _ (by omega), um_ne _ _ _ (by omega), um_ne _ _ _ (by omega), um_ne _ _ _ (by omega)]
    · have c16 := nI_nlt' (by omega) (by omega) c16
      refine x_iconst (v := nI 0) d_Of_append_19 (by decide) ?_
      refine x_iret rfl (by decide) d_Of_append_20 (Nat.zero_le _) (Nat.zero_le _) ?_
      exact ⟨_, rfl, rfl, rfl, Or.inl ⟨by omega, rfl, rfl⟩⟩
theorem ct_Of_removeAt (hO : LayOf sh ρ) (hR : OfRep mem ρ E cut) {p : Nat} (hp : p < E.length) : Ct l g M_Of_removeAt [rf g ρ, .int (nI p)] none sh mem (Rv none sh (fun m => OfRep m ρ (E.eraseIdx p) cut ∧ Fr ρ (ρ + 9) mem m)) := by
  obtain ⟨hlen, hcut, hk, hc, hE⟩ := hR
  refine x_begin rfl rfl rfl (by decide) rfl ?_
  refine x_iload_n d_Of_removeAt_0 rfl ?_
  refine x_if_lt (tgt := 12) d_Of_removeAt_1 (by decide) (fun c1 => ?_) (fun c1 => ?_)
  · exact absurd c1 (nI_pos (by omega))
  · refine x_iload_n d_Of_removeAt_4 rfl ?_
    refine x_aload_n d_Of_removeAt_5 rfl ?_
    refine x_getI hO.f0 rfl fs_Of_29 d_Of_removeAt_6 ?_
    rw [hk]
    refine x_icmp_lt (tgt := 13) d_Of_removeAt_9 (by decide) (fun c9 => ?_) (fun c9 => ?_)
    · refine x_aload_n d_Of_removeAt_13 rfl ?_
      refine x_getR hO.f0 rfl fs_Of_14 d_Of_removeAt_14 ?_
      refine x_iload_n d_Of_removeAt_17 rfl ?_
      refine x_v1v d_Of_removeAt_18 ml_Of_40 v_Rw_removeAt rfl ⟨rfl, rfl⟩ (row_io hO.f1) (Nat.le_of_ble_eq_true rfl) (ct_Rw_removeAt hO.f1 hO.f2 (by omega)) (fun _ hE => ?_)
      subst hE
      refine x_aload_n d_Of_removeAt_21 rfl ?_
      refine x_getR hO.f0 rfl fs_Of_20 d_Of_removeAt_22 ?_
      refine x_iload_n d_Of_removeAt_25 rfl ?_
      refine x_v1v d_Of_removeAt_26 ml_Of_40 v_Rw_removeAt rfl ⟨rfl, rfl⟩ (row_io hO.f3) (Nat.le_of_ble_eq_true rfl) (ct_Rw_removeAt hO.f3 hO.f4 (by omega)) (fun _ hE => ?_)
      subst hE
      refine x_aload_n d_Of_removeAt_29 rfl ?_
      refine x_getR hO.f0 rfl fs_Of_23 d_Of_removeAt_30 ?_
      refine x_iload_n d_Of_removeAt_33 rfl ?_
      refine x_v1v d_Of_removeAt_34 ml_Of_40 v_Rw_removeAt rfl ⟨rfl, rfl⟩ (row_io hO.f5) (Nat.le_of_ble_eq_true rfl) (ct_Rw_removeAt hO.f5 hO.f6 (by omega)) (fun _ hE => ?_)
      subst hE
      refine x_aload_n d_Of_removeAt_37 rfl ?_
      refine x_getR hO.f0 rfl fs_Of_26 d_Of_removeAt_38 ?_
      refine x_iload_n d_Of_removeAt_41 rfl ?_
      refine x_v1v d_Of_removeAt_42 ml_Of_40 v_Rw_removeAt rfl ⟨rfl, rfl⟩ (row_io hO.f7) (Nat.le_of_ble_eq_true rfl) (ct_Rw_removeAt hO.f7 hO.f8 (by omega)) (fun _ hE => ?_)
      subst hE
      refine x_aload_n d_Of_removeAt_45 rfl ?_
      refine x_dup d_Of_removeAt_46 rfl ?_
      refine x_getI hO.f0 rfl fs_Of_29 d_Of_removeAt_47 ?_
      rw [shl_o _ (show ρ ≠ ρ + 8 by omega), shl_o _ (show ρ ≠ ρ + 6 by omega), shl_o _ (show ρ ≠ ρ + 4 by omega), shl_o _ (show ρ ≠ ρ + 2 by omega), hk]
      refine x_iconst (v := nI 1) d_Of_removeAt_50 (by decide) ?_
      refine x_isub d_Of_removeAt_51 ?_
      rw [pk_sub (by omega)]
      refine x_putI hO.f0 rfl ps_Of_29 rfl rfl d_Of_removeAt_52 ?_
      refine x_vret rfl d_Of_removeAt_55 (Nat.zero_le _) (Nat.zero_le _) ?_
      have hl2 : (E.eraseIdx p).length = E.length - 1 := List.length_eraseIdx_of_lt hp
      refine ⟨rfl, rfl, rfl, ⟨by omega, hcut, ?_, ?_, fun i hi => ?_⟩, ?_⟩
      · rw [hl2]
        simp [um]
      · simp [um, shl, hc]
      · rw [hl2] at hi
        obtain ⟨q1, q2, q3, q4⟩ := e_del E p i
        rw [q1, q2, q3, q4]
        by_cases hip : i < p
        · rw [if_pos hip]
          obtain ⟨hb, h1, h2, h3, h4⟩ := hE i (by omega)
          refine ⟨hb, ?_, ?_, ?_, ?_⟩
          · simp [um, shl, show ¬ p ≤ i by omega, h1]
          · simp [um, shl, show ¬ p ≤ i by omega, h2]
          · simp [um, shl, show ¬ p ≤ i by omega, h3]
          · simp [um, shl, show ¬ p ≤ i by omega, h4]
        · rw [if_neg hip]
          obtain ⟨hb, h1, h2, h3, h4⟩ := hE (i + 1) (by omega)
          refine ⟨hb, ?_, ?_, ?_, ?_⟩
          · simp [um, shl, show p ≤ i by omega, show i + 1 < 60 by omega, h1]
          · simp [um, shl, show p ≤ i by omega, show i + 1 < 60 by omega, h2]
          · simp [um, shl, show p ≤ i by omega, show i + 1 < 60 by omega, h3]
          · simp [um, shl, show p ≤ i by omega, show i + 1 < 60 by omega, h4]
      · intro o ho
        rw [um_ne _ _ _ (by omega)]
        funext j
        rw [shl_o _ (by omega), shl_o _ (by omega), shl_o _ (by omega), shl_o _ (by omega)]
    · exact absurd (nI_lt hp (by omega)) c9
/-- what a copy of Offcuts is, cell by cell -/
def cpOf (mem : Mem) (a b : Nat) : Mem := cpm (cpm (cpm (cpm (um (um mem b 0 (mem a 0)) b 1 (mem a 1)) (a + 2) (b + 2) 60) (a + 4) (b + 4) 60) (a + 6) (b + 6) 60) (a + 8) (b + 8) 60
theorem ct_Of_copyFrom {α : Nat} (hO : LayOf sh ρ) (hA : LayOf sh α) (hd : α + 9 ≤ ρ ∨ ρ + 9 ≤ α) : Ct l g M_Of_copyFrom [rf g ρ, rf g α] none sh mem (Rv none sh (fun m => m = cpOf mem α ρ)) := by
  refine x_begin rfl rfl rfl (by decide) rfl ?_
  refine x_aload_n d_Of_copyFrom_0 rfl ?_
  refine x_aload_n d_Of_copyFrom_1 rfl ?_
  refine x_getI hA.f0 rfl fs_Of_29 d_Of_copyFrom_2 ?_
  refine x_putI hO.f0 rfl ps_Of_29 rfl rfl d_Of_copyFrom_5 ?_
  refine x_aload_n d_Of_copyFrom_8 rfl ?_
  refine x_aload_n d_Of_copyFrom_9 rfl ?_
  refine x_getI hA.f0 rfl fs_Of_33 d_Of_copyFrom_10 ?_
  rw [um_o _ _ (show α ≠ ρ by omega)]
  refine x_putI hO.f0 rfl ps_Of_33 rfl rfl d_Of_copyFrom_13 ?_
  refine x_aload_n d_Of_copyFrom_16 rfl ?_
  refine x_getR hO.f0 rfl fs_Of_14 d_Of_copyFrom_17 ?_
  refine x_aload_n d_Of_copyFrom_20 rfl ?_
  refine x_getR hA.f0 rfl fs_Of_14 d_Of_copyFrom_21 ?_
  refine x_v1v d_Of_copyFrom_24 ml_Of_60 v_Rw_copyFrom rfl ⟨rfl, rfl⟩ (row_io hO.f1) (Nat.le_of_ble_eq_true rfl) (ct_Rw_copyFrom hO.f1 hO.f2 hA.f1 hA.f2 (by omega)) (fun _ hE => ?_)
  subst hE
  refine x_aload_n d_Of_copyFrom_27 rfl ?_
  refine x_getR hO.f0 rfl fs_Of_20 d_Of_copyFrom_28 ?_
  refine x_aload_n d_Of_copyFrom_31 rfl ?_
  refine x_getR hA.f0 rfl fs_Of_20 d_Of_copyFrom_32 ?_
  refine x_v1v d_Of_copyFrom_35 ml_Of_60 v_Rw_copyFrom rfl ⟨rfl, rfl⟩ (row_io hO.f3) (Nat.le_of_ble_eq_true rfl) (ct_Rw_copyFrom hO.f3 hO.f4 hA.f3 hA.f4 (by omega)) (fun _ hE => ?_)
  subst hE
  refine x_aload_n d_Of_copyFrom_38 rfl ?_
  refine x_getR hO.f0 rfl fs_Of_23 d_Of_copyFrom_39 ?_
  refine x_aload_n d_Of_copyFrom_42 rfl ?_
  refine x_getR hA.f0 rfl fs_Of_23 d_Of_copyFrom_43 ?_
  refine x_v1v d_Of_copyFrom_46 ml_Of_60 v_Rw_copyFrom rfl ⟨rfl, rfl⟩ (row_io hO.f5) (Nat.le_of_ble_eq_true rfl) (ct_Rw_copyFrom hO.f5 hO.f6 hA.f5 hA.f6 (by omega)) (fun _ hE => ?_)
  subst hE
  refine x_aload_n d_Of_copyFrom_49 rfl ?_
  refine x_getR hO.f0 rfl fs_Of_26 d_Of_copyFrom_50 ?_
  refine x_aload_n d_Of_copyFrom_53 rfl ?_
  refine x_getR hA.f0 rfl fs_Of_26 d_Of_copyFrom_54 ?_
  refine x_v1v d_Of_copyFrom_57 ml_Of_60 v_Rw_copyFrom rfl ⟨rfl, rfl⟩ (row_io hO.f7) (Nat.le_of_ble_eq_true rfl) (ct_Rw_copyFrom hO.f7 hO.f8 hA.f7 hA.f8 (by omega)) (fun _ hE => ?_)
  subst hE
  refine x_vret rfl d_Of_copyFrom_60 (Nat.zero_le _) (Nat.zero_le _) ?_
  exact ⟨rfl, rfl, rfl, rfl⟩
end
