/-! a room as twelve numbers: 0 how many rectangles, 1 to 6 their sizes, 7 the light, 8 covered, 9 the roll, 10 the way, 11 the price -/
def wdt (q : Nat → Nat) (k y : Nat) : Nat := q (1 + 2 * k + y)
def lng (q : Nat → Nat) (k y : Nat) : Nat := q (2 + 2 * k - y)
def mny (q : Nat → Nat) (k y W : Nat) : Nat := (wdt q k y + W - 1) / W
def SLk (q : Nat → Nat) (y W k : Nat) : List (Nat × Nat) := (List.range (mny q k y W)).map (fun s => (min W (wdt q k y - s * W), lng q k y))
def SLf (q : Nat → Nat) (y W : Nat) : Nat → Nat → List (Nat × Nat)
  | 0, _ => []
  | n + 1, k => SLk q y W k ++ SLf q y W n (k + 1)
def SL (q : Nat → Nat) (y W : Nat) : List (Nat × Nat) := SLf q y W (q 0) 0
def stripsN (q : Nat → Nat) (y W : Nat) : Nat := sN (fun k => mny q k y W) (q 0)
def seamN (q : Nat → Nat) (y W : Nat) : Nat := sN (fun k => (mny q k y W - 1) * lng q k y) (q 0)
def areaN (q : Nat → Nat) : Nat := sN (fun k => q (1 + 2 * k) * q (2 + 2 * k)) (q 0)
def acr (q : Nat → Nat) (y : Nat) : Bool := decide (q 7 % 2 = 0) == decide (y = 1)
/-- sizes that are told: in their ranges -/
def GeoOk (q : Nat → Nat) : Prop := (1 ≤ q 0 ∧ q 0 ≤ 3 ∧ q 7 ≤ 3) ∧ ∀ k, k < q 0 → (1 ≤ q (1 + 2 * k) ∧ q (1 + 2 * k) ≤ 60) ∧ 1 ≤ q (2 + 2 * k) ∧ q (2 + 2 * k) ≤ 60
theorem GeoOk.w {q : Nat → Nat} (h : GeoOk q) {k y : Nat} (hk : k < q 0) (hy : y ≤ 1) : 1 ≤ wdt q k y ∧ wdt q k y ≤ 60 := by
  unfold wdt
  rcases (show y = 0 ∨ y = 1 by omega) with rfl | rfl
  · exact (h.2 k hk).1
  · rw [show 1 + 2 * k + 1 = 2 + 2 * k by omega]
    exact (h.2 k hk).2
theorem GeoOk.l {q : Nat → Nat} (h : GeoOk q) {k y : Nat} (hk : k < q 0) (hy : y ≤ 1) : 1 ≤ lng q k y ∧ lng q k y ≤ 60 := by
  unfold lng
  rcases (show y = 0 ∨ y = 1 by omega) with rfl | rfl
  · exact (h.2 k hk).2
  · rw [show 2 + 2 * k - 1 = 1 + 2 * k by omega]
    exact (h.2 k hk).1
theorem mny_le {q : Nat → Nat} (h : GeoOk q) {k y W : Nat} (hk : k < q 0) (hy : y ≤ 1) (hW : 5 ≤ W) : 1 ≤ mny q k y W ∧ mny q k y W ≤ 12 := by
  obtain ⟨h1, h2⟩ := h.w hk hy
  unfold mny
  constructor
  · exact (Nat.le_div_iff_mul_le (by omega)).mpr (by omega)
  · exact Nat.le_of_lt_succ ((Nat.div_lt_iff_lt_mul (by omega)).mpr (by omega))
theorem sN_le {f : Nat → Nat} {B : Nat} : ∀ (n : Nat), (∀ k, k < n → f k ≤ B) → sN f n ≤ n * B
  | 0, _ => Nat.zero_le _
  | n + 1, h => by
    have h1 := sN_le n (fun k hk => h k (by omega))
    have h2 := h n (by omega)
    unfold sN
    rw [Nat.succ_mul]
    omega
theorem stripsN_le {q : Nat → Nat} (h : GeoOk q) {y W : Nat} (hy : y ≤ 1) (hW : 5 ≤ W) : stripsN q y W ≤ 36 := by
  have h1 := sN_le (f := fun k => mny q k y W) (B := 12) (q 0) (fun k hk => (mny_le h hk hy hW).2)
  have h2 := h.1.2.1
  unfold stripsN
  omega
theorem areaN_le {q : Nat → Nat} (h : GeoOk q) : areaN q ≤ 10800 := by
  have h1 := sN_le (f := fun k => q (1 + 2 * k) * q (2 + 2 * k)) (B := 3600) (q 0) (fun k hk => mul_b (A := 60) (B := 60) (h.2 k hk).1.2 (h.2 k hk).2.2)
  have h2 := h.1.2.1
  unfold areaN
  omega
theorem seamN_le {q : Nat → Nat} (h : GeoOk q) {y W : Nat} (hy : y ≤ 1) (hW : 5 ≤ W) : seamN q y W ≤ 1980 := by
  have h1 := sN_le (f := fun k => (mny q k y W - 1) * lng q k y) (B := 660) (q 0) (fun k hk => mul_b (A := 11) (B := 60) (by have := (mny_le h hk hy hW).2; omega) (h.l hk hy).2)
  have h2 := h.1.2.1
  unfold seamN
  omega
theorem SLk_len (q : Nat → Nat) (y W k : Nat) : (SLk q y W k).length = mny q k y W := by simp [SLk]
theorem SLf_len (q : Nat → Nat) (y W : Nat) : ∀ n k, (SLf q y W n k).length = sN (fun j => mny q (k + j) y W) n
  | 0, k => rfl
  | n + 1, k => by
    rw [SLf, List.length_append, SLk_len, SLf_len q y W n (k + 1)]
    have key : ∀ n, sN (fun j => mny q (k + j) y W) (n + 1) = mny q k y W + sN (fun j => mny q (k + 1 + j) y W) n := by
      intro n
      induction n with
      | zero => simp [sN]
      | succ n ih => rw [sN, ih, sN, show k + 1 + n = k + (n + 1) by omega]; omega
    rw [key]
theorem SL_len (q : Nat → Nat) (y W : Nat) : (SL q y W).length = stripsN q y W := by
  rw [SL, SLf_len]
  simp [stripsN]
def sw (S : List (Nat × Nat)) (r : Nat) : Nat := ((S[r]?).getD (0, 0)).1
def sl (S : List (Nat × Nat)) (r : Nat) : Nat := ((S[r]?).getD (0, 0)).2
theorem SLf_in {q : Nat → Nat} {y W n k a : Nat} (h : a < mny q k y W) : (SLf q y W (n + 1) k)[a]? = some (min W (wdt q k y - a * W), lng q k y) := by
  rw [SLf, List.getElem?_append_left (by rw [SLk_len]; exact h), SLk, List.getElem?_map, List.getElem?_range h]
  rfl
theorem SLf_out {q : Nat → Nat} {y W n k a : Nat} (h : mny q k y W ≤ a) : (SLf q y W (n + 1) k)[a]? = (SLf q y W n (k + 1))[a - mny q k y W]? := by
  rw [SLf, List.getElem?_append_right (by rw [SLk_len]; exact h), SLk_len]
/-- the cells of a room: its sizes and light; and how it is covered -/
def GeoAt (mem : Mem) (ρ i : Nat) (q : Nat → Nat) : Prop := i < 20 ∧ GeoOk q ∧ mem (ρ + 2) i = nI (q 0) ∧ (∀ k, k < q 0 → mem (ρ + 4) (i * 3 + k) = nI (q (1 + 2 * k)) ∧ mem (ρ + 6) (i * 3 + k) = nI (q (2 + 2 * k))) ∧ mem (ρ + 8) i = nI (q 7)
def CovAt (mem : Mem) (ρ i W y : Nat) : Prop := mem (ρ + 12) i = nI W ∧ mem (ρ + 14) i = nI y ∧ y ≤ 1 ∧ 5 ≤ W ∧ W ≤ 60
section
variable {l : Launch} {g : XG} {sh : Nat → Sh} {mem : Mem} {ρ : Nat}
theorem ct_Rm_has (hO : LayRm sh ρ) {c : Nat} (hc : mem ρ 0 = nI c) (hc2 : c ≤ 20) {p : Int32} : Ct l g M_Rm_has [rf g ρ, .int p] none sh mem (Pq (.int (bI (¬ p < 0 ∧ p < nI c))) none sh mem) := by
  refine x_begin rfl rfl rfl (by decide) rfl ?_
  refine x_iload_n d_Rm_has_0 rfl ?_
  refine x_if_lt (tgt := 16) d_Rm_has_1 (by decide) (fun c1 => ?_) (fun c1 => ?_)
  · refine x_iconst (v := nI 0) d_Rm_has_16 (by decide) ?_
    refine x_iret rfl (by decide) d_Rm_has_17 (Nat.zero_le _) (Nat.zero_le _) ?_
    exact ⟨by first | (rw [bI_t ⟨c1, Int32.not_le.mp c9⟩]; done) | (rw [bI_f (fun q => q.1 c1)]; done) | (rw [bI_f (fun q => absurd q.2 (Int32.not_lt.mpr c9))]; done), rfl, rfl, rfl⟩
  · refine x_iload_n d_Rm_has_4 rfl ?_
    refine x_aload_n d_Rm_has_5 rfl ?_
    refine x_getI hO.f0 rfl fs_Rm_44 d_Rm_has_6 ?_
    rw [hc]
    refine x_icmp_ge (tgt := 16) d_Rm_has_9 (by decide) (fun c9 => ?_) (fun c9 => ?_)
    · refine x_iconst (v := nI 0) d_Rm_has_16 (by decide) ?_
      refine x_iret rfl (by decide) d_Rm_has_17 (Nat.zero_le _) (Nat.zero_le _) ?_
      exact ⟨by first | (rw [bI_t ⟨c1, Int32.not_le.mp c9⟩]; done) | (rw [bI_f (fun q => q.1 c1)]; done) | (rw [bI_f (fun q => absurd q.2 (Int32.not_lt.mpr c9))]; done), rfl, rfl, rfl⟩
    · refine x_iconst (v := nI 1) d_Rm_has_12 (by decide) ?_
      refine x_goto (tgt := 17) d_Rm_has_13 (by decide) ?_
      refine x_iret rfl (by decide) d_Rm_has_17 (Nat.zero_le _) (Nat.zero_le _) ?_
      exact ⟨by first | (rw [bI_t ⟨c1, Int32.not_le.mp c9⟩]; done) | (rw [bI_f (fun q => q.1 c1)]; done) | (rw [bI_f (fun q => absurd q.2 (Int32.not_lt.mpr c9))]; done), rfl, rfl, rfl⟩
theorem ct_Ro_has (hO : LayRo sh ρ) {c : Nat} (hc : mem ρ 0 = nI c) (hc2 : c ≤ 12) {p : Int32} : Ct l g M_Ro_has [rf g ρ, .int p] none sh mem (Pq (.int (bI (¬ p < 0 ∧ p < nI c))) none sh mem) := by
  refine x_begin rfl rfl rfl (by decide) rfl ?_
  refine x_iload_n d_Ro_has_0 rfl ?_
  refine x_if_lt (tgt := 16) d_Ro_has_1 (by decide) (fun c1 => ?_) (fun c1 => ?_)
  · refine x_iconst (v := nI 0) d_Ro_has_16 (by decide) ?_
    refine x_iret rfl (by decide) d_Ro_has_17 (Nat.zero_le _) (Nat.zero_le _) ?_
    exact ⟨by first | (rw [bI_t ⟨c1, Int32.not_le.mp c9⟩]; done) | (rw [bI_f (fun q => q.1 c1)]; done) | (rw [bI_f (fun q => absurd q.2 (Int32.not_lt.mpr c9))]; done), rfl, rfl, rfl⟩
  · refine x_iload_n d_Ro_has_4 rfl ?_
    refine x_aload_n d_Ro_has_5 rfl ?_
    refine x_getI hO.f0 rfl fs_Ro_41 d_Ro_has_6 ?_
    rw [hc]
    refine x_icmp_ge (tgt := 16) d_Ro_has_9 (by decide) (fun c9 => ?_) (fun c9 => ?_)
    · refine x_iconst (v := nI 0) d_Ro_has_16 (by decide) ?_
      refine x_iret rfl (by decide) d_Ro_has_17 (Nat.zero_le _) (Nat.zero_le _) ?_
      exact ⟨by first | (rw [bI_t ⟨c1, Int32.not_le.mp c9⟩]; done) | (rw [bI_f (fun q => q.1 c1)]; done) | (rw [bI_f (fun q => absurd q.2 (Int32.not_lt.mpr c9))]; done), rfl, rfl, rfl⟩
    · refine x_iconst (v := nI 1) d_Ro_has_12 (by decide) ?_
      refine x_goto (tgt := 17) d_Ro_has_13 (by decide) ?_
      refine x_iret rfl (by decide) d_Ro_has_17 (Nat.zero_le _) (Nat.zero_le _) ?_
      exact ⟨by first | (rw [bI_t ⟨c1, Int32.not_le.mp c9⟩]; done) | (rw [bI_f (fun q => q.1 c1)]; done) | (rw [bI_f (fun q => absurd q.2 (Int32.not_lt.mpr c9))]; done), rfl, rfl, rfl⟩
theorem ct_Rm_isCovered (hO : LayRm sh ρ) {i w : Nat} (hi : i < 20) (hw : mem (ρ + 12) i = nI w) (hw2 : w ≤ 60) : Ct l g M_Rm_isCovered [rf g ρ, .int (nI i)] none sh mem (Pq (.int (bI (0 < w))) none sh mem) := by
  refine x_begin rfl rfl rfl (by decide) rfl ?_
  refine x_aload_n d_Rm_isCovered_0 rfl ?_
  refine x_getR hO.f0 rfl fs_Rm_32 d_Rm_isCovered_1 ?_
  refine x_iload_n d_Rm_isCovered_4 rfl ?_
  refine x_v1p d_Rm_isCovered_5 ml_Rm_48 v_Rw_at rfl ⟨rfl, rfl⟩ (row_io hO.f11) (Nat.le_of_ble_eq_true rfl) (ct_Rw_at hO.f11 hO.f12 (by omega)) ?_
  rw [hw]
  refine x_if_le (tgt := 15) d_Rm_isCovered_8 (by decide) (fun c8 => ?_) (fun c8 => ?_)
  · have c8 := nI_le' (b := 0) (by omega) (by omega) c8
    refine x_iconst (v := nI 0) d_Rm_isCovered_15 (by decide) ?_
    refine x_iret rfl (by decide) d_Rm_isCovered_16 (Nat.zero_le _) (Nat.zero_le _) ?_
    exact ⟨by first | (rw [bI_t (by omega)]; done) | (rw [bI_f (by omega)]; done), rfl, rfl, rfl⟩
  · have c8 := nI_nle' (b := 0) (by omega) (by omega) c8
    refine x_iconst (v := nI 1) d_Rm_isCovered_11 (by decide) ?_
    refine x_goto (tgt := 16) d_Rm_isCovered_12 (by decide) ?_
    refine x_iret rfl (by decide) d_Rm_isCovered_16 (Nat.zero_le _) (Nat.zero_le _) ?_
    exact ⟨by first | (rw [bI_t (by omega)]; done) | (rw [bI_f (by omega)]; done), rfl, rfl, rfl⟩
theorem ct_Rm_cell (hO : LayRm sh ρ) {a b : Nat} : Ct l g M_Rm_cell [rf g ρ, .int (nI a), .int (nI b)] none sh mem (Pq (.int (nI (a * 3 + b))) none sh mem) := by
  refine x_begin rfl rfl rfl (by decide) rfl ?_
  refine x_iload_n d_Rm_cell_0 rfl ?_
  refine x_iconst (v := nI 3) d_Rm_cell_1 (by decide) ?_
  refine x_imul d_Rm_cell_2 ?_
  refine x_iload_n d_Rm_cell_3 rfl ?_
  refine x_iadd d_Rm_cell_4 ?_
  rw [pk_mul, nI_add]
  refine x_iret rfl rfl d_Rm_cell_5 (Nat.zero_le _) (Nat.zero_le _) ?_
  exact ⟨rfl, rfl, rfl, rfl⟩
theorem ct_Rm_begin (hO : LayRm sh ρ) {c : Nat} (hc : mem ρ 0 = nI c) (hc2 : c < 20) : Ct l g M_Rm_begin [rf g ρ] none sh mem (Rv none sh (fun m => m = um (um mem (ρ + 2) c (nI 0)) (ρ + 12) c (nI 0))) := by
  refine x_begin rfl rfl rfl (by decide) rfl ?_
  refine x_aload_n d_Rm_begin_0 rfl ?_
  refine x_getR hO.f0 rfl fs_Rm_14 d_Rm_begin_1 ?_
  refine x_aload_n d_Rm_begin_4 rfl ?_
  refine x_getI hO.f0 rfl fs_Rm_44 d_Rm_begin_5 ?_
  rw [hc]
  refine x_iconst (v := nI 0) d_Rm_begin_8 (by decide) ?_
  refine x_v2v d_Rm_begin_9 ml_Rm_52 v_Rw_put rfl ⟨rfl, rfl⟩ (row_io hO.f1) (Nat.le_of_ble_eq_true rfl) (ct_Rw_put hO.f1 hO.f2 (by omega)) (fun _ hE => ?_)
  subst hE
  refine x_aload_n d_Rm_begin_12 rfl ?_
  refine x_getR hO.f0 rfl fs_Rm_32 d_Rm_begin_13 ?_
  refine x_aload_n d_Rm_begin_16 rfl ?_
  refine x_getI hO.f0 rfl fs_Rm_44 d_Rm_begin_17 ?_
  rw [um_o _ _ (show ρ ≠ ρ + 2 by omega), hc]
  refine x_iconst (v := nI 0) d_Rm_begin_20 (by decide) ?_
  refine x_v2v d_Rm_begin_21 ml_Rm_52 v_Rw_put rfl ⟨rfl, rfl⟩ (row_io hO.f11) (Nat.le_of_ble_eq_true rfl) (ct_Rw_put hO.f11 hO.f12 (by omega)) (fun _ hE => ?_)
  subst hE
  refine x_vret rfl d_Rm_begin_24 (Nat.zero_le _) (Nat.zero_le _) ?_
  exact ⟨rfl, rfl, rfl, rfl⟩
theorem ct_Rm_addRectangle (hO : LayRm sh ρ) {c k : Nat} {a b : Int32} (hc : mem ρ 0 = nI c) (hc2 : c < 20) (hk : mem (ρ + 2) c = nI k) (hk2 : k < 3) : Ct l g M_Rm_addRectangle [rf g ρ, .int a, .int b] none sh mem (Rv none sh (fun m => m = um (um (um mem (ρ + 4) (c * 3 + k) a) (ρ + 6) (c * 3 + k) b) (ρ + 2) c (nI (k + 1)))) := by
  refine x_begin rfl rfl rfl (by decide) rfl ?_
  refine x_aload_n d_Rm_addRectangle_0 rfl ?_
  refine x_aload_n d_Rm_addRectangle_1 rfl ?_
  refine x_getI hO.f0 rfl fs_Rm_44 d_Rm_addRectangle_2 ?_
  rw [hc]
  refine x_aload_n d_Rm_addRectangle_5 rfl ?_
  refine x_getR hO.f0 rfl fs_Rm_14 d_Rm_addRectangle_6 ?_
  refine x_aload_n d_Rm_addRectangle_9 rfl ?_
  refine x_getI hO.f0 rfl fs_Rm_44 d_Rm_addRectangle_10 ?_
  rw [hc]
  refine x_v1p d_Rm_addRectangle_13 ml_Rm_48 v_Rw_at rfl ⟨rfl, rfl⟩ (row_io hO.f1) (Nat.le_of_ble_eq_true rfl) (ct_Rw_at hO.f1 hO.f2 (by omega)) ?_
  rw [hk]
  refine x_v2p d_Rm_addRectangle_16 ml_Rm_56 v_Rm_cell rfl ⟨rfl, rfl⟩ hO.io (Nat.le_of_ble_eq_true rfl) (ct_Rm_cell hO) ?_
  refine x_istore_n d_Rm_addRectangle_19 (by decide) ?_
  refine x_aload_n d_Rm_addRectangle_20 rfl ?_
  refine x_getR hO.f0 rfl fs_Rm_20 d_Rm_addRectangle_21 ?_
  refine x_iload_n d_Rm_addRectangle_24 rfl ?_
  refine x_iload_n d_Rm_addRectangle_25 rfl ?_
  refine x_v2v d_Rm_addRectangle_26 ml_Rm_52 v_Rw_put rfl ⟨rfl, rfl⟩ (row_io hO.f3) (Nat.le_of_ble_eq_true rfl) (ct_Rw_put hO.f3 hO.f4 (by omega)) (fun _ hE => ?_)
  subst hE
  refine x_aload_n d_Rm_addRectangle_29 rfl ?_
  refine x_getR hO.f0 rfl fs_Rm_23 d_Rm_addRectangle_30 ?_
  refine x_iload_n d_Rm_addRectangle_33 rfl ?_
  refine x_iload_n d_Rm_addRectangle_34 rfl ?_
  refine x_v2v d_Rm_addRectangle_35 ml_Rm_52 v_Rw_put rfl ⟨rfl, rfl⟩ (row_io hO.f5) (Nat.le_of_ble_eq_true rfl) (ct_Rw_put hO.f5 hO.f6 (by omega)) (fun _ hE => ?_)
  subst hE
  refine x_aload_n d_Rm_addRectangle_38 rfl ?_
  refine x_getR hO.f0 rfl fs_Rm_14 d_Rm_addRectangle_39 ?_
  refine x_aload_n d_Rm_addRectangle_42 rfl ?_
  refine x_getI hO.f0 rfl fs_Rm_44 d_Rm_addRectangle_43 ?_
  rw [um_o _ _ (show ρ ≠ ρ + 6 by omega), um_o _ _ (show ρ ≠ ρ + 4 by omega), hc]
  refine x_iconst (v := nI 1) d_Rm_addRectangle_46 (by decide) ?_
  refine x_v2v d_Rm_addRectangle_47 ml_Rm_60 v_Rw_add rfl ⟨rfl, rfl⟩ (row_io hO.f1) (Nat.le_of_ble_eq_true rfl) (ct_Rw_add hO.f1 hO.f2 (by omega)) (fun _ hE => ?_)
  subst hE
  refine x_vret rfl d_Rm_addRectangle_50 (Nat.zero_le _) (Nat.zero_le _) ?_
  exact ⟨rfl, rfl, rfl, by rw [um_o _ _ (show ρ + 2 ≠ ρ + 6 by omega), um_o _ _ (show ρ + 2 ≠ ρ + 4 by omega), hk, nI_add]⟩
theorem ct_Rm_finish (hO : LayRm sh ρ) {c : Nat} {a : Int32} (hc : mem ρ 0 = nI c) (hc2 : c < 20) : Ct l g M_Rm_finish [rf g ρ, .int a] none sh mem (Rv none sh (fun m => m = um (um mem (ρ + 8) c a) ρ 0 (nI (c + 1)))) := by
  refine x_begin rfl rfl rfl (by decide) rfl ?_
  refine x_aload_n d_Rm_finish_0 rfl ?_
  refine x_getR hO.f0 rfl fs_Rm_26 d_Rm_finish_1 ?_
  refine x_aload_n d_Rm_finish_4 rfl ?_
  refine x_getI hO.f0 rfl fs_Rm_44 d_Rm_finish_5 ?_
  rw [hc]
  refine x_iload_n d_Rm_finish_8 rfl ?_
  refine x_v2v d_Rm_finish_9 ml_Rm_52 v_Rw_put rfl ⟨rfl, rfl⟩ (row_io hO.f7) (Nat.le_of_ble_eq_true rfl) (ct_Rw_put hO.f7 hO.f8 (by omega)) (fun _ hE => ?_)
  subst hE
  refine x_aload_n d_Rm_finish_12 rfl ?_
  refine x_dup d_Rm_finish_13 rfl ?_
  refine x_getI hO.f0 rfl fs_Rm_44 d_Rm_finish_14 ?_
  rw [um_o _ _ (show ρ ≠ ρ + 8 by omega), hc]
  refine x_iconst (v := nI 1) d_Rm_finish_17 (by decide) ?_
  refine x_iadd d_Rm_finish_18 ?_
  rw [nI_add]
  refine x_putI hO.f0 rfl ps_Rm_44 rfl rfl d_Rm_finish_19 ?_
  refine x_vret rfl d_Rm_finish_22 (Nat.zero_le _) (Nat.zero_le _) ?_
  exact ⟨rfl, rfl, rfl, rfl⟩
theorem ct_Rm_area (hO : LayRm sh ρ) {i : Nat} {q : Nat → Nat} (hG : GeoAt mem ρ i q) : Ct l g M_Rm_area [rf g ρ, .int (nI i)] none sh mem (Pq (.int (nI (areaN q))) none sh mem) := by
  obtain ⟨hi, hok, h0, h1, h7⟩ := hG
  have hm := hok.1.2.1
  refine x_begin rfl rfl rfl (by decide) rfl ?_
  refine x_iconst (v := nI 0) d_Rm_area_0 (by decide) ?_
  refine x_istore_n d_Rm_area_1 (by decide) ?_
  refine x_aload_n d_Rm_area_2 rfl ?_
  refine x_getR hO.f0 rfl fs_Rm_14 d_Rm_area_3 ?_
  refine x_iload_n d_Rm_area_6 rfl ?_
  refine x_v1p d_Rm_area_7 ml_Rm_48 v_Rw_at rfl ⟨rfl, rfl⟩ (row_io hO.f1) (Nat.le_of_ble_eq_true rfl) (ct_Rw_at hO.f1 hO.f2 (by omega)) ?_
  rw [h0]
  refine x_istore_n d_Rm_area_10 (by decide) ?_
  refine x_iconst (v := nI 0) d_Rm_area_11 (by decide) ?_
  refine x_istore d_Rm_area_12 (by decide) ?_
  refine up_ind (q 0) (P := fun j => ∀ v : Option Value, X l g M_Rm_area (XF g (Pq (.int (nI (areaN q))) none sh mem) M_Rm_area) 14 [some (rf g ρ), some (.int (nI i)), some (.int (nI (sN (fun k => q (1 + 2 * k) * q (2 + 2 * k)) j))), some (.int (nI (q 0))), some (.int (nI j)), v] [] none sh mem 0 0) (fun j hj ih v => ?_) 0 (Nat.zero_le _) _
  refine x_iload d_Rm_area_14 rfl ?_
  refine x_iload_n d_Rm_area_16 rfl ?_
  refine x_icmp_ge (tgt := 57) d_Rm_area_17 (by decide) (fun c17 => ?_) (fun c17 => ?_)
  · have hj2 : j = q 0 := by have := nI_le' (by omega) (by omega) c17; omega
    refine x_iload_n d_Rm_area_57 rfl ?_
    refine x_iret rfl rfl d_Rm_area_58 (Nat.zero_le _) (Nat.zero_le _) ?_
    exact ⟨by rw [hj2]; rfl, rfl, rfl, rfl⟩
  · have hj3 := nI_nle' (by omega) (by omega) c17
    have h9 := ih hj3 (some (.int (nI (i * 3 + j))))
    refine x_aload_n d_Rm_area_20 rfl ?_
    refine x_iload_n d_Rm_area_21 rfl ?_
    refine x_iload d_Rm_area_22 rfl ?_
    refine x_v2p d_Rm_area_24 ml_Rm_56 v_Rm_cell rfl ⟨rfl, rfl⟩ hO.io (Nat.le_of_ble_eq_true rfl) (ct_Rm_cell hO) ?_
    refine x_istore d_Rm_area_27 (by decide) ?_
    refine x_iload_n d_Rm_area_29 rfl ?_
    refine x_aload_n d_Rm_area_30 rfl ?_
    refine x_getR hO.f0 rfl fs_Rm_20 d_Rm_area_31 ?_
    refine x_iload d_Rm_area_34 rfl ?_
    refine x_v1p d_Rm_area_36 ml_Rm_48 v_Rw_at rfl ⟨rfl, rfl⟩ (row_io hO.f3) (Nat.le_of_ble_eq_true rfl) (ct_Rw_at hO.f3 hO.f4 (by omega)) ?_
    rw [(h1 j hj3).1]
    refine x_aload_n d_Rm_area_39 rfl ?_
    refine x_getR hO.f0 rfl fs_Rm_23 d_Rm_area_40 ?_
    refine x_iload d_Rm_area_43 rfl ?_
    refine x_v1p d_Rm_area_45 ml_Rm_48 v_Rw_at rfl ⟨rfl, rfl⟩ (row_io hO.f5) (Nat.le_of_ble_eq_true rfl) (ct_Rw_at hO.f5 hO.f6 (by omega)) ?_
    rw [(h1 j hj3).2]
    refine x_imul d_Rm_area_48 ?_
    rw [pk_mul]
    refine x_iadd d_Rm_area_49 ?_
    rw [nI_add]
    refine x_istore_n d_Rm_area_50 (by decide) ?_
    refine x_iinc d_Rm_area_51 rfl (by first | exact inc1 _ | rfl) (by decide) ?_
    refine x_goto (tgt := 14) d_Rm_area_54 (by decide) ?_
    exact h9
theorem ct_Rm_isAcross (hO : LayRm sh ρ) {i y : Nat} {q : Nat → Nat} (hG : GeoAt mem ρ i q) (hy : y ≤ 1) : Ct l g M_Rm_isAcross [rf g ρ, .int (nI i), .int (nI y)] none sh mem (Pq (.int (bI (acr q y = true))) none sh mem) := by
  obtain ⟨hi, hok, h0, h1, h7⟩ := hG
  have hl := hok.1.2.2
  refine x_begin rfl rfl rfl (by decide) rfl ?_
  refine x_aload_n d_Rm_isAcross_0 rfl ?_
  refine x_getR hO.f0 rfl fs_Rm_26 d_Rm_isAcross_1 ?_
  refine x_iload_n d_Rm_isAcross_4 rfl ?_
  refine x_v1p d_Rm_isAcross_5 ml_Rm_48 v_Rw_at rfl ⟨rfl, rfl⟩ (row_io hO.f7) (Nat.le_of_ble_eq_true rfl) (ct_Rw_at hO.f7 hO.f8 (by omega)) ?_
  rw [h7]
  refine x_if_eq (tgt := 23) d_Rm_isAcross_8 (by decide) (fun c8 => ?_) (fun c8 => ?_)
  · have c8 := nI_eq' (b := 0) (by omega) (by omega) c8
    refine x_iconst (v := nI 1) d_Rm_isAcross_23 (by decide) ?_
    refine x_goto (tgt := 28) d_Rm_isAcross_24 (by decide) ?_
    refine x_istore_n d_Rm_isAcross_28 (by decide) ?_
    refine x_iload_n d_Rm_isAcross_29 rfl ?_
    refine x_if_eq (tgt := 46) d_Rm_isAcross_30 (by decide) (fun c30 => ?_) (fun c30 => ?_)
    · exact absurd c30 (by decide)
    · refine x_iload_n d_Rm_isAcross_33 rfl ?_
      refine x_iconst (v := nI 1) d_Rm_isAcross_34 (by decide) ?_
      refine x_icmp_ne (tgt := 42) d_Rm_isAcross_35 (by decide) (fun c35 => ?_) (fun c35 => ?_)
      · have c35 := nI_ne' c35
        refine x_iconst (v := nI 0) d_Rm_isAcross_42 (by decide) ?_
        refine x_goto (tgt := 55) d_Rm_isAcross_43 (by decide) ?_
        refine x_iret rfl (by decide) d_Rm_isAcross_55 (Nat.zero_le _) (Nat.zero_le _) ?_
        have h9 : q 7 = 0 ∨ q 7 = 1 ∨ q 7 = 2 ∨ q 7 = 3 := by omega
        have h8 : y = 0 ∨ y = 1 := by omega
        exact ⟨by rcases h9 with h | h | h | h <;> rcases h8 with k | k <;> first | (exfalso; omega) | (rw [bI_t (by simp [acr, h, k])]; done) | (rw [bI_f (by simp [acr, h, k])]; done), rfl, rfl, rfl⟩
      · have c35 := nI_eq' (by omega) (by omega) c35
        refine x_iconst (v := nI 1) d_Rm_isAcross_38 (by decide) ?_
        refine x_goto (tgt := 55) d_Rm_isAcross_39 (by decide) ?_
        refine x_iret rfl (by decide) d_Rm_isAcross_55 (Nat.zero_le _) (Nat.zero_le _) ?_
        have h9 : q 7 = 0 ∨ q 7 = 1 ∨ q 7 = 2 ∨ q 7 = 3 := by omega
        have h8 : y = 0 ∨ y = 1 := by omega
        exact ⟨by rcases h9 with h | h | h | h <;> rcases h8 with k | k <;> first | (exfalso; omega) | (rw [bI_t (by simp [acr, h, k])]; done) | (rw [bI_f (by simp [acr, h, k])]; done), rfl, rfl, rfl⟩
  · have c8 : q 7 ≠ 0 := fun z => c8 (by rw [z]; rfl)
    refine x_aload_n d_Rm_isAcross_11 rfl ?_
    refine x_getR hO.f0 rfl fs_Rm_26 d_Rm_isAcross_12 ?_
    refine x_iload_n d_Rm_isAcross_15 rfl ?_
    refine x_v1p d_Rm_isAcross_16 ml_Rm_48 v_Rw_at rfl ⟨rfl, rfl⟩ (row_io hO.f7) (Nat.le_of_ble_eq_true rfl) (ct_Rw_at hO.f7 hO.f8 (by omega)) ?_
    rw [h7]
    refine x_iconst (v := nI 2) d_Rm_isAcross_19 (by decide) ?_
    refine x_icmp_ne (tgt := 27) d_Rm_isAcross_20 (by decide) (fun c20 => ?_) (fun c20 => ?_)
    · have c20 := nI_ne' c20
      refine x_iconst (v := nI 0) d_Rm_isAcross_27 (by decide) ?_
      refine x_istore_n d_Rm_isAcross_28 (by decide) ?_
      refine x_iload_n d_Rm_isAcross_29 rfl ?_
      refine x_if_eq (tgt := 46) d_Rm_isAcross_30 (by decide) (fun c30 => ?_) (fun c30 => ?_)
      · refine x_iload_n d_Rm_isAcross_46 rfl ?_
        refine x_if_ne (tgt := 54) d_Rm_isAcross_47 (by decide) (fun c47 => ?_) (fun c47 => ?_)
        · have c47 : y ≠ 0 := fun z => c47 (by rw [z]; rfl)
          refine x_iconst (v := nI 0) d_Rm_isAcross_54 (by decide) ?_
          refine x_iret rfl (by decide) d_Rm_isAcross_55 (Nat.zero_le _) (Nat.zero_le _) ?_
          have h9 : q 7 = 0 ∨ q 7 = 1 ∨ q 7 = 2 ∨ q 7 = 3 := by omega
          have h8 : y = 0 ∨ y = 1 := by omega
          exact ⟨by rcases h9 with h | h | h | h <;> rcases h8 with k | k <;> first | (exfalso; omega) | (rw [bI_t (by simp [acr, h, k])]; done) | (rw [bI_f (by simp [acr, h, k])]; done), rfl, rfl, rfl⟩
        · have c47 := nI_eq' (b := 0) (by omega) (by omega) c47
          refine x_iconst (v := nI 1) d_Rm_isAcross_50 (by decide) ?_
          refine x_goto (tgt := 55) d_Rm_isAcross_51 (by decide) ?_
          refine x_iret rfl (by decide) d_Rm_isAcross_55 (Nat.zero_le _) (Nat.zero_le _) ?_
          have h9 : q 7 = 0 ∨ q 7 = 1 ∨ q 7 = 2 ∨ q 7 = 3 := by omega
          have h8 : y = 0 ∨ y = 1 := by omega
          exact ⟨by rcases h9 with h | h | h | h <;> rcases h8 with k | k <;> first | (exfalso; omega) | (rw [bI_t (by simp [acr, h, k])]; done) | (rw [bI_f (by simp [acr, h, k])]; done), rfl, rfl, rfl⟩
      · exact absurd rfl c30
    · have c20 := nI_eq' (by omega) (by omega) c20
      refine x_iconst (v := nI 1) d_Rm_isAcross_23 (by decide) ?_
      refine x_goto (tgt := 28) d_Rm_isAcross_24 (by decide) ?_
      refine x_istore_n d_Rm_isAcross_28 (by decide) ?_
      refine x_iload_n d_Rm_isAcross_29 rfl ?_
      refine x_if_eq (tgt := 46) d_Rm_isAcross_30 (by decide) (fun c30 => ?_) (fun c30 => ?_)
      · exact absurd c30 (by decide)
      · refine x_iload_n d_Rm_isAcross_33 rfl ?_
        refine x_iconst (v := nI 1) d_Rm_isAcross_34 (by decide) ?_
        refine x_icmp_ne (tgt := 42) d_Rm_isAcross_35 (by decide) (fun c35 => ?_) (fun c35 => ?_)
        · have c35 := nI_ne' c35
          refine x_iconst (v := nI 0) d_Rm_isAcross_42 (by decide) ?_
          refine x_goto (tgt := 55) d_Rm_isAcross_43 (by decide) ?_
          refine x_iret rfl (by decide) d_Rm_isAcross_55 (Nat.zero_le _) (Nat.zero_le _) ?_
          have h9 : q 7 = 0 ∨ q 7 = 1 ∨ q 7 = 2 ∨ q 7 = 3 := by omega
          have h8 : y = 0 ∨ y = 1 := by omega
          exact ⟨by rcases h9 with h | h | h | h <;> rcases h8 with k | k <;> first | (exfalso; omega) | (rw [bI_t (by simp [acr, h, k])]; done) | (rw [bI_f (by simp [acr, h, k])]; done), rfl, rfl, rfl⟩
        · have c35 := nI_eq' (by omega) (by omega) c35
          refine x_iconst (v := nI 1) d_Rm_isAcross_38 (by decide) ?_
          refine x_goto (tgt := 55) d_Rm_isAcross_39 (by decide) ?_
          refine x_iret rfl (by decide) d_Rm_isAcross_55 (Nat.zero_le _) (Nat.zero_le _) ?_
          have h9 : q 7 = 0 ∨ q 7 = 1 ∨ q 7 = 2 ∨ q 7 = 3 := by omega
          have h8 : y = 0 ∨ y = 1 := by omega
          exact ⟨by rcases h9 with h | h | h | h <;> rcases h8 with k | k <;> first | (exfalso; omega) | (rw [bI_t (by simp [acr, h, k])]; done) | (rw [bI_f (by simp [acr, h, k])]; done), rfl, rfl, rfl⟩
theorem ct_Rm_rectangleWidth (hO : LayRm sh ρ) {i k y : Nat} {q : Nat → Nat} (hG : GeoAt mem ρ i q) (hk : k < q 0) (hy : y ≤ 1) : Ct l g M_Rm_rectangleWidth [rf g ρ, .int (nI i), .int (nI k), .int (nI y)] none sh mem (Pq (.int (nI (wdt q k y))) none sh mem) := by
  obtain ⟨hi, hok, h0, h1, h7⟩ := hG
  have hm := hok.1.2.1
  refine x_begin rfl rfl rfl (by decide) rfl ?_
  refine x_iload_n d_Rm_rectangleWidth_0 rfl ?_
  refine x_if_ne (tgt := 11) d_Rm_rectangleWidth_1 (by decide) (fun c1 => ?_) (fun c1 => ?_)
  · have c1 : y = 1 := by have : y ≠ 0 := fun z => c1 (by rw [z]; rfl); omega
    refine x_aload_n d_Rm_rectangleWidth_11 rfl ?_
    refine x_getR hO.f0 rfl fs_Rm_23 d_Rm_rectangleWidth_12 ?_
    refine x_astore d_Rm_rectangleWidth_15 (by decide) ?_
    refine x_aload d_Rm_rectangleWidth_17 rfl ?_
    refine x_aload_n d_Rm_rectangleWidth_19 rfl ?_
    refine x_iload_n d_Rm_rectangleWidth_20 rfl ?_
    refine x_iload_n d_Rm_rectangleWidth_21 rfl ?_
    refine x_v2p d_Rm_rectangleWidth_22 ml_Rm_56 v_Rm_cell rfl ⟨rfl, rfl⟩ hO.io (Nat.le_of_ble_eq_true rfl) (ct_Rm_cell hO) ?_
    refine x_v1p d_Rm_rectangleWidth_25 ml_Rm_48 v_Rw_at rfl ⟨rfl, rfl⟩ (row_io hO.f5) (Nat.le_of_ble_eq_true rfl) (ct_Rw_at hO.f5 hO.f6 (by omega)) ?_
    rw [(h1 k hk).2]
    refine x_iret rfl rfl d_Rm_rectangleWidth_28 (Nat.zero_le _) (Nat.zero_le _) ?_
    exact ⟨by rw [c1]; first | rfl | (unfold wdt; rw [show 1 + 2 * k + 1 = 2 + 2 * k by omega]), rfl, rfl, rfl⟩
  · have c1 := nI_eq' (b := 0) (by omega) (by omega) c1
    refine x_aload_n d_Rm_rectangleWidth_4 rfl ?_
    refine x_getR hO.f0 rfl fs_Rm_20 d_Rm_rectangleWidth_5 ?_
    refine x_goto (tgt := 15) d_Rm_rectangleWidth_8 (by decide) ?_
    refine x_astore d_Rm_rectangleWidth_15 (by decide) ?_
    refine x_aload d_Rm_rectangleWidth_17 rfl ?_
    refine x_aload_n d_Rm_rectangleWidth_19 rfl ?_
    refine x_iload_n d_Rm_rectangleWidth_20 rfl ?_
    refine x_iload_n d_Rm_rectangleWidth_21 rfl ?_
    refine x_v2p d_Rm_rectangleWidth_22 ml_Rm_56 v_Rm_cell rfl ⟨rfl, rfl⟩ hO.io (Nat.le_of_ble_eq_true rfl) (ct_Rm_cell hO) ?_
    refine x_v1p d_Rm_rectangleWidth_25 ml_Rm_48 v_Rw_at rfl ⟨rfl, rfl⟩ (row_io hO.f3) (Nat.le_of_ble_eq_true rfl) (ct_Rw_at hO.f3 hO.f4 (by omega)) ?_
    rw [(h1 k hk).1]
    refine x_iret rfl rfl d_Rm_rectangleWidth_28 (Nat.zero_le _) (Nat.zero_le _) ?_
    exact ⟨by rw [c1]; first | rfl | (unfold wdt; rw [show 1 + 2 * k + 1 = 2 + 2 * k by omega]), rfl, rfl, rfl⟩
theorem ct_Rm_rectangleLength (hO : LayRm sh ρ) {i k y : Nat} {q : Nat → Nat} (hG : GeoAt mem ρ i q) (hk : k < q 0) (hy : y ≤ 1) : Ct l g M_Rm_rectangleLength [rf g ρ, .int (nI i), .int (nI k), .int (nI y)] none sh mem (Pq (.int (nI (lng q k y))) none sh mem) := by
  obtain ⟨hi, hok, h0, h1, h7⟩ := hG
  have hm := hok.1.2.1
  refine x_begin rfl rfl rfl (by decide) rfl ?_
  refine x_iload_n d_Rm_rectangleLength_0 rfl ?_
  refine x_if_ne (tgt := 11) d_Rm_rectangleLength_1 (by decide) (fun c1 => ?_) (fun c1 => ?_)
  · have c1 : y = 1 := by have : y ≠ 0 := fun z => c1 (by rw [z]; rfl); omega
    refine x_aload_n d_Rm_rectangleLength_11 rfl ?_
    refine x_getR hO.f0 rfl fs_Rm_20 d_Rm_rectangleLength_12 ?_
    refine x_astore d_Rm_rectangleLength_15 (by decide) ?_
    refine x_aload d_Rm_rectangleLength_17 rfl ?_
    refine x_aload_n d_Rm_rectangleLength_19 rfl ?_
    refine x_iload_n d_Rm_rectangleLength_20 rfl ?_
    refine x_iload_n d_Rm_rectangleLength_21 rfl ?_
    refine x_v2p d_Rm_rectangleLength_22 ml_Rm_56 v_Rm_cell rfl ⟨rfl, rfl⟩ hO.io (Nat.le_of_ble_eq_true rfl) (ct_Rm_cell hO) ?_
    refine x_v1p d_Rm_rectangleLength_25 ml_Rm_48 v_Rw_at rfl ⟨rfl, rfl⟩ (row_io hO.f3) (Nat.le_of_ble_eq_true rfl) (ct_Rw_at hO.f3 hO.f4 (by omega)) ?_
    rw [(h1 k hk).1]
    refine x_iret rfl rfl d_Rm_rectangleLength_28 (Nat.zero_le _) (Nat.zero_le _) ?_
    exact ⟨by rw [c1]; first | rfl | (unfold lng; rw [show 2 + 2 * k - 1 = 1 + 2 * k by omega]), rfl, rfl, rfl⟩
  · have c1 := nI_eq' (b := 0) (by omega) (by omega) c1
    refine x_aload_n d_Rm_rectangleLength_4 rfl ?_
    refine x_getR hO.f0 rfl fs_Rm_23 d_Rm_rectangleLength_5 ?_
    refine x_goto (tgt := 15) d_Rm_rectangleLength_8 (by decide) ?_
    refine x_astore d_Rm_rectangleLength_15 (by decide) ?_
    refine x_aload d_Rm_rectangleLength_17 rfl ?_
    refine x_aload_n d_Rm_rectangleLength_19 rfl ?_
    refine x_iload_n d_Rm_rectangleLength_20 rfl ?_
    refine x_iload_n d_Rm_rectangleLength_21 rfl ?_
    refine x_v2p d_Rm_rectangleLength_22 ml_Rm_56 v_Rm_cell rfl ⟨rfl, rfl⟩ hO.io (Nat.le_of_ble_eq_true rfl) (ct_Rm_cell hO) ?_
    refine x_v1p d_Rm_rectangleLength_25 ml_Rm_48 v_Rw_at rfl ⟨rfl, rfl⟩ (row_io hO.f5) (Nat.le_of_ble_eq_true rfl) (ct_Rw_at hO.f5 hO.f6 (by omega)) ?_
    rw [(h1 k hk).2]
    refine x_iret rfl rfl d_Rm_rectangleLength_28 (Nat.zero_le _) (Nat.zero_le _) ?_
    exact ⟨by rw [c1]; first | rfl | (unfold lng; rw [show 2 + 2 * k - 1 = 1 + 2 * k by omega]), rfl, rfl, rfl⟩
theorem ct_Rm_putCovering (hO : LayRm sh ρ) {i : Nat} {a b d : Int32} (hi : i < 20) : Ct l g M_Rm_putCovering [rf g ρ, .int (nI i), .int a, .int b, .int d] none sh mem (Rv none sh (fun m => m = um (um (um mem (ρ + 10) i a) (ρ + 12) i b) (ρ + 14) i d)) := by
  refine x_begin rfl rfl rfl (by decide) rfl ?_
  refine x_aload_n d_Rm_putCovering_0 rfl ?_
  refine x_getR hO.f0 rfl fs_Rm_29 d_Rm_putCovering_1 ?_
  refine x_iload_n d_Rm_putCovering_4 rfl ?_
  refine x_iload_n d_Rm_putCovering_5 rfl ?_
  refine x_v2v d_Rm_putCovering_6 ml_Rm_52 v_Rw_put rfl ⟨rfl, rfl⟩ (row_io hO.f9) (Nat.le_of_ble_eq_true rfl) (ct_Rw_put hO.f9 hO.f10 (by omega)) (fun _ hE => ?_)
  subst hE
  refine x_aload_n d_Rm_putCovering_9 rfl ?_
  refine x_getR hO.f0 rfl fs_Rm_32 d_Rm_putCovering_10 ?_
  refine x_iload_n d_Rm_putCovering_13 rfl ?_
  refine x_iload_n d_Rm_putCovering_14 rfl ?_
  refine x_v2v d_Rm_putCovering_15 ml_Rm_52 v_Rw_put rfl ⟨rfl, rfl⟩ (row_io hO.f11) (Nat.le_of_ble_eq_true rfl) (ct_Rw_put hO.f11 hO.f12 (by omega)) (fun _ hE => ?_)
  subst hE
  refine x_aload_n d_Rm_putCovering_18 rfl ?_
  refine x_getR hO.f0 rfl fs_Rm_35 d_Rm_putCovering_19 ?_
  refine x_iload_n d_Rm_putCovering_22 rfl ?_
  refine x_iload d_Rm_putCovering_23 rfl ?_
  refine x_v2v d_Rm_putCovering_25 ml_Rm_52 v_Rw_put rfl ⟨rfl, rfl⟩ (row_io hO.f13) (Nat.le_of_ble_eq_true rfl) (ct_Rw_put hO.f13 hO.f14 (by omega)) (fun _ hE => ?_)
  subst hE
  refine x_vret rfl d_Rm_putCovering_28 (Nat.zero_le _) (Nat.zero_le _) ?_
  exact ⟨rfl, rfl, rfl, rfl⟩
theorem ct_Rm_putBare (hO : LayRm sh ρ) {i : Nat} (hi : i < 20) : Ct l g M_Rm_putBare [rf g ρ, .int (nI i)] none sh mem (Rv none sh (fun m => m = um mem (ρ + 12) i (nI 0))) := by
  refine x_begin rfl rfl rfl (by decide) rfl ?_
  refine x_aload_n d_Rm_putBare_0 rfl ?_
  refine x_getR hO.f0 rfl fs_Rm_32 d_Rm_putBare_1 ?_
  refine x_iload_n d_Rm_putBare_4 rfl ?_
  refine x_iconst (v := nI 0) d_Rm_putBare_5 (by decide) ?_
  refine x_v2v d_Rm_putBare_6 ml_Rm_52 v_Rw_put rfl ⟨rfl, rfl⟩ (row_io hO.f11) (Nat.le_of_ble_eq_true rfl) (ct_Rw_put hO.f11 hO.f12 (by omega)) (fun _ hE => ?_)
  subst hE
  refine x_vret rfl d_Rm_putBare_9 (Nat.zero_le _) (Nat.zero_le _) ?_
  exact ⟨rfl, rfl, rfl, rfl⟩
theorem ct_Rm_putSource (hO : LayRm sh ρ) {i s : Nat} {v : Int32} (hi : i < 20) (hs : s < 36) : Ct l g M_Rm_putSource [rf g ρ, .int (nI i), .int (nI s), .int v] none sh mem (Rv none sh (fun m => m = um mem (ρ + 18) (i * 36 + s) v)) := by
  refine x_begin rfl rfl rfl (by decide) rfl ?_
  refine x_aload_n d_Rm_putSource_0 rfl ?_
  refine x_getR hO.f0 rfl fs_Rm_41 d_Rm_putSource_1 ?_
  refine x_iload_n d_Rm_putSource_4 rfl ?_
  refine x_bipush (v := nI 36) d_Rm_putSource_5 (by decide) ?_
  refine x_imul d_Rm_putSource_7 ?_
  refine x_iload_n d_Rm_putSource_8 rfl ?_
  refine x_iadd d_Rm_putSource_9 ?_
  rw [pk_mul, nI_add]
  refine x_iload_n d_Rm_putSource_10 rfl ?_
  refine x_v2v d_Rm_putSource_11 ml_Rm_52 v_Rw_put rfl ⟨rfl, rfl⟩ (row_io hO.f17) (Nat.le_of_ble_eq_true rfl) (ct_Rw_put hO.f17 hO.f18 (by omega)) (fun _ hE => ?_)
  subst hE
  refine x_vret rfl d_Rm_putSource_14 (Nat.zero_le _) (Nat.zero_le _) ?_
  exact ⟨rfl, rfl, rfl, rfl⟩
theorem ct_Rm_source (hO : LayRm sh ρ) {i s : Nat} (hi : i < 20) (hs : s < 36) : Ct l g M_Rm_source [rf g ρ, .int (nI i), .int (nI s)] none sh mem (Pq (.int (mem (ρ + 18) (i * 36 + s))) none sh mem) := by
  refine x_begin rfl rfl rfl (by decide) rfl ?_
  refine x_aload_n d_Rm_source_0 rfl ?_
  refine x_getR hO.f0 rfl fs_Rm_41 d_Rm_source_1 ?_
  refine x_iload_n d_Rm_source_4 rfl ?_
  refine x_bipush (v := nI 36) d_Rm_source_5 (by decide) ?_
  refine x_imul d_Rm_source_7 ?_
  refine x_iload_n d_Rm_source_8 rfl ?_
  refine x_iadd d_Rm_source_9 ?_
  rw [pk_mul, nI_add]
  refine x_v1p d_Rm_source_10 ml_Rm_48 v_Rw_at rfl ⟨rfl, rfl⟩ (row_io hO.f17) (Nat.le_of_ble_eq_true rfl) (ct_Rw_at hO.f17 hO.f18 (by omega)) ?_
  refine x_iret rfl rfl d_Rm_source_13 (Nat.zero_le _) (Nat.zero_le _) ?_
  exact ⟨rfl, rfl, rfl, rfl⟩
theorem ct_Rm_stripsIn (hO : LayRm sh ρ) {i k W y : Nat} {q : Nat → Nat} (hG : GeoAt mem ρ i q) (hC : CovAt mem ρ i W y) (hk : k < q 0) : Ct l g M_Rm_stripsIn [rf g ρ, .int (nI i), .int (nI k)] none sh mem (Pq (.int (nI (mny q k y W))) none sh mem) := by
  obtain ⟨hw, hy, hy2, hW1, hW2⟩ := hC
  have hi := hG.1
  have hb := hG.2.1.w hk hy2
  refine x_begin rfl rfl rfl (by decide) rfl ?_
  refine x_aload_n d_Rm_stripsIn_0 rfl ?_
  refine x_getR hO.f0 rfl fs_Rm_32 d_Rm_stripsIn_1 ?_
  refine x_iload_n d_Rm_stripsIn_4 rfl ?_
  refine x_v1p d_Rm_stripsIn_5 ml_Rm_48 v_Rw_at rfl ⟨rfl, rfl⟩ (row_io hO.f11) (Nat.le_of_ble_eq_true rfl) (ct_Rw_at hO.f11 hO.f12 (by omega)) ?_
  rw [hw]
  refine x_istore_n d_Rm_stripsIn_8 (by decide) ?_
  refine x_iload_n d_Rm_stripsIn_9 rfl ?_
  refine x_if_gt (tgt := 15) d_Rm_stripsIn_10 (by decide) (fun c10 => ?_) (fun c10 => ?_)
  · refine x_aload_n d_Rm_stripsIn_15 rfl ?_
    refine x_iload_n d_Rm_stripsIn_16 rfl ?_
    refine x_iload_n d_Rm_stripsIn_17 rfl ?_
    refine x_aload_n d_Rm_stripsIn_18 rfl ?_
    refine x_getR hO.f0 rfl fs_Rm_35 d_Rm_stripsIn_19 ?_
    refine x_iload_n d_Rm_stripsIn_22 rfl ?_
    refine x_v1p d_Rm_stripsIn_23 ml_Rm_48 v_Rw_at rfl ⟨rfl, rfl⟩ (row_io hO.f13) (Nat.le_of_ble_eq_true rfl) (ct_Rw_at hO.f13 hO.f14 (by omega)) ?_
    rw [hy]
    refine x_v3p d_Rm_stripsIn_26 ml_Rm_79 v_Rm_rectangleWidth rfl ⟨rfl, rfl⟩ hO.io (Nat.le_of_ble_eq_true rfl) (ct_Rm_rectangleWidth hO hG hk hy2) ?_
    refine x_iload_n d_Rm_stripsIn_29 rfl ?_
    refine x_iadd d_Rm_stripsIn_30 ?_
    rw [nI_add]
    refine x_iconst (v := nI 1) d_Rm_stripsIn_31 (by decide) ?_
    refine x_isub d_Rm_stripsIn_32 ?_
    rw [pk_sub (by omega)]
    refine x_iload_n d_Rm_stripsIn_33 rfl ?_
    refine x_idiv d_Rm_stripsIn_34 (nI_ne0 (by omega) (by omega)) ?_
    rw [pk_div (by omega) (by omega) (by omega)]
    refine x_iret rfl rfl d_Rm_stripsIn_35 (Nat.zero_le _) (Nat.zero_le _) ?_
    exact ⟨rfl, rfl, rfl, rfl⟩
  · exact absurd (nI_lt (show 0 < W by omega) (by omega)) c10
theorem ct_Rm_strips (hO : LayRm sh ρ) {i W y : Nat} {q : Nat → Nat} (hG : GeoAt mem ρ i q) (hC : CovAt mem ρ i W y) : Ct l g M_Rm_strips [rf g ρ, .int (nI i)] none sh mem (Pq (.int (nI (stripsN q y W))) none sh mem) := by
  have hi := hG.1
  have h0 := hG.2.2.1
  have hm := hG.2.1.1.2.1
  refine x_begin rfl rfl rfl (by decide) rfl ?_
  refine x_iconst (v := nI 0) d_Rm_strips_0 (by decide) ?_
  refine x_istore_n d_Rm_strips_1 (by decide) ?_
  refine x_aload_n d_Rm_strips_2 rfl ?_
  refine x_getR hO.f0 rfl fs_Rm_14 d_Rm_strips_3 ?_
  refine x_iload_n d_Rm_strips_6 rfl ?_
  refine x_v1p d_Rm_strips_7 ml_Rm_48 v_Rw_at rfl ⟨rfl, rfl⟩ (row_io hO.f1) (Nat.le_of_ble_eq_true rfl) (ct_Rw_at hO.f1 hO.f2 (by omega)) ?_
  rw [h0]
  refine x_istore_n d_Rm_strips_10 (by decide) ?_
  refine x_iconst (v := nI 0) d_Rm_strips_11 (by decide) ?_
  refine x_istore d_Rm_strips_12 (by decide) ?_
  refine up_ind (q 0) (P := fun j => X l g M_Rm_strips (XF g (Pq (.int (nI (stripsN q y W))) none sh mem) M_Rm_strips) 14 [some (rf g ρ), some (.int (nI i)), some (.int (nI (sN (fun k => mny q k y W) j))), some (.int (nI (q 0))), some (.int (nI j))] [] none sh mem 0 0) (fun j hj ih => ?_) 0 (Nat.zero_le _)
  refine x_iload d_Rm_strips_14 rfl ?_
  refine x_iload_n d_Rm_strips_16 rfl ?_
  refine x_icmp_ge (tgt := 36) d_Rm_strips_17 (by decide) (fun c17 => ?_) (fun c17 => ?_)
  · have hj2 : j = q 0 := by have := nI_le' (by omega) (by omega) c17; omega
    refine x_iload_n d_Rm_strips_36 rfl ?_
    refine x_iret rfl rfl d_Rm_strips_37 (Nat.zero_le _) (Nat.zero_le _) ?_
    exact ⟨by rw [hj2]; rfl, rfl, rfl, rfl⟩
  · have hj3 := nI_nle' (by omega) (by omega) c17
    refine x_iload_n d_Rm_strips_20 rfl ?_
    refine x_aload_n d_Rm_strips_21 rfl ?_
    refine x_iload_n d_Rm_strips_22 rfl ?_
    refine x_iload d_Rm_strips_23 rfl ?_
    refine x_v2p d_Rm_strips_25 ml_Rm_83 v_Rm_stripsIn rfl ⟨rfl, rfl⟩ hO.io (Nat.le_of_ble_eq_true rfl) (ct_Rm_stripsIn hO hG hC hj3) ?_
    refine x_iadd d_Rm_strips_28 ?_
    rw [nI_add]
    refine x_istore_n d_Rm_strips_29 (by decide) ?_
    refine x_iinc d_Rm_strips_30 rfl (by first | exact inc1 _ | rfl) (by decide) ?_
    refine x_goto (tgt := 14) d_Rm_strips_33 (by decide) ?_
    exact ih hj3
theorem ct_Rm_strips0 (hO : LayRm sh ρ) {i : Nat} {q : Nat → Nat} (hG : GeoAt mem ρ i q) (hw : mem (ρ + 12) i = nI 0) : Ct l g M_Rm_strips [rf g ρ, .int (nI i)] none sh mem (Pq (.int (nI 0)) none sh mem) := by
  have hi := hG.1
  have h0 := hG.2.2.1
  have hm := hG.2.1.1.2.1
  have hin : ∀ k, Ct l g M_Rm_stripsIn [rf g ρ, .int (nI i), .int (nI k)] none sh mem (Pq (.int (nI 0)) none sh mem) := by
    intro k
    refine x_begin rfl rfl rfl (by decide) rfl ?_
    refine x_aload_n d_Rm_stripsIn_0 rfl ?_
    refine x_getR hO.f0 rfl fs_Rm_32 d_Rm_stripsIn_1 ?_
    refine x_iload_n d_Rm_stripsIn_4 rfl ?_
    refine x_v1p d_Rm_stripsIn_5 ml_Rm_48 v_Rw_at rfl ⟨rfl, rfl⟩ (row_io hO.f11) (Nat.le_of_ble_eq_true rfl) (ct_Rw_at hO.f11 hO.f12 (by omega)) ?_
    rw [hw]
    refine x_istore_n d_Rm_stripsIn_8 (by decide) ?_
    refine x_iload_n d_Rm_stripsIn_9 rfl ?_
    refine x_if_gt (tgt := 15) d_Rm_stripsIn_10 (by decide) (fun c10 => ?_) (fun c10 => ?_)
    · exact absurd c10 (by decide)
    · refine x_iconst (v := nI 0) d_Rm_stripsIn_13 (by decide) ?_
      refine x_iret rfl rfl d_Rm_stripsIn_14 (Nat.zero_le _) (Nat.zero_le _) ?_
      exact ⟨rfl, rfl, rfl, rfl⟩
  refine x_begin rfl rfl rfl (by decide) rfl ?_
  refine x_iconst (v := nI 0) d_Rm_strips_0 (by decide) ?_
  refine x_istore_n d_Rm_strips_1 (by decide) ?_
  refine x_aload_n d_Rm_strips_2 rfl ?_
  refine x_getR hO.f0 rfl fs_Rm_14 d_Rm_strips_3 ?_
  refine x_iload_n d_Rm_strips_6 rfl ?_
  refine x_v1p d_Rm_strips_7 ml_Rm_48 v_Rw_at rfl ⟨rfl, rfl⟩ (row_io hO.f1) (Nat.le_of_ble_eq_true rfl) (ct_Rw_at hO.f1 hO.f2 (by omega)) ?_
  rw [h0]
  refine x_istore_n d_Rm_strips_10 (by decide) ?_
  refine x_iconst (v := nI 0) d_Rm_strips_11 (by decide) ?_
  refine x_istore d_Rm_strips_12 (by decide) ?_
  refine up_ind (q 0) (P := fun j => X l g M_Rm_strips (XF g (Pq (.int (nI 0)) none sh mem) M_Rm_strips) 14 [some (rf g ρ), some (.int (nI i)), some (.int (nI 0)), some (.int (nI (q 0))), some (.int (nI j))] [] none sh mem 0 0) (fun j hj ih => ?_) 0 (Nat.zero_le _)
  refine x_iload d_Rm_strips_14 rfl ?_
  refine x_iload_n d_Rm_strips_16 rfl ?_
  refine x_icmp_ge (tgt := 36) d_Rm_strips_17 (by decide) (fun c17 => ?_) (fun c17 => ?_)
  · refine x_iload_n d_Rm_strips_36 rfl ?_
    refine x_iret rfl rfl d_Rm_strips_37 (Nat.zero_le _) (Nat.zero_le _) ?_
    exact ⟨rfl, rfl, rfl, rfl⟩
  · have hj3 := nI_nle' (by omega) (by omega) c17
    refine x_iload_n d_Rm_strips_20 rfl ?_
    refine x_aload_n d_Rm_strips_21 rfl ?_
    refine x_iload_n d_Rm_strips_22 rfl ?_
    refine x_iload d_Rm_strips_23 rfl ?_
    refine x_v2p d_Rm_strips_25 ml_Rm_83 v_Rm_stripsIn rfl ⟨rfl, rfl⟩ hO.io (Nat.le_of_ble_eq_true rfl) (hin j) ?_
    refine x_iadd d_Rm_strips_28 ?_
    rw [nI_add]
    refine x_istore_n d_Rm_strips_29 (by decide) ?_
    refine x_iinc d_Rm_strips_30 rfl (by first | exact inc1 _ | rfl) (by decide) ?_
    refine x_goto (tgt := 14) d_Rm_strips_33 (by decide) ?_
    exact ih hj3
theorem ct_Rm_seams (hO : LayRm sh ρ) {i W y : Nat} {q : Nat → Nat} (hG : GeoAt mem ρ i q) (hC : CovAt mem ρ i W y) : Ct l g M_Rm_seams [rf g ρ, .int (nI i)] none sh mem (Pq (.int (nI (seamN q y W))) none sh mem) := by
  have hi := hG.1
  have h0 := hG.2.2.1
  have hm := hG.2.1.1.2.1
  refine x_begin rfl rfl rfl (by decide) rfl ?_
  refine x_iconst (v := nI 0) d_Rm_seams_0 (by decide) ?_
  refine x_istore_n d_Rm_seams_1 (by decide) ?_
  refine x_aload_n d_Rm_seams_2 rfl ?_
  refine x_getR hO.f0 rfl fs_Rm_14 d_Rm_seams_3 ?_
  refine x_iload_n d_Rm_seams_6 rfl ?_
  refine x_v1p d_Rm_seams_7 ml_Rm_48 v_Rw_at rfl ⟨rfl, rfl⟩ (row_io hO.f1) (Nat.le_of_ble_eq_true rfl) (ct_Rw_at hO.f1 hO.f2 (by omega)) ?_
  rw [h0]
  refine x_istore_n d_Rm_seams_10 (by decide) ?_
  refine x_iconst (v := nI 0) d_Rm_seams_11 (by decide) ?_
  refine x_istore d_Rm_seams_12 (by decide) ?_
  refine up_ind (q 0) (P := fun j => X l g M_Rm_seams (XF g (Pq (.int (nI (seamN q y W))) none sh mem) M_Rm_seams) 14 [some (rf g ρ), some (.int (nI i)), some (.int (nI (sN (fun k => (mny q k y W - 1) * lng q k y) j))), some (.int (nI (q 0))), some (.int (nI j))] [] none sh mem 0 0) (fun j hj ih => ?_) 0 (Nat.zero_le _)
  refine x_iload d_Rm_seams_14 rfl ?_
  refine x_iload_n d_Rm_seams_16 rfl ?_
  refine x_icmp_ge (tgt := 54) d_Rm_seams_17 (by decide) (fun c17 => ?_) (fun c17 => ?_)
  · have hj2 : j = q 0 := by have := nI_le' (by omega) (by omega) c17; omega
    refine x_iload_n d_Rm_seams_54 rfl ?_
    refine x_iret rfl rfl d_Rm_seams_55 (Nat.zero_le _) (Nat.zero_le _) ?_
    exact ⟨by rw [hj2]; rfl, rfl, rfl, rfl⟩
  · have hj3 := nI_nle' (by omega) (by omega) c17
    refine x_iload_n d_Rm_seams_20 rfl ?_
    refine x_aload_n d_Rm_seams_21 rfl ?_
    refine x_iload_n d_Rm_seams_22 rfl ?_
    refine x_iload d_Rm_seams_23 rfl ?_
    refine x_v2p d_Rm_seams_25 ml_Rm_83 v_Rm_stripsIn rfl ⟨rfl, rfl⟩ hO.io (Nat.le_of_ble_eq_true rfl) (ct_Rm_stripsIn hO hG hC hj3) ?_
    refine x_iconst (v := nI 1) d_Rm_seams_28 (by decide) ?_
    refine x_isub d_Rm_seams_29 ?_
    rw [pk_sub (mny_le hG.2.1 hj3 hC.2.2.1 hC.2.2.2.1).1]
    refine x_aload_n d_Rm_seams_30 rfl ?_
    refine x_iload_n d_Rm_seams_31 rfl ?_
    refine x_iload d_Rm_seams_32 rfl ?_
    refine x_aload_n d_Rm_seams_34 rfl ?_
    refine x_getR hO.f0 rfl fs_Rm_35 d_Rm_seams_35 ?_
    refine x_iload_n d_Rm_seams_38 rfl ?_
    refine x_v1p d_Rm_seams_39 ml_Rm_48 v_Rw_at rfl ⟨rfl, rfl⟩ (row_io hO.f13) (Nat.le_of_ble_eq_true rfl) (ct_Rw_at hO.f13 hO.f14 (by omega)) ?_
    rw [hC.2.1]
    refine x_v3p d_Rm_seams_42 ml_Rm_86 v_Rm_rectangleLength rfl ⟨rfl, rfl⟩ hO.io (Nat.le_of_ble_eq_true rfl) (ct_Rm_rectangleLength hO hG hj3 hC.2.2.1) ?_
    refine x_imul d_Rm_seams_45 ?_
    rw [pk_mul]
    refine x_iadd d_Rm_seams_46 ?_
    rw [nI_add]
    refine x_istore_n d_Rm_seams_47 (by decide) ?_
    refine x_iinc d_Rm_seams_48 rfl (by first | exact inc1 _ | rfl) (by decide) ?_
    refine x_goto (tgt := 14) d_Rm_seams_51 (by decide) ?_
    exact ih hj3
theorem ct_Rm_stripWidth (hO : LayRm sh ρ) {i W y r : Nat} {q : Nat → Nat} (hG : GeoAt mem ρ i q) (hC : CovAt mem ρ i W y) (hr : r < 1000) : Ct l g M_Rm_stripWidth [rf g ρ, .int (nI i), .int (nI r)] none sh mem (Pq (.int (nI (sw (SL q y W) r))) none sh mem) := by
  have hi := hG.1
  have h0 := hG.2.2.1
  have hm := hG.2.1.1.2.1
  have hW := hC.2.2.2
  refine x_begin rfl rfl rfl (by decide) rfl ?_
  refine x_iload_n d_Rm_stripWidth_0 rfl ?_
  refine x_istore_n d_Rm_stripWidth_1 (by decide) ?_
  refine x_aload_n d_Rm_stripWidth_2 rfl ?_
  refine x_getR hO.f0 rfl fs_Rm_14 d_Rm_stripWidth_3 ?_
  refine x_iload_n d_Rm_stripWidth_6 rfl ?_
  refine x_v1p d_Rm_stripWidth_7 ml_Rm_48 v_Rw_at rfl ⟨rfl, rfl⟩ (row_io hO.f1) (Nat.le_of_ble_eq_true rfl) (ct_Rw_at hO.f1 hO.f2 (by omega)) ?_
  rw [h0]
  refine x_istore d_Rm_stripWidth_10 (by decide) ?_
  refine x_iconst (v := nI 0) d_Rm_stripWidth_12 (by decide) ?_
  refine x_istore d_Rm_stripWidth_13 (by decide) ?_
  refine up_ind (q 0) (P := fun j => ∀ (a : Nat) (v : Option Value), a < 1000 → (SL q y W)[r]? = (SLf q y W (q 0 - j) j)[a]? → X l g M_Rm_stripWidth (XF g (Pq (.int (nI (sw (SL q y W) r))) none sh mem) M_Rm_stripWidth) 15 [some (rf g ρ), some (.int (nI i)), some (.int (nI r)), some (.int (nI a)), some (.int (nI (q 0))), some (.int (nI j)), v, none] [] none sh mem 0 0) (fun j hj ih a v ha hS => ?_) 0 (Nat.zero_le _) r _ hr rfl
  refine x_iload d_Rm_stripWidth_15 rfl ?_
  refine x_iload d_Rm_stripWidth_17 rfl ?_
  refine x_icmp_ge (tgt := 84) d_Rm_stripWidth_19 (by decide) (fun c19 => ?_) (fun c19 => ?_)
  · have hj2 : j = q 0 := by have := nI_le' (by omega) (by omega) c19; omega
    refine x_iconst (v := nI 0) d_Rm_stripWidth_84 (by decide) ?_
    refine x_iret rfl rfl d_Rm_stripWidth_85 (Nat.zero_le _) (Nat.zero_le _) ?_
    exact ⟨by rw [sw, hS, hj2, Nat.sub_self]; rfl, rfl, rfl, rfl⟩
  · have hj3 := nI_nle' (by omega) (by omega) c19
    have hmy := mny_le hG.2.1 hj3 hC.2.2.1 hC.2.2.2.1
    have hwd := hG.2.1.w hj3 hC.2.2.1
    obtain ⟨d, hd⟩ : ∃ d, q 0 - j = d + 1 := ⟨q 0 - j - 1, by omega⟩
    refine x_aload_n d_Rm_stripWidth_22 rfl ?_
    refine x_iload_n d_Rm_stripWidth_23 rfl ?_
    refine x_iload d_Rm_stripWidth_24 rfl ?_
    refine x_v2p d_Rm_stripWidth_26 ml_Rm_83 v_Rm_stripsIn rfl ⟨rfl, rfl⟩ hO.io (Nat.le_of_ble_eq_true rfl) (ct_Rm_stripsIn hO hG hC hj3) ?_
    refine x_istore d_Rm_stripWidth_29 (by decide) ?_
    refine x_iload_n d_Rm_stripWidth_31 rfl ?_
    refine x_iload d_Rm_stripWidth_32 rfl ?_
    refine x_icmp_ge (tgt := 73) d_Rm_stripWidth_34 (by decide) (fun c34 => ?_) (fun c34 => ?_)
    · have c34 := nI_le' (by omega) (by omega) c34
      refine x_iload_n d_Rm_stripWidth_73 rfl ?_
      refine x_iload d_Rm_stripWidth_74 rfl ?_
      refine x_isub d_Rm_stripWidth_76 ?_
      rw [pk_sub c34]
      refine x_istore_n d_Rm_stripWidth_77 (by decide) ?_
      refine x_iinc d_Rm_stripWidth_78 rfl (by first | exact inc1 _ | rfl) (by decide) ?_
      refine x_goto (tgt := 15) d_Rm_stripWidth_81 (by decide) ?_
      exact ih hj3 (a - mny q j y W) _ (by omega) (by rw [hS, hd, SLf_out c34, show q 0 - (j + 1) = d by omega])
    · have c34 := nI_nle' (by omega) (by omega) c34
      have haW : a * W < wdt q j y := by
        have h1 : mny q j y W * W ≤ wdt q j y + W - 1 := Nat.div_mul_le_self _ _
        have h2 : (a + 1) * W ≤ mny q j y W * W := Nat.mul_le_mul_right W c34
        rw [Nat.succ_mul] at h2
        omega
      refine x_aload_n d_Rm_stripWidth_37 rfl ?_
      refine x_getR hO.f0 rfl fs_Rm_32 d_Rm_stripWidth_38 ?_
      refine x_iload_n d_Rm_stripWidth_41 rfl ?_
      refine x_v1p d_Rm_stripWidth_42 ml_Rm_48 v_Rw_at rfl ⟨rfl, rfl⟩ (row_io hO.f11) (Nat.le_of_ble_eq_true rfl) (ct_Rw_at hO.f11 hO.f12 (by omega)) ?_
      rw [hC.1]
      refine x_istore d_Rm_stripWidth_45 (by decide) ?_
      refine x_iload d_Rm_stripWidth_47 rfl ?_
      refine x_aload_n d_Rm_stripWidth_49 rfl ?_
      refine x_iload_n d_Rm_stripWidth_50 rfl ?_
      refine x_iload d_Rm_stripWidth_51 rfl ?_
      refine x_aload_n d_Rm_stripWidth_53 rfl ?_
      refine x_getR hO.f0 rfl fs_Rm_35 d_Rm_stripWidth_54 ?_
      refine x_iload_n d_Rm_stripWidth_57 rfl ?_
      refine x_v1p d_Rm_stripWidth_58 ml_Rm_48 v_Rw_at rfl ⟨rfl, rfl⟩ (row_io hO.f13) (Nat.le_of_ble_eq_true rfl) (ct_Rw_at hO.f13 hO.f14 (by omega)) ?_
      rw [hC.2.1]
      refine x_v3p d_Rm_stripWidth_61 ml_Rm_79 v_Rm_rectangleWidth rfl ⟨rfl, rfl⟩ hO.io (Nat.le_of_ble_eq_true rfl) (ct_Rm_rectangleWidth hO hG hj3 hC.2.2.1) ?_
      refine x_iload_n d_Rm_stripWidth_64 rfl ?_
      refine x_iload d_Rm_stripWidth_65 rfl ?_
      refine x_imul d_Rm_stripWidth_67 ?_
      rw [pk_mul]
      refine x_isub d_Rm_stripWidth_68 ?_
      rw [pk_sub (by omega)]
      refine x_min ml_Rm_89 j_min1 j_math j_min2 d_Rm_stripWidth_69 (Nat.le_of_ble_eq_true rfl) (Nat.le_of_ble_eq_true rfl) (Nat.zero_le _) (Nat.zero_le _) ?_
      refine x_iret rfl rfl d_Rm_stripWidth_72 (Nat.zero_le _) (Nat.zero_le _) ?_
      refine ⟨?_, rfl, rfl, rfl⟩
      rw [sw, hS, hd, SLf_in c34]
      show some (Value.int _) = some (Value.int (nI (min W (wdt q j y - a * W))))
      by_cases hlt : wdt q j y - a * W < W
      · rw [if_pos (nI_lt hlt (by omega)), Nat.min_eq_right (by omega)]
      · rw [if_neg (fun z => hlt (nI_lt' (by omega) (by omega) z)), Nat.min_eq_left (by omega)]
theorem ct_Rm_stripLength (hO : LayRm sh ρ) {i W y r : Nat} {q : Nat → Nat} (hG : GeoAt mem ρ i q) (hC : CovAt mem ρ i W y) (hr : r < 1000) : Ct l g M_Rm_stripLength [rf g ρ, .int (nI i), .int (nI r)] none sh mem (Pq (.int (nI (sl (SL q y W) r))) none sh mem) := by
  have hi := hG.1
  have h0 := hG.2.2.1
  have hm := hG.2.1.1.2.1
  have hW := hC.2.2.2
  refine x_begin rfl rfl rfl (by decide) rfl ?_
  refine x_iload_n d_Rm_stripLength_0 rfl ?_
  refine x_istore_n d_Rm_stripLength_1 (by decide) ?_
  refine x_aload_n d_Rm_stripLength_2 rfl ?_
  refine x_getR hO.f0 rfl fs_Rm_14 d_Rm_stripLength_3 ?_
  refine x_iload_n d_Rm_stripLength_6 rfl ?_
  refine x_v1p d_Rm_stripLength_7 ml_Rm_48 v_Rw_at rfl ⟨rfl, rfl⟩ (row_io hO.f1) (Nat.le_of_ble_eq_true rfl) (ct_Rw_at hO.f1 hO.f2 (by omega)) ?_
  rw [h0]
  refine x_istore d_Rm_stripLength_10 (by decide) ?_
  refine x_iconst (v := nI 0) d_Rm_stripLength_12 (by decide) ?_
  refine x_istore d_Rm_stripLength_13 (by decide) ?_
  refine up_ind (q 0) (P := fun j => ∀ (a : Nat) (v : Option Value), a < 1000 → (SL q y W)[r]? = (SLf q y W (q 0 - j) j)[a]? → X l g M_Rm_stripLength (XF g (Pq (.int (nI (sl (SL q y W) r))) none sh mem) M_Rm_stripLength) 15 [some (rf g ρ), some (.int (nI i)), some (.int (nI r)), some (.int (nI a)), some (.int (nI (q 0))), some (.int (nI j)), v] [] none sh mem 0 0) (fun j hj ih a v ha hS => ?_) 0 (Nat.zero_le _) r _ hr rfl
  refine x_iload d_Rm_stripLength_15 rfl ?_
  refine x_iload d_Rm_stripLength_17 rfl ?_
  refine x_icmp_ge (tgt := 64) d_Rm_stripLength_19 (by decide) (fun c19 => ?_) (fun c19 => ?_)
  · have hj2 : j = q 0 := by have := nI_le' (by omega) (by omega) c19; omega
    refine x_iconst (v := nI 0) d_Rm_stripLength_64 (by decide) ?_
    refine x_iret rfl rfl d_Rm_stripLength_65 (Nat.zero_le _) (Nat.zero_le _) ?_
    exact ⟨by rw [sl, hS, hj2, Nat.sub_self]; rfl, rfl, rfl, rfl⟩
  · have hj3 := nI_nle' (by omega) (by omega) c19
    have hmy := mny_le hG.2.1 hj3 hC.2.2.1 hC.2.2.2.1
    obtain ⟨d, hd⟩ : ∃ d, q 0 - j = d + 1 := ⟨q 0 - j - 1, by omega⟩
    refine x_aload_n d_Rm_stripLength_22 rfl ?_
    refine x_iload_n d_Rm_stripLength_23 rfl ?_
    refine x_iload d_Rm_stripLength_24 rfl ?_
    refine x_v2p d_Rm_stripLength_26 ml_Rm_83 v_Rm_stripsIn rfl ⟨rfl, rfl⟩ hO.io (Nat.le_of_ble_eq_true rfl) (ct_Rm_stripsIn hO hG hC hj3) ?_
    refine x_istore d_Rm_stripLength_29 (by decide) ?_
    refine x_iload_n d_Rm_stripLength_31 rfl ?_
    refine x_iload d_Rm_stripLength_32 rfl ?_
    refine x_icmp_ge (tgt := 53) d_Rm_stripLength_34 (by decide) (fun c34 => ?_) (fun c34 => ?_)
    · have c34 := nI_le' (by omega) (by omega) c34
      refine x_iload_n d_Rm_stripLength_53 rfl ?_
      refine x_iload d_Rm_stripLength_54 rfl ?_
      refine x_isub d_Rm_stripLength_56 ?_
      rw [pk_sub c34]
      refine x_istore_n d_Rm_stripLength_57 (by decide) ?_
      refine x_iinc d_Rm_stripLength_58 rfl (by first | exact inc1 _ | rfl) (by decide) ?_
      refine x_goto (tgt := 15) d_Rm_stripLength_61 (by decide) ?_
      exact ih hj3 (a - mny q j y W) _ (by omega) (by rw [hS, hd, SLf_out c34, show q 0 - (j + 1) = d by omega])
    · have c34 := nI_nle' (by omega) (by omega) c34
      refine x_aload_n d_Rm_stripLength_37 rfl ?_
      refine x_iload_n d_Rm_stripLength_38 rfl ?_
      refine x_iload d_Rm_stripLength_39 rfl ?_
      refine x_aload_n d_Rm_stripLength_41 rfl ?_
      refine x_getR hO.f0 rfl fs_Rm_35 d_Rm_stripLength_42 ?_
      refine x_iload_n d_Rm_stripLength_45 rfl ?_
      refine x_v1p d_Rm_stripLength_46 ml_Rm_48 v_Rw_at rfl ⟨rfl, rfl⟩ (row_io hO.f13) (Nat.le_of_ble_eq_true rfl) (ct_Rw_at hO.f13 hO.f14 (by omega)) ?_
      rw [hC.2.1]
      refine x_v3p d_Rm_stripLength_49 ml_Rm_86 v_Rm_rectangleLength rfl ⟨rfl, rfl⟩ hO.io (Nat.le_of_ble_eq_true rfl) (ct_Rm_rectangleLength hO hG hj3 hC.2.2.1) ?_
      refine x_iret rfl rfl d_Rm_stripLength_52 (Nat.zero_le _) (Nat.zero_le _) ?_
      exact ⟨by rw [sl, hS, hd, SLf_in c34]; rfl, rfl, rfl, rfl⟩
end
