/-! the acts of the counter -/
abbrev setI (k v : Int32) : Prop := (k = nI 0 ∧ inI v 0 2) ∨ (k = nI 1 ∧ inI v 1 20) ∨ (k = nI 2 ∧ inI v 0 99) ∨ (k = nI 3 ∧ inI v 1 9) ∨ (k = nI 4 ∧ inI v 0 1)
def spRoll (G : GS) (k w l p : Int32) : Int32 × GS := if (inI k 0 9 ∧ inI w 5 60) ∧ inI l 1 999 ∧ inI p 0 99 then (if 12 ≤ G.1 0 then (-3, G) else (nI (G.1 0), actG G (rollS G.1 (tN k) (tN w) (tN l) (tN p)))) else (-2, G)
def spCover (G : GS) (i r y : Int32) : Int32 × GS := if hasI i (G.1 2) ∧ hasI r (G.1 0) then (if inI y 0 1 then (if (coverS G.1 (tN i) (tN r) (tN y)).1 = 0 then (nI (priceS G.1 (tN i) (tN r) (tN y)), actG G (coverS G.1 (tN i) (tN r) (tN y)).2) else (errI (coverS G.1 (tN i) (tN r) (tN y)).1, G)) else (-2, G)) else (-1, G)
def spTakeUp (G : GS) (i : Int32) : Int32 × GS := if hasI i (G.1 2) then (if rq G.1 (tN i) 8 = 1 then (nI (liftS G.1 (tN i)).2, actG G (liftS G.1 (tN i)).1) else (-5, G)) else (-1, G)
def spSell (G : GS) (x : Int32) : Int32 × GS := if keptI G.1 x then (nI (oc G.1 (tN x) 1 * oc G.1 (tN x) 2 * ro G.1 (oc G.1 (tN x) 0 - 1) 3 / 2), actG G (sellS G.1 (tN x))) else (-1, G)
def spClear (G : GS) (r A : Int32) : Int32 × GS := if hasI r (G.1 0) then (if inI A 1 9999 then (if cnt (smK G.1 (tN r) (tN A)) (G.1 1) = 0 then (-5, G) else (nI (cnt (smK G.1 (tN r) (tN A)) (G.1 1)), actG G (clearS G.1 (tN r) (tN A)))) else (-2, G)) else (-1, G)
def spSet (G : GS) (k v : Int32) : Int32 × GS := if setI k v then (if tN v = G.1 (4 + tN k) then (-5, G) else (nI (G.1 (4 + tN k)), actG G (un G.1 (4 + tN k) (tN v)))) else (-2, G)
def spType (G : GS) (c : Nat) : Int32 × GS := if 60 ≤ G.2.2.2.length then (-3, G) else (nI (G.2.2.2.length + 1), (G.1, G.2.1, G.2.2.1, G.2.2.2 ++ [c]))
def spClearText (G : GS) : Int32 × GS := (nI G.2.2.2.length, (G.1, G.2.1, G.2.2.1, []))
def spFault (G : GS) : Int32 × GS := (readI (parseP G.2.2.2), G)
def spUndo (G : GS) : Int32 × GS := match G.2.1.getLast? with
  | none => (-5, G)
  | some R' => (nI (G.2.1.length - 1), (R', G.2.1.dropLast, G.2.2.1, G.2.2.2))
def spKeep (G : GS) : Int32 × GS := (nI (G.1 2), (G.1, G.2.1, some G.1, G.2.2.2))
def spRestore (G : GS) : Int32 × GS := match G.2.2.1 with
  | none => (-5, G)
  | some S => (nI (S 2), actG G S)
theorem setI_of {k v : Int32} (h : setI k v) : ∃ i j, i < 5 ∧ k = nI i ∧ v = nI j ∧ j ≤ 99 ∧ ((i = 0 ∧ j ≤ 2) ∨ (i = 1 ∧ 1 ≤ j ∧ j ≤ 20) ∨ (i = 2 ∧ j ≤ 99) ∨ (i = 3 ∧ 1 ≤ j ∧ j ≤ 9) ∨ (i = 4 ∧ j ≤ 1)) := by
  rcases h with ⟨h, q⟩ | ⟨h, q⟩ | ⟨h, q⟩ | ⟨h, q⟩ | ⟨h, q⟩ <;> obtain ⟨j, hj, e⟩ := inI_of (by omega) (by omega) q
  · exact ⟨0, j, by omega, h, e, by omega, by omega⟩
  · exact ⟨1, j, by omega, h, e, by omega, by omega⟩
  · exact ⟨2, j, by omega, h, e, by omega, by omega⟩
  · exact ⟨3, j, by omega, h, e, by omega, by omega⟩
  · exact ⟨4, j, by omega, h, e, by omega, by omega⟩
theorem sw_cases (x : Int32) {n : Nat} (hn : n < 2 ^ 31 - 1) : (∃ i, i ≤ n ∧ x = nI i) ∨ ((x.toInt < 0 ∨ (n : Int) < x.toInt) ∧ ¬ inI x 0 n) := by
  by_cases h : inI x 0 n
  · obtain ⟨i, h1, h2⟩ := inI_of (by omega) (by omega) h
    exact Or.inl ⟨i, h1.2, h2⟩
  · refine Or.inr ⟨?_, h⟩
    by_cases h0 : x < 0
    · exact Or.inl (Int32.lt_iff_toInt_lt.mp h0)
    · obtain ⟨j, h1, h2⟩ := nI_of h0
      subst h2
      rw [nI_toInt h1]
      by_cases hj : j ≤ n
      · exact absurd ⟨nI_pos' h1, nI_le hj (by omega)⟩ h
      · omega
theorem rng_no {x : Int32} {a b : Nat} (h : x < nI a ∨ nI b < x) : ¬ inI x a b := fun z => by
  rcases h with h | h
  · exact i_nle.mpr h z.1
  · exact i_nle.mpr h z.2
theorem rng_yes {x : Int32} {a b : Nat} (h1 : ¬ x < nI a) (h2 : ¬ nI b < x) : inI x a b := ⟨i_nlt.mp h1, i_nlt.mp h2⟩
section
variable {l : Launch} {g : XG} {sh : Nat → Sh} {mem : Mem}
theorem ct_Cc_isKind {x : Int32} : Ct l g M_Cc_isKind [.int x] none sh mem (Pq (.int (bI (inI x 0 9))) none sh mem) := by
  refine x_begin rfl rfl rfl (by decide) rfl ?_
  refine x_iload_n d_Cc_isKind_0 rfl ?_
  refine x_if_lt (tgt := 14) d_Cc_isKind_1 (by decide) (fun c1 => ?_) (fun c1 => ?_)
  · rw [bI_f (rng_no (Or.inl c1))]
    refine x_iconst (v := nI 0) d_Cc_isKind_14 (by decide) ?_
    refine x_iret rfl (by decide) d_Cc_isKind_15 (Nat.zero_le _) (Nat.zero_le _) ?_
    exact ⟨rfl, rfl, rfl, rfl⟩
  · refine x_iload_n d_Cc_isKind_4 rfl ?_
    refine x_bipush (v := nI 9) d_Cc_isKind_5 (by decide) ?_
    refine x_icmp_gt (tgt := 14) d_Cc_isKind_7 (by decide) (fun c7 => ?_) (fun c7 => ?_)
    · rw [bI_f (rng_no (Or.inr c7))]
      refine x_iconst (v := nI 0) d_Cc_isKind_14 (by decide) ?_
      refine x_iret rfl (by decide) d_Cc_isKind_15 (Nat.zero_le _) (Nat.zero_le _) ?_
      exact ⟨rfl, rfl, rfl, rfl⟩
    · rw [bI_t (rng_yes c1 c7)]
      refine x_iconst (v := nI 1) d_Cc_isKind_10 (by decide) ?_
      refine x_goto (tgt := 15) d_Cc_isKind_11 (by decide) ?_
      refine x_iret rfl (by decide) d_Cc_isKind_15 (Nat.zero_le _) (Nat.zero_le _) ?_
      exact ⟨rfl, rfl, rfl, rfl⟩
theorem ct_Cc_isWay {x : Int32} : Ct l g M_Cc_isWay [.int x] none sh mem (Pq (.int (bI (inI x 0 1))) none sh mem) := by
  refine x_begin rfl rfl rfl (by decide) rfl ?_
  refine x_iload_n d_Cc_isWay_0 rfl ?_
  refine x_if_eq (tgt := 9) d_Cc_isWay_1 (by decide) (fun c1 => ?_) (fun c1 => ?_)
  · rw [bI_t (show inI x 0 1 by rw [c1]; decide)]
    refine x_iconst (v := nI 1) d_Cc_isWay_9 (by decide) ?_
    refine x_goto (tgt := 14) d_Cc_isWay_10 (by decide) ?_
    refine x_iret rfl (by decide) d_Cc_isWay_14 (Nat.zero_le _) (Nat.zero_le _) ?_
    exact ⟨rfl, rfl, rfl, rfl⟩
  · refine x_iload_n d_Cc_isWay_4 rfl ?_
    refine x_iconst (v := nI 1) d_Cc_isWay_5 (by decide) ?_
    refine x_icmp_ne (tgt := 13) d_Cc_isWay_6 (by decide) (fun c6 => ?_) (fun c6 => ?_)
    · rw [bI_f (show ¬ inI x 0 1 from fun z => by obtain ⟨i, h, rfl⟩ := inI_of (by omega) (by omega) z; rcases (show i = 0 ∨ i = 1 by omega) with rfl | rfl; exact c1 rfl; exact c6 rfl)]
      refine x_iconst (v := nI 0) d_Cc_isWay_13 (by decide) ?_
      refine x_iret rfl (by decide) d_Cc_isWay_14 (Nat.zero_le _) (Nat.zero_le _) ?_
      exact ⟨rfl, rfl, rfl, rfl⟩
    · rw [bI_t (show inI x 0 1 by rw [c6]; decide)]
      refine x_iconst (v := nI 1) d_Cc_isWay_9 (by decide) ?_
      refine x_goto (tgt := 14) d_Cc_isWay_10 (by decide) ?_
      refine x_iret rfl (by decide) d_Cc_isWay_14 (Nat.zero_le _) (Nat.zero_le _) ?_
      exact ⟨rfl, rfl, rfl, rfl⟩
theorem ct_Cc_isSetting {k v : Int32} : Ct l g M_Cc_isSetting [.int k, .int v] none sh mem (Pq (.int (bI (setI k v))) none sh mem) := by
  refine x_begin rfl rfl rfl (by decide) rfl ?_
  have e : ∀ (i a b : Nat), i < 5 → (∀ w, setI (nI i) w → inI w a b) → (∀ w, inI w a b → setI (nI i) w) → bI (setI (nI i) v) = bI (inI v a b) := fun i a b _ h1 h2 => bI_c ⟨h1 v, h2 v⟩
  refine x_iload_n d_Cc_isSetting_0 rfl ?_
  rcases sw_cases k (n := 4) (by omega) with ⟨i, hi, rfl⟩ | ⟨ho, hn⟩
  · rcases (show i = 0 ∨ i = 1 ∨ i = 2 ∨ i = 3 ∨ i = 4 by omega) with rfl | rfl | rfl | rfl | rfl
    · refine x_tableIn (off := 35) (tgt := 36) d_Cc_isSetting_1 (by decide) (by decide) (by decide) (by decide) ?_
      rw [e 0 0 2 (by omega) (fun w h => by rcases h with ⟨h, q⟩ | ⟨h, q⟩ | ⟨h, q⟩ | ⟨h, q⟩ | ⟨h, q⟩ <;> first | exact absurd h (by decide) | exact q) (fun w q => Or.inl ⟨rfl, q⟩)]
      refine x_iload_n d_Cc_isSetting_36 rfl ?_
      refine x_if_lt (tgt := 49) d_Cc_isSetting_37 (by decide) (fun c37 => ?_) (fun c37 => ?_)
      · rw [bI_f (rng_no (Or.inl c37))]
        refine x_iconst (v := nI 0) d_Cc_isSetting_49 (by decide) ?_
        refine x_iret rfl (by decide) d_Cc_isSetting_50 (Nat.zero_le _) (Nat.zero_le _) ?_
        exact ⟨rfl, rfl, rfl, rfl⟩
      · refine x_iload_n d_Cc_isSetting_40 rfl ?_
        refine x_iconst (v := nI 2) d_Cc_isSetting_41 (by decide) ?_
        refine x_icmp_gt (tgt := 49) d_Cc_isSetting_42 (by decide) (fun c42 => ?_) (fun c42 => ?_)
        · rw [bI_f (rng_no (Or.inr c42))]
          refine x_iconst (v := nI 0) d_Cc_isSetting_49 (by decide) ?_
          refine x_iret rfl (by decide) d_Cc_isSetting_50 (Nat.zero_le _) (Nat.zero_le _) ?_
          exact ⟨rfl, rfl, rfl, rfl⟩
        · rw [bI_t (rng_yes c37 c42)]
          refine x_iconst (v := nI 1) d_Cc_isSetting_45 (by decide) ?_
          refine x_goto (tgt := 50) d_Cc_isSetting_46 (by decide) ?_
          refine x_iret rfl (by decide) d_Cc_isSetting_50 (Nat.zero_le _) (Nat.zero_le _) ?_
          exact ⟨rfl, rfl, rfl, rfl⟩
    · refine x_tableIn (off := 50) (tgt := 51) d_Cc_isSetting_1 (by decide) (by decide) (by decide) (by decide) ?_
      rw [e 1 1 20 (by omega) (fun w h => by rcases h with ⟨h, q⟩ | ⟨h, q⟩ | ⟨h, q⟩ | ⟨h, q⟩ | ⟨h, q⟩ <;> first | exact absurd h (by decide) | exact q) (fun w q => Or.inr (Or.inl ⟨rfl, q⟩))]
      refine x_iload_n d_Cc_isSetting_51 rfl ?_
      refine x_iconst (v := nI 1) d_Cc_isSetting_52 (by decide) ?_
      refine x_icmp_lt (tgt := 66) d_Cc_isSetting_53 (by decide) (fun c53 => ?_) (fun c53 => ?_)
      · rw [bI_f (rng_no (Or.inl c53))]
        refine x_iconst (v := nI 0) d_Cc_isSetting_66 (by decide) ?_
        refine x_iret rfl (by decide) d_Cc_isSetting_67 (Nat.zero_le _) (Nat.zero_le _) ?_
        exact ⟨rfl, rfl, rfl, rfl⟩
      · refine x_iload_n d_Cc_isSetting_56 rfl ?_
        refine x_bipush (v := nI 20) d_Cc_isSetting_57 (by decide) ?_
        refine x_icmp_gt (tgt := 66) d_Cc_isSetting_59 (by decide) (fun c59 => ?_) (fun c59 => ?_)
        · rw [bI_f (rng_no (Or.inr c59))]
          refine x_iconst (v := nI 0) d_Cc_isSetting_66 (by decide) ?_
          refine x_iret rfl (by decide) d_Cc_isSetting_67 (Nat.zero_le _) (Nat.zero_le _) ?_
          exact ⟨rfl, rfl, rfl, rfl⟩
        · rw [bI_t (rng_yes c53 c59)]
          refine x_iconst (v := nI 1) d_Cc_isSetting_62 (by decide) ?_
          refine x_goto (tgt := 67) d_Cc_isSetting_63 (by decide) ?_
          refine x_iret rfl (by decide) d_Cc_isSetting_67 (Nat.zero_le _) (Nat.zero_le _) ?_
          exact ⟨rfl, rfl, rfl, rfl⟩
    · refine x_tableIn (off := 67) (tgt := 68) d_Cc_isSetting_1 (by decide) (by decide) (by decide) (by decide) ?_
      rw [e 2 0 99 (by omega) (fun w h => by rcases h with ⟨h, q⟩ | ⟨h, q⟩ | ⟨h, q⟩ | ⟨h, q⟩ | ⟨h, q⟩ <;> first | exact absurd h (by decide) | exact q) (fun w q => Or.inr (Or.inr (Or.inl ⟨rfl, q⟩)))]
      refine x_iload_n d_Cc_isSetting_68 rfl ?_
      refine x_if_lt (tgt := 82) d_Cc_isSetting_69 (by decide) (fun c69 => ?_) (fun c69 => ?_)
      · rw [bI_f (rng_no (Or.inl c69))]
        refine x_iconst (v := nI 0) d_Cc_isSetting_82 (by decide) ?_
        refine x_iret rfl (by decide) d_Cc_isSetting_83 (Nat.zero_le _) (Nat.zero_le _) ?_
        exact ⟨rfl, rfl, rfl, rfl⟩
      · refine x_iload_n d_Cc_isSetting_72 rfl ?_
        refine x_bipush (v := nI 99) d_Cc_isSetting_73 (by decide) ?_
        refine x_icmp_gt (tgt := 82) d_Cc_isSetting_75 (by decide) (fun c75 => ?_) (fun c75 => ?_)
        · rw [bI_f (rng_no (Or.inr c75))]
          refine x_iconst (v := nI 0) d_Cc_isSetting_82 (by decide) ?_
          refine x_iret rfl (by decide) d_Cc_isSetting_83 (Nat.zero_le _) (Nat.zero_le _) ?_
          exact ⟨rfl, rfl, rfl, rfl⟩
        · rw [bI_t (rng_yes c69 c75)]
          refine x_iconst (v := nI 1) d_Cc_isSetting_78 (by decide) ?_
          refine x_goto (tgt := 83) d_Cc_isSetting_79 (by decide) ?_
          refine x_iret rfl (by decide) d_Cc_isSetting_83 (Nat.zero_le _) (Nat.zero_le _) ?_
          exact ⟨rfl, rfl, rfl, rfl⟩
    · refine x_tableIn (off := 83) (tgt := 84) d_Cc_isSetting_1 (by decide) (by decide) (by decide) (by decide) ?_
      rw [e 3 1 9 (by omega) (fun w h => by rcases h with ⟨h, q⟩ | ⟨h, q⟩ | ⟨h, q⟩ | ⟨h, q⟩ | ⟨h, q⟩ <;> first | exact absurd h (by decide) | exact q) (fun w q => Or.inr (Or.inr (Or.inr (Or.inl ⟨rfl, q⟩))))]
      refine x_iload_n d_Cc_isSetting_84 rfl ?_
      refine x_iconst (v := nI 1) d_Cc_isSetting_85 (by decide) ?_
      refine x_icmp_lt (tgt := 99) d_Cc_isSetting_86 (by decide) (fun c86 => ?_) (fun c86 => ?_)
      · rw [bI_f (rng_no (Or.inl c86))]
        refine x_iconst (v := nI 0) d_Cc_isSetting_99 (by decide) ?_
        refine x_iret rfl (by decide) d_Cc_isSetting_100 (Nat.zero_le _) (Nat.zero_le _) ?_
        exact ⟨rfl, rfl, rfl, rfl⟩
      · refine x_iload_n d_Cc_isSetting_89 rfl ?_
        refine x_bipush (v := nI 9) d_Cc_isSetting_90 (by decide) ?_
        refine x_icmp_gt (tgt := 99) d_Cc_isSetting_92 (by decide) (fun c92 => ?_) (fun c92 => ?_)
        · rw [bI_f (rng_no (Or.inr c92))]
          refine x_iconst (v := nI 0) d_Cc_isSetting_99 (by decide) ?_
          refine x_iret rfl (by decide) d_Cc_isSetting_100 (Nat.zero_le _) (Nat.zero_le _) ?_
          exact ⟨rfl, rfl, rfl, rfl⟩
        · rw [bI_t (rng_yes c86 c92)]
          refine x_iconst (v := nI 1) d_Cc_isSetting_95 (by decide) ?_
          refine x_goto (tgt := 100) d_Cc_isSetting_96 (by decide) ?_
          refine x_iret rfl (by decide) d_Cc_isSetting_100 (Nat.zero_le _) (Nat.zero_le _) ?_
          exact ⟨rfl, rfl, rfl, rfl⟩
    · refine x_tableIn (off := 100) (tgt := 101) d_Cc_isSetting_1 (by decide) (by decide) (by decide) (by decide) ?_
      rw [e 4 0 1 (by omega) (fun w h => by rcases h with ⟨h, q⟩ | ⟨h, q⟩ | ⟨h, q⟩ | ⟨h, q⟩ | ⟨h, q⟩ <;> first | exact absurd h (by decide) | exact q) (fun w q => Or.inr (Or.inr (Or.inr (Or.inr ⟨rfl, q⟩))))]
      refine x_iload_n d_Cc_isSetting_101 rfl ?_
      refine x_if_eq (tgt := 110) d_Cc_isSetting_102 (by decide) (fun c102 => ?_) (fun c102 => ?_)
      · rw [bI_t (show inI v 0 1 by rw [c102]; decide)]
        refine x_iconst (v := nI 1) d_Cc_isSetting_110 (by decide) ?_
        refine x_goto (tgt := 115) d_Cc_isSetting_111 (by decide) ?_
        refine x_iret rfl (by decide) d_Cc_isSetting_115 (Nat.zero_le _) (Nat.zero_le _) ?_
        exact ⟨rfl, rfl, rfl, rfl⟩
      · refine x_iload_n d_Cc_isSetting_105 rfl ?_
        refine x_iconst (v := nI 1) d_Cc_isSetting_106 (by decide) ?_
        refine x_icmp_ne (tgt := 114) d_Cc_isSetting_107 (by decide) (fun c107 => ?_) (fun c107 => ?_)
        · rw [bI_f (show ¬ inI v 0 1 from fun z => by obtain ⟨i, h, rfl⟩ := inI_of (by omega) (by omega) z; rcases (show i = 0 ∨ i = 1 by omega) with rfl | rfl; exact c102 rfl; exact c107 rfl)]
          refine x_iconst (v := nI 0) d_Cc_isSetting_114 (by decide) ?_
          refine x_iret rfl (by decide) d_Cc_isSetting_115 (Nat.zero_le _) (Nat.zero_le _) ?_
          exact ⟨rfl, rfl, rfl, rfl⟩
        · rw [bI_t (show inI v 0 1 by rw [c107]; decide)]
          refine x_iconst (v := nI 1) d_Cc_isSetting_110 (by decide) ?_
          refine x_goto (tgt := 115) d_Cc_isSetting_111 (by decide) ?_
          refine x_iret rfl (by decide) d_Cc_isSetting_115 (Nat.zero_le _) (Nat.zero_le _) ?_
          exact ⟨rfl, rfl, rfl, rfl⟩
  · rw [bI_f (show ¬ setI k v from fun z => by obtain ⟨i, j, h1, rfl, -⟩ := setI_of z; exact hn ⟨nI_pos' (by omega), nI_le (by omega) (by omega)⟩)]
    refine x_tableOut (tgt := 116) d_Cc_isSetting_1 ho (by decide) ?_
    refine x_iconst (v := nI 0) d_Cc_isSetting_116 (by decide) ?_
    refine x_iret rfl (by decide) d_Cc_isSetting_117 (Nat.zero_le _) (Nat.zero_le _) ?_
    exact ⟨rfl, rfl, rfl, rfl⟩
end
