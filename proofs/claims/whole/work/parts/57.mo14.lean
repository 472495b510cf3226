/-! the reference: a setting -/
section
variable {l : Launch} {g : XG} {sh : Nat → Sh} {mem : Mem} {μ : Nat} {G : GS}
theorem ct_Mo_most {k : Nat} (hk : k < 5) : Ct l g M_Mo_most [.int (nI k)] none sh mem (Pq (.int (nI (if k = 0 then 2 else if k = 1 then 20 else if k = 2 then 99 else if k = 3 then 9 else 1))) none sh mem) := by
  refine x_begin rfl rfl rfl (by decide) rfl ?_
  refine x_iload_n d_Mo_most_0 rfl ?_
  refine x_if_ne (tgt := 8) d_Mo_most_1 (by decide) (fun c1 => ?_) (fun c1 => ?_)
  · have c1 : k ≠ 0 := fun z => c1 (by rw [z]; rfl)
    rw [if_neg c1]
    refine x_iload_n d_Mo_most_8 rfl ?_
    refine x_iconst (v := nI 1) d_Mo_most_9 (by decide) ?_
    refine x_icmp_ne (tgt := 18) d_Mo_most_10 (by decide) (fun c10 => ?_) (fun c10 => ?_)
    · rw [if_neg (nI_ne' c10)]
      refine x_iload_n d_Mo_most_18 rfl ?_
      refine x_iconst (v := nI 2) d_Mo_most_19 (by decide) ?_
      refine x_icmp_ne (tgt := 28) d_Mo_most_20 (by decide) (fun c20 => ?_) (fun c20 => ?_)
      · rw [if_neg (nI_ne' c20)]
        refine x_iload_n d_Mo_most_28 rfl ?_
        refine x_iconst (v := nI 3) d_Mo_most_29 (by decide) ?_
        refine x_icmp_ne (tgt := 38) d_Mo_most_30 (by decide) (fun c30 => ?_) (fun c30 => ?_)
        · rw [if_neg (nI_ne' c30)]
          refine x_iconst (v := nI 1) d_Mo_most_38 (by decide) ?_
          refine x_iret rfl rfl d_Mo_most_39 (Nat.zero_le _) (Nat.zero_le _) ?_
          exact ⟨rfl, rfl, rfl, rfl⟩
        · rw [if_pos (nI_eq' (by omega) (by omega) c30)]
          refine x_bipush (v := nI 9) d_Mo_most_33 (by decide) ?_
          refine x_goto (tgt := 39) d_Mo_most_35 (by decide) ?_
          refine x_iret rfl rfl d_Mo_most_39 (Nat.zero_le _) (Nat.zero_le _) ?_
          exact ⟨rfl, rfl, rfl, rfl⟩
      · rw [if_pos (nI_eq' (by omega) (by omega) c20)]
        refine x_bipush (v := nI 99) d_Mo_most_23 (by decide) ?_
        refine x_goto (tgt := 39) d_Mo_most_25 (by decide) ?_
        refine x_iret rfl rfl d_Mo_most_39 (Nat.zero_le _) (Nat.zero_le _) ?_
        exact ⟨rfl, rfl, rfl, rfl⟩
    · rw [if_pos (nI_eq' (by omega) (by omega) c10)]
      refine x_bipush (v := nI 20) d_Mo_most_13 (by decide) ?_
      refine x_goto (tgt := 39) d_Mo_most_15 (by decide) ?_
      refine x_iret rfl rfl d_Mo_most_39 (Nat.zero_le _) (Nat.zero_le _) ?_
      exact ⟨rfl, rfl, rfl, rfl⟩
  · have c1 := nI_eq' (b := 0) (by omega) (by omega) c1
    rw [if_pos c1]
    refine x_iconst (v := nI 2) d_Mo_most_4 (by decide) ?_
    refine x_goto (tgt := 39) d_Mo_most_5 (by decide) ?_
    refine x_iret rfl rfl d_Mo_most_39 (Nat.zero_le _) (Nat.zero_le _) ?_
    exact ⟨rfl, rfl, rfl, rfl⟩
end
