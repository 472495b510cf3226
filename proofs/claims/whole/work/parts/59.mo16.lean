/-! the reference: type -/
section
variable {l : Launch} {g : XG} {sh : Nat → Sh} {mem : Mem} {μ : Nat} {G : GS}
theorem ct_Mo_type (hM : LayMo sh μ) (hC : MR mem μ G) {c : Nat} (hc : c < 65536) : Ct l g M_Mo_type [rf g μ, .int (nI c)] none sh mem (Ri none sh (MP μ mem (spType G c))) := by
  obtain ⟨hI, hn, hh, ht, hs⟩ := id hC
  obtain ⟨t1, t2, t3⟩ := id ht
  refine x_begin rfl rfl rfl (by decide) rfl ?_
  refine x_aload_n d_Mo_type_0 rfl ?_
  refine x_getI hM.f0 rfl fs_Mo_175 d_Mo_type_1 ?_
  rw [t2]
  refine x_bipush (v := nI 60) d_Mo_type_4 (by decide) ?_
  refine x_icmp_ne (tgt := 12) d_Mo_type_6 (by decide) (fun c6 => ?_) (fun c6 => ?_)
  · have c6 := nI_ne' c6
    rw [show spType G c = (nI (G.2.2.2.length + 1), (G.1, G.2.1, G.2.2.1, G.2.2.2 ++ [c])) from if_neg (by omega)]
    refine x_aload_n d_Mo_type_12 rfl ?_
    refine x_getR hM.f0 rfl fs_Mo_25 d_Mo_type_13 ?_
    refine x_aload_n d_Mo_type_16 rfl ?_
    refine x_getI hM.f0 rfl fs_Mo_175 d_Mo_type_17 ?_
    rw [t2]
    refine x_iload_n d_Mo_type_20 rfl ?_
    refine x_iast hM.f6 (vp_in_nI (by omega) (by omega)) d_Mo_type_21 ?_
    rw [nI_clamp (by omega)]
    refine x_aload_n d_Mo_type_22 rfl ?_
    refine x_dup d_Mo_type_23 rfl ?_
    refine x_getI hM.f0 rfl fs_Mo_175 d_Mo_type_24 ?_
    rw [um_ne _ _ _ (by omega), t2]
    refine x_iconst (v := nI 1) d_Mo_type_27 (by decide) ?_
    refine x_iadd d_Mo_type_28 ?_
    rw [nI_add]
    refine x_putI hM.f0 rfl ps_Mo_175 rfl rfl d_Mo_type_29 ?_
    refine x_aload_n d_Mo_type_32 rfl ?_
    refine x_getI hM.f0 rfl fs_Mo_175 d_Mo_type_33 ?_
    rw [um_eq]
    refine x_iret rfl rfl d_Mo_type_36 (Nat.zero_le _) (Nat.zero_le _) ?_
    have hne : ∀ o, o ≠ μ → o ≠ μ + 6 → um (um mem (μ + 6) G.2.2.2.length (nI c)) μ 9 (nI (G.2.2.2.length + 1)) o = mem o := fun o h1 h2 => by rw [um_ne _ _ _ h1, um_ne _ _ _ h2]
    have hk : ∀ k, k ≠ 9 → um (um mem (μ + 6) G.2.2.2.length (nI c)) μ 9 (nI (G.2.2.2.length + 1)) μ k = mem μ k := fun k hk => by rw [um_k _ _ hk, um_ne _ _ _ (by omega)]
    have hS : MSnap (um (um mem (μ + 6) G.2.2.2.length (nI c)) μ 9 (nI (G.2.2.2.length + 1))) μ G.2.2.1 := by
      cases hS : G.2.2.1 with
      | none => rw [hS] at hs; exact (hk 10 (by omega)).trans hs
      | some S =>
        rw [hS] at hs
        exact ⟨(hk 10 (by omega)).trans hs.1, hs.2.1, hs.2.2.mv (hne _ (by omega) (by omega))⟩
    refine ⟨_, rfl, rfl, rfl, rfl, ⟨hI, hn.mv (hne _ (by omega) (by omega)), ⟨hh.1, (hk 8 (by omega)).trans hh.2.1, fun t R1 ht1 => ⟨(hh.2.2 t R1 ht1).1, fun x hx => by rw [hne _ (by omega) (by omega)]; exact (hh.2.2 t R1 ht1).2 x hx⟩⟩, ⟨by rw [List.length_append, List.length_singleton]; omega, by rw [um_eq, List.length_append, List.length_singleton], fun i c2 hi => ?_⟩, hS⟩, fun o ho => hne o (by omega) (by omega)⟩
    rw [um_ne _ _ _ (by omega)]
    by_cases hil : i < G.2.2.2.length
    · rw [um_k _ _ (by omega)]
      exact t3 i c2 (by rw [← hi]; exact (List.getElem?_append_left hil).symm)
    · have hil2 := (List.getElem?_eq_some_iff.mp hi).1
      rw [List.length_append, List.length_singleton] at hil2
      have hie : i = G.2.2.2.length := by omega
      subst hie
      have hi : (G.2.2.2 ++ [c])[G.2.2.2.length]? = some c2 := hi
      rw [List.getElem?_append_right (Nat.le_refl _), Nat.sub_self] at hi
      cases hi
      rw [um_eq]
      exact ⟨rfl, hc⟩
  · have c6 := nI_eq' (by omega) (by omega) c6
    rw [show spType G c = (-3, G) from if_pos (by omega)]
    refine x_bipush (v := -3) d_Mo_type_9 (by decide) ?_
    refine x_iret rfl rfl d_Mo_type_11 (Nat.zero_le _) (Nat.zero_le _) ?_
    exact ⟨_, rfl, rfl, rfl, rfl, hC, Fr.rf⟩
end
