/-! what the constructors make: the reference -/
def valMo (i k : Nat) : Int32 := if i = 1 then (if k = 5 then nI 3 else if k = 6 then nI 2 else if k = 7 then nI 3 else 0) else 0
section
variable {l : Launch} {g : XG} {sh : Nat → Sh} {mem : Mem} {o : Nat}
theorem new_arr {o na : Nat} {sh1 : Nat → Sh} {mem1 : Mem} : NwR (fun _ _ => .inr (.inl na)) zv 1 o (us sh1 o (.inr (.inl na))) (zm mem1 o) (us sh1 o (.inr (.inl na))) (zm mem1 o) := ⟨fun i hi => by rw [show i = 0 by omega]; exact us_at _ _ _, fun _ _ => rfl, fun i hi k => by rw [show i = 0 by omega, Nat.add_zero, zm_at]; rfl, fun _ _ => rfl⟩
theorem ct_Mo_init (h0 : sh o = .inl (9, [some none, some none, some none, some none, some none, some none, some none, none, none, none, none, none, none, none, none])) (hm : ∀ k, mem o k = 0) : Ct l g M_Mo_init [rf g o] (some (o + 1)) sh mem (NwQ lay_Mo valMo 8 o sh mem) := by
  refine x_begin rfl rfl rfl (by decide) rfl ?_
  have b0 := Bd.start (lay := lay_Mo) (val := zv) h0 hm
  refine x_aload_n d_Mo_init_0 rfl ?_
  refine x_objInit ml_Mo_1 j_obj1 j_obj2 d_Mo_init_1 (by decide) (by decide) ?_
  refine x_aload_n d_Mo_init_4 rfl ?_
  refine x_sipush (v := nI 1953) d_Mo_init_5 (by decide) ?_
  refine x_newa (na := 1953) ac_int (by decide) (by decide) (by decide) d_Mo_init_8 (by decide) (by decide) ?_
  refine x_putR (b0.at (by omega) new_arr) rfl ps_Mo_7 (fun _ => rfl) (fun _ => rfl) rfl d_Mo_init_10 ?_
  have b1 := b0.part (by omega) (by omega) (new_arr (na := 1953)) (fun i hi => by rw [show i = 0 by omega]; rfl) (fun i hi k => rfl) ([some none, some none, some none, some none, some none, some none, some none, none, none, none, none, none, none, none, none].set 0 (some (some (o + 1))))
  refine x_aload_n d_Mo_init_13 rfl ?_
  refine x_sipush (v := nI 1953) d_Mo_init_14 (by decide) ?_
  refine x_newa (na := 1953) ac_int (by decide) (by decide) (by decide) d_Mo_init_17 (by decide) (by decide) ?_
  refine x_putR (b1.at (by omega) new_arr) rfl ps_Mo_13 (fun _ => rfl) (fun _ => rfl) rfl d_Mo_init_19 ?_
  have b2 := b1.part (by omega) (by omega) (new_arr (na := 1953)) (fun i hi => by rw [show i = 0 by omega]; rfl) (fun i hi k => rfl) (([some none, some none, some none, some none, some none, some none, some none, none, none, none, none, none, none, none, none].set 0 (some (some (o + 1)))).set 1 (some (some (o + 2))))
  refine x_aload_n d_Mo_init_22 rfl ?_
  refine x_sipush (v := nI 1953) d_Mo_init_23 (by decide) ?_
  refine x_newa (na := 1953) ac_int (by decide) (by decide) (by decide) d_Mo_init_26 (by decide) (by decide) ?_
  refine x_putR (b2.at (by omega) new_arr) rfl ps_Mo_16 (fun _ => rfl) (fun _ => rfl) rfl d_Mo_init_28 ?_
  have b3 := b2.part (by omega) (by omega) (new_arr (na := 1953)) (fun i hi => by rw [show i = 0 by omega]; rfl) (fun i hi k => rfl) ((([some none, some none, some none, some none, some none, some none, some none, none, none, none, none, none, none, none, none].set 0 (some (some (o + 1)))).set 1 (some (some (o + 2)))).set 2 (some (some (o + 3))))
  refine x_aload_n d_Mo_init_31 rfl ?_
  refine x_sipush (v := nI 1953) d_Mo_init_32 (by decide) ?_
  refine x_newa (na := 1953) ac_int (by decide) (by decide) (by decide) d_Mo_init_35 (by decide) (by decide) ?_
  refine x_putR (b3.at (by omega) new_arr) rfl ps_Mo_19 (fun _ => rfl) (fun _ => rfl) rfl d_Mo_init_37 ?_
  have b4 := b3.part (by omega) (by omega) (new_arr (na := 1953)) (fun i hi => by rw [show i = 0 by omega]; rfl) (fun i hi k => rfl) (((([some none, some none, some none, some none, some none, some none, some none, none, none, none, none, none, none, none, none].set 0 (some (some (o + 1)))).set 1 (some (some (o + 2)))).set 2 (some (some (o + 3)))).set 3 (some (some (o + 4))))
  refine x_aload_n d_Mo_init_40 rfl ?_
  refine x_sipush (v := nI 7812) d_Mo_init_41 (by decide) ?_
  refine x_newa (na := 7812) ac_int (by decide) (by decide) (by decide) d_Mo_init_44 (by decide) (by decide) ?_
  refine x_putR (b4.at (by omega) new_arr) rfl ps_Mo_22 (fun _ => rfl) (fun _ => rfl) rfl d_Mo_init_46 ?_
  have b5 := b4.part (by omega) (by omega) (new_arr (na := 7812)) (fun i hi => by rw [show i = 0 by omega]; rfl) (fun i hi k => rfl) ((((([some none, some none, some none, some none, some none, some none, some none, none, none, none, none, none, none, none, none].set 0 (some (some (o + 1)))).set 1 (some (some (o + 2)))).set 2 (some (some (o + 3)))).set 3 (some (some (o + 4)))).set 4 (some (some (o + 5))))
  refine x_aload_n d_Mo_init_49 rfl ?_
  refine x_bipush (v := nI 60) d_Mo_init_50 (by decide) ?_
  refine x_newa (na := 60) ac_int (by decide) (by decide) (by decide) d_Mo_init_52 (by decide) (by decide) ?_
  refine x_putR (b5.at (by omega) new_arr) rfl ps_Mo_25 (fun _ => rfl) (fun _ => rfl) rfl d_Mo_init_54 ?_
  have b6 := b5.part (by omega) (by omega) (new_arr (na := 60)) (fun i hi => by rw [show i = 0 by omega]; rfl) (fun i hi k => rfl) (((((([some none, some none, some none, some none, some none, some none, some none, none, none, none, none, none, none, none, none].set 0 (some (some (o + 1)))).set 1 (some (some (o + 2)))).set 2 (some (some (o + 3)))).set 3 (some (some (o + 4)))).set 4 (some (some (o + 5)))).set 5 (some (some (o + 6))))
  refine x_aload_n d_Mo_init_57 rfl ?_
  refine x_bipush (v := nI 8) d_Mo_init_58 (by decide) ?_
  refine x_newa (na := 8) ac_int (by decide) (by decide) (by decide) d_Mo_init_60 (by decide) (by decide) ?_
  refine x_putR (b6.at (by omega) new_arr) rfl ps_Mo_28 (fun _ => rfl) (fun _ => rfl) rfl d_Mo_init_62 ?_
  have b7 := b6.part (by omega) (by omega) (new_arr (na := 8)) (fun i hi => by rw [show i = 0 by omega]; rfl) (fun i hi k => rfl) ((((((([some none, some none, some none, some none, some none, some none, some none, none, none, none, none, none, none, none, none].set 0 (some (some (o + 1)))).set 1 (some (some (o + 2)))).set 2 (some (some (o + 3)))).set 3 (some (some (o + 4)))).set 4 (some (some (o + 5)))).set 5 (some (some (o + 6)))).set 6 (some (some (o + 7))))
  obtain ⟨-, -, f3, f4, f5, f6⟩ := b7.fin rfl (fun _ => rfl)
  revert f3 f4 f5 f6
  generalize us _ o (.inl (9, ((((((([some none, some none, some none, some none, some none, some none, some none, none, none, none, none, none, none, none, none].set 0 (some (some (o + 1)))).set 1 (some (some (o + 2)))).set 2 (some (some (o + 3)))).set 3 (some (some (o + 4)))).set 4 (some (some (o + 5)))).set 5 (some (some (o + 6)))).set 6 (some (some (o + 7)))))) = SH
  generalize zm _ (o + 7) = m7
  intro f3 f4 f5 f6
  have hB : LayMo SH o := f3
  refine x_aload_n d_Mo_init_65 rfl ?_
  refine x_getR hB.f0 rfl fs_Mo_7 d_Mo_init_66 ?_
  refine x_iconst (v := nI 5) d_Mo_init_69 (by decide) ?_
  refine x_iconst (v := nI 3) d_Mo_init_70 (by decide) ?_
  refine x_iast hB.f1 (vp_in_nI (by omega) (by omega)) d_Mo_init_71 ?_
  refine x_aload_n d_Mo_init_72 rfl ?_
  refine x_getR hB.f0 rfl fs_Mo_7 d_Mo_init_73 ?_
  refine x_bipush (v := nI 6) d_Mo_init_76 (by decide) ?_
  refine x_iconst (v := nI 2) d_Mo_init_78 (by decide) ?_
  refine x_iast hB.f1 (vp_in_nI (by omega) (by omega)) d_Mo_init_79 ?_
  refine x_aload_n d_Mo_init_80 rfl ?_
  refine x_getR hB.f0 rfl fs_Mo_7 d_Mo_init_81 ?_
  refine x_bipush (v := nI 7) d_Mo_init_84 (by decide) ?_
  refine x_iconst (v := nI 3) d_Mo_init_86 (by decide) ?_
  refine x_iast hB.f1 (vp_in_nI (by omega) (by omega)) d_Mo_init_87 ?_
  refine x_vret rfl d_Mo_init_88 (by decide) (by decide) ?_
  rw [nI_clamp (by omega), nI_clamp (by omega), nI_clamp (by omega)]
  refine ⟨rfl, rfl, f3, f4, fun i hi k => ?_, fun q hq => ?_⟩
  · by_cases h1 : i = 1
    · subst h1
      have h7 : m7 (o + 1) k = 0 := f5 1 (by omega) k
      unfold valMo
      rw [if_pos rfl]
      by_cases k3 : k = 7
      · rw [k3, um_eq]; rfl
      · rw [um_k _ _ k3]
        by_cases k2 : k = 6
        · rw [k2, um_eq]; rfl
        · rw [um_k _ _ k2]
          by_cases k1 : k = 5
          · rw [k1, um_eq]; rfl
          · rw [um_k _ _ k1, h7, if_neg k1, if_neg k2, if_neg k3]
    · rw [um_ne _ _ _ (by omega), um_ne _ _ _ (by omega), um_ne _ _ _ (by omega)]
      rw [f5 i hi k]
      unfold valMo
      rw [if_neg h1]
      rfl
  · rw [um_ne _ _ _ (by omega), um_ne _ _ _ (by omega), um_ne _ _ _ (by omega)]
    exact f6 q hq
end
