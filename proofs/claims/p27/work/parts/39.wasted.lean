/-! the share that is wasted -/
def MD1 : UInt64 := 13830554455654793216
def vWasted (R : RS) (r : Int32) : UInt64 := if hasI r (R 0) then FP.ddiv (FP.i2d (nI (ro R (tN r) 5))) (FP.i2d (nI (ro R (tN r) 1 * ro R (tN r) 4))) else MD1
theorem cd_Cc_250 : Cond.constantDouble R_Cc 250 MD1 ∈ tbG := tg2 184 (by decide +kernel) rfl
section
variable {l : Launch} {g : XG} {M : Mt} {F : XFin} {pc : Nat} {L : List (Option Value)} {st : List Value} {N : Option Nat} {sh : Nat → Sh} {mem : Mem} {c n : Nat}
theorem x_ldc2d {idx : Nat} {v : UInt64} (hw : Cond.constantDouble M.1 idx v ∈ tbG) (hdg : decode M.2.2.1 pc = .ok (.ldc2_w idx, 3)) (kk : X l g M F (pc + 3) L (.double v :: st) N sh mem c n) : X l g M F pc L st N sh mem c n :=
  fun p e s m args below meth cd H locs ls C hW hS hL => lv_ldc2d C.1 C.2.1 C.2.2.2.1 (C.2.2.2.2.2.2.2.1 _ hw) hdg (kk _ _ _ _ _ _ _ _ _ _ _ C hW hS hL)
end
section
variable {l : Launch} {g : XG} {sh : Nat → Sh} {mem : Mem} {κ : Nat} {G : GS}
theorem ct_Cc_wasted (hL : LayCc sh κ) (hC : CR mem κ G) {r : Int32} : Ct l g M_Cc_wasted [rf g κ, .int r] none sh mem (Pq (.double (vWasted G.1 r)) none sh mem) := by
  obtain ⟨hI, hb, hh, ht, hs⟩ := id hC
  have h12 := hI.1.1
  refine x_begin rfl rfl rfl (by decide) rfl ?_
  refine x_aload_n d_Cc_wasted_0 rfl ?_
  refine x_getR hL.f0 rfl fs_Cc_10 d_Cc_wasted_1 ?_
  refine x_getR hL.s1.f0 rfl fs_Cc_50 d_Cc_wasted_4 ?_
  refine x_iload_n d_Cc_wasted_7 rfl ?_
  refine x_v1p d_Cc_wasted_8 ml_Cc_89 v_Ro_has rfl ⟨rfl, rfl⟩ hL.s1.s3.io (Nat.le_of_ble_eq_true rfl) (ct_Ro_has hL.s1.s3 hb.2.2.1.1 h12) ?_
  refine x_if_eq (tgt := 31) d_Cc_wasted_11 (by decide) (fun c11 => ?_) (fun c11 => ?_)
  · rw [show vWasted G.1 r = MD1 from if_neg (bI_0.mp c11)]
    refine x_iconst (v := nI 0) d_Cc_wasted_31 (by decide) ?_
    refine x_istore_n d_Cc_wasted_32 (by decide) ?_
    refine x_iload_n d_Cc_wasted_33 rfl ?_
    refine x_if_gt (tgt := 41) d_Cc_wasted_34 (by decide) (fun c34 => ?_) (fun c34 => ?_)
    · exact absurd c34 (by decide)
    · refine x_ldc2d cd_Cc_250 d_Cc_wasted_37 ?_
      refine x_dret rfl d_Cc_wasted_40 (Nat.zero_le _) (Nat.zero_le _) ?_
      exact ⟨rfl, rfl, rfl, rfl⟩
  · have hr0 := bI_n.mp c11
    rw [show vWasted G.1 r = FP.ddiv (FP.i2d (nI (ro G.1 (tN r) 5))) (FP.i2d (nI (ro G.1 (tN r) 1 * ro G.1 (tN r) 4))) from if_pos hr0]
    obtain ⟨r, hr, rfl⟩ := hasI_of (by omega) hr0
    rw [tN_nI (by omega)]
    obtain ⟨z0, z1, z2, z3, z4, z5, z6, z7⟩ := hb.2.2.1.2 r (by omega)
    obtain ⟨v1, v2, v3, v4, v5, v6⟩ := hI.2.2.1 r hr
    have hp1 : ro G.1 r 1 * ro G.1 r 4 ≤ 60 * 999 := mul_b v2.2 v6
    have hp2 : 0 < ro G.1 r 1 * ro G.1 r 4 := Nat.mul_pos (by omega) (by omega)
    refine x_aload_n d_Cc_wasted_14 rfl ?_
    refine x_getR hL.f0 rfl fs_Cc_10 d_Cc_wasted_15 ?_
    refine x_getR hL.s1.f0 rfl fs_Cc_50 d_Cc_wasted_18 ?_
    refine x_getR hL.s1.s3.f0 rfl fs_Cc_184 d_Cc_wasted_21 ?_
    refine x_iload_n d_Cc_wasted_24 rfl ?_
    refine x_v1p d_Cc_wasted_25 ml_Cc_134 v_Rw_at rfl ⟨rfl, rfl⟩ (row_io hL.s1.s3.f9) (Nat.le_of_ble_eq_true rfl) (ct_Rw_at hL.s1.s3.f9 hL.s1.s3.f10 (by omega)) ?_
    rw [z4]
    refine x_goto (tgt := 32) d_Cc_wasted_28 (by decide) ?_
    refine x_istore_n d_Cc_wasted_32 (by decide) ?_
    refine x_iload_n d_Cc_wasted_33 rfl ?_
    refine x_if_gt (tgt := 41) d_Cc_wasted_34 (by decide) (fun c34 => ?_) (fun c34 => ?_)
    · refine x_aload_n d_Cc_wasted_41 rfl ?_
      refine x_getR hL.f0 rfl fs_Cc_10 d_Cc_wasted_42 ?_
      refine x_getR hL.s1.f0 rfl fs_Cc_50 d_Cc_wasted_45 ?_
      refine x_getR hL.s1.s3.f0 rfl fs_Cc_178 d_Cc_wasted_48 ?_
      refine x_iload_n d_Cc_wasted_51 rfl ?_
      refine x_v1p d_Cc_wasted_52 ml_Cc_134 v_Rw_at rfl ⟨rfl, rfl⟩ (row_io hL.s1.s3.f13) (Nat.le_of_ble_eq_true rfl) (ct_Rw_at hL.s1.s3.f13 hL.s1.s3.f14 (by omega)) ?_
      rw [z6]
      refine x_i2d d_Cc_wasted_55 ?_
      refine x_iload_n d_Cc_wasted_56 rfl ?_
      refine x_i2d d_Cc_wasted_57 ?_
      refine x_ddiv d_Cc_wasted_58 (ddiv_n64 _ hp2 (by omega)) ?_
      refine x_dret rfl d_Cc_wasted_59 (Nat.zero_le _) (Nat.zero_le _) ?_
      exact ⟨rfl, rfl, rfl, rfl⟩
    · exact absurd (nI_lt hp2 (by omega)) c34
end
