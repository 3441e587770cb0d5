/-! ===== the model: how a question is read ===== -/
/-- state, depth, letter, sign, value, whether a number ends; marks and numbers read; what waits, its top first -/
abbrev Pz : Type := Nat × Nat × Int32 × Int32 × Int32 × Bool × List Int32 × List Int32 × List Int32
def Pm (m : Mm) : Pz → Prop
  | (st, dp, le, sg, va, en, A, N, W) => mI m 40 31 = nI st ∧ mI m 40 32 = nI dp ∧ mI m 40 33 = le ∧ mI m 40 34 = sg ∧ mI m 40 35 = va ∧ mI m 40 36 = b2i en ∧ mI m 40 39 = nI A.length ∧ mI m 40 41 = nI W.length ∧ A.length = N.length ∧ gl (mA m 60) A ∧ gl (mA m 61) N ∧ gr (mA m 62) W
def KP (m m' : Mm) : Prop := Fr [40, 60, 61, 62] m m' ∧ ∀ j, ¬ (31 ≤ j ∧ j ≤ 41) → mI m' 40 j = mI m 40 j
theorem KP.rf {m : Mm} : KP m m := ⟨Fr.rf, fun _ _ => rfl⟩
theorem KP.tr {m m' m'' : Mm} (h : KP m m') (h' : KP m' m'') : KP m m'' := ⟨h.1.tr h'.1, fun j hj => (h'.2 j hj).trans (h.2 j hj)⟩
theorem KP.s {m m' : Mm} {j : Nat} {x : Int32} (h : KP m m') (hj : 31 ≤ j ∧ j ≤ 41) : KP m (s40 m' j x) := ⟨h.1.s40 (by simp), fun k hk => by rw [s40_I, ud_n (by omega)]; exact h.2 k hk⟩
theorem KP.a {m m' : Mm} {j : Nat} {g : Nat → Int32} (h : KP m m') (hj : j = 60 ∨ j = 61 ∨ j = 62) : KP m (sA m' j g) := ⟨h.1.sA (by simp; omega), fun k hk => h.2 k hk⟩
def rP (m : Mm) (p : Pz) (m' : Mm) : Prop := KP m m' ∧ Pm m' p
set_option maxHeartbeats 4000000 in
set_option maxRecDepth 100000 in
theorem cm_lay {d n st dp : Nat} {le sg va x y : Int32} {en : Bool} {A N W : List Int32} {m : Mm} (h : Pm m (st, dp, le, sg, va, en, A, N, W)) (hA : A.length < 60) (hn : n = nn m) : Ct MX8_lay d [.ref 40, .int x, .int y] n (vw m) (eV (rP m (st, dp, le, sg, va, en, A ++ [x], N ++ [y], W))) := by
  subst hn
  refine Ct.of (by decide) rfl rfl (Nat.le_of_ble_eq_true rfl) ?_
  obtain ⟨e31, e32, e33, e34, e35, e36, e39, e41, eL, eA, eN, eW⟩ := h
  have vi : vp_in (nI A.length) 60 = True := nf_in hA (by decide)
  have kc : (nI A.length).toNatClampNeg = A.length := nI_clamp (by omega)
  have k1 : nI A.length + 1 = nI (A.length + 1) := nI_1 _
  refine Vj.wp [] 40 [] ?_
  simp only [st1_n0, st1_ns, st2_n0, st2_ns, clr_n, ld_0, ld_s, st1_0, st1_1, st1_s, st2_0, st2_1, st2_s, clr_c, kil_n, kil_i, kil_r, kil_l, gv_0, gv_s, sv_0, sv_s, wld_s, wint_i, wlng_i, wref_i, w1_c, wobj_e, wiar_e, wsar_e, wlar_e, wqar_3, wlen_a, wlkp_s, wret_i, wret_z, wret_l, wtbl_n, wtbl_c, wlks_n, wlks_c, wstat_1, wstat_3, wstat_5, wstat_6, wspec_2, wspec_4, tk_0, tk_s, fit_i, fit_z, fit_l, fit_r, stp_s, wp_s, wcf_e, wdep_s, mem_n, mem_c, cat_0, cat_i, cat_r, cat_l, tl_s, tl_n, en_n, en_i, en_r, en_l, fv0, fv1, fv2, fv3, kl0, kl1, b10, b01, ct_t, ct_f, ap_n, ap_c, len_n, len_c, ta_i, ta_p, sg_262, sg_68, sg_71, sp_262, sw_aload_n, sw_dup_a, sw_dup_i, sw_iadd, sw_iast, sw_iconst, sw_iload_n, sw_vret, i_X8_lay_0, i_X8_lay_1, i_X8_lay_4, i_X8_lay_5, i_X8_lay_8, i_X8_lay_9, i_X8_lay_10, i_X8_lay_11, i_X8_lay_14, i_X8_lay_15, i_X8_lay_18, i_X8_lay_19, i_X8_lay_20, i_X8_lay_21, i_X8_lay_22, i_X8_lay_25, i_X8_lay_26, i_X8_lay_27, i_X8_lay_30, k_1, pf_8_262, pf_8_68, pf_8_71, mp_MX8_lay, mr_MX8_lay, ↓reduceIte, Bool.false_eq_true, Nat.reduceEqDiff, Nat.reduceAdd, Nat.reduceBEq, Nat.zero_le, Int.reduceAdd, Nat.reduceLeDiff, Nat.reduceLT, true_and, and_true, true_implies, implies_true, Nat.reduceMul, Nat.le_add_left, eq_self, true_or, or_true, not_true_eq_false, not_false_eq_true, false_implies, forall_const, mI_sI, mA_sI, mL_sI, mT_sI, mq_sI, ml_sI, mI_sA, mA_sA, mL_sA, mT_sA, mq_sA, ml_sA, mI_sL, mA_sL, mL_sL, mT_sL, mq_sL, ml_sL, mI_sT, mA_sT, mL_sT, mT_sT, mq_sT, ml_sT, sI_sI, sA_sA, sL_sL, sT_sT, vw_0, vw_1, vw_2, vw_3, vw_4, vw_5, vw_6, vw_7, vw_32, vw_33, vw_34, vw_35, vw_36, vw_37, vw_38, vw_39, vw_41, vw_42, vw_43, vw_44, vw_45, vw_46, vw_47, vw_48, vw_49, vw_50, vw_51, vw_52, vw_53, vw_54, vw_55, vw_56, vw_57, vw_58, vw_59, vw_60, vw_61, vw_62, vw_63, vw_64, vw_65, up_1, up_2, up_32, up_35, up_38, up_3, up_4, up_5, up_6, up_33, up_36, up_37, up_39, up_41, up_42, up_43, up_44, up_45, up_46, up_47, up_48, up_49, up_50, up_51, up_52, up_53, up_54, up_55, up_56, up_57, up_58, up_59, up_60, up_61, up_62, up_63, up_64, up_65, lI_0, lI_s, vu_e, va_up_self, ud_e, ud_n, c40, s40_I, s40_In, s40_mA, s40_mL, s40_mT, s40_mq, s40_ml, e39, vi, kc, k1]
  try simp only [w_ite]
  refine eV_i rfl ⟨(((KP.rf.a (by simp)).a (by simp)).s (by omega)), ?_⟩
  refine ⟨?_, ?_, ?_, ?_, ?_, ?_, ?_, ?_, ?_, ?_, ?_, ?_⟩
  · rw [s40_I, ud_n (by decide)]; exact e31
  · rw [s40_I, ud_n (by decide)]; exact e32
  · rw [s40_I, ud_n (by decide)]; exact e33
  · rw [s40_I, ud_n (by decide)]; exact e34
  · rw [s40_I, ud_n (by decide)]; exact e35
  · rw [s40_I, ud_n (by decide)]; exact e36
  · rw [s40_I, ud_e, List.length_append]; rfl
  · rw [s40_I, ud_n (by decide)]; exact e41
  · rw [List.length_append, List.length_append, eL]; rfl
  · exact gl_push eA
  · have := gl_push (x := y) eN
    rw [← eL] at this
    exact this
  · exact eW
def mpp (s : Int32) : List Int32 → List Int32
  | [] => []
  | x :: W => if s < x then [] else x :: mpp s W
def mpr (s : Int32) : List Int32 → List Int32
  | [] => []
  | x :: W => if s < x then x :: W else mpr s W
def zrs : List Int32 → List Int32
  | [] => []
  | _ :: L => 0 :: zrs L
theorem zrs_l : ∀ L, (zrs L).length = L.length
  | [] => rfl
  | _ :: L => by rw [zrs, List.length_cons, List.length_cons, zrs_l L]
theorem mpp_mpr (s : Int32) : ∀ W, (mpp s W).length + (mpr s W).length = W.length
  | [] => rfl
  | x :: W => by
    by_cases h : s < x
    · rw [mpp, mpr, if_pos h, if_pos h]; simp
    · rw [mpp, mpr, if_neg h, if_neg h]
      have := mpp_mpr s W
      simp only [List.length_cons]; omega
set_option maxHeartbeats 4000000 in
set_option maxRecDepth 100000 in
theorem lm_layDown {d st dp : Nat} {le sg va s : Int32} {en : Bool} {m0 : Mm} {Q : Po} : ∀ (W A N : List Int32) (m : Mm), KP m0 m → Pm m (st, dp, le, sg, va, en, A, N, W) → A.length + W.length ≤ 60 → (∀ m', rP m0 (st, dp, le, sg, va, en, A ++ mpp s W, N ++ zrs (mpp s W), mpr s W) m' → Q none (nn m0) (vw m')) → Vj MX8_layDown (d + 1) 0 0 0 [some (.ref 40), some (.int s)] [] (nn m0) (vw m) Q
  | [], A, N, m, hK, h, hA, hQ => by
    have e41 : mI m 40 41 = nI 0 := h.2.2.2.2.2.2.2.1
    have h0 : (nI 0 ≤ 0) = True := eq_true (by decide)
    refine Vj.wp [] 40 [] ?_
    simp only [st1_n0, st1_ns, st2_n0, st2_ns, clr_n, ld_0, ld_s, st1_0, st1_1, st1_s, st2_0, st2_1, st2_s, clr_c, kil_n, kil_i, kil_r, kil_l, gv_0, gv_s, sv_0, sv_s, wld_s, wint_i, wlng_i, wref_i, w1_c, wobj_e, wiar_e, wsar_e, wlar_e, wqar_3, wlen_a, wlkp_s, wret_i, wret_z, wret_l, wtbl_n, wtbl_c, wlks_n, wlks_c, wstat_1, wstat_3, wstat_5, wstat_6, wspec_2, wspec_4, tk_0, tk_s, fit_i, fit_z, fit_l, fit_r, stp_s, wp_s, wcf_e, wdep_s, mem_n, mem_c, cat_0, cat_i, cat_r, cat_l, tl_s, tl_n, en_n, en_i, en_r, en_l, fv0, fv1, fv2, fv3, kl0, kl1, b10, b01, ct_t, ct_f, ap_n, ap_c, len_n, len_c, ta_i, ta_p, sg_265, sg_74, sp_265, sw_aload_n, sw_dup_a, sw_dup_i, sw_goto, sw_iald, sw_ic_gt, sw_iconst, sw_if_le, sw_iload_n, sw_isub, sw_virt, sw_vret, i_X8_layDown_0, i_X8_layDown_1, i_X8_layDown_4, i_X8_layDown_7, i_X8_layDown_8, i_X8_layDown_11, i_X8_layDown_12, i_X8_layDown_15, i_X8_layDown_16, i_X8_layDown_17, i_X8_layDown_18, i_X8_layDown_19, i_X8_layDown_22, i_X8_layDown_23, i_X8_layDown_24, i_X8_layDown_27, i_X8_layDown_28, i_X8_layDown_29, i_X8_layDown_32, i_X8_layDown_33, i_X8_layDown_34, i_X8_layDown_37, i_X8_layDown_38, i_X8_layDown_41, i_X8_layDown_42, i_X8_layDown_43, i_X8_layDown_46, i_X8_layDown_49, k_0, k_1, pf_8_265, pf_8_74, pm_8_268, cc_MX8_lay, t_19_30, t_4_45, t_46_m46, mp_MX8_layDown, mr_MX8_layDown, ↓reduceIte, Bool.false_eq_true, Nat.reduceEqDiff, Nat.reduceAdd, Nat.reduceBEq, Nat.zero_le, Int.reduceAdd, Nat.reduceLeDiff, Nat.reduceLT, true_and, and_true, true_implies, implies_true, Nat.reduceMul, Nat.le_add_left, eq_self, true_or, or_true, not_true_eq_false, not_false_eq_true, false_implies, forall_const, mI_sI, mA_sI, mL_sI, mT_sI, mq_sI, ml_sI, mI_sA, mA_sA, mL_sA, mT_sA, mq_sA, ml_sA, mI_sL, mA_sL, mL_sL, mT_sL, mq_sL, ml_sL, mI_sT, mA_sT, mL_sT, mT_sT, mq_sT, ml_sT, sI_sI, sA_sA, sL_sL, sT_sT, vw_0, vw_1, vw_2, vw_3, vw_4, vw_5, vw_6, vw_7, vw_32, vw_33, vw_34, vw_35, vw_36, vw_37, vw_38, vw_39, vw_41, vw_42, vw_43, vw_44, vw_45, vw_46, vw_47, vw_48, vw_49, vw_50, vw_51, vw_52, vw_53, vw_54, vw_55, vw_56, vw_57, vw_58, vw_59, vw_60, vw_61, vw_62, vw_63, vw_64, vw_65, up_1, up_2, up_32, up_35, up_38, up_3, up_4, up_5, up_6, up_33, up_36, up_37, up_39, up_41, up_42, up_43, up_44, up_45, up_46, up_47, up_48, up_49, up_50, up_51, up_52, up_53, up_54, up_55, up_56, up_57, up_58, up_59, up_60, up_61, up_62, up_63, up_64, up_65, lI_0, lI_s, vu_e, va_up_self, ud_e, ud_n, c40, s40_I, s40_In, s40_mA, s40_mL, s40_mT, s40_mq, s40_ml, e41, h0]
    try simp only [w_ite]
    refine hQ m ⟨hK, ?_⟩
    rw [mpp, zrs, mpr, List.append_nil, List.append_nil]; exact h
  | w :: W, A, N, m, hK, h, hA, hQ => by
    have hP := h
    obtain ⟨e31, e32, e33, e34, e35, e36, e39, e41, eL, eA, eN, eW⟩ := h
    have e41' : mI m 40 41 = nI (W.length + 1) := e41
    have hW : W.length + 1 ≤ 60 := by have : (w :: W).length = W.length + 1 := rfl; omega
    have h0 : (nI (W.length + 1) ≤ 0) = False := nf_ge (i := 0) (by omega) (by omega)
    have k1 : nI (W.length + 1) - 1 = nI W.length := by rw [← nI_1]; exact Int32.add_sub_cancel _ _
    have vi : vp_in (nI W.length) 60 = True := nf_in (by omega) (by decide)
    have kc : (nI W.length).toNatClampNeg = W.length := nI_clamp (by omega)
    have ew : mA m 62 W.length = w := eW.1
    rw [mpp, mpr] at hQ
    by_cases q : s < w
    · rw [if_pos q, if_pos q, zrs, List.append_nil, List.append_nil] at hQ
      refine Vj.wp [] 40 [] ?_
      simp only [st1_n0, st1_ns, st2_n0, st2_ns, clr_n, ld_0, ld_s, st1_0, st1_1, st1_s, st2_0, st2_1, st2_s, clr_c, kil_n, kil_i, kil_r, kil_l, gv_0, gv_s, sv_0, sv_s, wld_s, wint_i, wlng_i, wref_i, w1_c, wobj_e, wiar_e, wsar_e, wlar_e, wqar_3, wlen_a, wlkp_s, wret_i, wret_z, wret_l, wtbl_n, wtbl_c, wlks_n, wlks_c, wstat_1, wstat_3, wstat_5, wstat_6, wspec_2, wspec_4, tk_0, tk_s, fit_i, fit_z, fit_l, fit_r, stp_s, wp_s, wcf_e, wdep_s, mem_n, mem_c, cat_0, cat_i, cat_r, cat_l, tl_s, tl_n, en_n, en_i, en_r, en_l, fv0, fv1, fv2, fv3, kl0, kl1, b10, b01, ct_t, ct_f, ap_n, ap_c, len_n, len_c, ta_i, ta_p, sg_265, sg_74, sp_265, sw_aload_n, sw_dup_a, sw_dup_i, sw_goto, sw_iald, sw_ic_gt, sw_iconst, sw_if_le, sw_iload_n, sw_isub, sw_virt, sw_vret, i_X8_layDown_0, i_X8_layDown_1, i_X8_layDown_4, i_X8_layDown_7, i_X8_layDown_8, i_X8_layDown_11, i_X8_layDown_12, i_X8_layDown_15, i_X8_layDown_16, i_X8_layDown_17, i_X8_layDown_18, i_X8_layDown_19, i_X8_layDown_22, i_X8_layDown_23, i_X8_layDown_24, i_X8_layDown_27, i_X8_layDown_28, i_X8_layDown_29, i_X8_layDown_32, i_X8_layDown_33, i_X8_layDown_34, i_X8_layDown_37, i_X8_layDown_38, i_X8_layDown_41, i_X8_layDown_42, i_X8_layDown_43, i_X8_layDown_46, i_X8_layDown_49, k_0, k_1, pf_8_265, pf_8_74, pm_8_268, cc_MX8_lay, t_19_30, t_4_45, t_46_m46, mp_MX8_layDown, mr_MX8_layDown, ↓reduceIte, Bool.false_eq_true, Nat.reduceEqDiff, Nat.reduceAdd, Nat.reduceBEq, Nat.zero_le, Int.reduceAdd, Nat.reduceLeDiff, Nat.reduceLT, true_and, and_true, true_implies, implies_true, Nat.reduceMul, Nat.le_add_left, eq_self, true_or, or_true, not_true_eq_false, not_false_eq_true, false_implies, forall_const, mI_sI, mA_sI, mL_sI, mT_sI, mq_sI, ml_sI, mI_sA, mA_sA, mL_sA, mT_sA, mq_sA, ml_sA, mI_sL, mA_sL, mL_sL, mT_sL, mq_sL, ml_sL, mI_sT, mA_sT, mL_sT, mT_sT, mq_sT, ml_sT, sI_sI, sA_sA, sL_sL, sT_sT, vw_0, vw_1, vw_2, vw_3, vw_4, vw_5, vw_6, vw_7, vw_32, vw_33, vw_34, vw_35, vw_36, vw_37, vw_38, vw_39, vw_41, vw_42, vw_43, vw_44, vw_45, vw_46, vw_47, vw_48, vw_49, vw_50, vw_51, vw_52, vw_53, vw_54, vw_55, vw_56, vw_57, vw_58, vw_59, vw_60, vw_61, vw_62, vw_63, vw_64, vw_65, up_1, up_2, up_32, up_35, up_38, up_3, up_4, up_5, up_6, up_33, up_36, up_37, up_39, up_41, up_42, up_43, up_44, up_45, up_46, up_47, up_48, up_49, up_50, up_51, up_52, up_53, up_54, up_55, up_56, up_57, up_58, up_59, up_60, up_61, up_62, up_63, up_64, up_65, lI_0, lI_s, vu_e, va_up_self, ud_e, ud_n, c40, s40_I, s40_In, s40_mA, s40_mL, s40_mT, s40_mq, s40_ml, e41', h0, k1, vi, kc, ew, q]
      try simp only [w_ite]
      exact hQ m ⟨hK, hP⟩
    · rw [if_neg q, if_neg q] at hQ
      have hP1 : Pm (s40 m 41 (nI W.length)) (st, dp, le, sg, va, en, A, N, W) := by
        refine ⟨?_, ?_, ?_, ?_, ?_, ?_, ?_, ?_, eL, eA, eN, eW.2⟩
        · rw [s40_I, ud_n (by decide)]; exact e31
        · rw [s40_I, ud_n (by decide)]; exact e32
        · rw [s40_I, ud_n (by decide)]; exact e33
        · rw [s40_I, ud_n (by decide)]; exact e34
        · rw [s40_I, ud_n (by decide)]; exact e35
        · rw [s40_I, ud_n (by decide)]; exact e36
        · rw [s40_I, ud_n (by decide)]; exact e39
        · rw [s40_I, ud_e]
      refine Vj.wp [] 40 [0] ?_
      simp only [st1_n0, st1_ns, st2_n0, st2_ns, clr_n, ld_0, ld_s, st1_0, st1_1, st1_s, st2_0, st2_1, st2_s, clr_c, kil_n, kil_i, kil_r, kil_l, gv_0, gv_s, sv_0, sv_s, wld_s, wint_i, wlng_i, wref_i, w1_c, wobj_e, wiar_e, wsar_e, wlar_e, wqar_3, wlen_a, wlkp_s, wret_i, wret_z, wret_l, wtbl_n, wtbl_c, wlks_n, wlks_c, wstat_1, wstat_3, wstat_5, wstat_6, wspec_2, wspec_4, tk_0, tk_s, fit_i, fit_z, fit_l, fit_r, stp_s, wp_s, wcf_e, wdep_s, mem_n, mem_c, cat_0, cat_i, cat_r, cat_l, tl_s, tl_n, en_n, en_i, en_r, en_l, fv0, fv1, fv2, fv3, kl0, kl1, b10, b01, ct_t, ct_f, ap_n, ap_c, len_n, len_c, ta_i, ta_p, sg_265, sg_74, sp_265, sw_aload_n, sw_dup_a, sw_dup_i, sw_goto, sw_iald, sw_ic_gt, sw_iconst, sw_if_le, sw_iload_n, sw_isub, sw_virt, sw_vret, i_X8_layDown_0, i_X8_layDown_1, i_X8_layDown_4, i_X8_layDown_7, i_X8_layDown_8, i_X8_layDown_11, i_X8_layDown_12, i_X8_layDown_15, i_X8_layDown_16, i_X8_layDown_17, i_X8_layDown_18, i_X8_layDown_19, i_X8_layDown_22, i_X8_layDown_23, i_X8_layDown_24, i_X8_layDown_27, i_X8_layDown_28, i_X8_layDown_29, i_X8_layDown_32, i_X8_layDown_33, i_X8_layDown_34, i_X8_layDown_37, i_X8_layDown_38, i_X8_layDown_41, i_X8_layDown_42, i_X8_layDown_43, i_X8_layDown_46, i_X8_layDown_49, k_0, k_1, pf_8_265, pf_8_74, pm_8_268, cc_MX8_lay, t_19_30, t_4_45, t_46_m46, mp_MX8_layDown, mr_MX8_layDown, ↓reduceIte, Bool.false_eq_true, Nat.reduceEqDiff, Nat.reduceAdd, Nat.reduceBEq, Nat.zero_le, Int.reduceAdd, Nat.reduceLeDiff, Nat.reduceLT, true_and, and_true, true_implies, implies_true, Nat.reduceMul, Nat.le_add_left, eq_self, true_or, or_true, not_true_eq_false, not_false_eq_true, false_implies, forall_const, mI_sI, mA_sI, mL_sI, mT_sI, mq_sI, ml_sI, mI_sA, mA_sA, mL_sA, mT_sA, mq_sA, ml_sA, mI_sL, mA_sL, mL_sL, mT_sL, mq_sL, ml_sL, mI_sT, mA_sT, mL_sT, mT_sT, mq_sT, ml_sT, sI_sI, sA_sA, sL_sL, sT_sT, vw_0, vw_1, vw_2, vw_3, vw_4, vw_5, vw_6, vw_7, vw_32, vw_33, vw_34, vw_35, vw_36, vw_37, vw_38, vw_39, vw_41, vw_42, vw_43, vw_44, vw_45, vw_46, vw_47, vw_48, vw_49, vw_50, vw_51, vw_52, vw_53, vw_54, vw_55, vw_56, vw_57, vw_58, vw_59, vw_60, vw_61, vw_62, vw_63, vw_64, vw_65, up_1, up_2, up_32, up_35, up_38, up_3, up_4, up_5, up_6, up_33, up_36, up_37, up_39, up_41, up_42, up_43, up_44, up_45, up_46, up_47, up_48, up_49, up_50, up_51, up_52, up_53, up_54, up_55, up_56, up_57, up_58, up_59, up_60, up_61, up_62, up_63, up_64, up_65, lI_0, lI_s, vu_e, va_up_self, ud_e, ud_n, c40, s40_I, s40_In, s40_mA, s40_mL, s40_mT, s40_mq, s40_ml, e41', h0, k1, vi, kc, ew, q]
      try simp only [w_ite]
      have hnn : nn m0 = nn (s40 m 41 (nI W.length)) := by rw [s40_nn, hK.1.nn]
      refine Cl.eV (cm_lay hP1 (by have : (w :: W).length = W.length + 1 := rfl; omega) hnn) (fun m2 h2 => ?_)
      simp only [st1_n0, st1_ns, st2_n0, st2_ns, clr_n, ld_0, ld_s, st1_0, st1_1, st1_s, st2_0, st2_1, st2_s, clr_c, kil_n, kil_i, kil_r, kil_l, gv_0, gv_s, sv_0, sv_s, wld_s, wint_i, wlng_i, wref_i, w1_c, wobj_e, wiar_e, wsar_e, wlar_e, wqar_3, wlen_a, wlkp_s, wret_i, wret_z, wret_l, wtbl_n, wtbl_c, wlks_n, wlks_c, wstat_1, wstat_3, wstat_5, wstat_6, wspec_2, wspec_4, tk_0, tk_s, fit_i, fit_z, fit_l, fit_r, stp_s, wp_s, wcf_e, wdep_s, mem_n, mem_c, cat_0, cat_i, cat_r, cat_l, tl_s, tl_n, en_n, en_i, en_r, en_l, fv0, fv1, fv2, fv3, kl0, kl1, b10, b01, ct_t, ct_f, ap_n, ap_c, len_n, len_c, ta_i, ta_p, sg_265, sg_74, sp_265, sw_aload_n, sw_dup_a, sw_dup_i, sw_goto, sw_iald, sw_ic_gt, sw_iconst, sw_if_le, sw_iload_n, sw_isub, sw_virt, sw_vret, i_X8_layDown_0, i_X8_layDown_1, i_X8_layDown_4, i_X8_layDown_7, i_X8_layDown_8, i_X8_layDown_11, i_X8_layDown_12, i_X8_layDown_15, i_X8_layDown_16, i_X8_layDown_17, i_X8_layDown_18, i_X8_layDown_19, i_X8_layDown_22, i_X8_layDown_23, i_X8_layDown_24, i_X8_layDown_27, i_X8_layDown_28, i_X8_layDown_29, i_X8_layDown_32, i_X8_layDown_33, i_X8_layDown_34, i_X8_layDown_37, i_X8_layDown_38, i_X8_layDown_41, i_X8_layDown_42, i_X8_layDown_43, i_X8_layDown_46, i_X8_layDown_49, k_0, k_1, pf_8_265, pf_8_74, pm_8_268, cc_MX8_lay, t_19_30, t_4_45, t_46_m46, mp_MX8_layDown, mr_MX8_layDown, ↓reduceIte, Bool.false_eq_true, Nat.reduceEqDiff, Nat.reduceAdd, Nat.reduceBEq, Nat.zero_le, Int.reduceAdd, Nat.reduceLeDiff, Nat.reduceLT, true_and, and_true, true_implies, implies_true, Nat.reduceMul, Nat.le_add_left, eq_self, true_or, or_true, not_true_eq_false, not_false_eq_true, false_implies, forall_const, mI_sI, mA_sI, mL_sI, mT_sI, mq_sI, ml_sI, mI_sA, mA_sA, mL_sA, mT_sA, mq_sA, ml_sA, mI_sL, mA_sL, mL_sL, mT_sL, mq_sL, ml_sL, mI_sT, mA_sT, mL_sT, mT_sT, mq_sT, ml_sT, sI_sI, sA_sA, sL_sL, sT_sT, vw_0, vw_1, vw_2, vw_3, vw_4, vw_5, vw_6, vw_7, vw_32, vw_33, vw_34, vw_35, vw_36, vw_37, vw_38, vw_39, vw_41, vw_42, vw_43, vw_44, vw_45, vw_46, vw_47, vw_48, vw_49, vw_50, vw_51, vw_52, vw_53, vw_54, vw_55, vw_56, vw_57, vw_58, vw_59, vw_60, vw_61, vw_62, vw_63, vw_64, vw_65, up_1, up_2, up_32, up_35, up_38, up_3, up_4, up_5, up_6, up_33, up_36, up_37, up_39, up_41, up_42, up_43, up_44, up_45, up_46, up_47, up_48, up_49, up_50, up_51, up_52, up_53, up_54, up_55, up_56, up_57, up_58, up_59, up_60, up_61, up_62, up_63, up_64, up_65, lI_0, lI_s, vu_e, va_up_self, ud_e, ud_n, c40, s40_I, s40_In, s40_mA, s40_mL, s40_mT, s40_mq, s40_ml]; try simp only [w_ite]
      have hK2 : KP m0 m2 := (hK.s (by omega)).tr h2.1
      rw [hK2.1.nn]
      refine lm_layDown W (A ++ [w]) (N ++ [0]) m2 hK2 h2.2 (by have hA2 : A.length + (W.length + 1) ≤ 60 := hA; rw [List.length_append]; show A.length + 1 + W.length ≤ 60; omega) (fun m' h' => hQ m' ?_)
      rw [List.append_assoc, List.append_assoc] at h'
      exact h'
set_option maxHeartbeats 4000000 in
set_option maxRecDepth 100000 in
theorem cm_layDown {d n st dp : Nat} {le sg va s : Int32} {en : Bool} {A N W : List Int32} {m : Mm} (h : Pm m (st, dp, le, sg, va, en, A, N, W)) (hA : A.length + W.length ≤ 60) (hn : n = nn m) : Ct MX8_layDown (d + 1) [.ref 40, .int s] n (vw m) (eV (rP m (st, dp, le, sg, va, en, A ++ mpp s W, N ++ zrs (mpp s W), mpr s W))) := by
  subst hn
  refine Ct.of (by decide) rfl rfl (Nat.le_of_ble_eq_true rfl) ?_
  exact lm_layDown (Q := eV (rP m (st, dp, le, sg, va, en, A ++ mpp s W, N ++ zrs (mpp s W), mpr s W))) W A N m KP.rf h hA (fun m' h' => eV_i h'.1.1.2.1 h')
def enA (le sg : Int32) (en : Bool) (A : List Int32) : List Int32 := if en then A ++ [3 * le + sg] else A
def enN (va : Int32) (en : Bool) (N : List Int32) : List Int32 := if en then N ++ [va] else N
theorem Pm_36 {st dp : Nat} {le sg va : Int32} {en : Bool} {A N W : List Int32} {m : Mm} (h : Pm m (st, dp, le, sg, va, en, A, N, W)) : Pm (s40 m 36 0) (st, dp, le, sg, va, false, A, N, W) := by
  obtain ⟨e31, e32, e33, e34, e35, e36, e39, e41, eL, eA, eN, eW⟩ := h
  refine ⟨?_, ?_, ?_, ?_, ?_, ?_, ?_, ?_, eL, eA, eN, eW⟩
  · rw [s40_I, ud_n (by decide)]; exact e31
  · rw [s40_I, ud_n (by decide)]; exact e32
  · rw [s40_I, ud_n (by decide)]; exact e33
  · rw [s40_I, ud_n (by decide)]; exact e34
  · rw [s40_I, ud_n (by decide)]; exact e35
  · rw [s40_I, ud_e]; rfl
  · rw [s40_I, ud_n (by decide)]; exact e39
  · rw [s40_I, ud_n (by decide)]; exact e41
set_option maxHeartbeats 4000000 in
set_option maxRecDepth 100000 in
theorem cm_endNumber {d n st dp : Nat} {le sg va : Int32} {en : Bool} {A N W : List Int32} {m : Mm} (h : Pm m (st, dp, le, sg, va, en, A, N, W)) (hA : en = true → A.length < 60) (hn : n = nn m) : Ct MX8_endNumber (d + 1) [.ref 40] n (vw m) (eV (rP m (st, dp, le, sg, va, false, enA le sg en A, enN va en N, W))) := by
  subst hn
  refine Ct.of (by decide) rfl rfl (Nat.le_of_ble_eq_true rfl) ?_
  have e33 : mI m 40 33 = le := h.2.2.1
  have e34 : mI m 40 34 = sg := h.2.2.2.1
  have e35 : mI m 40 35 = va := h.2.2.2.2.1
  have e36 : mI m 40 36 = b2i en := h.2.2.2.2.2.1
  cases en with
  | true =>
    have g0 : (b2i true = 0) = False := eq_false (by decide)
    refine Vj.wp [] 40 [] ?_
    simp only [st1_n0, st1_ns, st2_n0, st2_ns, clr_n, ld_0, ld_s, st1_0, st1_1, st1_s, st2_0, st2_1, st2_s, clr_c, kil_n, kil_i, kil_r, kil_l, gv_0, gv_s, sv_0, sv_s, wld_s, wint_i, wlng_i, wref_i, w1_c, wobj_e, wiar_e, wsar_e, wlar_e, wqar_3, wlen_a, wlkp_s, wret_i, wret_z, wret_l, wtbl_n, wtbl_c, wlks_n, wlks_c, wstat_1, wstat_3, wstat_5, wstat_6, wspec_2, wspec_4, tk_0, tk_s, fit_i, fit_z, fit_l, fit_r, stp_s, wp_s, wcf_e, wdep_s, mem_n, mem_c, cat_0, cat_i, cat_r, cat_l, tl_s, tl_n, en_n, en_i, en_r, en_l, fv0, fv1, fv2, fv3, kl0, kl1, b10, b01, ct_t, ct_f, ap_n, ap_c, len_n, len_c, ta_i, ta_p, sg_271, sg_275, sg_278, sg_281, sp_271, sw_aload_n, sw_iadd, sw_iconst, sw_if_eq, sw_imul, sw_virt, sw_vret, i_X8_endNumber_0, i_X8_endNumber_1, i_X8_endNumber_4, i_X8_endNumber_7, i_X8_endNumber_8, i_X8_endNumber_9, i_X8_endNumber_10, i_X8_endNumber_13, i_X8_endNumber_14, i_X8_endNumber_15, i_X8_endNumber_18, i_X8_endNumber_19, i_X8_endNumber_20, i_X8_endNumber_23, i_X8_endNumber_26, i_X8_endNumber_27, i_X8_endNumber_28, i_X8_endNumber_31, k_0, k_3, pf_8_271, pf_8_275, pf_8_278, pf_8_281, pm_8_268, cc_MX8_lay, t_4_22, mp_MX8_endNumber, mr_MX8_endNumber, ↓reduceIte, Bool.false_eq_true, Nat.reduceEqDiff, Nat.reduceAdd, Nat.reduceBEq, Nat.zero_le, Int.reduceAdd, Nat.reduceLeDiff, Nat.reduceLT, true_and, and_true, true_implies, implies_true, Nat.reduceMul, Nat.le_add_left, eq_self, true_or, or_true, not_true_eq_false, not_false_eq_true, false_implies, forall_const, mI_sI, mA_sI, mL_sI, mT_sI, mq_sI, ml_sI, mI_sA, mA_sA, mL_sA, mT_sA, mq_sA, ml_sA, mI_sL, mA_sL, mL_sL, mT_sL, mq_sL, ml_sL, mI_sT, mA_sT, mL_sT, mT_sT, mq_sT, ml_sT, sI_sI, sA_sA, sL_sL, sT_sT, vw_0, vw_1, vw_2, vw_3, vw_4, vw_5, vw_6, vw_7, vw_32, vw_33, vw_34, vw_35, vw_36, vw_37, vw_38, vw_39, vw_41, vw_42, vw_43, vw_44, vw_45, vw_46, vw_47, vw_48, vw_49, vw_50, vw_51, vw_52, vw_53, vw_54, vw_55, vw_56, vw_57, vw_58, vw_59, vw_60, vw_61, vw_62, vw_63, vw_64, vw_65, up_1, up_2, up_32, up_35, up_38, up_3, up_4, up_5, up_6, up_33, up_36, up_37, up_39, up_41, up_42, up_43, up_44, up_45, up_46, up_47, up_48, up_49, up_50, up_51, up_52, up_53, up_54, up_55, up_56, up_57, up_58, up_59, up_60, up_61, up_62, up_63, up_64, up_65, lI_0, lI_s, vu_e, va_up_self, ud_e, ud_n, c40, s40_I, s40_In, s40_mA, s40_mL, s40_mT, s40_mq, s40_ml, e33, e34, e35, e36, g0]
    try simp only [w_ite]
    refine Cl.eV (cm_lay h (hA rfl) rfl) (fun m1 h1 => ?_)
    simp only [st1_n0, st1_ns, st2_n0, st2_ns, clr_n, ld_0, ld_s, st1_0, st1_1, st1_s, st2_0, st2_1, st2_s, clr_c, kil_n, kil_i, kil_r, kil_l, gv_0, gv_s, sv_0, sv_s, wld_s, wint_i, wlng_i, wref_i, w1_c, wobj_e, wiar_e, wsar_e, wlar_e, wqar_3, wlen_a, wlkp_s, wret_i, wret_z, wret_l, wtbl_n, wtbl_c, wlks_n, wlks_c, wstat_1, wstat_3, wstat_5, wstat_6, wspec_2, wspec_4, tk_0, tk_s, fit_i, fit_z, fit_l, fit_r, stp_s, wp_s, wcf_e, wdep_s, mem_n, mem_c, cat_0, cat_i, cat_r, cat_l, tl_s, tl_n, en_n, en_i, en_r, en_l, fv0, fv1, fv2, fv3, kl0, kl1, b10, b01, ct_t, ct_f, ap_n, ap_c, len_n, len_c, ta_i, ta_p, sg_271, sg_275, sg_278, sg_281, sp_271, sw_aload_n, sw_iadd, sw_iconst, sw_if_eq, sw_imul, sw_virt, sw_vret, i_X8_endNumber_0, i_X8_endNumber_1, i_X8_endNumber_4, i_X8_endNumber_7, i_X8_endNumber_8, i_X8_endNumber_9, i_X8_endNumber_10, i_X8_endNumber_13, i_X8_endNumber_14, i_X8_endNumber_15, i_X8_endNumber_18, i_X8_endNumber_19, i_X8_endNumber_20, i_X8_endNumber_23, i_X8_endNumber_26, i_X8_endNumber_27, i_X8_endNumber_28, i_X8_endNumber_31, k_0, k_3, pf_8_271, pf_8_275, pf_8_278, pf_8_281, pm_8_268, cc_MX8_lay, t_4_22, mp_MX8_endNumber, mr_MX8_endNumber, ↓reduceIte, Bool.false_eq_true, Nat.reduceEqDiff, Nat.reduceAdd, Nat.reduceBEq, Nat.zero_le, Int.reduceAdd, Nat.reduceLeDiff, Nat.reduceLT, true_and, and_true, true_implies, implies_true, Nat.reduceMul, Nat.le_add_left, eq_self, true_or, or_true, not_true_eq_false, not_false_eq_true, false_implies, forall_const, mI_sI, mA_sI, mL_sI, mT_sI, mq_sI, ml_sI, mI_sA, mA_sA, mL_sA, mT_sA, mq_sA, ml_sA, mI_sL, mA_sL, mL_sL, mT_sL, mq_sL, ml_sL, mI_sT, mA_sT, mL_sT, mT_sT, mq_sT, ml_sT, sI_sI, sA_sA, sL_sL, sT_sT, vw_0, vw_1, vw_2, vw_3, vw_4, vw_5, vw_6, vw_7, vw_32, vw_33, vw_34, vw_35, vw_36, vw_37, vw_38, vw_39, vw_41, vw_42, vw_43, vw_44, vw_45, vw_46, vw_47, vw_48, vw_49, vw_50, vw_51, vw_52, vw_53, vw_54, vw_55, vw_56, vw_57, vw_58, vw_59, vw_60, vw_61, vw_62, vw_63, vw_64, vw_65, up_1, up_2, up_32, up_35, up_38, up_3, up_4, up_5, up_6, up_33, up_36, up_37, up_39, up_41, up_42, up_43, up_44, up_45, up_46, up_47, up_48, up_49, up_50, up_51, up_52, up_53, up_54, up_55, up_56, up_57, up_58, up_59, up_60, up_61, up_62, up_63, up_64, up_65, lI_0, lI_s, vu_e, va_up_self, ud_e, ud_n, c40, s40_I, s40_In, s40_mA, s40_mL, s40_mT, s40_mq, s40_ml]; try simp only [w_ite]
    rw [h1.1.1.nn]
    exact eV_i h1.1.1.2.1 ⟨h1.1.s (by omega), Pm_36 h1.2⟩
  | false =>
    have g0 : (b2i false = 0) = True := eq_true (by decide)
    refine Vj.wp [] 40 [] ?_
    simp only [st1_n0, st1_ns, st2_n0, st2_ns, clr_n, ld_0, ld_s, st1_0, st1_1, st1_s, st2_0, st2_1, st2_s, clr_c, kil_n, kil_i, kil_r, kil_l, gv_0, gv_s, sv_0, sv_s, wld_s, wint_i, wlng_i, wref_i, w1_c, wobj_e, wiar_e, wsar_e, wlar_e, wqar_3, wlen_a, wlkp_s, wret_i, wret_z, wret_l, wtbl_n, wtbl_c, wlks_n, wlks_c, wstat_1, wstat_3, wstat_5, wstat_6, wspec_2, wspec_4, tk_0, tk_s, fit_i, fit_z, fit_l, fit_r, stp_s, wp_s, wcf_e, wdep_s, mem_n, mem_c, cat_0, cat_i, cat_r, cat_l, tl_s, tl_n, en_n, en_i, en_r, en_l, fv0, fv1, fv2, fv3, kl0, kl1, b10, b01, ct_t, ct_f, ap_n, ap_c, len_n, len_c, ta_i, ta_p, sg_271, sg_275, sg_278, sg_281, sp_271, sw_aload_n, sw_iadd, sw_iconst, sw_if_eq, sw_imul, sw_virt, sw_vret, i_X8_endNumber_0, i_X8_endNumber_1, i_X8_endNumber_4, i_X8_endNumber_7, i_X8_endNumber_8, i_X8_endNumber_9, i_X8_endNumber_10, i_X8_endNumber_13, i_X8_endNumber_14, i_X8_endNumber_15, i_X8_endNumber_18, i_X8_endNumber_19, i_X8_endNumber_20, i_X8_endNumber_23, i_X8_endNumber_26, i_X8_endNumber_27, i_X8_endNumber_28, i_X8_endNumber_31, k_0, k_3, pf_8_271, pf_8_275, pf_8_278, pf_8_281, pm_8_268, cc_MX8_lay, t_4_22, mp_MX8_endNumber, mr_MX8_endNumber, ↓reduceIte, Bool.false_eq_true, Nat.reduceEqDiff, Nat.reduceAdd, Nat.reduceBEq, Nat.zero_le, Int.reduceAdd, Nat.reduceLeDiff, Nat.reduceLT, true_and, and_true, true_implies, implies_true, Nat.reduceMul, Nat.le_add_left, eq_self, true_or, or_true, not_true_eq_false, not_false_eq_true, false_implies, forall_const, mI_sI, mA_sI, mL_sI, mT_sI, mq_sI, ml_sI, mI_sA, mA_sA, mL_sA, mT_sA, mq_sA, ml_sA, mI_sL, mA_sL, mL_sL, mT_sL, mq_sL, ml_sL, mI_sT, mA_sT, mL_sT, mT_sT, mq_sT, ml_sT, sI_sI, sA_sA, sL_sL, sT_sT, vw_0, vw_1, vw_2, vw_3, vw_4, vw_5, vw_6, vw_7, vw_32, vw_33, vw_34, vw_35, vw_36, vw_37, vw_38, vw_39, vw_41, vw_42, vw_43, vw_44, vw_45, vw_46, vw_47, vw_48, vw_49, vw_50, vw_51, vw_52, vw_53, vw_54, vw_55, vw_56, vw_57, vw_58, vw_59, vw_60, vw_61, vw_62, vw_63, vw_64, vw_65, up_1, up_2, up_32, up_35, up_38, up_3, up_4, up_5, up_6, up_33, up_36, up_37, up_39, up_41, up_42, up_43, up_44, up_45, up_46, up_47, up_48, up_49, up_50, up_51, up_52, up_53, up_54, up_55, up_56, up_57, up_58, up_59, up_60, up_61, up_62, up_63, up_64, up_65, lI_0, lI_s, vu_e, va_up_self, ud_e, ud_n, c40, s40_I, s40_In, s40_mA, s40_mL, s40_mT, s40_mq, s40_ml, e36, g0]
    try simp only [w_ite]
    exact eV_i rfl ⟨KP.rf.s (by omega), Pm_36 h⟩
