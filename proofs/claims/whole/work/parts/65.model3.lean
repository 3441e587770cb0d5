/-! ===== the model: rows, emptyLine, keep ===== -/
def mrw (g : Nat → Int32) : Nat → Int32
  | 0 => 0
  | i + 1 => mrw g i + (if g i = 0 then 0 else 1)
set_option maxHeartbeats 4000000 in
set_option maxRecDepth 100000 in
theorem lm_rows {d n : Nat} {m : Mm} {Q : Po} (hQ : Q (some (.int (mrw (mA m 43) 64))) n (vw m)) : ∀ (t i : Nat), t + i = 64 → Vj MX8_rows d 0 0 4 [some (.ref 40), some (.int (mrw (mA m 43) i)), some (.int (nI i))] [] n (vw m) Q := by
  intro t
  induction t with
  | zero =>
    intro i ht
    have hi : i = 64 := by omega
    subst hi
    have h0 : ((64 : Int32) ≤ nI 64) = True := eq_true (by decide)
    refine Vj.wp [] 60 [4] ?_
    simp only [st1_n0, st1_ns, st2_n0, st2_ns, clr_n, ld_0, ld_s, st1_0, st1_1, st1_s, st2_0, st2_1, st2_s, clr_c, kil_n, kil_i, kil_r, kil_l, gv_0, gv_s, sv_0, sv_s, wld_s, wint_i, wlng_i, wref_i, w1_c, wobj_e, wiar_e, wsar_e, wlar_e, wqar_3, wlen_a, wlkp_s, wret_i, wret_z, wret_l, wtbl_n, wtbl_c, wlks_n, wlks_c, wstat_1, wstat_3, wstat_5, wstat_6, wspec_2, wspec_4, tk_0, tk_s, fit_i, fit_z, fit_l, fit_r, stp_s, wp_s, wcf_e, wdep_s, mem_n, mem_c, cat_0, cat_i, cat_r, cat_l, tl_s, tl_n, en_n, en_i, en_r, en_l, fv0, fv1, fv2, fv3, kl0, kl1, b10, b01, ct_t, ct_f, ap_n, ap_c, len_n, len_c, ta_i, ta_p, sg_16, sw_aload_n, sw_bald, sw_bipush, sw_goto, sw_iadd, sw_ic_ge, sw_iconst, sw_if_eq, sw_iinc, sw_iload_n, sw_ireti, sw_istore_n, i_X8_rows_0, i_X8_rows_1, i_X8_rows_2, i_X8_rows_3, i_X8_rows_4, i_X8_rows_5, i_X8_rows_7, i_X8_rows_10, i_X8_rows_11, i_X8_rows_12, i_X8_rows_15, i_X8_rows_16, i_X8_rows_17, i_X8_rows_20, i_X8_rows_21, i_X8_rows_24, i_X8_rows_25, i_X8_rows_26, i_X8_rows_27, i_X8_rows_30, i_X8_rows_33, i_X8_rows_34, k_0, k_1, kb_64, pf_8_16, t_17_7, t_21_4, t_30_m26, t_7_26, mp_MX8_rows, mr_MX8_rows, ↓reduceIte, Bool.false_eq_true, Nat.reduceEqDiff, Nat.reduceAdd, Nat.reduceBEq, Nat.zero_le, Int.reduceAdd, Nat.reduceLeDiff, Nat.reduceLT, true_and, and_true, true_implies, implies_true, Nat.reduceMul, Nat.le_add_left, eq_self, true_or, or_true, not_true_eq_false, not_false_eq_true, false_implies, forall_const, mI_sI, mA_sI, mL_sI, mT_sI, mq_sI, ml_sI, mI_sA, mA_sA, mL_sA, mT_sA, mq_sA, ml_sA, mI_sL, mA_sL, mL_sL, mT_sL, mq_sL, ml_sL, mI_sT, mA_sT, mL_sT, mT_sT, mq_sT, ml_sT, sI_sI, sA_sA, sL_sL, sT_sT, vw_0, vw_1, vw_2, vw_3, vw_4, vw_5, vw_6, vw_7, vw_32, vw_33, vw_34, vw_35, vw_36, vw_37, vw_38, vw_39, vw_41, vw_42, vw_43, vw_44, vw_45, vw_46, vw_47, vw_48, vw_49, vw_50, vw_51, vw_52, vw_53, vw_54, vw_55, vw_56, vw_57, vw_58, vw_59, vw_60, vw_61, vw_62, vw_63, vw_64, vw_65, up_1, up_2, up_32, up_35, up_38, up_3, up_4, up_5, up_6, up_33, up_36, up_37, up_39, up_41, up_42, up_43, up_44, up_45, up_46, up_47, up_48, up_49, up_50, up_51, up_52, up_53, up_54, up_55, up_56, up_57, up_58, up_59, up_60, up_61, up_62, up_63, up_64, up_65, lI_0, lI_s, vu_e, va_up_self, ud_e, ud_n, c40, s40_I, s40_In, s40_mA, s40_mL, s40_mT, s40_mq, s40_ml, h0]
    try simp only [w_ite]
    exact hQ
  | succ t ih =>
    intro i ht
    have hB_i : ((64 : Int32) ≤ nI (i)) = False := nf_ge (c := 64) (by omega) (by decide)
    have hN_i : (nI (i) < 0) = False := nf_neg (by omega)
    have hV_i : vp_in (nI (i)) 64 = True := nf_in (by omega) (by decide)
    have hC_i : (nI (i)).toNatClampNeg = i := nI_clamp (by omega)
    have hS_i : nI (i) + 1 = nI (i + 1) := nI_1 _
    have hih := ih (i + 1) (by omega)
    rw [mrw] at hih
    by_cases h1 : mA m 43 i = 0
    · have h1' : (mA m 43 i = 0) = True := eq_true h1
      rw [if_pos h1] at hih
      refine Vj.wp [] 60 [4] ?_
      simp only [st1_n0, st1_ns, st2_n0, st2_ns, clr_n, ld_0, ld_s, st1_0, st1_1, st1_s, st2_0, st2_1, st2_s, clr_c, kil_n, kil_i, kil_r, kil_l, gv_0, gv_s, sv_0, sv_s, wld_s, wint_i, wlng_i, wref_i, w1_c, wobj_e, wiar_e, wsar_e, wlar_e, wqar_3, wlen_a, wlkp_s, wret_i, wret_z, wret_l, wtbl_n, wtbl_c, wlks_n, wlks_c, wstat_1, wstat_3, wstat_5, wstat_6, wspec_2, wspec_4, tk_0, tk_s, fit_i, fit_z, fit_l, fit_r, stp_s, wp_s, wcf_e, wdep_s, mem_n, mem_c, cat_0, cat_i, cat_r, cat_l, tl_s, tl_n, en_n, en_i, en_r, en_l, fv0, fv1, fv2, fv3, kl0, kl1, b10, b01, ct_t, ct_f, ap_n, ap_c, len_n, len_c, ta_i, ta_p, sg_16, sw_aload_n, sw_bald, sw_bipush, sw_goto, sw_iadd, sw_ic_ge, sw_iconst, sw_if_eq, sw_iinc, sw_iload_n, sw_ireti, sw_istore_n, i_X8_rows_0, i_X8_rows_1, i_X8_rows_2, i_X8_rows_3, i_X8_rows_4, i_X8_rows_5, i_X8_rows_7, i_X8_rows_10, i_X8_rows_11, i_X8_rows_12, i_X8_rows_15, i_X8_rows_16, i_X8_rows_17, i_X8_rows_20, i_X8_rows_21, i_X8_rows_24, i_X8_rows_25, i_X8_rows_26, i_X8_rows_27, i_X8_rows_30, i_X8_rows_33, i_X8_rows_34, k_0, k_1, kb_64, pf_8_16, t_17_7, t_21_4, t_30_m26, t_7_26, mp_MX8_rows, mr_MX8_rows, ↓reduceIte, Bool.false_eq_true, Nat.reduceEqDiff, Nat.reduceAdd, Nat.reduceBEq, Nat.zero_le, Int.reduceAdd, Nat.reduceLeDiff, Nat.reduceLT, true_and, and_true, true_implies, implies_true, Nat.reduceMul, Nat.le_add_left, eq_self, true_or, or_true, not_true_eq_false, not_false_eq_true, false_implies, forall_const, mI_sI, mA_sI, mL_sI, mT_sI, mq_sI, ml_sI, mI_sA, mA_sA, mL_sA, mT_sA, mq_sA, ml_sA, mI_sL, mA_sL, mL_sL, mT_sL, mq_sL, ml_sL, mI_sT, mA_sT, mL_sT, mT_sT, mq_sT, ml_sT, sI_sI, sA_sA, sL_sL, sT_sT, vw_0, vw_1, vw_2, vw_3, vw_4, vw_5, vw_6, vw_7, vw_32, vw_33, vw_34, vw_35, vw_36, vw_37, vw_38, vw_39, vw_41, vw_42, vw_43, vw_44, vw_45, vw_46, vw_47, vw_48, vw_49, vw_50, vw_51, vw_52, vw_53, vw_54, vw_55, vw_56, vw_57, vw_58, vw_59, vw_60, vw_61, vw_62, vw_63, vw_64, vw_65, up_1, up_2, up_32, up_35, up_38, up_3, up_4, up_5, up_6, up_33, up_36, up_37, up_39, up_41, up_42, up_43, up_44, up_45, up_46, up_47, up_48, up_49, up_50, up_51, up_52, up_53, up_54, up_55, up_56, up_57, up_58, up_59, up_60, up_61, up_62, up_63, up_64, up_65, lI_0, lI_s, vu_e, va_up_self, ud_e, ud_n, c40, s40_I, s40_In, s40_mA, s40_mL, s40_mT, s40_mq, s40_ml, hB_i, hN_i, hV_i, hC_i, hS_i, h1']
      try simp only [w_ite]
      exact hih
    · rw [if_neg h1] at hih
      refine Vj.wp [] 60 [4] ?_
      simp only [st1_n0, st1_ns, st2_n0, st2_ns, clr_n, ld_0, ld_s, st1_0, st1_1, st1_s, st2_0, st2_1, st2_s, clr_c, kil_n, kil_i, kil_r, kil_l, gv_0, gv_s, sv_0, sv_s, wld_s, wint_i, wlng_i, wref_i, w1_c, wobj_e, wiar_e, wsar_e, wlar_e, wqar_3, wlen_a, wlkp_s, wret_i, wret_z, wret_l, wtbl_n, wtbl_c, wlks_n, wlks_c, wstat_1, wstat_3, wstat_5, wstat_6, wspec_2, wspec_4, tk_0, tk_s, fit_i, fit_z, fit_l, fit_r, stp_s, wp_s, wcf_e, wdep_s, mem_n, mem_c, cat_0, cat_i, cat_r, cat_l, tl_s, tl_n, en_n, en_i, en_r, en_l, fv0, fv1, fv2, fv3, kl0, kl1, b10, b01, ct_t, ct_f, ap_n, ap_c, len_n, len_c, ta_i, ta_p, sg_16, sw_aload_n, sw_bald, sw_bipush, sw_goto, sw_iadd, sw_ic_ge, sw_iconst, sw_if_eq, sw_iinc, sw_iload_n, sw_ireti, sw_istore_n, i_X8_rows_0, i_X8_rows_1, i_X8_rows_2, i_X8_rows_3, i_X8_rows_4, i_X8_rows_5, i_X8_rows_7, i_X8_rows_10, i_X8_rows_11, i_X8_rows_12, i_X8_rows_15, i_X8_rows_16, i_X8_rows_17, i_X8_rows_20, i_X8_rows_21, i_X8_rows_24, i_X8_rows_25, i_X8_rows_26, i_X8_rows_27, i_X8_rows_30, i_X8_rows_33, i_X8_rows_34, k_0, k_1, kb_64, pf_8_16, t_17_7, t_21_4, t_30_m26, t_7_26, mp_MX8_rows, mr_MX8_rows, ↓reduceIte, Bool.false_eq_true, Nat.reduceEqDiff, Nat.reduceAdd, Nat.reduceBEq, Nat.zero_le, Int.reduceAdd, Nat.reduceLeDiff, Nat.reduceLT, true_and, and_true, true_implies, implies_true, Nat.reduceMul, Nat.le_add_left, eq_self, true_or, or_true, not_true_eq_false, not_false_eq_true, false_implies, forall_const, mI_sI, mA_sI, mL_sI, mT_sI, mq_sI, ml_sI, mI_sA, mA_sA, mL_sA, mT_sA, mq_sA, ml_sA, mI_sL, mA_sL, mL_sL, mT_sL, mq_sL, ml_sL, mI_sT, mA_sT, mL_sT, mT_sT, mq_sT, ml_sT, sI_sI, sA_sA, sL_sL, sT_sT, vw_0, vw_1, vw_2, vw_3, vw_4, vw_5, vw_6, vw_7, vw_32, vw_33, vw_34, vw_35, vw_36, vw_37, vw_38, vw_39, vw_41, vw_42, vw_43, vw_44, vw_45, vw_46, vw_47, vw_48, vw_49, vw_50, vw_51, vw_52, vw_53, vw_54, vw_55, vw_56, vw_57, vw_58, vw_59, vw_60, vw_61, vw_62, vw_63, vw_64, vw_65, up_1, up_2, up_32, up_35, up_38, up_3, up_4, up_5, up_6, up_33, up_36, up_37, up_39, up_41, up_42, up_43, up_44, up_45, up_46, up_47, up_48, up_49, up_50, up_51, up_52, up_53, up_54, up_55, up_56, up_57, up_58, up_59, up_60, up_61, up_62, up_63, up_64, up_65, lI_0, lI_s, vu_e, va_up_self, ud_e, ud_n, c40, s40_I, s40_In, s40_mA, s40_mL, s40_mT, s40_mq, s40_ml, hB_i, hN_i, hV_i, hC_i, hS_i, h1]
      try simp only [w_ite]
      exact hih
set_option maxHeartbeats 4000000 in
set_option maxRecDepth 100000 in
theorem cm_rows {d n : Nat} {m : Mm} : Ct MX8_rows d [.ref 40] n (vw m) (pI (mrw (mA m 43) 64) n (vw m)) := by
  refine Ct.of (by decide) rfl rfl (Nat.le_of_ble_eq_true rfl) ?_
  refine Vj.wp [] 60 [4] ?_
  simp only [st1_n0, st1_ns, st2_n0, st2_ns, clr_n, ld_0, ld_s, st1_0, st1_1, st1_s, st2_0, st2_1, st2_s, clr_c, kil_n, kil_i, kil_r, kil_l, gv_0, gv_s, sv_0, sv_s, wld_s, wint_i, wlng_i, wref_i, w1_c, wobj_e, wiar_e, wsar_e, wlar_e, wqar_3, wlen_a, wlkp_s, wret_i, wret_z, wret_l, wtbl_n, wtbl_c, wlks_n, wlks_c, wstat_1, wstat_3, wstat_5, wstat_6, wspec_2, wspec_4, tk_0, tk_s, fit_i, fit_z, fit_l, fit_r, stp_s, wp_s, wcf_e, wdep_s, mem_n, mem_c, cat_0, cat_i, cat_r, cat_l, tl_s, tl_n, en_n, en_i, en_r, en_l, fv0, fv1, fv2, fv3, kl0, kl1, b10, b01, ct_t, ct_f, ap_n, ap_c, len_n, len_c, ta_i, ta_p, sg_16, sw_aload_n, sw_bald, sw_bipush, sw_goto, sw_iadd, sw_ic_ge, sw_iconst, sw_if_eq, sw_iinc, sw_iload_n, sw_ireti, sw_istore_n, i_X8_rows_0, i_X8_rows_1, i_X8_rows_2, i_X8_rows_3, i_X8_rows_4, i_X8_rows_5, i_X8_rows_7, i_X8_rows_10, i_X8_rows_11, i_X8_rows_12, i_X8_rows_15, i_X8_rows_16, i_X8_rows_17, i_X8_rows_20, i_X8_rows_21, i_X8_rows_24, i_X8_rows_25, i_X8_rows_26, i_X8_rows_27, i_X8_rows_30, i_X8_rows_33, i_X8_rows_34, k_0, k_1, kb_64, pf_8_16, t_17_7, t_21_4, t_30_m26, t_7_26, mp_MX8_rows, mr_MX8_rows, ↓reduceIte, Bool.false_eq_true, Nat.reduceEqDiff, Nat.reduceAdd, Nat.reduceBEq, Nat.zero_le, Int.reduceAdd, Nat.reduceLeDiff, Nat.reduceLT, true_and, and_true, true_implies, implies_true, Nat.reduceMul, Nat.le_add_left, eq_self, true_or, or_true, not_true_eq_false, not_false_eq_true, false_implies, forall_const, mI_sI, mA_sI, mL_sI, mT_sI, mq_sI, ml_sI, mI_sA, mA_sA, mL_sA, mT_sA, mq_sA, ml_sA, mI_sL, mA_sL, mL_sL, mT_sL, mq_sL, ml_sL, mI_sT, mA_sT, mL_sT, mT_sT, mq_sT, ml_sT, sI_sI, sA_sA, sL_sL, sT_sT, vw_0, vw_1, vw_2, vw_3, vw_4, vw_5, vw_6, vw_7, vw_32, vw_33, vw_34, vw_35, vw_36, vw_37, vw_38, vw_39, vw_41, vw_42, vw_43, vw_44, vw_45, vw_46, vw_47, vw_48, vw_49, vw_50, vw_51, vw_52, vw_53, vw_54, vw_55, vw_56, vw_57, vw_58, vw_59, vw_60, vw_61, vw_62, vw_63, vw_64, vw_65, up_1, up_2, up_32, up_35, up_38, up_3, up_4, up_5, up_6, up_33, up_36, up_37, up_39, up_41, up_42, up_43, up_44, up_45, up_46, up_47, up_48, up_49, up_50, up_51, up_52, up_53, up_54, up_55, up_56, up_57, up_58, up_59, up_60, up_61, up_62, up_63, up_64, up_65, lI_0, lI_s, vu_e, va_up_self, ud_e, ud_n, c40, s40_I, s40_In, s40_mA, s40_mL, s40_mT, s40_mq, s40_ml]
  try simp only [w_ite]
  exact lm_rows (Q := pI (mrw (mA m 43) 64) n (vw m)) ⟨rfl, rfl, rfl⟩ 64 0 (by omega)
def emL (g : Nat → Int32) : Nat := fa_first (fun j => g j == 0) 64
set_option maxHeartbeats 4000000 in
set_option maxRecDepth 100000 in
theorem lm_emptyLine {d n : Nat} {m : Mm} {Q : Po} (hQ : Q (some (.int (nI (emL (mA m 43))))) n (vw m)) : ∀ (t i : Nat), t + i = 64 → (∀ j, j < i → ¬ mA m 43 j = 0) → Vj MX8_emptyLine d 0 0 2 [some (.ref 40), some (.int (nI i))] [] n (vw m) Q := by
  intro t
  induction t with
  | zero =>
    intro i ht h
    have hi : i = 64 := by omega
    subst hi
    have h0 : ((64 : Int32) ≤ nI 64) = True := eq_true (by decide)
    refine Vj.wp [] 60 [2] ?_
    simp only [st1_n0, st1_ns, st2_n0, st2_ns, clr_n, ld_0, ld_s, st1_0, st1_1, st1_s, st2_0, st2_1, st2_s, clr_c, kil_n, kil_i, kil_r, kil_l, gv_0, gv_s, sv_0, sv_s, wld_s, wint_i, wlng_i, wref_i, w1_c, wobj_e, wiar_e, wsar_e, wlar_e, wqar_3, wlen_a, wlkp_s, wret_i, wret_z, wret_l, wtbl_n, wtbl_c, wlks_n, wlks_c, wstat_1, wstat_3, wstat_5, wstat_6, wspec_2, wspec_4, tk_0, tk_s, fit_i, fit_z, fit_l, fit_r, stp_s, wp_s, wcf_e, wdep_s, mem_n, mem_c, cat_0, cat_i, cat_r, cat_l, tl_s, tl_n, en_n, en_i, en_r, en_l, fv0, fv1, fv2, fv3, kl0, kl1, b10, b01, ct_t, ct_f, ap_n, ap_c, len_n, len_c, ta_i, ta_p, sg_16, sw_aload_n, sw_bald, sw_bipush, sw_goto, sw_ic_ge, sw_iconst, sw_if_eq, sw_iinc, sw_iload_n, sw_ireti, sw_istore_n, i_X8_emptyLine_0, i_X8_emptyLine_1, i_X8_emptyLine_2, i_X8_emptyLine_3, i_X8_emptyLine_5, i_X8_emptyLine_8, i_X8_emptyLine_9, i_X8_emptyLine_12, i_X8_emptyLine_13, i_X8_emptyLine_14, i_X8_emptyLine_17, i_X8_emptyLine_20, i_X8_emptyLine_23, i_X8_emptyLine_24, k_0, k_1, kb_64, pf_8_16, t_14_9, t_20_m18, t_5_18, mp_MX8_emptyLine, mr_MX8_emptyLine, ↓reduceIte, Bool.false_eq_true, Nat.reduceEqDiff, Nat.reduceAdd, Nat.reduceBEq, Nat.zero_le, Int.reduceAdd, Nat.reduceLeDiff, Nat.reduceLT, true_and, and_true, true_implies, implies_true, Nat.reduceMul, Nat.le_add_left, eq_self, true_or, or_true, not_true_eq_false, not_false_eq_true, false_implies, forall_const, mI_sI, mA_sI, mL_sI, mT_sI, mq_sI, ml_sI, mI_sA, mA_sA, mL_sA, mT_sA, mq_sA, ml_sA, mI_sL, mA_sL, mL_sL, mT_sL, mq_sL, ml_sL, mI_sT, mA_sT, mL_sT, mT_sT, mq_sT, ml_sT, sI_sI, sA_sA, sL_sL, sT_sT, vw_0, vw_1, vw_2, vw_3, vw_4, vw_5, vw_6, vw_7, vw_32, vw_33, vw_34, vw_35, vw_36, vw_37, vw_38, vw_39, vw_41, vw_42, vw_43, vw_44, vw_45, vw_46, vw_47, vw_48, vw_49, vw_50, vw_51, vw_52, vw_53, vw_54, vw_55, vw_56, vw_57, vw_58, vw_59, vw_60, vw_61, vw_62, vw_63, vw_64, vw_65, up_1, up_2, up_32, up_35, up_38, up_3, up_4, up_5, up_6, up_33, up_36, up_37, up_39, up_41, up_42, up_43, up_44, up_45, up_46, up_47, up_48, up_49, up_50, up_51, up_52, up_53, up_54, up_55, up_56, up_57, up_58, up_59, up_60, up_61, up_62, up_63, up_64, up_65, lI_0, lI_s, vu_e, va_up_self, ud_e, ud_n, c40, s40_I, s40_In, s40_mA, s40_mL, s40_mT, s40_mq, s40_ml, h0]
    try simp only [w_ite]
    rw [emL, fa_first_none (fun j hj => by simpa using h j hj)] at hQ
    exact hQ
  | succ t ih =>
    intro i ht h
    have hB_i : ((64 : Int32) ≤ nI (i)) = False := nf_ge (c := 64) (by omega) (by decide)
    have hN_i : (nI (i) < 0) = False := nf_neg (by omega)
    have hV_i : vp_in (nI (i)) 64 = True := nf_in (by omega) (by decide)
    have hC_i : (nI (i)).toNatClampNeg = i := nI_clamp (by omega)
    have hS_i : nI (i) + 1 = nI (i + 1) := nI_1 _
    by_cases h1 : mA m 43 i = 0
    · have h1' : (mA m 43 i = 0) = True := eq_true h1
      refine Vj.wp [] 60 [2] ?_
      simp only [st1_n0, st1_ns, st2_n0, st2_ns, clr_n, ld_0, ld_s, st1_0, st1_1, st1_s, st2_0, st2_1, st2_s, clr_c, kil_n, kil_i, kil_r, kil_l, gv_0, gv_s, sv_0, sv_s, wld_s, wint_i, wlng_i, wref_i, w1_c, wobj_e, wiar_e, wsar_e, wlar_e, wqar_3, wlen_a, wlkp_s, wret_i, wret_z, wret_l, wtbl_n, wtbl_c, wlks_n, wlks_c, wstat_1, wstat_3, wstat_5, wstat_6, wspec_2, wspec_4, tk_0, tk_s, fit_i, fit_z, fit_l, fit_r, stp_s, wp_s, wcf_e, wdep_s, mem_n, mem_c, cat_0, cat_i, cat_r, cat_l, tl_s, tl_n, en_n, en_i, en_r, en_l, fv0, fv1, fv2, fv3, kl0, kl1, b10, b01, ct_t, ct_f, ap_n, ap_c, len_n, len_c, ta_i, ta_p, sg_16, sw_aload_n, sw_bald, sw_bipush, sw_goto, sw_ic_ge, sw_iconst, sw_if_eq, sw_iinc, sw_iload_n, sw_ireti, sw_istore_n, i_X8_emptyLine_0, i_X8_emptyLine_1, i_X8_emptyLine_2, i_X8_emptyLine_3, i_X8_emptyLine_5, i_X8_emptyLine_8, i_X8_emptyLine_9, i_X8_emptyLine_12, i_X8_emptyLine_13, i_X8_emptyLine_14, i_X8_emptyLine_17, i_X8_emptyLine_20, i_X8_emptyLine_23, i_X8_emptyLine_24, k_0, k_1, kb_64, pf_8_16, t_14_9, t_20_m18, t_5_18, mp_MX8_emptyLine, mr_MX8_emptyLine, ↓reduceIte, Bool.false_eq_true, Nat.reduceEqDiff, Nat.reduceAdd, Nat.reduceBEq, Nat.zero_le, Int.reduceAdd, Nat.reduceLeDiff, Nat.reduceLT, true_and, and_true, true_implies, implies_true, Nat.reduceMul, Nat.le_add_left, eq_self, true_or, or_true, not_true_eq_false, not_false_eq_true, false_implies, forall_const, mI_sI, mA_sI, mL_sI, mT_sI, mq_sI, ml_sI, mI_sA, mA_sA, mL_sA, mT_sA, mq_sA, ml_sA, mI_sL, mA_sL, mL_sL, mT_sL, mq_sL, ml_sL, mI_sT, mA_sT, mL_sT, mT_sT, mq_sT, ml_sT, sI_sI, sA_sA, sL_sL, sT_sT, vw_0, vw_1, vw_2, vw_3, vw_4, vw_5, vw_6, vw_7, vw_32, vw_33, vw_34, vw_35, vw_36, vw_37, vw_38, vw_39, vw_41, vw_42, vw_43, vw_44, vw_45, vw_46, vw_47, vw_48, vw_49, vw_50, vw_51, vw_52, vw_53, vw_54, vw_55, vw_56, vw_57, vw_58, vw_59, vw_60, vw_61, vw_62, vw_63, vw_64, vw_65, up_1, up_2, up_32, up_35, up_38, up_3, up_4, up_5, up_6, up_33, up_36, up_37, up_39, up_41, up_42, up_43, up_44, up_45, up_46, up_47, up_48, up_49, up_50, up_51, up_52, up_53, up_54, up_55, up_56, up_57, up_58, up_59, up_60, up_61, up_62, up_63, up_64, up_65, lI_0, lI_s, vu_e, va_up_self, ud_e, ud_n, c40, s40_I, s40_In, s40_mA, s40_mL, s40_mT, s40_mq, s40_ml, hB_i, hN_i, hV_i, hC_i, hS_i, h1']
      try simp only [w_ite]
      rw [emL, fa_first_eq (i := i) (by omega) (fun j hj => by simpa using h j hj) (by simpa using h1)] at hQ
      exact hQ
    · refine Vj.wp [] 60 [2] ?_
      simp only [st1_n0, st1_ns, st2_n0, st2_ns, clr_n, ld_0, ld_s, st1_0, st1_1, st1_s, st2_0, st2_1, st2_s, clr_c, kil_n, kil_i, kil_r, kil_l, gv_0, gv_s, sv_0, sv_s, wld_s, wint_i, wlng_i, wref_i, w1_c, wobj_e, wiar_e, wsar_e, wlar_e, wqar_3, wlen_a, wlkp_s, wret_i, wret_z, wret_l, wtbl_n, wtbl_c, wlks_n, wlks_c, wstat_1, wstat_3, wstat_5, wstat_6, wspec_2, wspec_4, tk_0, tk_s, fit_i, fit_z, fit_l, fit_r, stp_s, wp_s, wcf_e, wdep_s, mem_n, mem_c, cat_0, cat_i, cat_r, cat_l, tl_s, tl_n, en_n, en_i, en_r, en_l, fv0, fv1, fv2, fv3, kl0, kl1, b10, b01, ct_t, ct_f, ap_n, ap_c, len_n, len_c, ta_i, ta_p, sg_16, sw_aload_n, sw_bald, sw_bipush, sw_goto, sw_ic_ge, sw_iconst, sw_if_eq, sw_iinc, sw_iload_n, sw_ireti, sw_istore_n, i_X8_emptyLine_0, i_X8_emptyLine_1, i_X8_emptyLine_2, i_X8_emptyLine_3, i_X8_emptyLine_5, i_X8_emptyLine_8, i_X8_emptyLine_9, i_X8_emptyLine_12, i_X8_emptyLine_13, i_X8_emptyLine_14, i_X8_emptyLine_17, i_X8_emptyLine_20, i_X8_emptyLine_23, i_X8_emptyLine_24, k_0, k_1, kb_64, pf_8_16, t_14_9, t_20_m18, t_5_18, mp_MX8_emptyLine, mr_MX8_emptyLine, ↓reduceIte, Bool.false_eq_true, Nat.reduceEqDiff, Nat.reduceAdd, Nat.reduceBEq, Nat.zero_le, Int.reduceAdd, Nat.reduceLeDiff, Nat.reduceLT, true_and, and_true, true_implies, implies_true, Nat.reduceMul, Nat.le_add_left, eq_self, true_or, or_true, not_true_eq_false, not_false_eq_true, false_implies, forall_const, mI_sI, mA_sI, mL_sI, mT_sI, mq_sI, ml_sI, mI_sA, mA_sA, mL_sA, mT_sA, mq_sA, ml_sA, mI_sL, mA_sL, mL_sL, mT_sL, mq_sL, ml_sL, mI_sT, mA_sT, mL_sT, mT_sT, mq_sT, ml_sT, sI_sI, sA_sA, sL_sL, sT_sT, vw_0, vw_1, vw_2, vw_3, vw_4, vw_5, vw_6, vw_7, vw_32, vw_33, vw_34, vw_35, vw_36, vw_37, vw_38, vw_39, vw_41, vw_42, vw_43, vw_44, vw_45, vw_46, vw_47, vw_48, vw_49, vw_50, vw_51, vw_52, vw_53, vw_54, vw_55, vw_56, vw_57, vw_58, vw_59, vw_60, vw_61, vw_62, vw_63, vw_64, vw_65, up_1, up_2, up_32, up_35, up_38, up_3, up_4, up_5, up_6, up_33, up_36, up_37, up_39, up_41, up_42, up_43, up_44, up_45, up_46, up_47, up_48, up_49, up_50, up_51, up_52, up_53, up_54, up_55, up_56, up_57, up_58, up_59, up_60, up_61, up_62, up_63, up_64, up_65, lI_0, lI_s, vu_e, va_up_self, ud_e, ud_n, c40, s40_I, s40_In, s40_mA, s40_mL, s40_mT, s40_mq, s40_ml, hB_i, hN_i, hV_i, hC_i, hS_i, h1]
      try simp only [w_ite]
      refine ih (i + 1) (by omega) (fun j hj => ?_)
      rcases Nat.lt_or_ge j i with q | q
      · exact h j q
      · rw [show j = i by omega]; exact h1
set_option maxHeartbeats 4000000 in
set_option maxRecDepth 100000 in
theorem cm_emptyLine {d n : Nat} {m : Mm} : Ct MX8_emptyLine d [.ref 40] n (vw m) (pI (nI (emL (mA m 43))) n (vw m)) := by
  refine Ct.of (by decide) rfl rfl (Nat.le_of_ble_eq_true rfl) ?_
  refine Vj.wp [] 60 [2] ?_
  simp only [st1_n0, st1_ns, st2_n0, st2_ns, clr_n, ld_0, ld_s, st1_0, st1_1, st1_s, st2_0, st2_1, st2_s, clr_c, kil_n, kil_i, kil_r, kil_l, gv_0, gv_s, sv_0, sv_s, wld_s, wint_i, wlng_i, wref_i, w1_c, wobj_e, wiar_e, wsar_e, wlar_e, wqar_3, wlen_a, wlkp_s, wret_i, wret_z, wret_l, wtbl_n, wtbl_c, wlks_n, wlks_c, wstat_1, wstat_3, wstat_5, wstat_6, wspec_2, wspec_4, tk_0, tk_s, fit_i, fit_z, fit_l, fit_r, stp_s, wp_s, wcf_e, wdep_s, mem_n, mem_c, cat_0, cat_i, cat_r, cat_l, tl_s, tl_n, en_n, en_i, en_r, en_l, fv0, fv1, fv2, fv3, kl0, kl1, b10, b01, ct_t, ct_f, ap_n, ap_c, len_n, len_c, ta_i, ta_p, sg_16, sw_aload_n, sw_bald, sw_bipush, sw_goto, sw_ic_ge, sw_iconst, sw_if_eq, sw_iinc, sw_iload_n, sw_ireti, sw_istore_n, i_X8_emptyLine_0, i_X8_emptyLine_1, i_X8_emptyLine_2, i_X8_emptyLine_3, i_X8_emptyLine_5, i_X8_emptyLine_8, i_X8_emptyLine_9, i_X8_emptyLine_12, i_X8_emptyLine_13, i_X8_emptyLine_14, i_X8_emptyLine_17, i_X8_emptyLine_20, i_X8_emptyLine_23, i_X8_emptyLine_24, k_0, k_1, kb_64, pf_8_16, t_14_9, t_20_m18, t_5_18, mp_MX8_emptyLine, mr_MX8_emptyLine, ↓reduceIte, Bool.false_eq_true, Nat.reduceEqDiff, Nat.reduceAdd, Nat.reduceBEq, Nat.zero_le, Int.reduceAdd, Nat.reduceLeDiff, Nat.reduceLT, true_and, and_true, true_implies, implies_true, Nat.reduceMul, Nat.le_add_left, eq_self, true_or, or_true, not_true_eq_false, not_false_eq_true, false_implies, forall_const, mI_sI, mA_sI, mL_sI, mT_sI, mq_sI, ml_sI, mI_sA, mA_sA, mL_sA, mT_sA, mq_sA, ml_sA, mI_sL, mA_sL, mL_sL, mT_sL, mq_sL, ml_sL, mI_sT, mA_sT, mL_sT, mT_sT, mq_sT, ml_sT, sI_sI, sA_sA, sL_sL, sT_sT, vw_0, vw_1, vw_2, vw_3, vw_4, vw_5, vw_6, vw_7, vw_32, vw_33, vw_34, vw_35, vw_36, vw_37, vw_38, vw_39, vw_41, vw_42, vw_43, vw_44, vw_45, vw_46, vw_47, vw_48, vw_49, vw_50, vw_51, vw_52, vw_53, vw_54, vw_55, vw_56, vw_57, vw_58, vw_59, vw_60, vw_61, vw_62, vw_63, vw_64, vw_65, up_1, up_2, up_32, up_35, up_38, up_3, up_4, up_5, up_6, up_33, up_36, up_37, up_39, up_41, up_42, up_43, up_44, up_45, up_46, up_47, up_48, up_49, up_50, up_51, up_52, up_53, up_54, up_55, up_56, up_57, up_58, up_59, up_60, up_61, up_62, up_63, up_64, up_65, lI_0, lI_s, vu_e, va_up_self, ud_e, ud_n, c40, s40_I, s40_In, s40_mA, s40_mL, s40_mT, s40_mq, s40_ml]
  try simp only [w_ite]
  exact lm_emptyLine (Q := pI (nI (emL (mA m 43))) n (vw m)) ⟨rfl, rfl, rfl⟩ 64 0 (by omega) (fun j h => absurd h (Nat.not_lt_zero j))
def bl01 (x : Int32) : Prop := x = 0 ∨ x = 1
theorem nb_e {x : Int32} (h : bl01 x) : vp_nar .boolean x = x := by rcases h with rfl | rfl <;> decide
theorem nb_0 : vp_nar .boolean 0 = 0 := by decide
theorem nb_1 : vp_nar .boolean 1 = 1 := by decide
/-- the first places moved down by s, as far as k -/
def shF (g : Nat → Int32) (s k : Nat) : Nat → Int32 := fun j => if j + s < k then g (j + s) else g j
theorem shF_s {g : Nat → Int32} {s k : Nat} (h : s ≤ k) : upd (shF g s k) (k - s) (shF g s k k) = shF g s (k + 1) := by
  funext j
  by_cases e : j = k - s
  · subst e
    rw [ud_e]; unfold shF
    by_cases z : s = 0
    · subst z; simp
    · rw [if_neg (by omega), if_pos (by omega)]; congr 1; omega
  · rw [ud_n e]; unfold shF
    by_cases q : j + s < k
    · rw [if_pos q, if_pos (by omega)]
    · rw [if_neg q, if_neg (by omega)]
theorem shF_0 {g : Nat → Int32} {s : Nat} : shF g s s = g := by
  funext j; unfold shF; rw [if_neg (by omega)]
/-- n places from b on taken from a on -/
def cpF (g h : Nat → Int32) (b a n : Nat) : Nat → Int32 := fun j => if b ≤ j ∧ j < b + n then h (a + (j - b)) else g j
theorem cpF_s {g h : Nat → Int32} {b a n : Nat} : upd (cpF g h b a n) (b + n) (h (a + n)) = cpF g h b a (n + 1) := by
  funext j
  by_cases e : j = b + n
  · subst e
    rw [ud_e]; unfold cpF; rw [if_pos (by omega)]; congr 1; omega
  · rw [ud_n e]; unfold cpF
    by_cases q : b ≤ j ∧ j < b + n
    · rw [if_pos q, if_pos (by omega)]
    · rw [if_neg q, if_neg (by omega)]
theorem cpF_0 {g h : Nat → Int32} {b a : Nat} : cpF g h b a 0 = g := by
  funext j; unfold cpF; rw [if_neg (by omega)]
theorem ud_ud {g : Nat → Int32} {j : Nat} {x y : Int32} : upd (upd g j x) j y = upd g j y := by
  funext k
  by_cases e : k = j
  · subst e; rw [ud_e, ud_e]
  · rw [ud_n e, ud_n e, ud_n e]
