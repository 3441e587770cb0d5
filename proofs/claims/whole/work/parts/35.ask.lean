/-! ===== a new question ===== -/
/-- a memory with one question more, its letters L -/
def nq (m : Mm) (L : Nat) : Mm := (va_up (mI m) (66 + 4 * mq m) (fun _ => 0), va_up (va_up (mA m) (67 + 4 * mq m) (fun _ => 0)) (68 + 4 * mq m) (fun _ => 0), va_up (mL m) (69 + 4 * mq m) (fun _ => 0), mT m, mq m + 1, va_up (ml m) (mq m) L)
theorem vwL_c2 {m m' : Mm} {k : Nat} (h1 : mI m' k = mI m k) (h2 : mA m' k = mA m k) : vwL m' k = vwL m k := by
  unfold vwL
  split <;> simp only [h1, h2]
theorem nq_else {m : Mm} {L k : Nat} (hk : k < 66 + 4 * mq m ∨ 69 + 4 * mq m < k) : vw (nq m L) k = vw m k := by
  have i1 : mI (nq m L) k = mI m k := va_up_ne _ _ (by omega)
  have i2 : mA (nq m L) k = mA m k := (va_up_ne _ _ (by omega)).trans (va_up_ne _ _ (by omega))
  have i3 : mL (nq m L) k = mL m k := va_up_ne _ _ (by omega)
  have i4 : mT (nq m L) k = mT m k := rfl
  have i5 : mq (nq m L) = mq m + 1 := rfl
  unfold vw
  rw [vwL_c2 i1 i2, vwC_cong i1 i2 i3 i4, i5]
  by_cases c1 : k < 8
  · rw [if_pos c1, if_pos c1]
  by_cases c2 : k < 32
  · rw [if_neg c1, if_neg c1, if_pos c2, if_pos c2]
  by_cases c3 : k < 66
  · rw [if_neg c1, if_neg c1, if_neg c2, if_neg c2, if_pos c3, if_pos c3]
  rw [if_neg c1, if_neg c1, if_neg c2, if_neg c2, if_neg c3, if_neg c3]
  rcases hk with hk | hk
  · rw [if_pos (by omega), if_pos hk]
    have i6 : ml (nq m L) ((k - 66) / 4) = ml m ((k - 66) / 4) := va_up_ne _ _ (by omega)
    unfold vwQ
    rw [i1, i2, i3, i6]
  · rw [if_neg (by omega), if_neg (by omega)]
theorem nq_heap {m : Mm} {L a : Nat} (ha : a = 66 + 4 * mq m) (f : Nat → Ac) (h0 : f a = .inr (3, [.ref (a + 1), .ref (a + 2), .ref (a + 3), .int 0, .int 0, .int 0])) (h1 : f (a + 1) = .inl (0, L, .inl fun _ => 0)) (h2 : f (a + 2) = .inl (0, L, .inl fun _ => 0)) (h3 : f (a + 3) = .inl (2, L, .inr (.inl fun _ => 0))) (h4 : ∀ k, k < a ∨ a + 3 < k → f k = vw m k) : f = vw (nq m L) := by
  subst ha
  have hq : mq m < mq (nq m L) := Nat.lt_succ_self _
  have hl : ml (nq m L) (mq m) = L := va_up_self ..
  funext k
  by_cases c0 : k = 66 + 4 * mq m
  · subst c0
    rw [h0, vw_q0 hq]
    rw [show 66 + 4 * mq m + 1 = 67 + 4 * mq m by omega, show 66 + 4 * mq m + 2 = 68 + 4 * mq m by omega, show 66 + 4 * mq m + 3 = 69 + 4 * mq m by omega]
    rw [show mI (nq m L) (66 + 4 * mq m) = fun _ => 0 from va_up_self ..]
  by_cases c1 : k = 67 + 4 * mq m
  · subst c1
    rw [show 67 + 4 * mq m = 66 + 4 * mq m + 1 by omega, h1, show 66 + 4 * mq m + 1 = 67 + 4 * mq m by omega, vw_q1 hq, hl]
    rw [show mA (nq m L) (67 + 4 * mq m) = fun _ => 0 from (va_up_ne _ _ (by omega)).trans (va_up_self ..)]
  by_cases c2 : k = 68 + 4 * mq m
  · subst c2
    rw [show 68 + 4 * mq m = 66 + 4 * mq m + 2 by omega, h2, show 66 + 4 * mq m + 2 = 68 + 4 * mq m by omega, vw_q2 hq, hl]
    rw [show mA (nq m L) (68 + 4 * mq m) = fun _ => 0 from va_up_self ..]
  by_cases c3 : k = 69 + 4 * mq m
  · subst c3
    rw [show 69 + 4 * mq m = 66 + 4 * mq m + 3 by omega, h3, show 66 + 4 * mq m + 3 = 69 + 4 * mq m by omega, vw_q3 hq, hl]
    rw [show mL (nq m L) (69 + 4 * mq m) = fun _ => 0 from va_up_self ..]
  · rw [h4 k (by omega), nq_else (by omega)]
set_option maxHeartbeats 4000000 in
set_option maxRecDepth 100000 in
theorem c_initQ {d a : Nat} {m : Mm} {L : Nat} (ha : a = 66 + 4 * mq m) (hL : L ≤ 60) (hl : mI m 32 1 = nI L) : Ct MX4_init (d + 4) [.ref a, .ref 32] a (va_up (vw m) a (.inr (3, [.null, .null, .null, .int 0, .int 0, .int 0]))) (pV 0 (vw m)) := by
  refine Ct.of (by decide) rfl rfl (Nat.le_of_ble_eq_true rfl) ?_
  have x0 : (32 == a) = false := by simp; omega
  have x1 : (32 == a + 1) = false := by simp; omega
  have x2 : (32 == a + 2) = false := by simp; omega
  have x3 : (32 == a + 3) = false := by simp; omega
  have y1 : (a == a + 1) = false := by simp
  have y2 : (a == a + 2) = false := by simp
  have y3 : (a == a + 3) = false := by simp
  have z1 : a + 1 + 1 = a + 2 := rfl
  have z2 : a + 2 + 1 = a + 3 := rfl
  have ty : (a == a) = true := by simp
  have hL0 : (nI L < 0) = False := nf_neg (by omega)
  have hLc : (nI L).toNatClampNeg = L := nI_clamp (by omega)
  refine Vj.wp [] 80 [36] ?_
  simp only [st1_n0, st1_ns, st2_n0, st2_ns, clr_n, ld_0, ld_s, st1_0, st1_1, st1_s, st2_0, st2_1, st2_s, clr_c, kil_n, kil_i, kil_r, kil_l, gv_0, gv_s, sv_0, sv_s, wld_s, wint_i, wlng_i, wref_i, w1_c, wobj_e, wiar_e, wsar_e, wlar_e, wqar_3, wlen_a, wlkp_s, wret_i, wret_z, wret_l, wtbl_n, wtbl_c, wlks_n, wlks_c, wstat_1, wstat_3, wstat_5, wstat_6, wspec_2, wspec_4, tk_0, tk_s, fit_i, fit_z, fit_l, fit_r, stp_s, wp_s, wcf_e, wdep_s, mem_n, mem_c, cat_0, cat_i, cat_r, cat_l, tl_s, tl_n, en_n, en_i, en_r, en_l, fv0, fv1, fv2, fv3, kl0, kl1, b10, b01, ct_t, ct_f, ap_n, ap_c, len_n, len_c, ta_i, ta_p, sw_aload_n, sw_bipush, sw_get, sw_goto, sw_ic_ge, sw_iconst, sw_iinc, sw_iload_n, sw_istore_n, sw_naint, sw_nalong, sw_put, sw_spec, sw_virt, sw_vret, i_X4_init_0, i_X4_init_1, i_X4_init_4, i_X4_init_5, i_X4_init_6, i_X4_init_9, i_X4_init_11, i_X4_init_14, i_X4_init_15, i_X4_init_16, i_X4_init_19, i_X4_init_21, i_X4_init_24, i_X4_init_25, i_X4_init_26, i_X4_init_29, i_X4_init_31, i_X4_init_34, i_X4_init_35, i_X4_init_36, i_X4_init_37, i_X4_init_38, i_X4_init_41, i_X4_init_44, i_X4_init_45, i_X4_init_46, i_X4_init_47, i_X4_init_50, i_X4_init_53, i_X4_init_56, i_X4_init_57, i_X4_init_59, i_X4_init_62, k_0, k_1, kb_m3, pf_4_13, pf_4_19, pf_4_22, pf_4_7, pm_4_1, pm_4_26, cc_MX4_takeLetter, pm_4_30, cc_MX4_writeWaiting, t_41_15, t_53_m17, mp_MX4_init, mr_MX4_init, ↓reduceIte, Bool.false_eq_true, Nat.reduceEqDiff, Nat.reduceAdd, Nat.reduceBEq, Nat.zero_le, Int.reduceAdd, Nat.reduceLeDiff, Nat.reduceLT, true_and, and_true, true_implies, implies_true, Nat.reduceMul, Nat.le_add_left, eq_self, true_or, or_true, not_true_eq_false, not_false_eq_true, false_implies, forall_const, mI_sI, mA_sI, mL_sI, mT_sI, mq_sI, ml_sI, mI_sA, mA_sA, mL_sA, mT_sA, mq_sA, ml_sA, mI_sL, mA_sL, mL_sL, mT_sL, mq_sL, ml_sL, mI_sT, mA_sT, mL_sT, mT_sT, mq_sT, ml_sT, sI_sI, sA_sA, sL_sL, sT_sT, vw_0, vw_1, vw_2, vw_3, vw_4, vw_5, vw_6, vw_7, vw_32, vw_33, vw_34, vw_35, vw_36, vw_37, vw_38, vw_39, vw_40, vw_41, vw_42, vw_43, vw_44, vw_45, vw_46, vw_47, vw_48, vw_49, vw_50, vw_51, vw_52, vw_53, vw_54, vw_55, vw_56, vw_57, vw_58, vw_59, vw_60, vw_61, vw_62, vw_63, vw_64, vw_65, up_1, up_2, up_32, up_35, up_38, up_40, up_3, up_4, up_5, up_6, up_33, up_36, up_37, up_39, up_41, up_42, up_43, up_44, up_45, up_46, up_47, up_48, up_49, up_50, up_51, up_52, up_53, up_54, up_55, up_56, up_57, up_58, up_59, up_60, up_61, up_62, up_63, up_64, up_65, lI_0, lI_s, vu_e, va_up_self, x0, hl, ty]
  try simp only [w_ite]
  refine ⟨L, rfl, by omega, by decide, Nat.le_trans (show 0 + L ≤ 60 by omega) (by decide), ?_⟩
  simp only [st1_n0, st1_ns, st2_n0, st2_ns, clr_n, ld_0, ld_s, st1_0, st1_1, st1_s, st2_0, st2_1, st2_s, clr_c, kil_n, kil_i, kil_r, kil_l, gv_0, gv_s, sv_0, sv_s, wld_s, wint_i, wlng_i, wref_i, w1_c, wobj_e, wiar_e, wsar_e, wlar_e, wqar_3, wlen_a, wlkp_s, wret_i, wret_z, wret_l, wtbl_n, wtbl_c, wlks_n, wlks_c, wstat_1, wstat_3, wstat_5, wstat_6, wspec_2, wspec_4, tk_0, tk_s, fit_i, fit_z, fit_l, fit_r, stp_s, wp_s, wcf_e, wdep_s, mem_n, mem_c, cat_0, cat_i, cat_r, cat_l, tl_s, tl_n, en_n, en_i, en_r, en_l, fv0, fv1, fv2, fv3, kl0, kl1, b10, b01, ct_t, ct_f, ap_n, ap_c, len_n, len_c, ta_i, ta_p, sw_aload_n, sw_bipush, sw_get, sw_goto, sw_ic_ge, sw_iconst, sw_iinc, sw_iload_n, sw_istore_n, sw_naint, sw_nalong, sw_put, sw_spec, sw_virt, sw_vret, i_X4_init_0, i_X4_init_1, i_X4_init_4, i_X4_init_5, i_X4_init_6, i_X4_init_9, i_X4_init_11, i_X4_init_14, i_X4_init_15, i_X4_init_16, i_X4_init_19, i_X4_init_21, i_X4_init_24, i_X4_init_25, i_X4_init_26, i_X4_init_29, i_X4_init_31, i_X4_init_34, i_X4_init_35, i_X4_init_36, i_X4_init_37, i_X4_init_38, i_X4_init_41, i_X4_init_44, i_X4_init_45, i_X4_init_46, i_X4_init_47, i_X4_init_50, i_X4_init_53, i_X4_init_56, i_X4_init_57, i_X4_init_59, i_X4_init_62, k_0, k_1, kb_m3, pf_4_13, pf_4_19, pf_4_22, pf_4_7, pm_4_1, pm_4_26, cc_MX4_takeLetter, pm_4_30, cc_MX4_writeWaiting, t_41_15, t_53_m17, mp_MX4_init, mr_MX4_init, ↓reduceIte, Bool.false_eq_true, Nat.reduceEqDiff, Nat.reduceAdd, Nat.reduceBEq, Nat.zero_le, Int.reduceAdd, Nat.reduceLeDiff, Nat.reduceLT, true_and, and_true, true_implies, implies_true, Nat.reduceMul, Nat.le_add_left, eq_self, true_or, or_true, not_true_eq_false, not_false_eq_true, false_implies, forall_const, mI_sI, mA_sI, mL_sI, mT_sI, mq_sI, ml_sI, mI_sA, mA_sA, mL_sA, mT_sA, mq_sA, ml_sA, mI_sL, mA_sL, mL_sL, mT_sL, mq_sL, ml_sL, mI_sT, mA_sT, mL_sT, mT_sT, mq_sT, ml_sT, sI_sI, sA_sA, sL_sL, sT_sT, vw_0, vw_1, vw_2, vw_3, vw_4, vw_5, vw_6, vw_7, vw_32, vw_33, vw_34, vw_35, vw_36, vw_37, vw_38, vw_39, vw_40, vw_41, vw_42, vw_43, vw_44, vw_45, vw_46, vw_47, vw_48, vw_49, vw_50, vw_51, vw_52, vw_53, vw_54, vw_55, vw_56, vw_57, vw_58, vw_59, vw_60, vw_61, vw_62, vw_63, vw_64, vw_65, up_1, up_2, up_32, up_35, up_38, up_40, up_3, up_4, up_5, up_6, up_33, up_36, up_37, up_39, up_41, up_42, up_43, up_44, up_45, up_46, up_47, up_48, up_49, up_50, up_51, up_52, up_53, up_54, up_55, up_56, up_57, up_58, up_59, up_60, up_61, up_62, up_63, up_64, up_65, lI_0, lI_s, vu_e, va_up_self, x0, x1, y1, hl, ty, z1]; try simp only [w_ite]
  refine ⟨L, rfl, by omega, by decide, Nat.le_trans (show 0 + L + L ≤ 120 by omega) (by decide), ?_⟩
  simp only [st1_n0, st1_ns, st2_n0, st2_ns, clr_n, ld_0, ld_s, st1_0, st1_1, st1_s, st2_0, st2_1, st2_s, clr_c, kil_n, kil_i, kil_r, kil_l, gv_0, gv_s, sv_0, sv_s, wld_s, wint_i, wlng_i, wref_i, w1_c, wobj_e, wiar_e, wsar_e, wlar_e, wqar_3, wlen_a, wlkp_s, wret_i, wret_z, wret_l, wtbl_n, wtbl_c, wlks_n, wlks_c, wstat_1, wstat_3, wstat_5, wstat_6, wspec_2, wspec_4, tk_0, tk_s, fit_i, fit_z, fit_l, fit_r, stp_s, wp_s, wcf_e, wdep_s, mem_n, mem_c, cat_0, cat_i, cat_r, cat_l, tl_s, tl_n, en_n, en_i, en_r, en_l, fv0, fv1, fv2, fv3, kl0, kl1, b10, b01, ct_t, ct_f, ap_n, ap_c, len_n, len_c, ta_i, ta_p, sw_aload_n, sw_bipush, sw_get, sw_goto, sw_ic_ge, sw_iconst, sw_iinc, sw_iload_n, sw_istore_n, sw_naint, sw_nalong, sw_put, sw_spec, sw_virt, sw_vret, i_X4_init_0, i_X4_init_1, i_X4_init_4, i_X4_init_5, i_X4_init_6, i_X4_init_9, i_X4_init_11, i_X4_init_14, i_X4_init_15, i_X4_init_16, i_X4_init_19, i_X4_init_21, i_X4_init_24, i_X4_init_25, i_X4_init_26, i_X4_init_29, i_X4_init_31, i_X4_init_34, i_X4_init_35, i_X4_init_36, i_X4_init_37, i_X4_init_38, i_X4_init_41, i_X4_init_44, i_X4_init_45, i_X4_init_46, i_X4_init_47, i_X4_init_50, i_X4_init_53, i_X4_init_56, i_X4_init_57, i_X4_init_59, i_X4_init_62, k_0, k_1, kb_m3, pf_4_13, pf_4_19, pf_4_22, pf_4_7, pm_4_1, pm_4_26, cc_MX4_takeLetter, pm_4_30, cc_MX4_writeWaiting, t_41_15, t_53_m17, mp_MX4_init, mr_MX4_init, ↓reduceIte, Bool.false_eq_true, Nat.reduceEqDiff, Nat.reduceAdd, Nat.reduceBEq, Nat.zero_le, Int.reduceAdd, Nat.reduceLeDiff, Nat.reduceLT, true_and, and_true, true_implies, implies_true, Nat.reduceMul, Nat.le_add_left, eq_self, true_or, or_true, not_true_eq_false, not_false_eq_true, false_implies, forall_const, mI_sI, mA_sI, mL_sI, mT_sI, mq_sI, ml_sI, mI_sA, mA_sA, mL_sA, mT_sA, mq_sA, ml_sA, mI_sL, mA_sL, mL_sL, mT_sL, mq_sL, ml_sL, mI_sT, mA_sT, mL_sT, mT_sT, mq_sT, ml_sT, sI_sI, sA_sA, sL_sL, sT_sT, vw_0, vw_1, vw_2, vw_3, vw_4, vw_5, vw_6, vw_7, vw_32, vw_33, vw_34, vw_35, vw_36, vw_37, vw_38, vw_39, vw_40, vw_41, vw_42, vw_43, vw_44, vw_45, vw_46, vw_47, vw_48, vw_49, vw_50, vw_51, vw_52, vw_53, vw_54, vw_55, vw_56, vw_57, vw_58, vw_59, vw_60, vw_61, vw_62, vw_63, vw_64, vw_65, up_1, up_2, up_32, up_35, up_38, up_40, up_3, up_4, up_5, up_6, up_33, up_36, up_37, up_39, up_41, up_42, up_43, up_44, up_45, up_46, up_47, up_48, up_49, up_50, up_51, up_52, up_53, up_54, up_55, up_56, up_57, up_58, up_59, up_60, up_61, up_62, up_63, up_64, up_65, lI_0, lI_s, vu_e, va_up_self, x0, x1, x2, y1, y2, hl, ty, z1, z2]; try simp only [w_ite]
  refine ⟨L, rfl, by omega, by decide, Nat.le_trans (show 0 + L + L + L ≤ 180 by omega) (by decide), ?_⟩
  simp only [st1_n0, st1_ns, st2_n0, st2_ns, clr_n, ld_0, ld_s, st1_0, st1_1, st1_s, st2_0, st2_1, st2_s, clr_c, kil_n, kil_i, kil_r, kil_l, gv_0, gv_s, sv_0, sv_s, wld_s, wint_i, wlng_i, wref_i, w1_c, wobj_e, wiar_e, wsar_e, wlar_e, wqar_3, wlen_a, wlkp_s, wret_i, wret_z, wret_l, wtbl_n, wtbl_c, wlks_n, wlks_c, wstat_1, wstat_3, wstat_5, wstat_6, wspec_2, wspec_4, tk_0, tk_s, fit_i, fit_z, fit_l, fit_r, stp_s, wp_s, wcf_e, wdep_s, mem_n, mem_c, cat_0, cat_i, cat_r, cat_l, tl_s, tl_n, en_n, en_i, en_r, en_l, fv0, fv1, fv2, fv3, kl0, kl1, b10, b01, ct_t, ct_f, ap_n, ap_c, len_n, len_c, ta_i, ta_p, sw_aload_n, sw_bipush, sw_get, sw_goto, sw_ic_ge, sw_iconst, sw_iinc, sw_iload_n, sw_istore_n, sw_naint, sw_nalong, sw_put, sw_spec, sw_virt, sw_vret, i_X4_init_0, i_X4_init_1, i_X4_init_4, i_X4_init_5, i_X4_init_6, i_X4_init_9, i_X4_init_11, i_X4_init_14, i_X4_init_15, i_X4_init_16, i_X4_init_19, i_X4_init_21, i_X4_init_24, i_X4_init_25, i_X4_init_26, i_X4_init_29, i_X4_init_31, i_X4_init_34, i_X4_init_35, i_X4_init_36, i_X4_init_37, i_X4_init_38, i_X4_init_41, i_X4_init_44, i_X4_init_45, i_X4_init_46, i_X4_init_47, i_X4_init_50, i_X4_init_53, i_X4_init_56, i_X4_init_57, i_X4_init_59, i_X4_init_62, k_0, k_1, kb_m3, pf_4_13, pf_4_19, pf_4_22, pf_4_7, pm_4_1, pm_4_26, cc_MX4_takeLetter, pm_4_30, cc_MX4_writeWaiting, t_41_15, t_53_m17, mp_MX4_init, mr_MX4_init, ↓reduceIte, Bool.false_eq_true, Nat.reduceEqDiff, Nat.reduceAdd, Nat.reduceBEq, Nat.zero_le, Int.reduceAdd, Nat.reduceLeDiff, Nat.reduceLT, true_and, and_true, true_implies, implies_true, Nat.reduceMul, Nat.le_add_left, eq_self, true_or, or_true, not_true_eq_false, not_false_eq_true, false_implies, forall_const, mI_sI, mA_sI, mL_sI, mT_sI, mq_sI, ml_sI, mI_sA, mA_sA, mL_sA, mT_sA, mq_sA, ml_sA, mI_sL, mA_sL, mL_sL, mT_sL, mq_sL, ml_sL, mI_sT, mA_sT, mL_sT, mT_sT, mq_sT, ml_sT, sI_sI, sA_sA, sL_sL, sT_sT, vw_0, vw_1, vw_2, vw_3, vw_4, vw_5, vw_6, vw_7, vw_32, vw_33, vw_34, vw_35, vw_36, vw_37, vw_38, vw_39, vw_40, vw_41, vw_42, vw_43, vw_44, vw_45, vw_46, vw_47, vw_48, vw_49, vw_50, vw_51, vw_52, vw_53, vw_54, vw_55, vw_56, vw_57, vw_58, vw_59, vw_60, vw_61, vw_62, vw_63, vw_64, vw_65, up_1, up_2, up_32, up_35, up_38, up_40, up_3, up_4, up_5, up_6, up_33, up_36, up_37, up_39, up_41, up_42, up_43, up_44, up_45, up_46, up_47, up_48, up_49, up_50, up_51, up_52, up_53, up_54, up_55, up_56, up_57, up_58, up_59, up_60, up_61, up_62, up_63, up_64, up_65, lI_0, lI_s, vu_e, va_up_self, x0, x1, x2, x3, y1, y2, y3, hl, ty, z1, z2]; try simp only [w_ite]
  trace_state
  sorry
