/-! ===== the model: columns, vectors ===== -/
def vo (s b : Nat) : Nat := if s = 1 then b - 1 else if b = 2 then 1 else b
def rmN (s : Nat) (B : Nat → Nat) : Nat → Nat
  | 0 => 0
  | j + 1 => rmN s B j + vo s (B j)
def pdN (B : Nat → Nat) : Nat → Nat
  | 0 => 1
  | j + 1 => pdN B j * B j
theorem nI_ne {a b : Nat} (ha : a < 2 ^ 31) (hb : b < 2 ^ 31) (h : ¬ a = b) : (nI a = nI b) = False := eq_false (fun z => h ((nI_eq ha hb).mp z))
theorem nI_p {a : Nat} (h : 1 ≤ a) : nI a - 1 = nI (a - 1) := by
  have : nI (a - 1) + nI 1 = nI (a - 1 + 1) := nI_add _ _
  rw [show a - 1 + 1 = a by omega] at this
  rw [← this]; exact Int32.add_sub_cancel _ _
set_option maxHeartbeats 4000000 in
set_option maxRecDepth 100000 in
theorem cm_vectorsOf {d n s b : Nat} {f : Nat → Ac} (hs : s ≤ 1) (hb : 2 ≤ b) (hb2 : b ≤ 32) : Ct MX8_vectorsOf d [.int (nI s), .int (nI b)] n f (pI (nI (vo s b)) n f) := by
  refine Ct.of (by decide) rfl rfl (Nat.le_of_ble_eq_true rfl) ?_
  by_cases h1 : s = 1
  · subst h1
    have h1' : (nI 1 = 1) = True := eq_true rfl
    have e := nI_p (a := b) (by omega)
    refine Vj.wp [] 40 [] ?_
    simp only [st1_n0, st1_ns, st2_n0, st2_ns, clr_n, ld_0, ld_s, st1_0, st1_1, st1_s, st2_0, st2_1, st2_s, clr_c, kil_n, kil_i, kil_r, kil_l, gv_0, gv_s, sv_0, sv_s, wld_s, wint_i, wlng_i, wref_i, w1_c, wobj_e, wiar_e, wsar_e, wlar_e, wqar_3, wlen_a, wlkp_s, wret_i, wret_z, wret_l, wtbl_n, wtbl_c, wlks_n, wlks_c, wstat_1, wstat_3, wstat_5, wstat_6, wspec_2, wspec_4, tk_0, tk_s, fit_i, fit_z, fit_l, fit_r, stp_s, wp_s, wcf_e, wdep_s, mem_n, mem_c, cat_0, cat_i, cat_r, cat_l, tl_s, tl_n, en_n, en_i, en_r, en_l, fv0, fv1, fv2, fv3, kl0, kl1, b10, b01, ct_t, ct_f, ap_n, ap_c, len_n, len_c, ta_i, ta_p, sw_goto, sw_ic_ne, sw_iconst, sw_iload_n, sw_ireti, sw_isub, i_X8_vectorsOf_0, i_X8_vectorsOf_1, i_X8_vectorsOf_2, i_X8_vectorsOf_5, i_X8_vectorsOf_6, i_X8_vectorsOf_7, i_X8_vectorsOf_8, i_X8_vectorsOf_11, i_X8_vectorsOf_12, i_X8_vectorsOf_13, i_X8_vectorsOf_16, i_X8_vectorsOf_17, i_X8_vectorsOf_20, i_X8_vectorsOf_21, k_1, k_2, t_13_7, t_17_4, t_2_9, t_8_13, mp_MX8_vectorsOf, mr_MX8_vectorsOf, ↓reduceIte, Bool.false_eq_true, Nat.reduceEqDiff, Nat.reduceAdd, Nat.reduceBEq, Nat.zero_le, Int.reduceAdd, Nat.reduceLeDiff, Nat.reduceLT, true_and, and_true, true_implies, implies_true, Nat.reduceMul, Nat.le_add_left, eq_self, true_or, or_true, not_true_eq_false, not_false_eq_true, false_implies, forall_const, h1', e]
    try simp only [w_ite]
    exact ⟨rfl, rfl, rfl⟩
  · have h1' : (nI s = 1) = False := nI_ne (b := 1) (by omega) (by omega) h1
    by_cases h2 : b = 2
    · subst h2
      have h2' : (nI 2 = 2) = True := eq_true rfl
      refine Vj.wp [] 40 [] ?_
      simp only [st1_n0, st1_ns, st2_n0, st2_ns, clr_n, ld_0, ld_s, st1_0, st1_1, st1_s, st2_0, st2_1, st2_s, clr_c, kil_n, kil_i, kil_r, kil_l, gv_0, gv_s, sv_0, sv_s, wld_s, wint_i, wlng_i, wref_i, w1_c, wobj_e, wiar_e, wsar_e, wlar_e, wqar_3, wlen_a, wlkp_s, wret_i, wret_z, wret_l, wtbl_n, wtbl_c, wlks_n, wlks_c, wstat_1, wstat_3, wstat_5, wstat_6, wspec_2, wspec_4, tk_0, tk_s, fit_i, fit_z, fit_l, fit_r, stp_s, wp_s, wcf_e, wdep_s, mem_n, mem_c, cat_0, cat_i, cat_r, cat_l, tl_s, tl_n, en_n, en_i, en_r, en_l, fv0, fv1, fv2, fv3, kl0, kl1, b10, b01, ct_t, ct_f, ap_n, ap_c, len_n, len_c, ta_i, ta_p, sw_goto, sw_ic_ne, sw_iconst, sw_iload_n, sw_ireti, sw_isub, i_X8_vectorsOf_0, i_X8_vectorsOf_1, i_X8_vectorsOf_2, i_X8_vectorsOf_5, i_X8_vectorsOf_6, i_X8_vectorsOf_7, i_X8_vectorsOf_8, i_X8_vectorsOf_11, i_X8_vectorsOf_12, i_X8_vectorsOf_13, i_X8_vectorsOf_16, i_X8_vectorsOf_17, i_X8_vectorsOf_20, i_X8_vectorsOf_21, k_1, k_2, t_13_7, t_17_4, t_2_9, t_8_13, mp_MX8_vectorsOf, mr_MX8_vectorsOf, ↓reduceIte, Bool.false_eq_true, Nat.reduceEqDiff, Nat.reduceAdd, Nat.reduceBEq, Nat.zero_le, Int.reduceAdd, Nat.reduceLeDiff, Nat.reduceLT, true_and, and_true, true_implies, implies_true, Nat.reduceMul, Nat.le_add_left, eq_self, true_or, or_true, not_true_eq_false, not_false_eq_true, false_implies, forall_const, h1', h2']
      try simp only [w_ite]
      exact ⟨by rw [vo, if_neg h1, if_pos rfl]; rfl, rfl, rfl⟩
    · have h2' : (nI b = 2) = False := nI_ne (b := 2) (by omega) (by omega) h2
      refine Vj.wp [] 40 [] ?_
      simp only [st1_n0, st1_ns, st2_n0, st2_ns, clr_n, ld_0, ld_s, st1_0, st1_1, st1_s, st2_0, st2_1, st2_s, clr_c, kil_n, kil_i, kil_r, kil_l, gv_0, gv_s, sv_0, sv_s, wld_s, wint_i, wlng_i, wref_i, w1_c, wobj_e, wiar_e, wsar_e, wlar_e, wqar_3, wlen_a, wlkp_s, wret_i, wret_z, wret_l, wtbl_n, wtbl_c, wlks_n, wlks_c, wstat_1, wstat_3, wstat_5, wstat_6, wspec_2, wspec_4, tk_0, tk_s, fit_i, fit_z, fit_l, fit_r, stp_s, wp_s, wcf_e, wdep_s, mem_n, mem_c, cat_0, cat_i, cat_r, cat_l, tl_s, tl_n, en_n, en_i, en_r, en_l, fv0, fv1, fv2, fv3, kl0, kl1, b10, b01, ct_t, ct_f, ap_n, ap_c, len_n, len_c, ta_i, ta_p, sw_goto, sw_ic_ne, sw_iconst, sw_iload_n, sw_ireti, sw_isub, i_X8_vectorsOf_0, i_X8_vectorsOf_1, i_X8_vectorsOf_2, i_X8_vectorsOf_5, i_X8_vectorsOf_6, i_X8_vectorsOf_7, i_X8_vectorsOf_8, i_X8_vectorsOf_11, i_X8_vectorsOf_12, i_X8_vectorsOf_13, i_X8_vectorsOf_16, i_X8_vectorsOf_17, i_X8_vectorsOf_20, i_X8_vectorsOf_21, k_1, k_2, t_13_7, t_17_4, t_2_9, t_8_13, mp_MX8_vectorsOf, mr_MX8_vectorsOf, ↓reduceIte, Bool.false_eq_true, Nat.reduceEqDiff, Nat.reduceAdd, Nat.reduceBEq, Nat.zero_le, Int.reduceAdd, Nat.reduceLeDiff, Nat.reduceLT, true_and, and_true, true_implies, implies_true, Nat.reduceMul, Nat.le_add_left, eq_self, true_or, or_true, not_true_eq_false, not_false_eq_true, false_implies, forall_const, h1', h2']
      try simp only [w_ite]
      exact ⟨by rw [vo, if_neg h1, if_neg h2], rfl, rfl⟩
/-- a column of the model -/
def MCl (m : Mm) (c s b z : Nat) (B : Nat → Nat) : Prop := c < 4 ∧ s ≤ 1 ∧ 1 ≤ b ∧ b ≤ 5 ∧ 2 ≤ z ∧ z ≤ 32 ∧ (∀ j, j < b → 2 ≤ B j ∧ B j ≤ 32) ∧ mA m 50 c = nI s ∧ mA m 52 c = nI b ∧ mA m 41 c = nI z ∧ (∀ j, j < b → mA m 51 (6 * c + j) = nI (B j))
theorem rm_le {s : Nat} {B : Nat → Nat} {b : Nat} (h : ∀ j, j < b → B j ≤ 32) : ∀ j, j ≤ b → rmN s B j ≤ 32 * j
  | 0, _ => Nat.le_refl 0
  | j + 1, hj => by
    have := rm_le (s := s) h j (by omega)
    have h1 := h j (by omega)
    rw [rmN]; unfold vo; split
    · omega
    · split <;> omega
set_option maxHeartbeats 4000000 in
set_option maxRecDepth 100000 in
theorem lm_roomOf {d n c s b z : Nat} {B : Nat → Nat} {m : Mm} {Q : Po} (h : MCl m c s b z B) (hQ : Q (some (.int (nI (rmN s B b)))) n (vw m)) : ∀ (t j : Nat), t + j = b → Vj MX8_roomOf (d + 1) 0 0 4 [some (.ref 40), some (.int (nI c)), some (.int (nI (rmN s B j))), some (.int (nI j))] [] n (vw m) Q := by
  obtain ⟨hc, hs, hb1, hb5, hz1, hz2, hB, e50, e52, e41, e51⟩ := h
  have hB_c : ((4 : Int32) ≤ nI (c)) = False := nf_ge (c := 4) (by omega) (by decide)
  have hN_c : (nI (c) < 0) = False := nf_neg (by omega)
  have hV_c : vp_in (nI (c)) 4 = True := nf_in (by omega) (by decide)
  have hC_c : (nI (c)).toNatClampNeg = c := nI_clamp (by omega)
  have hS_c : nI (c) + 1 = nI (c + 1) := nI_1 _
  intro t
  induction t with
  | zero =>
    intro j ht
    have hj : j = b := by omega
    subst hj
    have h0 : (nI j ≤ nI j) = True := nf_le (Nat.le_refl _) (by omega)
    refine Vj.wp [] 40 [4] ?_
    simp only [st1_n0, st1_ns, st2_n0, st2_ns, clr_n, ld_0, ld_s, st1_0, st1_1, st1_s, st2_0, st2_1, st2_s, clr_c, kil_n, kil_i, kil_r, kil_l, gv_0, gv_s, sv_0, sv_s, wld_s, wint_i, wlng_i, wref_i, w1_c, wobj_e, wiar_e, wsar_e, wlar_e, wqar_3, wlen_a, wlkp_s, wret_i, wret_z, wret_l, wtbl_n, wtbl_c, wlks_n, wlks_c, wstat_1, wstat_3, wstat_5, wstat_6, wspec_2, wspec_4, tk_0, tk_s, fit_i, fit_z, fit_l, fit_r, stp_s, wp_s, wcf_e, wdep_s, mem_n, mem_c, cat_0, cat_i, cat_r, cat_l, tl_s, tl_n, en_n, en_i, en_r, en_l, fv0, fv1, fv2, fv3, kl0, kl1, b10, b01, ct_t, ct_f, ap_n, ap_c, len_n, len_c, ta_i, ta_p, sg_38, sg_41, sg_44, sw_aload_n, sw_bipush, sw_goto, sw_iadd, sw_iald, sw_ic_ge, sw_iconst, sw_iinc, sw_iload_n, sw_imul, sw_ireti, sw_istore_n, sw_stat, i_X8_roomOf_0, i_X8_roomOf_1, i_X8_roomOf_2, i_X8_roomOf_3, i_X8_roomOf_4, i_X8_roomOf_5, i_X8_roomOf_6, i_X8_roomOf_9, i_X8_roomOf_10, i_X8_roomOf_11, i_X8_roomOf_14, i_X8_roomOf_15, i_X8_roomOf_16, i_X8_roomOf_19, i_X8_roomOf_20, i_X8_roomOf_21, i_X8_roomOf_22, i_X8_roomOf_25, i_X8_roomOf_27, i_X8_roomOf_28, i_X8_roomOf_29, i_X8_roomOf_30, i_X8_roomOf_31, i_X8_roomOf_32, i_X8_roomOf_35, i_X8_roomOf_36, i_X8_roomOf_37, i_X8_roomOf_40, i_X8_roomOf_43, i_X8_roomOf_44, k_0, k_1, kb_6, pf_8_38, pf_8_41, pf_8_44, pm_8_144, cc_MX8_vectorsOf, t_11_32, t_40_m36, mp_MX8_roomOf, mr_MX8_roomOf, ↓reduceIte, Bool.false_eq_true, Nat.reduceEqDiff, Nat.reduceAdd, Nat.reduceBEq, Nat.zero_le, Int.reduceAdd, Nat.reduceLeDiff, Nat.reduceLT, true_and, and_true, true_implies, implies_true, Nat.reduceMul, Nat.le_add_left, eq_self, true_or, or_true, not_true_eq_false, not_false_eq_true, false_implies, forall_const, mI_sI, mA_sI, mL_sI, mT_sI, mq_sI, ml_sI, mI_sA, mA_sA, mL_sA, mT_sA, mq_sA, ml_sA, mI_sL, mA_sL, mL_sL, mT_sL, mq_sL, ml_sL, mI_sT, mA_sT, mL_sT, mT_sT, mq_sT, ml_sT, sI_sI, sA_sA, sL_sL, sT_sT, vw_0, vw_1, vw_2, vw_3, vw_4, vw_5, vw_6, vw_7, vw_32, vw_33, vw_34, vw_35, vw_36, vw_37, vw_38, vw_39, vw_41, vw_42, vw_43, vw_44, vw_45, vw_46, vw_47, vw_48, vw_49, vw_50, vw_51, vw_52, vw_53, vw_54, vw_55, vw_56, vw_57, vw_58, vw_59, vw_60, vw_61, vw_62, vw_63, vw_64, vw_65, up_1, up_2, up_32, up_35, up_38, up_3, up_4, up_5, up_6, up_33, up_36, up_37, up_39, up_41, up_42, up_43, up_44, up_45, up_46, up_47, up_48, up_49, up_50, up_51, up_52, up_53, up_54, up_55, up_56, up_57, up_58, up_59, up_60, up_61, up_62, up_63, up_64, up_65, lI_0, lI_s, vu_e, va_up_self, ud_e, ud_n, c40, s40_I, s40_In, s40_mA, s40_mL, s40_mT, s40_mq, s40_ml, hB_c, hN_c, hV_c, hC_c, hS_c, e52, h0]
    try simp only [w_ite]
    exact hQ
  | succ t ih =>
    intro j ht
    have h0 : (nI b ≤ nI j) = False := nf_ge (by omega) (by omega)
    have e0 : 6 * nI c + nI j = nI (6 * c + j) := by rw [show (6 : Int32) = nI 6 from rfl, pk_mul, nI_add]
    have v0 : vp_in (nI (6 * c + j)) 24 = True := nf_in (by omega) (by decide)
    have t0 : (nI (6 * c + j)).toNatClampNeg = 6 * c + j := nI_clamp (by omega)
    have hj := e51 j (by omega)
    have hS : nI j + 1 = nI (j + 1) := nI_1 _
    refine Vj.wp [] 40 [4] ?_
    simp only [st1_n0, st1_ns, st2_n0, st2_ns, clr_n, ld_0, ld_s, st1_0, st1_1, st1_s, st2_0, st2_1, st2_s, clr_c, kil_n, kil_i, kil_r, kil_l, gv_0, gv_s, sv_0, sv_s, wld_s, wint_i, wlng_i, wref_i, w1_c, wobj_e, wiar_e, wsar_e, wlar_e, wqar_3, wlen_a, wlkp_s, wret_i, wret_z, wret_l, wtbl_n, wtbl_c, wlks_n, wlks_c, wstat_1, wstat_3, wstat_5, wstat_6, wspec_2, wspec_4, tk_0, tk_s, fit_i, fit_z, fit_l, fit_r, stp_s, wp_s, wcf_e, wdep_s, mem_n, mem_c, cat_0, cat_i, cat_r, cat_l, tl_s, tl_n, en_n, en_i, en_r, en_l, fv0, fv1, fv2, fv3, kl0, kl1, b10, b01, ct_t, ct_f, ap_n, ap_c, len_n, len_c, ta_i, ta_p, sg_38, sg_41, sg_44, sw_aload_n, sw_bipush, sw_goto, sw_iadd, sw_iald, sw_ic_ge, sw_iconst, sw_iinc, sw_iload_n, sw_imul, sw_ireti, sw_istore_n, sw_stat, i_X8_roomOf_0, i_X8_roomOf_1, i_X8_roomOf_2, i_X8_roomOf_3, i_X8_roomOf_4, i_X8_roomOf_5, i_X8_roomOf_6, i_X8_roomOf_9, i_X8_roomOf_10, i_X8_roomOf_11, i_X8_roomOf_14, i_X8_roomOf_15, i_X8_roomOf_16, i_X8_roomOf_19, i_X8_roomOf_20, i_X8_roomOf_21, i_X8_roomOf_22, i_X8_roomOf_25, i_X8_roomOf_27, i_X8_roomOf_28, i_X8_roomOf_29, i_X8_roomOf_30, i_X8_roomOf_31, i_X8_roomOf_32, i_X8_roomOf_35, i_X8_roomOf_36, i_X8_roomOf_37, i_X8_roomOf_40, i_X8_roomOf_43, i_X8_roomOf_44, k_0, k_1, kb_6, pf_8_38, pf_8_41, pf_8_44, pm_8_144, cc_MX8_vectorsOf, t_11_32, t_40_m36, mp_MX8_roomOf, mr_MX8_roomOf, ↓reduceIte, Bool.false_eq_true, Nat.reduceEqDiff, Nat.reduceAdd, Nat.reduceBEq, Nat.zero_le, Int.reduceAdd, Nat.reduceLeDiff, Nat.reduceLT, true_and, and_true, true_implies, implies_true, Nat.reduceMul, Nat.le_add_left, eq_self, true_or, or_true, not_true_eq_false, not_false_eq_true, false_implies, forall_const, mI_sI, mA_sI, mL_sI, mT_sI, mq_sI, ml_sI, mI_sA, mA_sA, mL_sA, mT_sA, mq_sA, ml_sA, mI_sL, mA_sL, mL_sL, mT_sL, mq_sL, ml_sL, mI_sT, mA_sT, mL_sT, mT_sT, mq_sT, ml_sT, sI_sI, sA_sA, sL_sL, sT_sT, vw_0, vw_1, vw_2, vw_3, vw_4, vw_5, vw_6, vw_7, vw_32, vw_33, vw_34, vw_35, vw_36, vw_37, vw_38, vw_39, vw_41, vw_42, vw_43, vw_44, vw_45, vw_46, vw_47, vw_48, vw_49, vw_50, vw_51, vw_52, vw_53, vw_54, vw_55, vw_56, vw_57, vw_58, vw_59, vw_60, vw_61, vw_62, vw_63, vw_64, vw_65, up_1, up_2, up_32, up_35, up_38, up_3, up_4, up_5, up_6, up_33, up_36, up_37, up_39, up_41, up_42, up_43, up_44, up_45, up_46, up_47, up_48, up_49, up_50, up_51, up_52, up_53, up_54, up_55, up_56, up_57, up_58, up_59, up_60, up_61, up_62, up_63, up_64, up_65, lI_0, lI_s, vu_e, va_up_self, ud_e, ud_n, c40, s40_I, s40_In, s40_mA, s40_mL, s40_mT, s40_mq, s40_ml, hB_c, hN_c, hV_c, hC_c, hS_c, e50, e52, h0, e0, v0, t0, hj]
    try simp only [w_ite]
    refine Cl.I (cm_vectorsOf hs (hB j (by omega)).1 (hB j (by omega)).2) ?_
    have e1 : nI (rmN s B j) + nI (vo s (B j)) = nI (rmN s B (j + 1)) := nI_add _ _
    simp only [st1_n0, st1_ns, st2_n0, st2_ns, clr_n, ld_0, ld_s, st1_0, st1_1, st1_s, st2_0, st2_1, st2_s, clr_c, kil_n, kil_i, kil_r, kil_l, gv_0, gv_s, sv_0, sv_s, wld_s, wint_i, wlng_i, wref_i, w1_c, wobj_e, wiar_e, wsar_e, wlar_e, wqar_3, wlen_a, wlkp_s, wret_i, wret_z, wret_l, wtbl_n, wtbl_c, wlks_n, wlks_c, wstat_1, wstat_3, wstat_5, wstat_6, wspec_2, wspec_4, tk_0, tk_s, fit_i, fit_z, fit_l, fit_r, stp_s, wp_s, wcf_e, wdep_s, mem_n, mem_c, cat_0, cat_i, cat_r, cat_l, tl_s, tl_n, en_n, en_i, en_r, en_l, fv0, fv1, fv2, fv3, kl0, kl1, b10, b01, ct_t, ct_f, ap_n, ap_c, len_n, len_c, ta_i, ta_p, sg_38, sg_41, sg_44, sw_aload_n, sw_bipush, sw_goto, sw_iadd, sw_iald, sw_ic_ge, sw_iconst, sw_iinc, sw_iload_n, sw_imul, sw_ireti, sw_istore_n, sw_stat, i_X8_roomOf_0, i_X8_roomOf_1, i_X8_roomOf_2, i_X8_roomOf_3, i_X8_roomOf_4, i_X8_roomOf_5, i_X8_roomOf_6, i_X8_roomOf_9, i_X8_roomOf_10, i_X8_roomOf_11, i_X8_roomOf_14, i_X8_roomOf_15, i_X8_roomOf_16, i_X8_roomOf_19, i_X8_roomOf_20, i_X8_roomOf_21, i_X8_roomOf_22, i_X8_roomOf_25, i_X8_roomOf_27, i_X8_roomOf_28, i_X8_roomOf_29, i_X8_roomOf_30, i_X8_roomOf_31, i_X8_roomOf_32, i_X8_roomOf_35, i_X8_roomOf_36, i_X8_roomOf_37, i_X8_roomOf_40, i_X8_roomOf_43, i_X8_roomOf_44, k_0, k_1, kb_6, pf_8_38, pf_8_41, pf_8_44, pm_8_144, cc_MX8_vectorsOf, t_11_32, t_40_m36, mp_MX8_roomOf, mr_MX8_roomOf, ↓reduceIte, Bool.false_eq_true, Nat.reduceEqDiff, Nat.reduceAdd, Nat.reduceBEq, Nat.zero_le, Int.reduceAdd, Nat.reduceLeDiff, Nat.reduceLT, true_and, and_true, true_implies, implies_true, Nat.reduceMul, Nat.le_add_left, eq_self, true_or, or_true, not_true_eq_false, not_false_eq_true, false_implies, forall_const, mI_sI, mA_sI, mL_sI, mT_sI, mq_sI, ml_sI, mI_sA, mA_sA, mL_sA, mT_sA, mq_sA, ml_sA, mI_sL, mA_sL, mL_sL, mT_sL, mq_sL, ml_sL, mI_sT, mA_sT, mL_sT, mT_sT, mq_sT, ml_sT, sI_sI, sA_sA, sL_sL, sT_sT, vw_0, vw_1, vw_2, vw_3, vw_4, vw_5, vw_6, vw_7, vw_32, vw_33, vw_34, vw_35, vw_36, vw_37, vw_38, vw_39, vw_41, vw_42, vw_43, vw_44, vw_45, vw_46, vw_47, vw_48, vw_49, vw_50, vw_51, vw_52, vw_53, vw_54, vw_55, vw_56, vw_57, vw_58, vw_59, vw_60, vw_61, vw_62, vw_63, vw_64, vw_65, up_1, up_2, up_32, up_35, up_38, up_3, up_4, up_5, up_6, up_33, up_36, up_37, up_39, up_41, up_42, up_43, up_44, up_45, up_46, up_47, up_48, up_49, up_50, up_51, up_52, up_53, up_54, up_55, up_56, up_57, up_58, up_59, up_60, up_61, up_62, up_63, up_64, up_65, lI_0, lI_s, vu_e, va_up_self, ud_e, ud_n, c40, s40_I, s40_In, s40_mA, s40_mL, s40_mT, s40_mq, s40_ml, hS, e1]; try simp only [w_ite]
    exact ih (j + 1) (by omega)
set_option maxHeartbeats 4000000 in
set_option maxRecDepth 100000 in
theorem cm_roomOf {d n c s b z : Nat} {B : Nat → Nat} {m : Mm} (h : MCl m c s b z B) : Ct MX8_roomOf (d + 1) [.ref 40, .int (nI c)] n (vw m) (pI (nI (rmN s B b)) n (vw m)) := by
  refine Ct.of (by decide) rfl rfl (Nat.le_of_ble_eq_true rfl) ?_
  refine Vj.wp [] 40 [4] ?_
  simp only [st1_n0, st1_ns, st2_n0, st2_ns, clr_n, ld_0, ld_s, st1_0, st1_1, st1_s, st2_0, st2_1, st2_s, clr_c, kil_n, kil_i, kil_r, kil_l, gv_0, gv_s, sv_0, sv_s, wld_s, wint_i, wlng_i, wref_i, w1_c, wobj_e, wiar_e, wsar_e, wlar_e, wqar_3, wlen_a, wlkp_s, wret_i, wret_z, wret_l, wtbl_n, wtbl_c, wlks_n, wlks_c, wstat_1, wstat_3, wstat_5, wstat_6, wspec_2, wspec_4, tk_0, tk_s, fit_i, fit_z, fit_l, fit_r, stp_s, wp_s, wcf_e, wdep_s, mem_n, mem_c, cat_0, cat_i, cat_r, cat_l, tl_s, tl_n, en_n, en_i, en_r, en_l, fv0, fv1, fv2, fv3, kl0, kl1, b10, b01, ct_t, ct_f, ap_n, ap_c, len_n, len_c, ta_i, ta_p, sg_38, sg_41, sg_44, sw_aload_n, sw_bipush, sw_goto, sw_iadd, sw_iald, sw_ic_ge, sw_iconst, sw_iinc, sw_iload_n, sw_imul, sw_ireti, sw_istore_n, sw_stat, i_X8_roomOf_0, i_X8_roomOf_1, i_X8_roomOf_2, i_X8_roomOf_3, i_X8_roomOf_4, i_X8_roomOf_5, i_X8_roomOf_6, i_X8_roomOf_9, i_X8_roomOf_10, i_X8_roomOf_11, i_X8_roomOf_14, i_X8_roomOf_15, i_X8_roomOf_16, i_X8_roomOf_19, i_X8_roomOf_20, i_X8_roomOf_21, i_X8_roomOf_22, i_X8_roomOf_25, i_X8_roomOf_27, i_X8_roomOf_28, i_X8_roomOf_29, i_X8_roomOf_30, i_X8_roomOf_31, i_X8_roomOf_32, i_X8_roomOf_35, i_X8_roomOf_36, i_X8_roomOf_37, i_X8_roomOf_40, i_X8_roomOf_43, i_X8_roomOf_44, k_0, k_1, kb_6, pf_8_38, pf_8_41, pf_8_44, pm_8_144, cc_MX8_vectorsOf, t_11_32, t_40_m36, mp_MX8_roomOf, mr_MX8_roomOf, ↓reduceIte, Bool.false_eq_true, Nat.reduceEqDiff, Nat.reduceAdd, Nat.reduceBEq, Nat.zero_le, Int.reduceAdd, Nat.reduceLeDiff, Nat.reduceLT, true_and, and_true, true_implies, implies_true, Nat.reduceMul, Nat.le_add_left, eq_self, true_or, or_true, not_true_eq_false, not_false_eq_true, false_implies, forall_const, mI_sI, mA_sI, mL_sI, mT_sI, mq_sI, ml_sI, mI_sA, mA_sA, mL_sA, mT_sA, mq_sA, ml_sA, mI_sL, mA_sL, mL_sL, mT_sL, mq_sL, ml_sL, mI_sT, mA_sT, mL_sT, mT_sT, mq_sT, ml_sT, sI_sI, sA_sA, sL_sL, sT_sT, vw_0, vw_1, vw_2, vw_3, vw_4, vw_5, vw_6, vw_7, vw_32, vw_33, vw_34, vw_35, vw_36, vw_37, vw_38, vw_39, vw_41, vw_42, vw_43, vw_44, vw_45, vw_46, vw_47, vw_48, vw_49, vw_50, vw_51, vw_52, vw_53, vw_54, vw_55, vw_56, vw_57, vw_58, vw_59, vw_60, vw_61, vw_62, vw_63, vw_64, vw_65, up_1, up_2, up_32, up_35, up_38, up_3, up_4, up_5, up_6, up_33, up_36, up_37, up_39, up_41, up_42, up_43, up_44, up_45, up_46, up_47, up_48, up_49, up_50, up_51, up_52, up_53, up_54, up_55, up_56, up_57, up_58, up_59, up_60, up_61, up_62, up_63, up_64, up_65, lI_0, lI_s, vu_e, va_up_self, ud_e, ud_n, c40, s40_I, s40_In, s40_mA, s40_mL, s40_mT, s40_mq, s40_ml]
  try simp only [w_ite]
  exact lm_roomOf (Q := pI (nI (rmN s B b)) n (vw m)) h ⟨rfl, rfl, rfl⟩ b 0 (by omega)
def ctN (p : Nat → Bool) : Nat → Nat
  | 0 => 0
  | i + 1 => ctN p i + (if p i then 1 else 0)
def trB (m : Mm) (c v : Nat) : Bool := !(mA m 53 (64 * c + v) == 0)
theorem trB_t {m : Mm} {c v : Nat} (h : ¬ mA m 53 (64 * c + v) = 0) : trB m c v = true := by simp [trB, h]
theorem trB_f {m : Mm} {c v : Nat} (h : mA m 53 (64 * c + v) = 0) : trB m c v = false := by simp [trB, h]
set_option maxHeartbeats 4000000 in
set_option maxRecDepth 100000 in
theorem lm_tornOf {d n c : Nat} {m : Mm} {Q : Po} (hc : c < 4) (hQ : Q (some (.int (nI (ctN (trB m c) 64)))) n (vw m)) : ∀ (t v : Nat), t + v = 64 → Vj MX8_tornOf d 0 0 4 [some (.ref 40), some (.int (nI c)), some (.int (nI (ctN (trB m c) v))), some (.int (nI v))] [] n (vw m) Q := by
  intro t
  induction t with
  | zero =>
    intro v ht
    have hv : v = 64 := by omega
    subst hv
    have h0 : ((64 : Int32) ≤ nI 64) = True := eq_true (by decide)
    refine Vj.wp [] 40 [4] ?_
    simp only [st1_n0, st1_ns, st2_n0, st2_ns, clr_n, ld_0, ld_s, st1_0, st1_1, st1_s, st2_0, st2_1, st2_s, clr_c, kil_n, kil_i, kil_r, kil_l, gv_0, gv_s, sv_0, sv_s, wld_s, wint_i, wlng_i, wref_i, w1_c, wobj_e, wiar_e, wsar_e, wlar_e, wqar_3, wlen_a, wlkp_s, wret_i, wret_z, wret_l, wtbl_n, wtbl_c, wlks_n, wlks_c, wstat_1, wstat_3, wstat_5, wstat_6, wspec_2, wspec_4, tk_0, tk_s, fit_i, fit_z, fit_l, fit_r, stp_s, wp_s, wcf_e, wdep_s, mem_n, mem_c, cat_0, cat_i, cat_r, cat_l, tl_s, tl_n, en_n, en_i, en_r, en_l, fv0, fv1, fv2, fv3, kl0, kl1, b10, b01, ct_t, ct_f, ap_n, ap_c, len_n, len_c, ta_i, ta_p, sg_47, sw_aload_n, sw_bald, sw_bipush, sw_goto, sw_iadd, sw_ic_ge, sw_iconst, sw_if_eq, sw_iinc, sw_iload_n, sw_imul, sw_ireti, sw_istore_n, i_X8_tornOf_0, i_X8_tornOf_1, i_X8_tornOf_2, i_X8_tornOf_3, i_X8_tornOf_4, i_X8_tornOf_5, i_X8_tornOf_7, i_X8_tornOf_10, i_X8_tornOf_11, i_X8_tornOf_12, i_X8_tornOf_15, i_X8_tornOf_17, i_X8_tornOf_18, i_X8_tornOf_19, i_X8_tornOf_20, i_X8_tornOf_21, i_X8_tornOf_22, i_X8_tornOf_25, i_X8_tornOf_26, i_X8_tornOf_29, i_X8_tornOf_30, i_X8_tornOf_31, i_X8_tornOf_32, i_X8_tornOf_35, i_X8_tornOf_38, i_X8_tornOf_39, k_0, k_1, kb_64, pf_8_47, t_22_7, t_26_4, t_35_m31, t_7_31, mp_MX8_tornOf, mr_MX8_tornOf, ↓reduceIte, Bool.false_eq_true, Nat.reduceEqDiff, Nat.reduceAdd, Nat.reduceBEq, Nat.zero_le, Int.reduceAdd, Nat.reduceLeDiff, Nat.reduceLT, true_and, and_true, true_implies, implies_true, Nat.reduceMul, Nat.le_add_left, eq_self, true_or, or_true, not_true_eq_false, not_false_eq_true, false_implies, forall_const, mI_sI, mA_sI, mL_sI, mT_sI, mq_sI, ml_sI, mI_sA, mA_sA, mL_sA, mT_sA, mq_sA, ml_sA, mI_sL, mA_sL, mL_sL, mT_sL, mq_sL, ml_sL, mI_sT, mA_sT, mL_sT, mT_sT, mq_sT, ml_sT, sI_sI, sA_sA, sL_sL, sT_sT, vw_0, vw_1, vw_2, vw_3, vw_4, vw_5, vw_6, vw_7, vw_32, vw_33, vw_34, vw_35, vw_36, vw_37, vw_38, vw_39, vw_41, vw_42, vw_43, vw_44, vw_45, vw_46, vw_47, vw_48, vw_49, vw_50, vw_51, vw_52, vw_53, vw_54, vw_55, vw_56, vw_57, vw_58, vw_59, vw_60, vw_61, vw_62, vw_63, vw_64, vw_65, up_1, up_2, up_32, up_35, up_38, up_3, up_4, up_5, up_6, up_33, up_36, up_37, up_39, up_41, up_42, up_43, up_44, up_45, up_46, up_47, up_48, up_49, up_50, up_51, up_52, up_53, up_54, up_55, up_56, up_57, up_58, up_59, up_60, up_61, up_62, up_63, up_64, up_65, lI_0, lI_s, vu_e, va_up_self, ud_e, ud_n, c40, s40_I, s40_In, s40_mA, s40_mL, s40_mT, s40_mq, s40_ml, h0]
    try simp only [w_ite]
    exact hQ
  | succ t ih =>
    intro v ht
    have hB_v : ((64 : Int32) ≤ nI (v)) = False := nf_ge (c := 64) (by omega) (by decide)
    have hN_v : (nI (v) < 0) = False := nf_neg (by omega)
    have hV_v : vp_in (nI (v)) 64 = True := nf_in (by omega) (by decide)
    have hC_v : (nI (v)).toNatClampNeg = v := nI_clamp (by omega)
    have hS_v : nI (v) + 1 = nI (v + 1) := nI_1 _
    have e0 : 64 * nI c + nI v = nI (64 * c + v) := by rw [show (64 : Int32) = nI 64 from rfl, pk_mul, nI_add]
    have v0 : vp_in (nI (64 * c + v)) 256 = True := nf_in (by omega) (by decide)
    have t0 : (nI (64 * c + v)).toNatClampNeg = 64 * c + v := nI_clamp (by omega)
    have hih := ih (v + 1) (by omega)
    rw [ctN] at hih
    by_cases h1 : mA m 53 (64 * c + v) = 0
    · have h1' : (mA m 53 (64 * c + v) = 0) = True := eq_true h1
      rw [trB_f h1, if_neg (by decide)] at hih
      refine Vj.wp [] 40 [4] ?_
      simp only [st1_n0, st1_ns, st2_n0, st2_ns, clr_n, ld_0, ld_s, st1_0, st1_1, st1_s, st2_0, st2_1, st2_s, clr_c, kil_n, kil_i, kil_r, kil_l, gv_0, gv_s, sv_0, sv_s, wld_s, wint_i, wlng_i, wref_i, w1_c, wobj_e, wiar_e, wsar_e, wlar_e, wqar_3, wlen_a, wlkp_s, wret_i, wret_z, wret_l, wtbl_n, wtbl_c, wlks_n, wlks_c, wstat_1, wstat_3, wstat_5, wstat_6, wspec_2, wspec_4, tk_0, tk_s, fit_i, fit_z, fit_l, fit_r, stp_s, wp_s, wcf_e, wdep_s, mem_n, mem_c, cat_0, cat_i, cat_r, cat_l, tl_s, tl_n, en_n, en_i, en_r, en_l, fv0, fv1, fv2, fv3, kl0, kl1, b10, b01, ct_t, ct_f, ap_n, ap_c, len_n, len_c, ta_i, ta_p, sg_47, sw_aload_n, sw_bald, sw_bipush, sw_goto, sw_iadd, sw_ic_ge, sw_iconst, sw_if_eq, sw_iinc, sw_iload_n, sw_imul, sw_ireti, sw_istore_n, i_X8_tornOf_0, i_X8_tornOf_1, i_X8_tornOf_2, i_X8_tornOf_3, i_X8_tornOf_4, i_X8_tornOf_5, i_X8_tornOf_7, i_X8_tornOf_10, i_X8_tornOf_11, i_X8_tornOf_12, i_X8_tornOf_15, i_X8_tornOf_17, i_X8_tornOf_18, i_X8_tornOf_19, i_X8_tornOf_20, i_X8_tornOf_21, i_X8_tornOf_22, i_X8_tornOf_25, i_X8_tornOf_26, i_X8_tornOf_29, i_X8_tornOf_30, i_X8_tornOf_31, i_X8_tornOf_32, i_X8_tornOf_35, i_X8_tornOf_38, i_X8_tornOf_39, k_0, k_1, kb_64, pf_8_47, t_22_7, t_26_4, t_35_m31, t_7_31, mp_MX8_tornOf, mr_MX8_tornOf, ↓reduceIte, Bool.false_eq_true, Nat.reduceEqDiff, Nat.reduceAdd, Nat.reduceBEq, Nat.zero_le, Int.reduceAdd, Nat.reduceLeDiff, Nat.reduceLT, true_and, and_true, true_implies, implies_true, Nat.reduceMul, Nat.le_add_left, eq_self, true_or, or_true, not_true_eq_false, not_false_eq_true, false_implies, forall_const, mI_sI, mA_sI, mL_sI, mT_sI, mq_sI, ml_sI, mI_sA, mA_sA, mL_sA, mT_sA, mq_sA, ml_sA, mI_sL, mA_sL, mL_sL, mT_sL, mq_sL, ml_sL, mI_sT, mA_sT, mL_sT, mT_sT, mq_sT, ml_sT, sI_sI, sA_sA, sL_sL, sT_sT, vw_0, vw_1, vw_2, vw_3, vw_4, vw_5, vw_6, vw_7, vw_32, vw_33, vw_34, vw_35, vw_36, vw_37, vw_38, vw_39, vw_41, vw_42, vw_43, vw_44, vw_45, vw_46, vw_47, vw_48, vw_49, vw_50, vw_51, vw_52, vw_53, vw_54, vw_55, vw_56, vw_57, vw_58, vw_59, vw_60, vw_61, vw_62, vw_63, vw_64, vw_65, up_1, up_2, up_32, up_35, up_38, up_3, up_4, up_5, up_6, up_33, up_36, up_37, up_39, up_41, up_42, up_43, up_44, up_45, up_46, up_47, up_48, up_49, up_50, up_51, up_52, up_53, up_54, up_55, up_56, up_57, up_58, up_59, up_60, up_61, up_62, up_63, up_64, up_65, lI_0, lI_s, vu_e, va_up_self, ud_e, ud_n, c40, s40_I, s40_In, s40_mA, s40_mL, s40_mT, s40_mq, s40_ml, hB_v, hN_v, hV_v, hC_v, hS_v, e0, v0, t0, h1', Int32.add_zero]
      try simp only [w_ite]
      exact hih
    · rw [trB_t h1, if_pos rfl] at hih
      have e1 : nI (ctN (trB m c) v) + 1 = nI (ctN (trB m c) v + 1) := nI_1 _
      refine Vj.wp [] 40 [4] ?_
      simp only [st1_n0, st1_ns, st2_n0, st2_ns, clr_n, ld_0, ld_s, st1_0, st1_1, st1_s, st2_0, st2_1, st2_s, clr_c, kil_n, kil_i, kil_r, kil_l, gv_0, gv_s, sv_0, sv_s, wld_s, wint_i, wlng_i, wref_i, w1_c, wobj_e, wiar_e, wsar_e, wlar_e, wqar_3, wlen_a, wlkp_s, wret_i, wret_z, wret_l, wtbl_n, wtbl_c, wlks_n, wlks_c, wstat_1, wstat_3, wstat_5, wstat_6, wspec_2, wspec_4, tk_0, tk_s, fit_i, fit_z, fit_l, fit_r, stp_s, wp_s, wcf_e, wdep_s, mem_n, mem_c, cat_0, cat_i, cat_r, cat_l, tl_s, tl_n, en_n, en_i, en_r, en_l, fv0, fv1, fv2, fv3, kl0, kl1, b10, b01, ct_t, ct_f, ap_n, ap_c, len_n, len_c, ta_i, ta_p, sg_47, sw_aload_n, sw_bald, sw_bipush, sw_goto, sw_iadd, sw_ic_ge, sw_iconst, sw_if_eq, sw_iinc, sw_iload_n, sw_imul, sw_ireti, sw_istore_n, i_X8_tornOf_0, i_X8_tornOf_1, i_X8_tornOf_2, i_X8_tornOf_3, i_X8_tornOf_4, i_X8_tornOf_5, i_X8_tornOf_7, i_X8_tornOf_10, i_X8_tornOf_11, i_X8_tornOf_12, i_X8_tornOf_15, i_X8_tornOf_17, i_X8_tornOf_18, i_X8_tornOf_19, i_X8_tornOf_20, i_X8_tornOf_21, i_X8_tornOf_22, i_X8_tornOf_25, i_X8_tornOf_26, i_X8_tornOf_29, i_X8_tornOf_30, i_X8_tornOf_31, i_X8_tornOf_32, i_X8_tornOf_35, i_X8_tornOf_38, i_X8_tornOf_39, k_0, k_1, kb_64, pf_8_47, t_22_7, t_26_4, t_35_m31, t_7_31, mp_MX8_tornOf, mr_MX8_tornOf, ↓reduceIte, Bool.false_eq_true, Nat.reduceEqDiff, Nat.reduceAdd, Nat.reduceBEq, Nat.zero_le, Int.reduceAdd, Nat.reduceLeDiff, Nat.reduceLT, true_and, and_true, true_implies, implies_true, Nat.reduceMul, Nat.le_add_left, eq_self, true_or, or_true, not_true_eq_false, not_false_eq_true, false_implies, forall_const, mI_sI, mA_sI, mL_sI, mT_sI, mq_sI, ml_sI, mI_sA, mA_sA, mL_sA, mT_sA, mq_sA, ml_sA, mI_sL, mA_sL, mL_sL, mT_sL, mq_sL, ml_sL, mI_sT, mA_sT, mL_sT, mT_sT, mq_sT, ml_sT, sI_sI, sA_sA, sL_sL, sT_sT, vw_0, vw_1, vw_2, vw_3, vw_4, vw_5, vw_6, vw_7, vw_32, vw_33, vw_34, vw_35, vw_36, vw_37, vw_38, vw_39, vw_41, vw_42, vw_43, vw_44, vw_45, vw_46, vw_47, vw_48, vw_49, vw_50, vw_51, vw_52, vw_53, vw_54, vw_55, vw_56, vw_57, vw_58, vw_59, vw_60, vw_61, vw_62, vw_63, vw_64, vw_65, up_1, up_2, up_32, up_35, up_38, up_3, up_4, up_5, up_6, up_33, up_36, up_37, up_39, up_41, up_42, up_43, up_44, up_45, up_46, up_47, up_48, up_49, up_50, up_51, up_52, up_53, up_54, up_55, up_56, up_57, up_58, up_59, up_60, up_61, up_62, up_63, up_64, up_65, lI_0, lI_s, vu_e, va_up_self, ud_e, ud_n, c40, s40_I, s40_In, s40_mA, s40_mL, s40_mT, s40_mq, s40_ml, hB_v, hN_v, hV_v, hC_v, hS_v, e0, v0, t0, h1, e1]
      try simp only [w_ite]
      exact hih
set_option maxHeartbeats 4000000 in
set_option maxRecDepth 100000 in
theorem cm_tornOf {d n c : Nat} {m : Mm} (hc : c < 4) : Ct MX8_tornOf d [.ref 40, .int (nI c)] n (vw m) (pI (nI (ctN (trB m c) 64)) n (vw m)) := by
  refine Ct.of (by decide) rfl rfl (Nat.le_of_ble_eq_true rfl) ?_
  refine Vj.wp [] 40 [4] ?_
  simp only [st1_n0, st1_ns, st2_n0, st2_ns, clr_n, ld_0, ld_s, st1_0, st1_1, st1_s, st2_0, st2_1, st2_s, clr_c, kil_n, kil_i, kil_r, kil_l, gv_0, gv_s, sv_0, sv_s, wld_s, wint_i, wlng_i, wref_i, w1_c, wobj_e, wiar_e, wsar_e, wlar_e, wqar_3, wlen_a, wlkp_s, wret_i, wret_z, wret_l, wtbl_n, wtbl_c, wlks_n, wlks_c, wstat_1, wstat_3, wstat_5, wstat_6, wspec_2, wspec_4, tk_0, tk_s, fit_i, fit_z, fit_l, fit_r, stp_s, wp_s, wcf_e, wdep_s, mem_n, mem_c, cat_0, cat_i, cat_r, cat_l, tl_s, tl_n, en_n, en_i, en_r, en_l, fv0, fv1, fv2, fv3, kl0, kl1, b10, b01, ct_t, ct_f, ap_n, ap_c, len_n, len_c, ta_i, ta_p, sg_47, sw_aload_n, sw_bald, sw_bipush, sw_goto, sw_iadd, sw_ic_ge, sw_iconst, sw_if_eq, sw_iinc, sw_iload_n, sw_imul, sw_ireti, sw_istore_n, i_X8_tornOf_0, i_X8_tornOf_1, i_X8_tornOf_2, i_X8_tornOf_3, i_X8_tornOf_4, i_X8_tornOf_5, i_X8_tornOf_7, i_X8_tornOf_10, i_X8_tornOf_11, i_X8_tornOf_12, i_X8_tornOf_15, i_X8_tornOf_17, i_X8_tornOf_18, i_X8_tornOf_19, i_X8_tornOf_20, i_X8_tornOf_21, i_X8_tornOf_22, i_X8_tornOf_25, i_X8_tornOf_26, i_X8_tornOf_29, i_X8_tornOf_30, i_X8_tornOf_31, i_X8_tornOf_32, i_X8_tornOf_35, i_X8_tornOf_38, i_X8_tornOf_39, k_0, k_1, kb_64, pf_8_47, t_22_7, t_26_4, t_35_m31, t_7_31, mp_MX8_tornOf, mr_MX8_tornOf, ↓reduceIte, Bool.false_eq_true, Nat.reduceEqDiff, Nat.reduceAdd, Nat.reduceBEq, Nat.zero_le, Int.reduceAdd, Nat.reduceLeDiff, Nat.reduceLT, true_and, and_true, true_implies, implies_true, Nat.reduceMul, Nat.le_add_left, eq_self, true_or, or_true, not_true_eq_false, not_false_eq_true, false_implies, forall_const, mI_sI, mA_sI, mL_sI, mT_sI, mq_sI, ml_sI, mI_sA, mA_sA, mL_sA, mT_sA, mq_sA, ml_sA, mI_sL, mA_sL, mL_sL, mT_sL, mq_sL, ml_sL, mI_sT, mA_sT, mL_sT, mT_sT, mq_sT, ml_sT, sI_sI, sA_sA, sL_sL, sT_sT, vw_0, vw_1, vw_2, vw_3, vw_4, vw_5, vw_6, vw_7, vw_32, vw_33, vw_34, vw_35, vw_36, vw_37, vw_38, vw_39, vw_41, vw_42, vw_43, vw_44, vw_45, vw_46, vw_47, vw_48, vw_49, vw_50, vw_51, vw_52, vw_53, vw_54, vw_55, vw_56, vw_57, vw_58, vw_59, vw_60, vw_61, vw_62, vw_63, vw_64, vw_65, up_1, up_2, up_32, up_35, up_38, up_3, up_4, up_5, up_6, up_33, up_36, up_37, up_39, up_41, up_42, up_43, up_44, up_45, up_46, up_47, up_48, up_49, up_50, up_51, up_52, up_53, up_54, up_55, up_56, up_57, up_58, up_59, up_60, up_61, up_62, up_63, up_64, up_65, lI_0, lI_s, vu_e, va_up_self, ud_e, ud_n, c40, s40_I, s40_In, s40_mA, s40_mL, s40_mT, s40_mq, s40_ml]
  try simp only [w_ite]
  exact lm_tornOf (Q := pI (nI (ctN (trB m c) 64)) n (vw m)) hc ⟨rfl, rfl, rfl⟩ 64 0 (by omega)
/-- in which figure a vector lies -/
def fvJ (s : Nat) (B : Nat → Nat) (b v : Nat) : Nat := fa_first (fun j => decide (v < rmN s B (j + 1))) b
theorem fvJ_lt {s : Nat} {B : Nat → Nat} {b v : Nat} (hb : 1 ≤ b) (h : v < rmN s B b) : fvJ s B b v < b ∧ rmN s B (fvJ s B b v) ≤ v ∧ v < rmN s B (fvJ s B b v + 1) := by
  have hl : fvJ s B b v < b := by
    rcases Nat.lt_or_ge (fvJ s B b v) b with q | q
    · exact q
    · have := fa_first_no (fun j => decide (v < rmN s B (j + 1))) b (b - 1) (by unfold fvJ at q; omega)
      simp at this
      rw [show b - 1 + 1 = b by omega] at this; omega
  refine ⟨hl, ?_, ?_⟩
  · rcases Nat.eq_zero_or_pos (fvJ s B b v) with q | q
    · rw [q]; exact Nat.zero_le _
    · have := fa_first_no (fun j => decide (v < rmN s B (j + 1))) b (fvJ s B b v - 1) (by unfold fvJ at *; omega)
      simp at this
      rw [show fvJ s B b v - 1 + 1 = fvJ s B b v by omega] at this; exact this
  · have := fa_first_yes (fun j => decide (v < rmN s B (j + 1))) b hl
    exact of_decide_eq_true this
theorem fvJ_e {s : Nat} {B : Nat → Nat} {b v j : Nat} (hj : j < b) (h1 : ∀ u, u < j → ¬ v < rmN s B (u + 1)) (h2 : v < rmN s B (j + 1)) : fvJ s B b v = j := fa_first_eq hj (fun u hu => by simpa using h1 u hu) (by simpa using h2)
def fvM (m : Mm) (j p : Nat) : Mm := s40 (s40 m 17 (nI j)) 18 (nI p)
theorem s40_c {m : Mm} {j x : Nat} {a b : Int32} (h : ¬ j = x) : s40 (s40 m j a) x b = s40 (s40 m x b) j a := by
  unfold s40
  have : upd (upd (mI m 40) j a) x b = upd (upd (mI m 40) x b) j a := by
    funext k
    by_cases e : k = x
    · subst e; rw [ud_e, ud_n (fun z => h z.symm), ud_e]
    · rw [ud_n e]
      by_cases e2 : k = j
      · subst e2; rw [ud_e, ud_e]
      · rw [ud_n e2, ud_n e2, ud_n e]
  show (va_up (va_up (mI m) 40 _) 40 (upd (va_up (mI m) 40 (upd (mI m 40) j a) 40) x b), _) = (va_up (va_up (mI m) 40 _) 40 (upd (va_up (mI m) 40 (upd (mI m 40) x b) 40) j a), _)
  rw [va_up_self, va_up_self, this]
  have hu : ∀ (f : Nat → Nat → Int32) u v, va_up (va_up f 40 u) 40 v = va_up f 40 v := fun f u v => by
    funext k
    by_cases e : k = 40
    · subst e; rw [va_up_self, va_up_self]
    · rw [va_up_ne _ _ e, va_up_ne _ _ e, va_up_ne _ _ e]
  rw [hu, hu]; rfl
theorem s40_s {m : Mm} {j : Nat} {a b : Int32} : s40 (s40 m j a) j b = s40 m j b := by
  unfold s40
  show (va_up (va_up (mI m) 40 _) 40 (upd (va_up (mI m) 40 (upd (mI m 40) j a) 40) j b), _) = _
  rw [va_up_self, ud_ud]
  have hu : ∀ (f : Nat → Nat → Int32) u v, va_up (va_up f 40 u) 40 v = va_up f 40 v := fun f u v => by
    funext k
    by_cases e : k = 40
    · subst e; rw [va_up_self, va_up_self]
    · rw [va_up_ne _ _ e, va_up_ne _ _ e, va_up_ne _ _ e]
  rw [hu]; rfl
theorem fvM_n {m : Mm} {j p j' p' : Nat} : s40 (s40 (fvM m j p) 18 (nI p')) 17 (nI j') = fvM m j' p' := by
  unfold fvM
  rw [s40_s, s40_c (by decide), s40_s, s40_c (by decide)]
set_option maxHeartbeats 4000000 in
set_option maxRecDepth 100000 in
theorem lm_findVector {d n c s b z v : Nat} {B : Nat → Nat} {m : Mm} {Q : Po} (h : MCl m c s b z B) (hv : v < rmN s B b) (hQ : Q none n (vw (fvM m (fvJ s B b v) (v - rmN s B (fvJ s B b v))))) : ∀ (t j : Nat), t + j = b → (∀ u, u < j → ¬ v < rmN s B (u + 1)) → Vj MX8_findVector (d + 1) 0 0 10 [some (.ref 40), some (.int (nI c)), some (.int (nI v))] [] n (vw (fvM m j (v - rmN s B j))) Q := by
  obtain ⟨hc, hs, hb1, hb5, hz1, hz2, hB, e50, e52, e41, e51⟩ := h
  have hle := rm_le (s := s) (fun j hj => (hB j hj).2) b (Nat.le_refl b)
  have hB_c : ((4 : Int32) ≤ nI (c)) = False := nf_ge (c := 4) (by omega) (by decide)
  have hN_c : (nI (c) < 0) = False := nf_neg (by omega)
  have hV_c : vp_in (nI (c)) 4 = True := nf_in (by omega) (by decide)
  have hC_c : (nI (c)).toNatClampNeg = c := nI_clamp (by omega)
  have hS_c : nI (c) + 1 = nI (c + 1) := nI_1 _
  intro t
  induction t with
  | zero =>
    intro j ht hno
    exfalso
    have := hno (b - 1) (by omega)
    rw [show b - 1 + 1 = b by omega] at this
    exact this hv
  | succ t ih =>
    intro j ht hno
    have hj := e51 j (by omega)
    have e0 : 6 * nI c + nI j = nI (6 * c + j) := by rw [show (6 : Int32) = nI 6 from rfl, pk_mul, nI_add]
    have v0 : vp_in (nI (6 * c + j)) 24 = True := nf_in (by omega) (by decide)
    have t0 : (nI (6 * c + j)).toNatClampNeg = 6 * c + j := nI_clamp (by omega)
    have i17 : mI (fvM m j (v - rmN s B j)) 40 17 = nI j := by unfold fvM; rw [s40_I, ud_n (by decide), s40_I, ud_e]
    have i18 : mI (fvM m j (v - rmN s B j)) 40 18 = nI (v - rmN s B j) := by unfold fvM; rw [s40_I, ud_e]
    have aA : mA (fvM m j (v - rmN s B j)) = mA m := rfl
    have hlo : rmN s B j ≤ v := by
      rcases Nat.eq_zero_or_pos j with q | q
      · rw [q]; exact Nat.zero_le _
      · have := hno (j - 1) (by omega); rw [show j - 1 + 1 = j by omega] at this; omega
    refine Vj.wp [] 60 [10] ?_
    simp only [st1_n0, st1_ns, st2_n0, st2_ns, clr_n, ld_0, ld_s, st1_0, st1_1, st1_s, st2_0, st2_1, st2_s, clr_c, kil_n, kil_i, kil_r, kil_l, gv_0, gv_s, sv_0, sv_s, wld_s, wint_i, wlng_i, wref_i, w1_c, wobj_e, wiar_e, wsar_e, wlar_e, wqar_3, wlen_a, wlkp_s, wret_i, wret_z, wret_l, wtbl_n, wtbl_c, wlks_n, wlks_c, wstat_1, wstat_3, wstat_5, wstat_6, wspec_2, wspec_4, tk_0, tk_s, fit_i, fit_z, fit_l, fit_r, stp_s, wp_s, wcf_e, wdep_s, mem_n, mem_c, cat_0, cat_i, cat_r, cat_l, tl_s, tl_n, en_n, en_i, en_r, en_l, fv0, fv1, fv2, fv3, kl0, kl1, b10, b01, ct_t, ct_f, ap_n, ap_c, len_n, len_c, ta_i, ta_p, sg_172, sg_175, sg_38, sg_41, sp_172, sp_175, sw_aload_n, sw_bipush, sw_dup_a, sw_dup_i, sw_goto, sw_iadd, sw_iald, sw_ic_lt, sw_iconst, sw_iload_n, sw_imul, sw_isub, sw_stat, sw_vret, i_X8_findVector_0, i_X8_findVector_1, i_X8_findVector_2, i_X8_findVector_5, i_X8_findVector_6, i_X8_findVector_7, i_X8_findVector_10, i_X8_findVector_11, i_X8_findVector_14, i_X8_findVector_15, i_X8_findVector_18, i_X8_findVector_19, i_X8_findVector_20, i_X8_findVector_21, i_X8_findVector_24, i_X8_findVector_26, i_X8_findVector_27, i_X8_findVector_28, i_X8_findVector_29, i_X8_findVector_32, i_X8_findVector_33, i_X8_findVector_34, i_X8_findVector_37, i_X8_findVector_40, i_X8_findVector_41, i_X8_findVector_42, i_X8_findVector_45, i_X8_findVector_46, i_X8_findVector_49, i_X8_findVector_50, i_X8_findVector_51, i_X8_findVector_52, i_X8_findVector_55, i_X8_findVector_57, i_X8_findVector_58, i_X8_findVector_59, i_X8_findVector_60, i_X8_findVector_63, i_X8_findVector_64, i_X8_findVector_65, i_X8_findVector_68, i_X8_findVector_69, i_X8_findVector_72, i_X8_findVector_73, i_X8_findVector_74, i_X8_findVector_77, i_X8_findVector_78, i_X8_findVector_79, i_X8_findVector_82, i_X8_findVector_85, k_0, k_1, kb_6, pf_8_172, pf_8_175, pf_8_38, pf_8_41, pm_8_144, cc_MX8_vectorsOf, t_37_48, t_82_m72, mp_MX8_findVector, mr_MX8_findVector, ↓reduceIte, Bool.false_eq_true, Nat.reduceEqDiff, Nat.reduceAdd, Nat.reduceBEq, Nat.zero_le, Int.reduceAdd, Nat.reduceLeDiff, Nat.reduceLT, true_and, and_true, true_implies, implies_true, Nat.reduceMul, Nat.le_add_left, eq_self, true_or, or_true, not_true_eq_false, not_false_eq_true, false_implies, forall_const, mI_sI, mA_sI, mL_sI, mT_sI, mq_sI, ml_sI, mI_sA, mA_sA, mL_sA, mT_sA, mq_sA, ml_sA, mI_sL, mA_sL, mL_sL, mT_sL, mq_sL, ml_sL, mI_sT, mA_sT, mL_sT, mT_sT, mq_sT, ml_sT, sI_sI, sA_sA, sL_sL, sT_sT, vw_0, vw_1, vw_2, vw_3, vw_4, vw_5, vw_6, vw_7, vw_32, vw_33, vw_34, vw_35, vw_36, vw_37, vw_38, vw_39, vw_41, vw_42, vw_43, vw_44, vw_45, vw_46, vw_47, vw_48, vw_49, vw_50, vw_51, vw_52, vw_53, vw_54, vw_55, vw_56, vw_57, vw_58, vw_59, vw_60, vw_61, vw_62, vw_63, vw_64, vw_65, up_1, up_2, up_32, up_35, up_38, up_3, up_4, up_5, up_6, up_33, up_36, up_37, up_39, up_41, up_42, up_43, up_44, up_45, up_46, up_47, up_48, up_49, up_50, up_51, up_52, up_53, up_54, up_55, up_56, up_57, up_58, up_59, up_60, up_61, up_62, up_63, up_64, up_65, lI_0, lI_s, vu_e, va_up_self, ud_e, ud_n, c40, s40_I, s40_In, s40_mA, s40_mL, s40_mT, s40_mq, s40_ml, hB_c, hN_c, hV_c, hC_c, hS_c, i17, i18, aA, e50, e0, v0, t0, hj]
    try simp only [w_ite]
    refine Cl.I (cm_vectorsOf hs (hB j (by omega)).1 (hB j (by omega)).2) ?_
    have hrm : rmN s B (j + 1) = rmN s B j + vo s (B j) := rfl
    by_cases q : v - rmN s B j < vo s (B j)
    · have q' : (nI (v - rmN s B j) < nI (vo s (B j))) = True := nf_lt q (by have := rm_le (s := s) (fun j hj => (hB j hj).2) (j + 1) (by omega); omega)
      simp only [st1_n0, st1_ns, st2_n0, st2_ns, clr_n, ld_0, ld_s, st1_0, st1_1, st1_s, st2_0, st2_1, st2_s, clr_c, kil_n, kil_i, kil_r, kil_l, gv_0, gv_s, sv_0, sv_s, wld_s, wint_i, wlng_i, wref_i, w1_c, wobj_e, wiar_e, wsar_e, wlar_e, wqar_3, wlen_a, wlkp_s, wret_i, wret_z, wret_l, wtbl_n, wtbl_c, wlks_n, wlks_c, wstat_1, wstat_3, wstat_5, wstat_6, wspec_2, wspec_4, tk_0, tk_s, fit_i, fit_z, fit_l, fit_r, stp_s, wp_s, wcf_e, wdep_s, mem_n, mem_c, cat_0, cat_i, cat_r, cat_l, tl_s, tl_n, en_n, en_i, en_r, en_l, fv0, fv1, fv2, fv3, kl0, kl1, b10, b01, ct_t, ct_f, ap_n, ap_c, len_n, len_c, ta_i, ta_p, sg_172, sg_175, sg_38, sg_41, sp_172, sp_175, sw_aload_n, sw_bipush, sw_dup_a, sw_dup_i, sw_goto, sw_iadd, sw_iald, sw_ic_lt, sw_iconst, sw_iload_n, sw_imul, sw_isub, sw_stat, sw_vret, i_X8_findVector_0, i_X8_findVector_1, i_X8_findVector_2, i_X8_findVector_5, i_X8_findVector_6, i_X8_findVector_7, i_X8_findVector_10, i_X8_findVector_11, i_X8_findVector_14, i_X8_findVector_15, i_X8_findVector_18, i_X8_findVector_19, i_X8_findVector_20, i_X8_findVector_21, i_X8_findVector_24, i_X8_findVector_26, i_X8_findVector_27, i_X8_findVector_28, i_X8_findVector_29, i_X8_findVector_32, i_X8_findVector_33, i_X8_findVector_34, i_X8_findVector_37, i_X8_findVector_40, i_X8_findVector_41, i_X8_findVector_42, i_X8_findVector_45, i_X8_findVector_46, i_X8_findVector_49, i_X8_findVector_50, i_X8_findVector_51, i_X8_findVector_52, i_X8_findVector_55, i_X8_findVector_57, i_X8_findVector_58, i_X8_findVector_59, i_X8_findVector_60, i_X8_findVector_63, i_X8_findVector_64, i_X8_findVector_65, i_X8_findVector_68, i_X8_findVector_69, i_X8_findVector_72, i_X8_findVector_73, i_X8_findVector_74, i_X8_findVector_77, i_X8_findVector_78, i_X8_findVector_79, i_X8_findVector_82, i_X8_findVector_85, k_0, k_1, kb_6, pf_8_172, pf_8_175, pf_8_38, pf_8_41, pm_8_144, cc_MX8_vectorsOf, t_37_48, t_82_m72, mp_MX8_findVector, mr_MX8_findVector, ↓reduceIte, Bool.false_eq_true, Nat.reduceEqDiff, Nat.reduceAdd, Nat.reduceBEq, Nat.zero_le, Int.reduceAdd, Nat.reduceLeDiff, Nat.reduceLT, true_and, and_true, true_implies, implies_true, Nat.reduceMul, Nat.le_add_left, eq_self, true_or, or_true, not_true_eq_false, not_false_eq_true, false_implies, forall_const, mI_sI, mA_sI, mL_sI, mT_sI, mq_sI, ml_sI, mI_sA, mA_sA, mL_sA, mT_sA, mq_sA, ml_sA, mI_sL, mA_sL, mL_sL, mT_sL, mq_sL, ml_sL, mI_sT, mA_sT, mL_sT, mT_sT, mq_sT, ml_sT, sI_sI, sA_sA, sL_sL, sT_sT, vw_0, vw_1, vw_2, vw_3, vw_4, vw_5, vw_6, vw_7, vw_32, vw_33, vw_34, vw_35, vw_36, vw_37, vw_38, vw_39, vw_41, vw_42, vw_43, vw_44, vw_45, vw_46, vw_47, vw_48, vw_49, vw_50, vw_51, vw_52, vw_53, vw_54, vw_55, vw_56, vw_57, vw_58, vw_59, vw_60, vw_61, vw_62, vw_63, vw_64, vw_65, up_1, up_2, up_32, up_35, up_38, up_3, up_4, up_5, up_6, up_33, up_36, up_37, up_39, up_41, up_42, up_43, up_44, up_45, up_46, up_47, up_48, up_49, up_50, up_51, up_52, up_53, up_54, up_55, up_56, up_57, up_58, up_59, up_60, up_61, up_62, up_63, up_64, up_65, lI_0, lI_s, vu_e, va_up_self, ud_e, ud_n, c40, s40_I, s40_In, s40_mA, s40_mL, s40_mT, s40_mq, s40_ml, q']; try simp only [w_ite]
      rw [fvJ_e (by omega) hno (by omega)] at hQ
      exact hQ
    · have q' : (nI (v - rmN s B j) < nI (vo s (B j))) = False := nf_nlt (by omega) (by omega)
      simp only [st1_n0, st1_ns, st2_n0, st2_ns, clr_n, ld_0, ld_s, st1_0, st1_1, st1_s, st2_0, st2_1, st2_s, clr_c, kil_n, kil_i, kil_r, kil_l, gv_0, gv_s, sv_0, sv_s, wld_s, wint_i, wlng_i, wref_i, w1_c, wobj_e, wiar_e, wsar_e, wlar_e, wqar_3, wlen_a, wlkp_s, wret_i, wret_z, wret_l, wtbl_n, wtbl_c, wlks_n, wlks_c, wstat_1, wstat_3, wstat_5, wstat_6, wspec_2, wspec_4, tk_0, tk_s, fit_i, fit_z, fit_l, fit_r, stp_s, wp_s, wcf_e, wdep_s, mem_n, mem_c, cat_0, cat_i, cat_r, cat_l, tl_s, tl_n, en_n, en_i, en_r, en_l, fv0, fv1, fv2, fv3, kl0, kl1, b10, b01, ct_t, ct_f, ap_n, ap_c, len_n, len_c, ta_i, ta_p, sg_172, sg_175, sg_38, sg_41, sp_172, sp_175, sw_aload_n, sw_bipush, sw_dup_a, sw_dup_i, sw_goto, sw_iadd, sw_iald, sw_ic_lt, sw_iconst, sw_iload_n, sw_imul, sw_isub, sw_stat, sw_vret, i_X8_findVector_0, i_X8_findVector_1, i_X8_findVector_2, i_X8_findVector_5, i_X8_findVector_6, i_X8_findVector_7, i_X8_findVector_10, i_X8_findVector_11, i_X8_findVector_14, i_X8_findVector_15, i_X8_findVector_18, i_X8_findVector_19, i_X8_findVector_20, i_X8_findVector_21, i_X8_findVector_24, i_X8_findVector_26, i_X8_findVector_27, i_X8_findVector_28, i_X8_findVector_29, i_X8_findVector_32, i_X8_findVector_33, i_X8_findVector_34, i_X8_findVector_37, i_X8_findVector_40, i_X8_findVector_41, i_X8_findVector_42, i_X8_findVector_45, i_X8_findVector_46, i_X8_findVector_49, i_X8_findVector_50, i_X8_findVector_51, i_X8_findVector_52, i_X8_findVector_55, i_X8_findVector_57, i_X8_findVector_58, i_X8_findVector_59, i_X8_findVector_60, i_X8_findVector_63, i_X8_findVector_64, i_X8_findVector_65, i_X8_findVector_68, i_X8_findVector_69, i_X8_findVector_72, i_X8_findVector_73, i_X8_findVector_74, i_X8_findVector_77, i_X8_findVector_78, i_X8_findVector_79, i_X8_findVector_82, i_X8_findVector_85, k_0, k_1, kb_6, pf_8_172, pf_8_175, pf_8_38, pf_8_41, pm_8_144, cc_MX8_vectorsOf, t_37_48, t_82_m72, mp_MX8_findVector, mr_MX8_findVector, ↓reduceIte, Bool.false_eq_true, Nat.reduceEqDiff, Nat.reduceAdd, Nat.reduceBEq, Nat.zero_le, Int.reduceAdd, Nat.reduceLeDiff, Nat.reduceLT, true_and, and_true, true_implies, implies_true, Nat.reduceMul, Nat.le_add_left, eq_self, true_or, or_true, not_true_eq_false, not_false_eq_true, false_implies, forall_const, mI_sI, mA_sI, mL_sI, mT_sI, mq_sI, ml_sI, mI_sA, mA_sA, mL_sA, mT_sA, mq_sA, ml_sA, mI_sL, mA_sL, mL_sL, mT_sL, mq_sL, ml_sL, mI_sT, mA_sT, mL_sT, mT_sT, mq_sT, ml_sT, sI_sI, sA_sA, sL_sL, sT_sT, vw_0, vw_1, vw_2, vw_3, vw_4, vw_5, vw_6, vw_7, vw_32, vw_33, vw_34, vw_35, vw_36, vw_37, vw_38, vw_39, vw_41, vw_42, vw_43, vw_44, vw_45, vw_46, vw_47, vw_48, vw_49, vw_50, vw_51, vw_52, vw_53, vw_54, vw_55, vw_56, vw_57, vw_58, vw_59, vw_60, vw_61, vw_62, vw_63, vw_64, vw_65, up_1, up_2, up_32, up_35, up_38, up_3, up_4, up_5, up_6, up_33, up_36, up_37, up_39, up_41, up_42, up_43, up_44, up_45, up_46, up_47, up_48, up_49, up_50, up_51, up_52, up_53, up_54, up_55, up_56, up_57, up_58, up_59, up_60, up_61, up_62, up_63, up_64, up_65, lI_0, lI_s, vu_e, va_up_self, ud_e, ud_n, c40, s40_I, s40_In, s40_mA, s40_mL, s40_mT, s40_mq, s40_ml, hB_c, hN_c, hV_c, hC_c, hS_c, i17, i18, aA, e50, e0, v0, t0, hj, q']; try simp only [w_ite]
      refine Cl.I (cm_vectorsOf hs (hB j (by omega)).1 (hB j (by omega)).2) ?_
      have e1 : nI (v - rmN s B j) - nI (vo s (B j)) = nI (v - rmN s B (j + 1)) := by
        have : nI (v - rmN s B (j + 1)) + nI (vo s (B j)) = nI (v - rmN s B (j + 1) + vo s (B j)) := nI_add _ _
        rw [show v - rmN s B (j + 1) + vo s (B j) = v - rmN s B j by omega] at this
        rw [← this]; exact Int32.add_sub_cancel _ _
      have hS : nI j + 1 = nI (j + 1) := nI_1 _
      simp only [st1_n0, st1_ns, st2_n0, st2_ns, clr_n, ld_0, ld_s, st1_0, st1_1, st1_s, st2_0, st2_1, st2_s, clr_c, kil_n, kil_i, kil_r, kil_l, gv_0, gv_s, sv_0, sv_s, wld_s, wint_i, wlng_i, wref_i, w1_c, wobj_e, wiar_e, wsar_e, wlar_e, wqar_3, wlen_a, wlkp_s, wret_i, wret_z, wret_l, wtbl_n, wtbl_c, wlks_n, wlks_c, wstat_1, wstat_3, wstat_5, wstat_6, wspec_2, wspec_4, tk_0, tk_s, fit_i, fit_z, fit_l, fit_r, stp_s, wp_s, wcf_e, wdep_s, mem_n, mem_c, cat_0, cat_i, cat_r, cat_l, tl_s, tl_n, en_n, en_i, en_r, en_l, fv0, fv1, fv2, fv3, kl0, kl1, b10, b01, ct_t, ct_f, ap_n, ap_c, len_n, len_c, ta_i, ta_p, sg_172, sg_175, sg_38, sg_41, sp_172, sp_175, sw_aload_n, sw_bipush, sw_dup_a, sw_dup_i, sw_goto, sw_iadd, sw_iald, sw_ic_lt, sw_iconst, sw_iload_n, sw_imul, sw_isub, sw_stat, sw_vret, i_X8_findVector_0, i_X8_findVector_1, i_X8_findVector_2, i_X8_findVector_5, i_X8_findVector_6, i_X8_findVector_7, i_X8_findVector_10, i_X8_findVector_11, i_X8_findVector_14, i_X8_findVector_15, i_X8_findVector_18, i_X8_findVector_19, i_X8_findVector_20, i_X8_findVector_21, i_X8_findVector_24, i_X8_findVector_26, i_X8_findVector_27, i_X8_findVector_28, i_X8_findVector_29, i_X8_findVector_32, i_X8_findVector_33, i_X8_findVector_34, i_X8_findVector_37, i_X8_findVector_40, i_X8_findVector_41, i_X8_findVector_42, i_X8_findVector_45, i_X8_findVector_46, i_X8_findVector_49, i_X8_findVector_50, i_X8_findVector_51, i_X8_findVector_52, i_X8_findVector_55, i_X8_findVector_57, i_X8_findVector_58, i_X8_findVector_59, i_X8_findVector_60, i_X8_findVector_63, i_X8_findVector_64, i_X8_findVector_65, i_X8_findVector_68, i_X8_findVector_69, i_X8_findVector_72, i_X8_findVector_73, i_X8_findVector_74, i_X8_findVector_77, i_X8_findVector_78, i_X8_findVector_79, i_X8_findVector_82, i_X8_findVector_85, k_0, k_1, kb_6, pf_8_172, pf_8_175, pf_8_38, pf_8_41, pm_8_144, cc_MX8_vectorsOf, t_37_48, t_82_m72, mp_MX8_findVector, mr_MX8_findVector, ↓reduceIte, Bool.false_eq_true, Nat.reduceEqDiff, Nat.reduceAdd, Nat.reduceBEq, Nat.zero_le, Int.reduceAdd, Nat.reduceLeDiff, Nat.reduceLT, true_and, and_true, true_implies, implies_true, Nat.reduceMul, Nat.le_add_left, eq_self, true_or, or_true, not_true_eq_false, not_false_eq_true, false_implies, forall_const, mI_sI, mA_sI, mL_sI, mT_sI, mq_sI, ml_sI, mI_sA, mA_sA, mL_sA, mT_sA, mq_sA, ml_sA, mI_sL, mA_sL, mL_sL, mT_sL, mq_sL, ml_sL, mI_sT, mA_sT, mL_sT, mT_sT, mq_sT, ml_sT, sI_sI, sA_sA, sL_sL, sT_sT, vw_0, vw_1, vw_2, vw_3, vw_4, vw_5, vw_6, vw_7, vw_32, vw_33, vw_34, vw_35, vw_36, vw_37, vw_38, vw_39, vw_41, vw_42, vw_43, vw_44, vw_45, vw_46, vw_47, vw_48, vw_49, vw_50, vw_51, vw_52, vw_53, vw_54, vw_55, vw_56, vw_57, vw_58, vw_59, vw_60, vw_61, vw_62, vw_63, vw_64, vw_65, up_1, up_2, up_32, up_35, up_38, up_3, up_4, up_5, up_6, up_33, up_36, up_37, up_39, up_41, up_42, up_43, up_44, up_45, up_46, up_47, up_48, up_49, up_50, up_51, up_52, up_53, up_54, up_55, up_56, up_57, up_58, up_59, up_60, up_61, up_62, up_63, up_64, up_65, lI_0, lI_s, vu_e, va_up_self, ud_e, ud_n, c40, s40_I, s40_In, s40_mA, s40_mL, s40_mT, s40_mq, s40_ml, hB_c, hN_c, hV_c, hC_c, hS_c, i17, i18, aA, e1, hS]; try simp only [w_ite]
      rw [fvM_n]
      refine ih (j + 1) (by omega) (fun u hu => ?_)
      rcases Nat.lt_or_ge u j with w | w
      · exact hno u w
      · rw [show u = j by omega]; omega
