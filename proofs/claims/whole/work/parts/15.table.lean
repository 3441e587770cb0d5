/-! ===== the class's table ===== -/
/-- the first place below 64 of which p holds, as the class answers it -/
def fstI (p : Nat → Bool) : Int32 := if fa_first p 64 < 64 then nI (fa_first p 64) else -1
theorem fa_first_eq {p : Nat → Bool} {i n : Nat} (hi : i < n) (hno : ∀ j, j < i → p j = false) (hp : p i = true) : fa_first p n = i := by
  rcases Nat.lt_trichotomy (fa_first p n) i with h | h | h
  · have h1 := hno _ h
    have h2 := fa_first_yes p n (by omega)
    rw [h1] at h2; cases h2
  · exact h
  · have := fa_first_no p n i h
    rw [hp] at this; cases this
theorem fa_first_none {p : Nat → Bool} {n : Nat} (hno : ∀ j, j < n → p j = false) : fa_first p n = n := by
  rcases Nat.lt_or_ge (fa_first p n) n with h | h
  · have h2 := fa_first_yes p n h
    rw [hno _ h] at h2; cases h2
  · have := fa_first_le p n; omega
set_option maxHeartbeats 4000000 in
set_option maxRecDepth 100000 in
theorem l_leastEmpty {d n : Nat} {m : Mm} {Q : Po} : ∀ (t i : Nat), t + i = 64 → (∀ j, j < i → mA m 3 j ≠ -1) → Q (some (.int (fstI (fun j => mA m 3 j == -1)))) n (vw m) → Vj MX6_leastEmpty (d + 1) 0 0 2 [some (.ref 2), some (.int (nI i))] [] n (vw m) Q := by
  intro t
  induction t with
  | zero =>
    intro i ht hno hQ
    have hi : i = 64 := by omega
    subst hi
    have h64 : ((64 : Int32) ≤ nI 64) = True := nf_le (Nat.le_refl 64) (by decide)
    refine Vj.wp [6028] 40 [2] ?_
    simp only [st1_n0, st1_ns, st2_n0, st2_ns, clr_n, ld_0, ld_s, st1_0, st1_1, st1_s, st2_0, st2_1, st2_s, clr_c, kil_n, kil_i, kil_r, kil_l, gv_0, gv_s, sv_0, sv_s, wld_s, wint_i, wlng_i, wref_i, w1_c, wobj_e, wiar_e, wsar_e, wlar_e, wqar_3, wlen_a, wlkp_s, wret_i, wret_z, wret_l, wtbl_n, wtbl_c, wlks_n, wlks_c, wstat_1, wstat_3, wstat_5, wstat_6, wspec_2, wspec_4, tk_0, tk_s, fit_i, fit_z, fit_l, fit_r, stp_s, wp_s, wcf_e, wdep_s, mem_n, mem_c, cat_0, cat_i, cat_r, cat_l, tl_s, tl_n, en_n, en_i, en_r, en_l, fv0, fv1, fv2, fv3, kl0, kl1, b10, b01, ct_t, ct_f, ap_n, ap_c, len_n, len_c, ta_i, ta_p, sw_aload_n, sw_bipush, sw_get, sw_goto, sw_iald, sw_ic_eq, sw_ic_ge, sw_iconst, sw_if_lt, sw_if_ne, sw_iinc, sw_iload_n, sw_ireti, sw_istore_n, sw_virt, i_X6_leastEmpty_0, i_X6_leastEmpty_1, i_X6_leastEmpty_2, i_X6_leastEmpty_3, i_X6_leastEmpty_5, i_X6_leastEmpty_8, i_X6_leastEmpty_9, i_X6_leastEmpty_10, i_X6_leastEmpty_13, i_X6_leastEmpty_16, i_X6_leastEmpty_17, i_X6_leastEmpty_18, i_X6_leastEmpty_21, i_X6_leastEmpty_24, i_X6_leastEmpty_25, k_m1, k_0, k_1, kb_64, pm_6_28, cc_MX6_hasRow, t_13_5, t_21_m19, t_5_19, mp_MX6_leastEmpty, mr_MX6_leastEmpty, i_X6_hasRow_0, i_X6_hasRow_1, i_X6_hasRow_4, i_X6_hasRow_5, i_X6_hasRow_7, i_X6_hasRow_10, i_X6_hasRow_11, i_X6_hasRow_14, i_X6_hasRow_15, i_X6_hasRow_16, i_X6_hasRow_17, i_X6_hasRow_20, i_X6_hasRow_21, i_X6_hasRow_24, i_X6_hasRow_25, pf_6_9, t_1_23, t_17_7, t_21_4, t_7_17, mp_MX6_hasRow, mr_MX6_hasRow, ok_MX6_hasRow, ml_MX6_hasRow, ↓reduceIte, Bool.false_eq_true, Nat.reduceEqDiff, Nat.reduceAdd, Nat.reduceBEq, Nat.zero_le, Int.reduceAdd, Nat.reduceLeDiff, Nat.reduceLT, true_and, and_true, true_implies, implies_true, Nat.reduceMul, Nat.le_add_left, eq_self, true_or, or_true, not_true_eq_false, not_false_eq_true, false_implies, forall_const, vw_2, vw_3, h64]
    try simp only [w_ite]
    rw [fstI, fa_first_none (fun j hj => by simpa using hno j hj)] at hQ
    exact hQ
  | succ t ih =>
    intro i ht hno hQ
    have hB_i : ((64 : Int32) ≤ nI (i)) = False := nf_ge (c := 64) (by omega) (by decide)
    have hN_i : (nI (i) < 0) = False := nf_neg (by omega)
    have hV_i : vp_in (nI (i)) 64 = True := nf_in (by omega) (by decide)
    have hC_i : (nI (i)).toNatClampNeg = i := nI_clamp (by omega)
    have hS_i : nI (i) + 1 = nI (i + 1) := nI_1 _
    refine Vj.wp [6028] 40 [2] ?_
    simp only [st1_n0, st1_ns, st2_n0, st2_ns, clr_n, ld_0, ld_s, st1_0, st1_1, st1_s, st2_0, st2_1, st2_s, clr_c, kil_n, kil_i, kil_r, kil_l, gv_0, gv_s, sv_0, sv_s, wld_s, wint_i, wlng_i, wref_i, w1_c, wobj_e, wiar_e, wsar_e, wlar_e, wqar_3, wlen_a, wlkp_s, wret_i, wret_z, wret_l, wtbl_n, wtbl_c, wlks_n, wlks_c, wstat_1, wstat_3, wstat_5, wstat_6, wspec_2, wspec_4, tk_0, tk_s, fit_i, fit_z, fit_l, fit_r, stp_s, wp_s, wcf_e, wdep_s, mem_n, mem_c, cat_0, cat_i, cat_r, cat_l, tl_s, tl_n, en_n, en_i, en_r, en_l, fv0, fv1, fv2, fv3, kl0, kl1, b10, b01, ct_t, ct_f, ap_n, ap_c, len_n, len_c, ta_i, ta_p, sw_aload_n, sw_bipush, sw_get, sw_goto, sw_iald, sw_ic_eq, sw_ic_ge, sw_iconst, sw_if_lt, sw_if_ne, sw_iinc, sw_iload_n, sw_ireti, sw_istore_n, sw_virt, i_X6_leastEmpty_0, i_X6_leastEmpty_1, i_X6_leastEmpty_2, i_X6_leastEmpty_3, i_X6_leastEmpty_5, i_X6_leastEmpty_8, i_X6_leastEmpty_9, i_X6_leastEmpty_10, i_X6_leastEmpty_13, i_X6_leastEmpty_16, i_X6_leastEmpty_17, i_X6_leastEmpty_18, i_X6_leastEmpty_21, i_X6_leastEmpty_24, i_X6_leastEmpty_25, k_m1, k_0, k_1, kb_64, pm_6_28, cc_MX6_hasRow, t_13_5, t_21_m19, t_5_19, mp_MX6_leastEmpty, mr_MX6_leastEmpty, i_X6_hasRow_0, i_X6_hasRow_1, i_X6_hasRow_4, i_X6_hasRow_5, i_X6_hasRow_7, i_X6_hasRow_10, i_X6_hasRow_11, i_X6_hasRow_14, i_X6_hasRow_15, i_X6_hasRow_16, i_X6_hasRow_17, i_X6_hasRow_20, i_X6_hasRow_21, i_X6_hasRow_24, i_X6_hasRow_25, pf_6_9, t_1_23, t_17_7, t_21_4, t_7_17, mp_MX6_hasRow, mr_MX6_hasRow, ok_MX6_hasRow, ml_MX6_hasRow, ↓reduceIte, Bool.false_eq_true, Nat.reduceEqDiff, Nat.reduceAdd, Nat.reduceBEq, Nat.zero_le, Int.reduceAdd, Nat.reduceLeDiff, Nat.reduceLT, true_and, and_true, true_implies, implies_true, Nat.reduceMul, Nat.le_add_left, eq_self, true_or, or_true, not_true_eq_false, not_false_eq_true, false_implies, forall_const, vw_2, vw_3, hB_i, hN_i, hV_i, hC_i, hS_i]
    try simp only [w_ite]
    refine ⟨fun h => ?_, fun h => ?_⟩
    · rw [fstI, fa_first_eq (i := i) (by omega) (fun j hj => by simpa using hno j hj) (by simpa using h), if_pos (by omega)] at hQ
      exact hQ
    · exact ih (i + 1) (by omega) (fun j hj => by
        rcases Nat.lt_or_ge j i with q | q
        · exact hno j q
        · rw [show j = i by omega]; exact h) hQ
set_option maxHeartbeats 4000000 in
set_option maxRecDepth 100000 in
theorem c_leastEmpty {d n : Nat} {m : Mm} : Ct MX6_leastEmpty (d + 1) [.ref 2] n (vw m) (pI (fstI (fun j => mA m 3 j == -1)) n (vw m)) := by
  refine Ct.of (by decide) rfl rfl (Nat.le_of_ble_eq_true rfl) ?_
  refine Vj.wp [6028] 2 [2] ?_
  simp only [st1_n0, st1_ns, st2_n0, st2_ns, clr_n, ld_0, ld_s, st1_0, st1_1, st1_s, st2_0, st2_1, st2_s, clr_c, kil_n, kil_i, kil_r, kil_l, gv_0, gv_s, sv_0, sv_s, wld_s, wint_i, wlng_i, wref_i, w1_c, wobj_e, wiar_e, wsar_e, wlar_e, wqar_3, wlen_a, wlkp_s, wret_i, wret_z, wret_l, wtbl_n, wtbl_c, wlks_n, wlks_c, wstat_1, wstat_3, wstat_5, wstat_6, wspec_2, wspec_4, tk_0, tk_s, fit_i, fit_z, fit_l, fit_r, stp_s, wp_s, wcf_e, wdep_s, mem_n, mem_c, cat_0, cat_i, cat_r, cat_l, tl_s, tl_n, en_n, en_i, en_r, en_l, fv0, fv1, fv2, fv3, kl0, kl1, b10, b01, ct_t, ct_f, ap_n, ap_c, len_n, len_c, ta_i, ta_p, sw_aload_n, sw_bipush, sw_get, sw_goto, sw_iald, sw_ic_eq, sw_ic_ge, sw_iconst, sw_if_lt, sw_if_ne, sw_iinc, sw_iload_n, sw_ireti, sw_istore_n, sw_virt, i_X6_leastEmpty_0, i_X6_leastEmpty_1, i_X6_leastEmpty_2, i_X6_leastEmpty_3, i_X6_leastEmpty_5, i_X6_leastEmpty_8, i_X6_leastEmpty_9, i_X6_leastEmpty_10, i_X6_leastEmpty_13, i_X6_leastEmpty_16, i_X6_leastEmpty_17, i_X6_leastEmpty_18, i_X6_leastEmpty_21, i_X6_leastEmpty_24, i_X6_leastEmpty_25, k_m1, k_0, k_1, kb_64, pm_6_28, cc_MX6_hasRow, t_13_5, t_21_m19, t_5_19, mp_MX6_leastEmpty, mr_MX6_leastEmpty, i_X6_hasRow_0, i_X6_hasRow_1, i_X6_hasRow_4, i_X6_hasRow_5, i_X6_hasRow_7, i_X6_hasRow_10, i_X6_hasRow_11, i_X6_hasRow_14, i_X6_hasRow_15, i_X6_hasRow_16, i_X6_hasRow_17, i_X6_hasRow_20, i_X6_hasRow_21, i_X6_hasRow_24, i_X6_hasRow_25, pf_6_9, t_1_23, t_17_7, t_21_4, t_7_17, mp_MX6_hasRow, mr_MX6_hasRow, ok_MX6_hasRow, ml_MX6_hasRow, ↓reduceIte, Bool.false_eq_true, Nat.reduceEqDiff, Nat.reduceAdd, Nat.reduceBEq, Nat.zero_le, Int.reduceAdd, Nat.reduceLeDiff, Nat.reduceLT, true_and, and_true, true_implies, implies_true, Nat.reduceMul, Nat.le_add_left, eq_self, true_or, or_true, not_true_eq_false, not_false_eq_true, false_implies, forall_const]
  try simp only [w_ite]
  refine l_leastEmpty 64 0 rfl (fun j h => absurd h (Nat.not_lt_zero j)) ?_
  exact ⟨rfl, rfl, rfl⟩
/-- what a change does: line i becomes v -/
def rChange (m : Mm) (i : Nat) (v : Int32) (m' : Mm) : Prop := Fr [2, 3, 4, 5] m m' ∧ mA m' 3 = upd (mA m 3) i v ∧ mI m' 2 4 = (mI m 2 4 - (if mA m 3 i = -1 then 0 else 1)) + (if v = -1 then 0 else 1) ∧ mI m' 2 5 = (if (100 : Int32) ≤ mI m 2 5 + 1 then 0 else mI m 2 5 + 1) ∧ mI m' 2 6 = (if 100 < mI m 2 6 + 1 then 100 else mI m 2 6 + 1) ∧ mI m' 2 7 = mI m 2 7 ∧ mA m' 4 = upd (mA m 4) (mI m 2 5).toNatClampNeg (nI i) ∧ mA m' 5 = upd (mA m 5) (mI m 2 5).toNatClampNeg (mA m 3 i)
set_option maxHeartbeats 4000000 in
set_option maxRecDepth 100000 in
theorem c_change {d : Nat} {m : Mm} {i j : Nat} {v : Int32} (hi : i < 64) (hj : j < 100) (hn : mI m 2 5 = nI j) : Ct MX6_change (d + 1) [.ref 2, .int (nI i), .int v] (nn m) (vw m) (eV (rChange m i v)) := by
  refine Ct.of (by decide) rfl rfl (Nat.le_of_ble_eq_true rfl) ?_
  have hB_i : ((64 : Int32) ≤ nI (i)) = False := nf_ge (c := 64) (by omega) (by decide)
  have hN_i : (nI (i) < 0) = False := nf_neg (by omega)
  have hV_i : vp_in (nI (i)) 64 = True := nf_in (by omega) (by decide)
  have hC_i : (nI (i)).toNatClampNeg = i := nI_clamp (by omega)
  have hS_i : nI (i) + 1 = nI (i + 1) := nI_1 _
  have hB_j : ((100 : Int32) ≤ nI (j)) = False := nf_ge (c := 100) (by omega) (by decide)
  have hN_j : (nI (j) < 0) = False := nf_neg (by omega)
  have hV_j : vp_in (nI (j)) 100 = True := nf_in (by omega) (by decide)
  have hC_j : (nI (j)).toNatClampNeg = j := nI_clamp (by omega)
  have hS_j : nI (j) + 1 = nI (j + 1) := nI_1 _
  refine Vj.wp [6054] 80 [] ?_
  simp only [st1_n0, st1_ns, st2_n0, st2_ns, clr_n, ld_0, ld_s, st1_0, st1_1, st1_s, st2_0, st2_1, st2_s, clr_c, kil_n, kil_i, kil_r, kil_l, gv_0, gv_s, sv_0, sv_s, wld_s, wint_i, wlng_i, wref_i, w1_c, wobj_e, wiar_e, wsar_e, wlar_e, wqar_3, wlen_a, wlkp_s, wret_i, wret_z, wret_l, wtbl_n, wtbl_c, wlks_n, wlks_c, wstat_1, wstat_3, wstat_5, wstat_6, wspec_2, wspec_4, tk_0, tk_s, fit_i, fit_z, fit_l, fit_r, stp_s, wp_s, wcf_e, wdep_s, mem_n, mem_c, cat_0, cat_i, cat_r, cat_l, tl_s, tl_n, en_n, en_i, en_r, en_l, fv0, fv1, fv2, fv3, kl0, kl1, b10, b01, ct_t, ct_f, ap_n, ap_c, len_n, len_c, ta_i, ta_p, sw_aload_n, sw_bipush, sw_dup_a, sw_dup_i, sw_get, sw_goto, sw_iadd, sw_iald, sw_iast, sw_ic_eq, sw_ic_ge, sw_iconst, sw_iload_n, sw_isub, sw_put, sw_stat, sw_virt, sw_vret, i_X6_change_0, i_X6_change_1, i_X6_change_4, i_X6_change_5, i_X6_change_8, i_X6_change_9, i_X6_change_10, i_X6_change_11, i_X6_change_14, i_X6_change_15, i_X6_change_18, i_X6_change_19, i_X6_change_22, i_X6_change_23, i_X6_change_24, i_X6_change_25, i_X6_change_26, i_X6_change_27, i_X6_change_30, i_X6_change_31, i_X6_change_32, i_X6_change_34, i_X6_change_37, i_X6_change_38, i_X6_change_41, i_X6_change_42, i_X6_change_43, i_X6_change_46, i_X6_change_47, i_X6_change_50, i_X6_change_51, i_X6_change_52, i_X6_change_55, i_X6_change_56, i_X6_change_57, i_X6_change_59, i_X6_change_62, i_X6_change_65, i_X6_change_66, i_X6_change_67, i_X6_change_68, i_X6_change_71, k_0, k_1, kb_100, pf_6_15, pf_6_18, pf_6_36, pf_6_46, pf_6_9, pm_6_49, cc_MJ9_min_7cf53, pm_6_54, cc_MX6_put, t_34_12, t_43_4, mp_MX6_change, mr_MX6_change, i_X6_put_0, i_X6_put_1, i_X6_put_4, i_X6_put_5, i_X6_put_6, i_X6_put_7, i_X6_put_10, i_X6_put_11, i_X6_put_12, i_X6_put_15, i_X6_put_16, i_X6_put_17, i_X6_put_20, i_X6_put_21, i_X6_put_22, i_X6_put_25, i_X6_put_26, i_X6_put_27, i_X6_put_30, i_X6_put_31, i_X6_put_32, i_X6_put_35, i_X6_put_36, i_X6_put_39, i_X6_put_40, i_X6_put_41, i_X6_put_42, k_m1, pf_6_32, t_22_13, t_7_13, mp_MX6_put, mr_MX6_put, ok_MX6_put, ml_MX6_put, ↓reduceIte, Bool.false_eq_true, Nat.reduceEqDiff, Nat.reduceAdd, Nat.reduceBEq, Nat.zero_le, Int.reduceAdd, Nat.reduceLeDiff, Nat.reduceLT, true_and, and_true, true_implies, implies_true, Nat.reduceMul, Nat.le_add_left, eq_self, true_or, or_true, not_true_eq_false, not_false_eq_true, false_implies, forall_const, hB_i, hN_i, hV_i, hC_i, hS_i, hB_j, hN_j, hV_j, hC_j, hS_j, mI_sI, mA_sI, mL_sI, mT_sI, mq_sI, ml_sI, mI_sA, mA_sA, mL_sA, mT_sA, mq_sA, ml_sA, mI_sL, mA_sL, mL_sL, mT_sL, mq_sL, ml_sL, mI_sT, mA_sT, mL_sT, mT_sT, mq_sT, ml_sT, vw_0, vw_1, vw_2, vw_3, vw_4, vw_5, vw_6, vw_7, vw_32, vw_33, vw_34, vw_35, vw_36, vw_37, vw_38, vw_39, vw_40, vw_41, vw_42, vw_43, vw_44, vw_45, vw_46, vw_47, vw_48, vw_49, vw_50, vw_51, vw_52, vw_53, vw_54, vw_55, vw_56, vw_57, vw_58, vw_59, vw_60, vw_61, vw_62, vw_63, vw_64, vw_65, up_1, up_2, up_32, up_35, up_38, up_40, up_3, up_4, up_5, up_6, up_33, up_36, up_37, up_39, up_41, up_42, up_43, up_44, up_45, up_46, up_47, up_48, up_49, up_50, up_51, up_52, up_53, up_54, up_55, up_56, up_57, up_58, up_59, up_60, up_61, up_62, up_63, up_64, up_65, lI_0, lI_s, vu_e, va_up_self, hn]
  try simp only [w_ite]
  refine ⟨fun h1 => ⟨fun h2 => ⟨fun h3 => ?_, fun h3 => ?_⟩, fun h2 => ⟨fun h3 => ?_, fun h3 => ?_⟩⟩, fun h1 => ⟨fun h2 => ⟨fun h3 => ?_, fun h3 => ?_⟩, fun h2 => ⟨fun h3 => ?_, fun h3 => ?_⟩⟩⟩ <;> (
    refine eV_i rfl ⟨?_, ?_⟩
    · repeat (first | exact Fr.rf | refine Fr.sI ?_ (by decide) | refine Fr.sA ?_ (by decide))
    · simp only [mI_sI, mA_sI, mL_sI, mT_sI, mq_sI, ml_sI, mI_sA, mA_sA, mL_sA, mT_sA, mq_sA, ml_sA, mI_sL, mA_sL, mL_sL, mT_sL, mq_sL, ml_sL, mI_sT, mA_sT, mL_sT, mT_sT, mq_sT, ml_sT, vw_0, vw_1, vw_2, vw_3, vw_4, vw_5, vw_6, vw_7, vw_32, vw_33, vw_34, vw_35, vw_36, vw_37, vw_38, vw_39, vw_40, vw_41, vw_42, vw_43, vw_44, vw_45, vw_46, vw_47, vw_48, vw_49, vw_50, vw_51, vw_52, vw_53, vw_54, vw_55, vw_56, vw_57, vw_58, vw_59, vw_60, vw_61, vw_62, vw_63, vw_64, vw_65, up_1, up_2, up_32, up_35, up_38, up_40, up_3, up_4, up_5, up_6, up_33, up_36, up_37, up_39, up_41, up_42, up_43, up_44, up_45, up_46, up_47, up_48, up_49, up_50, up_51, up_52, up_53, up_54, up_55, up_56, up_57, up_58, up_59, up_60, up_61, up_62, up_63, up_64, up_65, lI_0, lI_s, vu_e, va_up_self, Nat.reduceBEq, ct_t, ct_f, hn, hS_j, hC_j, h1, h2, h3, if_true, if_false, Int32.add_zero, Int32.sub_zero, and_self, true_and, and_true])
/-- a mask of lines: bit j for p j -/
def mkm (p : Nat → Bool) : Nat → Int64
  | 0 => 0
  | n + 1 => if p n then mkm p n ||| ((1 : Int64) <<< ((nI n).toInt64 &&& 63)) else mkm p n
def rowAt (m : Mm) (i : Nat) : Bool := !(mA m 3 i == -1)
/-- column c of line i's row -/
def numI (m : Mm) (i : Nat) (c : Int32) : Int32 := (mA m 3 i >>> ((8 * c) &&& 31)) &&& 255
theorem rowAt_t {m : Mm} {i : Nat} (h : ¬ mA m 3 i = -1) : rowAt m i = true := by simp [rowAt, h]
theorem rowAt_f {m : Mm} {i : Nat} (h : mA m 3 i = -1) : rowAt m i = false := by simp [rowAt, h]
set_option maxHeartbeats 4000000 in
set_option maxRecDepth 100000 in
theorem l_linesWithRow {d n : Nat} {m : Mm} {Q : Po} : ∀ (t i : Nat) (x : Option Value), t + i = 64 → Q (some (.long (mkm (rowAt m) 64))) n (vw m) → Vj MX6_linesWithRow (d + 1) 0 0 4 [some (.ref 2), some (.long (mkm (rowAt m) i)), x, some (.int (nI i))] [] n (vw m) Q := by
  intro t
  induction t with
  | zero =>
    intro i x ht hQ
    have hi : i = 64 := by omega
    subst hi
    have h64 : ((64 : Int32) ≤ nI 64) = True := nf_le (Nat.le_refl 64) (by decide)
    refine Vj.wp [6028] 40 [4] ?_
    simp only [st1_n0, st1_ns, st2_n0, st2_ns, clr_n, ld_0, ld_s, st1_0, st1_1, st1_s, st2_0, st2_1, st2_s, clr_c, kil_n, kil_i, kil_r, kil_l, gv_0, gv_s, sv_0, sv_s, wld_s, wint_i, wlng_i, wref_i, w1_c, wobj_e, wiar_e, wsar_e, wlar_e, wqar_3, wlen_a, wlkp_s, wret_i, wret_z, wret_l, wtbl_n, wtbl_c, wlks_n, wlks_c, wstat_1, wstat_3, wstat_5, wstat_6, wspec_2, wspec_4, tk_0, tk_s, fit_i, fit_z, fit_l, fit_r, stp_s, wp_s, wcf_e, wdep_s, mem_n, mem_c, cat_0, cat_i, cat_r, cat_l, tl_s, tl_n, en_n, en_i, en_r, en_l, fv0, fv1, fv2, fv3, kl0, kl1, b10, b01, ct_t, ct_f, ap_n, ap_c, len_n, len_c, ta_i, ta_p, sw_aload_n, sw_bipush, sw_get, sw_goto, sw_iald, sw_ic_eq, sw_ic_ge, sw_iconst, sw_if_eq, sw_if_lt, sw_iinc, sw_iload_n, sw_ireti, sw_istore_n, sw_lconst, sw_lload_n, sw_lor, sw_lret, sw_lshl, sw_lstore_n, sw_virt, i_X6_linesWithRow_0, i_X6_linesWithRow_1, i_X6_linesWithRow_2, i_X6_linesWithRow_3, i_X6_linesWithRow_4, i_X6_linesWithRow_5, i_X6_linesWithRow_7, i_X6_linesWithRow_10, i_X6_linesWithRow_11, i_X6_linesWithRow_12, i_X6_linesWithRow_15, i_X6_linesWithRow_18, i_X6_linesWithRow_19, i_X6_linesWithRow_20, i_X6_linesWithRow_21, i_X6_linesWithRow_22, i_X6_linesWithRow_23, i_X6_linesWithRow_24, i_X6_linesWithRow_27, i_X6_linesWithRow_30, i_X6_linesWithRow_31, k_0, k_1, kb_64, pm_6_28, cc_MX6_hasRow, t_15_9, t_27_m23, t_7_23, mp_MX6_linesWithRow, mr_MX6_linesWithRow, i_X6_hasRow_0, i_X6_hasRow_1, i_X6_hasRow_4, i_X6_hasRow_5, i_X6_hasRow_7, i_X6_hasRow_10, i_X6_hasRow_11, i_X6_hasRow_14, i_X6_hasRow_15, i_X6_hasRow_16, i_X6_hasRow_17, i_X6_hasRow_20, i_X6_hasRow_21, i_X6_hasRow_24, i_X6_hasRow_25, k_m1, pf_6_9, t_1_23, t_17_7, t_21_4, t_7_17, mp_MX6_hasRow, mr_MX6_hasRow, ok_MX6_hasRow, ml_MX6_hasRow, ↓reduceIte, Bool.false_eq_true, Nat.reduceEqDiff, Nat.reduceAdd, Nat.reduceBEq, Nat.zero_le, Int.reduceAdd, Nat.reduceLeDiff, Nat.reduceLT, true_and, and_true, true_implies, implies_true, Nat.reduceMul, Nat.le_add_left, eq_self, true_or, or_true, not_true_eq_false, not_false_eq_true, false_implies, forall_const, vw_2, vw_3, h64]
    try simp only [w_ite]
    exact hQ
  | succ t ih =>
    intro i x ht hQ
    have hB_i : ((64 : Int32) ≤ nI (i)) = False := nf_ge (c := 64) (by omega) (by decide)
    have hN_i : (nI (i) < 0) = False := nf_neg (by omega)
    have hV_i : vp_in (nI (i)) 64 = True := nf_in (by omega) (by decide)
    have hC_i : (nI (i)).toNatClampNeg = i := nI_clamp (by omega)
    have hS_i : nI (i) + 1 = nI (i + 1) := nI_1 _
    refine Vj.wp [6028] 40 [4] ?_
    simp only [st1_n0, st1_ns, st2_n0, st2_ns, clr_n, ld_0, ld_s, st1_0, st1_1, st1_s, st2_0, st2_1, st2_s, clr_c, kil_n, kil_i, kil_r, kil_l, gv_0, gv_s, sv_0, sv_s, wld_s, wint_i, wlng_i, wref_i, w1_c, wobj_e, wiar_e, wsar_e, wlar_e, wqar_3, wlen_a, wlkp_s, wret_i, wret_z, wret_l, wtbl_n, wtbl_c, wlks_n, wlks_c, wstat_1, wstat_3, wstat_5, wstat_6, wspec_2, wspec_4, tk_0, tk_s, fit_i, fit_z, fit_l, fit_r, stp_s, wp_s, wcf_e, wdep_s, mem_n, mem_c, cat_0, cat_i, cat_r, cat_l, tl_s, tl_n, en_n, en_i, en_r, en_l, fv0, fv1, fv2, fv3, kl0, kl1, b10, b01, ct_t, ct_f, ap_n, ap_c, len_n, len_c, ta_i, ta_p, sw_aload_n, sw_bipush, sw_get, sw_goto, sw_iald, sw_ic_eq, sw_ic_ge, sw_iconst, sw_if_eq, sw_if_lt, sw_iinc, sw_iload_n, sw_ireti, sw_istore_n, sw_lconst, sw_lload_n, sw_lor, sw_lret, sw_lshl, sw_lstore_n, sw_virt, i_X6_linesWithRow_0, i_X6_linesWithRow_1, i_X6_linesWithRow_2, i_X6_linesWithRow_3, i_X6_linesWithRow_4, i_X6_linesWithRow_5, i_X6_linesWithRow_7, i_X6_linesWithRow_10, i_X6_linesWithRow_11, i_X6_linesWithRow_12, i_X6_linesWithRow_15, i_X6_linesWithRow_18, i_X6_linesWithRow_19, i_X6_linesWithRow_20, i_X6_linesWithRow_21, i_X6_linesWithRow_22, i_X6_linesWithRow_23, i_X6_linesWithRow_24, i_X6_linesWithRow_27, i_X6_linesWithRow_30, i_X6_linesWithRow_31, k_0, k_1, kb_64, pm_6_28, cc_MX6_hasRow, t_15_9, t_27_m23, t_7_23, mp_MX6_linesWithRow, mr_MX6_linesWithRow, i_X6_hasRow_0, i_X6_hasRow_1, i_X6_hasRow_4, i_X6_hasRow_5, i_X6_hasRow_7, i_X6_hasRow_10, i_X6_hasRow_11, i_X6_hasRow_14, i_X6_hasRow_15, i_X6_hasRow_16, i_X6_hasRow_17, i_X6_hasRow_20, i_X6_hasRow_21, i_X6_hasRow_24, i_X6_hasRow_25, k_m1, pf_6_9, t_1_23, t_17_7, t_21_4, t_7_17, mp_MX6_hasRow, mr_MX6_hasRow, ok_MX6_hasRow, ml_MX6_hasRow, ↓reduceIte, Bool.false_eq_true, Nat.reduceEqDiff, Nat.reduceAdd, Nat.reduceBEq, Nat.zero_le, Int.reduceAdd, Nat.reduceLeDiff, Nat.reduceLT, true_and, and_true, true_implies, implies_true, Nat.reduceMul, Nat.le_add_left, eq_self, true_or, or_true, not_true_eq_false, not_false_eq_true, false_implies, forall_const, vw_2, vw_3, hB_i, hN_i, hV_i, hC_i, hS_i]
    try simp only [w_ite]
    refine ⟨fun h => ?_, fun h => ?_⟩
    · have := ih (i + 1) none (by omega) hQ
      rw [mkm, rowAt_f h, if_neg (by decide)] at this
      exact V_sub (by repeat (first | exact lsub_n | refine lsub_s ?_ | refine lsub_o ?_ | refine lsub_z ?_)) this
    · have := ih (i + 1) none (by omega) hQ
      rw [mkm, rowAt_t h, if_pos rfl] at this
      exact V_sub (by repeat (first | exact lsub_n | refine lsub_s ?_ | refine lsub_o ?_ | refine lsub_z ?_)) this
set_option maxHeartbeats 4000000 in
set_option maxRecDepth 100000 in
theorem c_linesWithRow {d n : Nat} {m : Mm} : Ct MX6_linesWithRow (d + 1) [.ref 2] n (vw m) (pL (mkm (rowAt m) 64) n (vw m)) := by
  refine Ct.of (by decide) rfl rfl (Nat.le_of_ble_eq_true rfl) ?_
  refine Vj.wp [6028] 8 [4] ?_
  simp only [st1_n0, st1_ns, st2_n0, st2_ns, clr_n, ld_0, ld_s, st1_0, st1_1, st1_s, st2_0, st2_1, st2_s, clr_c, kil_n, kil_i, kil_r, kil_l, gv_0, gv_s, sv_0, sv_s, wld_s, wint_i, wlng_i, wref_i, w1_c, wobj_e, wiar_e, wsar_e, wlar_e, wqar_3, wlen_a, wlkp_s, wret_i, wret_z, wret_l, wtbl_n, wtbl_c, wlks_n, wlks_c, wstat_1, wstat_3, wstat_5, wstat_6, wspec_2, wspec_4, tk_0, tk_s, fit_i, fit_z, fit_l, fit_r, stp_s, wp_s, wcf_e, wdep_s, mem_n, mem_c, cat_0, cat_i, cat_r, cat_l, tl_s, tl_n, en_n, en_i, en_r, en_l, fv0, fv1, fv2, fv3, kl0, kl1, b10, b01, ct_t, ct_f, ap_n, ap_c, len_n, len_c, ta_i, ta_p, sw_aload_n, sw_bipush, sw_get, sw_goto, sw_iald, sw_ic_eq, sw_ic_ge, sw_iconst, sw_if_eq, sw_if_lt, sw_iinc, sw_iload_n, sw_ireti, sw_istore_n, sw_lconst, sw_lload_n, sw_lor, sw_lret, sw_lshl, sw_lstore_n, sw_virt, i_X6_linesWithRow_0, i_X6_linesWithRow_1, i_X6_linesWithRow_2, i_X6_linesWithRow_3, i_X6_linesWithRow_4, i_X6_linesWithRow_5, i_X6_linesWithRow_7, i_X6_linesWithRow_10, i_X6_linesWithRow_11, i_X6_linesWithRow_12, i_X6_linesWithRow_15, i_X6_linesWithRow_18, i_X6_linesWithRow_19, i_X6_linesWithRow_20, i_X6_linesWithRow_21, i_X6_linesWithRow_22, i_X6_linesWithRow_23, i_X6_linesWithRow_24, i_X6_linesWithRow_27, i_X6_linesWithRow_30, i_X6_linesWithRow_31, k_0, k_1, kb_64, pm_6_28, cc_MX6_hasRow, t_15_9, t_27_m23, t_7_23, mp_MX6_linesWithRow, mr_MX6_linesWithRow, i_X6_hasRow_0, i_X6_hasRow_1, i_X6_hasRow_4, i_X6_hasRow_5, i_X6_hasRow_7, i_X6_hasRow_10, i_X6_hasRow_11, i_X6_hasRow_14, i_X6_hasRow_15, i_X6_hasRow_16, i_X6_hasRow_17, i_X6_hasRow_20, i_X6_hasRow_21, i_X6_hasRow_24, i_X6_hasRow_25, k_m1, pf_6_9, t_1_23, t_17_7, t_21_4, t_7_17, mp_MX6_hasRow, mr_MX6_hasRow, ok_MX6_hasRow, ml_MX6_hasRow, ↓reduceIte, Bool.false_eq_true, Nat.reduceEqDiff, Nat.reduceAdd, Nat.reduceBEq, Nat.zero_le, Int.reduceAdd, Nat.reduceLeDiff, Nat.reduceLT, true_and, and_true, true_implies, implies_true, Nat.reduceMul, Nat.le_add_left, eq_self, true_or, or_true, not_true_eq_false, not_false_eq_true, false_implies, forall_const]
  try simp only [w_ite]
  refine l_linesWithRow 64 0 none rfl ?_
  exact ⟨rfl, rfl, rfl⟩
set_option maxHeartbeats 4000000 in
set_option maxRecDepth 100000 in
theorem l_linesWith {d n : Nat} {m : Mm} {c v : Int32} {Q : Po} : ∀ (t i : Nat) (x : Option Value), t + i = 64 → Q (some (.long (mkm (fun j => rowAt m j && (numI m j c == v)) 64))) n (vw m) → Vj MX6_linesWith (d + 2) 0 0 5 [some (.ref 2), some (.int c), some (.int v), some (.long (mkm (fun j => rowAt m j && (numI m j c == v)) i)), x, some (.int (nI i))] [] n (vw m) Q := by
  intro t
  induction t with
  | zero =>
    intro i x ht hQ
    have hi : i = 64 := by omega
    subst hi
    have h64 : ((64 : Int32) ≤ nI 64) = True := nf_le (Nat.le_refl 64) (by decide)
    refine Vj.wp [6028, 6042] 60 [5] ?_
    simp only [st1_n0, st1_ns, st2_n0, st2_ns, clr_n, ld_0, ld_s, st1_0, st1_1, st1_s, st2_0, st2_1, st2_s, clr_c, kil_n, kil_i, kil_r, kil_l, gv_0, gv_s, sv_0, sv_s, wld_s, wint_i, wlng_i, wref_i, w1_c, wobj_e, wiar_e, wsar_e, wlar_e, wqar_3, wlen_a, wlkp_s, wret_i, wret_z, wret_l, wtbl_n, wtbl_c, wlks_n, wlks_c, wstat_1, wstat_3, wstat_5, wstat_6, wspec_2, wspec_4, tk_0, tk_s, fit_i, fit_z, fit_l, fit_r, stp_s, wp_s, wcf_e, wdep_s, mem_n, mem_c, cat_0, cat_i, cat_r, cat_l, tl_s, tl_n, en_n, en_i, en_r, en_l, fv0, fv1, fv2, fv3, kl0, kl1, b10, b01, ct_t, ct_f, ap_n, ap_c, len_n, len_c, ta_i, ta_p, sw_aload_n, sw_bipush, sw_get, sw_goto, sw_iald, sw_iand, sw_ic_eq, sw_ic_ge, sw_ic_ne, sw_iconst, sw_if_eq, sw_if_lt, sw_iinc, sw_iload, sw_iload_n, sw_imul, sw_ireti, sw_ishr, sw_istore, sw_lconst, sw_lload_n, sw_lor, sw_lret, sw_lshl, sw_lstore_n, sw_sipush, sw_virt, i_X6_linesWith_0, i_X6_linesWith_1, i_X6_linesWith_2, i_X6_linesWith_3, i_X6_linesWith_5, i_X6_linesWith_7, i_X6_linesWith_9, i_X6_linesWith_12, i_X6_linesWith_13, i_X6_linesWith_15, i_X6_linesWith_18, i_X6_linesWith_21, i_X6_linesWith_22, i_X6_linesWith_24, i_X6_linesWith_25, i_X6_linesWith_28, i_X6_linesWith_29, i_X6_linesWith_32, i_X6_linesWith_33, i_X6_linesWith_34, i_X6_linesWith_36, i_X6_linesWith_37, i_X6_linesWith_38, i_X6_linesWith_39, i_X6_linesWith_42, i_X6_linesWith_45, i_X6_linesWith_46, k_0, k_1, kb_64, pm_6_28, cc_MX6_hasRow, pm_6_42, cc_MX6_number, t_18_21, t_29_10, t_42_m37, t_9_36, mp_MX6_linesWith, mr_MX6_linesWith, i_X6_hasRow_0, i_X6_hasRow_1, i_X6_hasRow_4, i_X6_hasRow_5, i_X6_hasRow_7, i_X6_hasRow_10, i_X6_hasRow_11, i_X6_hasRow_14, i_X6_hasRow_15, i_X6_hasRow_16, i_X6_hasRow_17, i_X6_hasRow_20, i_X6_hasRow_21, i_X6_hasRow_24, i_X6_hasRow_25, k_m1, pf_6_9, t_1_23, t_17_7, t_21_4, t_7_17, mp_MX6_hasRow, mr_MX6_hasRow, ok_MX6_hasRow, ml_MX6_hasRow, i_X6_number_0, i_X6_number_1, i_X6_number_2, i_X6_number_5, i_X6_number_8, i_X6_number_9, i_X6_number_12, i_X6_number_13, i_X6_number_14, i_X6_number_16, i_X6_number_17, i_X6_number_18, i_X6_number_19, i_X6_number_22, i_X6_number_23, i_X6_number_26, i_X6_number_27, kb_8, ks_255, t_23_4, t_5_21, mp_MX6_number, mr_MX6_number, ok_MX6_number, ml_MX6_number, ↓reduceIte, Bool.false_eq_true, Nat.reduceEqDiff, Nat.reduceAdd, Nat.reduceBEq, Nat.zero_le, Int.reduceAdd, Nat.reduceLeDiff, Nat.reduceLT, true_and, and_true, true_implies, implies_true, Nat.reduceMul, Nat.le_add_left, eq_self, true_or, or_true, not_true_eq_false, not_false_eq_true, false_implies, forall_const, vw_2, vw_3, h64]
    try simp only [w_ite]
    exact hQ
  | succ t ih =>
    intro i x ht hQ
    have hB_i : ((64 : Int32) ≤ nI (i)) = False := nf_ge (c := 64) (by omega) (by decide)
    have hN_i : (nI (i) < 0) = False := nf_neg (by omega)
    have hV_i : vp_in (nI (i)) 64 = True := nf_in (by omega) (by decide)
    have hC_i : (nI (i)).toNatClampNeg = i := nI_clamp (by omega)
    have hS_i : nI (i) + 1 = nI (i + 1) := nI_1 _
    have hih := ih (i + 1) none (by omega) hQ
    refine Vj.wp [6028, 6042] 60 [5] ?_
    simp only [st1_n0, st1_ns, st2_n0, st2_ns, clr_n, ld_0, ld_s, st1_0, st1_1, st1_s, st2_0, st2_1, st2_s, clr_c, kil_n, kil_i, kil_r, kil_l, gv_0, gv_s, sv_0, sv_s, wld_s, wint_i, wlng_i, wref_i, w1_c, wobj_e, wiar_e, wsar_e, wlar_e, wqar_3, wlen_a, wlkp_s, wret_i, wret_z, wret_l, wtbl_n, wtbl_c, wlks_n, wlks_c, wstat_1, wstat_3, wstat_5, wstat_6, wspec_2, wspec_4, tk_0, tk_s, fit_i, fit_z, fit_l, fit_r, stp_s, wp_s, wcf_e, wdep_s, mem_n, mem_c, cat_0, cat_i, cat_r, cat_l, tl_s, tl_n, en_n, en_i, en_r, en_l, fv0, fv1, fv2, fv3, kl0, kl1, b10, b01, ct_t, ct_f, ap_n, ap_c, len_n, len_c, ta_i, ta_p, sw_aload_n, sw_bipush, sw_get, sw_goto, sw_iald, sw_iand, sw_ic_eq, sw_ic_ge, sw_ic_ne, sw_iconst, sw_if_eq, sw_if_lt, sw_iinc, sw_iload, sw_iload_n, sw_imul, sw_ireti, sw_ishr, sw_istore, sw_lconst, sw_lload_n, sw_lor, sw_lret, sw_lshl, sw_lstore_n, sw_sipush, sw_virt, i_X6_linesWith_0, i_X6_linesWith_1, i_X6_linesWith_2, i_X6_linesWith_3, i_X6_linesWith_5, i_X6_linesWith_7, i_X6_linesWith_9, i_X6_linesWith_12, i_X6_linesWith_13, i_X6_linesWith_15, i_X6_linesWith_18, i_X6_linesWith_21, i_X6_linesWith_22, i_X6_linesWith_24, i_X6_linesWith_25, i_X6_linesWith_28, i_X6_linesWith_29, i_X6_linesWith_32, i_X6_linesWith_33, i_X6_linesWith_34, i_X6_linesWith_36, i_X6_linesWith_37, i_X6_linesWith_38, i_X6_linesWith_39, i_X6_linesWith_42, i_X6_linesWith_45, i_X6_linesWith_46, k_0, k_1, kb_64, pm_6_28, cc_MX6_hasRow, pm_6_42, cc_MX6_number, t_18_21, t_29_10, t_42_m37, t_9_36, mp_MX6_linesWith, mr_MX6_linesWith, i_X6_hasRow_0, i_X6_hasRow_1, i_X6_hasRow_4, i_X6_hasRow_5, i_X6_hasRow_7, i_X6_hasRow_10, i_X6_hasRow_11, i_X6_hasRow_14, i_X6_hasRow_15, i_X6_hasRow_16, i_X6_hasRow_17, i_X6_hasRow_20, i_X6_hasRow_21, i_X6_hasRow_24, i_X6_hasRow_25, k_m1, pf_6_9, t_1_23, t_17_7, t_21_4, t_7_17, mp_MX6_hasRow, mr_MX6_hasRow, ok_MX6_hasRow, ml_MX6_hasRow, i_X6_number_0, i_X6_number_1, i_X6_number_2, i_X6_number_5, i_X6_number_8, i_X6_number_9, i_X6_number_12, i_X6_number_13, i_X6_number_14, i_X6_number_16, i_X6_number_17, i_X6_number_18, i_X6_number_19, i_X6_number_22, i_X6_number_23, i_X6_number_26, i_X6_number_27, kb_8, ks_255, t_23_4, t_5_21, mp_MX6_number, mr_MX6_number, ok_MX6_number, ml_MX6_number, ↓reduceIte, Bool.false_eq_true, Nat.reduceEqDiff, Nat.reduceAdd, Nat.reduceBEq, Nat.zero_le, Int.reduceAdd, Nat.reduceLeDiff, Nat.reduceLT, true_and, and_true, true_implies, implies_true, Nat.reduceMul, Nat.le_add_left, eq_self, true_or, or_true, not_true_eq_false, not_false_eq_true, false_implies, forall_const, vw_2, vw_3, hB_i, hN_i, hV_i, hC_i, hS_i]
    try simp only [w_ite]
    trace_state
    sorry
