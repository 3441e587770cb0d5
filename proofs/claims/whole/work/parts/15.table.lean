/-! ===== the class's table ===== -/
/-- the first place below 64 of which p holds, as the class answers it -/
def fstI (p : Nat → Bool) : Int32 := if fa_first p 64 < 64 then nI (fa_first p 64) else -1
theorem fa_first_eq {p : Nat → Bool} {i n : Nat} (hi : i < n) (hno : ∀ j, j < i → p j = false) (hp : p i = true) : fa_first p n = i := by
  rcases Nat.lt_trichotomy (fa_first p n) i with h | h | h
  · have h1 := hno _ h
    have h2 := fa_first_yes p n (by omega)
    rw [h1] at h2; cases h2
  · exact h
  · have := fa_first_no p n i h
    rw [hp] at this; cases this
theorem fa_first_none {p : Nat → Bool} {n : Nat} (hno : ∀ j, j < n → p j = false) : fa_first p n = n := by
  rcases Nat.lt_or_ge (fa_first p n) n with h | h
  · have h2 := fa_first_yes p n h
    rw [hno _ h] at h2; cases h2
  · have := fa_first_le p n; omega
set_option maxHeartbeats 4000000 in
set_option maxRecDepth 100000 in
theorem l_leastEmpty {d n : Nat} {m : Mm} {Q : Po} : ∀ (t i : Nat), t + i = 64 → (∀ j, j < i → mA m 3 j ≠ -1) → Q (some (.int (fstI (fun j => mA m 3 j == -1)))) n (vw m) → Vj MX6_leastEmpty (d + 1) 0 0 2 [some (.ref 2), some (.int (nI i))] [] n (vw m) Q := by
  intro t
  induction t with
  | zero =>
    intro i ht hno hQ
    have hi : i = 64 := by omega
    subst hi
    refine Vj.wp [6028] 40 [2] ?_
    simp only [ld_0, ld_s, st1_0, st1_1, st1_s, st2_0, st2_1, st2_s, clr_c, kil_n, kil_i, kil_r, kil_l, gv_0, gv_s, sv_0, sv_s, wld_s, wint_i, wlng_i, wref_i, w1_c, wobj_e, wiar_e, wsar_e, wlar_e, wqar_3, wlen_a, wlkp_s, wret_i, wret_z, wret_l, wtbl_n, wtbl_c, wlks_n, wlks_c, wstat_1, wstat_3, wstat_5, wstat_6, wspec_2, wspec_4, tk_0, tk_s, fit_i, fit_z, fit_l, fit_r, stp_s, wp_s, wcf_e, wdep_s, mem_n, mem_c, cat_0, cat_i, cat_r, cat_l, tl_s, tl_n, en_n, en_i, en_r, en_l, fv0, fv1, fv2, fv3, kl0, kl1, sw_aload_n, sw_bipush, sw_get, sw_goto, sw_iald, sw_ic_eq, sw_ic_ge, sw_iconst, sw_if_lt, sw_if_ne, sw_iinc, sw_iload_n, sw_ireti, sw_istore_n, sw_virt, i_X6_leastEmpty_0, i_X6_leastEmpty_1, i_X6_leastEmpty_2, i_X6_leastEmpty_3, i_X6_leastEmpty_5, i_X6_leastEmpty_8, i_X6_leastEmpty_9, i_X6_leastEmpty_10, i_X6_leastEmpty_13, i_X6_leastEmpty_16, i_X6_leastEmpty_17, i_X6_leastEmpty_18, i_X6_leastEmpty_21, i_X6_leastEmpty_24, i_X6_leastEmpty_25, k_m1, k_0, k_1, kb_64, pm_6_28, cc_MX6_hasRow, t_13_5, t_21_m19, t_5_19, mp_MX6_leastEmpty, mr_MX6_leastEmpty, i_X6_hasRow_0, i_X6_hasRow_1, i_X6_hasRow_4, i_X6_hasRow_5, i_X6_hasRow_7, i_X6_hasRow_10, i_X6_hasRow_11, i_X6_hasRow_14, i_X6_hasRow_15, i_X6_hasRow_16, i_X6_hasRow_17, i_X6_hasRow_20, i_X6_hasRow_21, i_X6_hasRow_24, i_X6_hasRow_25, pf_6_9, t_1_23, t_17_7, t_21_4, t_7_17, mp_MX6_hasRow, mr_MX6_hasRow, ok_MX6_hasRow, ml_MX6_hasRow, Nat.reduceAdd, Nat.reduceBEq, cond_true, cond_false, Nat.zero_le, Int.reduceAdd, Nat.reduceLeDiff, Nat.reduceLT, true_and, and_true, List.length_cons, List.length_nil, List.toList_toArray, List.nil_append, List.cons_append, List.singleton_append, true_implies, implies_true, Nat.reduceMul, Nat.le_add_left, eq_self, vw_2, vw_3]
    trace_state
    sorry
  | succ t ih =>
    intro i ht hno hQ
    refine Vj.wp [6028] 40 [2] ?_
    simp only [ld_0, ld_s, st1_0, st1_1, st1_s, st2_0, st2_1, st2_s, clr_c, kil_n, kil_i, kil_r, kil_l, gv_0, gv_s, sv_0, sv_s, wld_s, wint_i, wlng_i, wref_i, w1_c, wobj_e, wiar_e, wsar_e, wlar_e, wqar_3, wlen_a, wlkp_s, wret_i, wret_z, wret_l, wtbl_n, wtbl_c, wlks_n, wlks_c, wstat_1, wstat_3, wstat_5, wstat_6, wspec_2, wspec_4, tk_0, tk_s, fit_i, fit_z, fit_l, fit_r, stp_s, wp_s, wcf_e, wdep_s, mem_n, mem_c, cat_0, cat_i, cat_r, cat_l, tl_s, tl_n, en_n, en_i, en_r, en_l, fv0, fv1, fv2, fv3, kl0, kl1, sw_aload_n, sw_bipush, sw_get, sw_goto, sw_iald, sw_ic_eq, sw_ic_ge, sw_iconst, sw_if_lt, sw_if_ne, sw_iinc, sw_iload_n, sw_ireti, sw_istore_n, sw_virt, i_X6_leastEmpty_0, i_X6_leastEmpty_1, i_X6_leastEmpty_2, i_X6_leastEmpty_3, i_X6_leastEmpty_5, i_X6_leastEmpty_8, i_X6_leastEmpty_9, i_X6_leastEmpty_10, i_X6_leastEmpty_13, i_X6_leastEmpty_16, i_X6_leastEmpty_17, i_X6_leastEmpty_18, i_X6_leastEmpty_21, i_X6_leastEmpty_24, i_X6_leastEmpty_25, k_m1, k_0, k_1, kb_64, pm_6_28, cc_MX6_hasRow, t_13_5, t_21_m19, t_5_19, mp_MX6_leastEmpty, mr_MX6_leastEmpty, i_X6_hasRow_0, i_X6_hasRow_1, i_X6_hasRow_4, i_X6_hasRow_5, i_X6_hasRow_7, i_X6_hasRow_10, i_X6_hasRow_11, i_X6_hasRow_14, i_X6_hasRow_15, i_X6_hasRow_16, i_X6_hasRow_17, i_X6_hasRow_20, i_X6_hasRow_21, i_X6_hasRow_24, i_X6_hasRow_25, pf_6_9, t_1_23, t_17_7, t_21_4, t_7_17, mp_MX6_hasRow, mr_MX6_hasRow, ok_MX6_hasRow, ml_MX6_hasRow, Nat.reduceAdd, Nat.reduceBEq, cond_true, cond_false, Nat.zero_le, Int.reduceAdd, Nat.reduceLeDiff, Nat.reduceLT, true_and, and_true, List.length_cons, List.length_nil, List.toList_toArray, List.nil_append, List.cons_append, List.singleton_append, true_implies, implies_true, Nat.reduceMul, Nat.le_add_left, eq_self, vw_2, vw_3]
    trace_state
    sorry
