/-! ===== the class's columns: column i at place 8 + 6 i ===== -/
/-- the memory's words for column i -/
def cSz (m : Mm) (i : Nat) : Int32 := mI m (8 + 6 * i) 0
def cSo (m : Mm) (i : Nat) : Int32 := mI m (8 + 6 * i) 1
def cBc (m : Mm) (i : Nat) : Int32 := mI m (8 + 6 * i) 2
def cRm (m : Mm) (i : Nat) : Int32 := mI m (8 + 6 * i) 3
def fRoom (s b : Int32) : Int32 := if s = 0 then (if b ≤ 2 then b - 1 else b) else b - 1
def fLow (x : Int32) : Int64 := if x < 64 then ((1 : Int64) <<< (x.toInt64 &&& 63)) - 1 else -1
def fSlice (s b v : Int32) : Int64 := if s = 1 then fLow (b - 1) &&& (fLow v ^^^ (-1)) else if b = 2 then v.toInt64 else (1 : Int64) <<< (v.toInt64 &&& 63)
def fEq (s b v : Int32) : Int64 := if s = 0 then (if b = 2 then 1 else (1 : Int64) <<< (v.toInt64 &&& 63)) else if v = 0 then 1 else if v = b - 1 then (1 : Int64) <<< ((v - 1).toInt64 &&& 63) else (3 : Int64) <<< ((v - 1).toInt64 &&& 63)
def fLt (s b v : Int32) : Int64 := if v = 0 then 0 else if s = 1 then (1 : Int64) <<< ((v - 1).toInt64 &&& 63) else if b = 2 then 1 else if b < 2 * v then fLow b &&& (fLow v ^^^ (-1)) else fLow v
set_option maxHeartbeats 4000000 in
set_option maxRecDepth 100000 in
theorem c_roomOf {d n : Nat} {f : Nat → Ac} {s b : Int32} : Ct MX2_roomOf d [.int s, .int b] n f (pI (fRoom s b) n f) := by
  refine Ct.of (by decide) rfl rfl (Nat.le_of_ble_eq_true rfl) ?_
  by_cases h1 : s = 0 <;> by_cases h2 : b ≤ 2
  all_goals (
    refine Vj.wp [] 40 [] ?_
    simp only [st1_n0, st1_ns, st2_n0, st2_ns, clr_n, ld_0, ld_s, st1_0, st1_1, st1_s, st2_0, st2_1, st2_s, clr_c, kil_n, kil_i, kil_r, kil_l, gv_0, gv_s, sv_0, sv_s, wld_s, wint_i, wlng_i, wref_i, w1_c, wobj_e, wiar_e, wsar_e, wlar_e, wqar_3, wlen_a, wlkp_s, wret_i, wret_z, wret_l, wtbl_n, wtbl_c, wlks_n, wlks_c, wstat_1, wstat_3, wstat_5, wstat_6, wspec_2, wspec_4, tk_0, tk_s, fit_i, fit_z, fit_l, fit_r, stp_s, wp_s, wcf_e, wdep_s, mem_n, mem_c, cat_0, cat_i, cat_r, cat_l, tl_s, tl_n, en_n, en_i, en_r, en_l, fv0, fv1, fv2, fv3, kl0, kl1, b10, b01, ct_t, ct_f, ap_n, ap_c, len_n, len_c, ta_i, ta_p, sw_goto, sw_ic_le, sw_iconst, sw_if_ne, sw_iload_n, sw_ireti, sw_isub, i_X2_roomOf_0, i_X2_roomOf_1, i_X2_roomOf_4, i_X2_roomOf_5, i_X2_roomOf_6, i_X2_roomOf_9, i_X2_roomOf_10, i_X2_roomOf_13, i_X2_roomOf_14, i_X2_roomOf_15, i_X2_roomOf_16, k_1, k_2, t_1_12, t_10_6, t_6_7, mp_MX2_roomOf, mr_MX2_roomOf, ↓reduceIte, Bool.false_eq_true, Nat.reduceEqDiff, Nat.reduceAdd, Nat.reduceBEq, Nat.zero_le, Int.reduceAdd, Nat.reduceLeDiff, Nat.reduceLT, true_and, and_true, true_implies, implies_true, Nat.reduceMul, Nat.le_add_left, eq_self, true_or, or_true, not_true_eq_false, not_false_eq_true, false_implies, forall_const, h1, h2]
    try simp only [w_ite]
    exact ⟨by simp only [fRoom, h1, h2, if_true, if_false, b10, b01], rfl, rfl⟩)
set_option maxHeartbeats 4000000 in
set_option maxRecDepth 100000 in
theorem c_lowBits {d n : Nat} {f : Nat → Ac} {x : Int32} : Ct MX7_lowBits d [.int x] n f (pL (fLow x) n f) := by
  refine Ct.of (by decide) rfl rfl (Nat.le_of_ble_eq_true rfl) ?_
  by_cases h1 : (64 : Int32) ≤ x
  all_goals (
    refine Vj.wp [] 40 [] ?_
    simp only [st1_n0, st1_ns, st2_n0, st2_ns, clr_n, ld_0, ld_s, st1_0, st1_1, st1_s, st2_0, st2_1, st2_s, clr_c, kil_n, kil_i, kil_r, kil_l, gv_0, gv_s, sv_0, sv_s, wld_s, wint_i, wlng_i, wref_i, w1_c, wobj_e, wiar_e, wsar_e, wlar_e, wqar_3, wlen_a, wlkp_s, wret_i, wret_z, wret_l, wtbl_n, wtbl_c, wlks_n, wlks_c, wstat_1, wstat_3, wstat_5, wstat_6, wspec_2, wspec_4, tk_0, tk_s, fit_i, fit_z, fit_l, fit_r, stp_s, wp_s, wcf_e, wdep_s, mem_n, mem_c, cat_0, cat_i, cat_r, cat_l, tl_s, tl_n, en_n, en_i, en_r, en_l, fv0, fv1, fv2, fv3, kl0, kl1, b10, b01, ct_t, ct_f, ap_n, ap_c, len_n, len_c, ta_i, ta_p, sw_bipush, sw_goto, sw_ic_ge, sw_iload_n, sw_lconst, sw_ldc2, sw_lret, sw_lshl, sw_lsub, i_X7_lowBits_0, i_X7_lowBits_1, i_X7_lowBits_3, i_X7_lowBits_6, i_X7_lowBits_7, i_X7_lowBits_8, i_X7_lowBits_9, i_X7_lowBits_10, i_X7_lowBits_11, i_X7_lowBits_14, i_X7_lowBits_17, kb_64, pl_7_297, t_11_6, t_3_11, mp_MX7_lowBits, mr_MX7_lowBits, ↓reduceIte, Bool.false_eq_true, Nat.reduceEqDiff, Nat.reduceAdd, Nat.reduceBEq, Nat.zero_le, Int.reduceAdd, Nat.reduceLeDiff, Nat.reduceLT, true_and, and_true, true_implies, implies_true, Nat.reduceMul, Nat.le_add_left, eq_self, true_or, or_true, not_true_eq_false, not_false_eq_true, false_implies, forall_const, h1]
    try simp only [w_ite]
    trace_state
    sorry)
