/-! ===== the model: bits, spans, what is read of a figure ===== -/
def pcf : Nat → Nat → Nat
  | 0, _ => 0
  | t + 1, n => n % 2 + pcf t (n / 2)
def pcN (w : Int64) : Nat := pcf 64 w.toBitVec.toNat
theorem pcf_0 : ∀ t, pcf t 0 = 0
  | 0 => rfl
  | t + 1 => by rw [pcf, Nat.zero_div, pcf_0 t]
theorem pcf_z : ∀ t n, n < 2 ^ t → pcf t n = 0 → n = 0
  | 0, n, h, _ => by simp at h; exact h
  | t + 1, n, h, e => by
    rw [pcf] at e
    have := pcf_z t (n / 2) (by rw [Nat.pow_succ] at h; omega) (by omega)
    omega
theorem pcf_le : ∀ t n, pcf t n ≤ t
  | 0, _ => Nat.le_refl 0
  | t + 1, n => by have := pcf_le t (n / 2); rw [pcf]; omega
theorem pcf_d : ∀ t n, n < 2 ^ t → 0 < n → pcf t (n &&& (n - 1)) + 1 = pcf t n
  | 0, n, h, h0 => by simp at h; omega
  | t + 1, n, h, h0 => by
    rw [pcf, pcf, Nat.and_div_two]
    rw [Nat.pow_succ] at h
    rcases Nat.mod_two_eq_zero_or_one n with q | q
    · have e1 : (n &&& (n - 1)) % 2 = 0 := by
        rcases Nat.mod_two_eq_zero_or_one (n &&& (n - 1)) with w | w
        · exact w
        · have := (Nat.and_mod_two_eq_one.mp w).1; omega
      have e2 : (n - 1) / 2 = n / 2 - 1 := by omega
      rw [e1, e2, q]
      have := pcf_d t (n / 2) (by omega) (by omega)
      omega
    · have e1 : (n &&& (n - 1)) % 2 = 0 := by
        rcases Nat.mod_two_eq_zero_or_one (n &&& (n - 1)) with w | w
        · exact w
        · have := (Nat.and_mod_two_eq_one.mp w).2; omega
      have e2 : (n - 1) / 2 = n / 2 := by omega
      rw [e1, e2, q, Nat.and_self]
      omega
theorem pcN_d {w : Int64} (h : ¬ w = 0) : pcN (w &&& (w - 1)) + 1 = pcN w := by
  have hn : w.toBitVec.toNat < 2 ^ 64 := w.toBitVec.isLt
  have h0 : 0 < w.toBitVec.toNat := by
    rcases Nat.eq_zero_or_pos w.toBitVec.toNat with q | q
    · exact absurd (Int64.toBitVec_inj.mp (BitVec.eq_of_toNat_eq (by rw [q]; rfl))) h
    · exact q
  have e : (w &&& (w - 1)).toBitVec.toNat = w.toBitVec.toNat &&& (w.toBitVec.toNat - 1) := by
    rw [Int64.toBitVec_and, BitVec.toNat_and, Int64.toBitVec_sub, BitVec.toNat_sub]
    have : (1 : Int64).toBitVec.toNat = 1 := rfl
    rw [this, show 2 ^ 64 - 1 + w.toBitVec.toNat = 2 ^ 64 + (w.toBitVec.toNat - 1) by omega, Nat.add_mod_left, Nat.mod_eq_of_lt (by omega)]
  unfold pcN
  rw [e]
  exact pcf_d 64 _ hn h0
theorem pcN_z {w : Int64} (h : pcN w = 0) : w = 0 := Int64.toBitVec_inj.mp (BitVec.eq_of_toNat_eq (by rw [pcf_z 64 _ w.toBitVec.isLt h]; rfl))
theorem pcN_0 : pcN 0 = 0 := pcf_0 64
theorem pcN_le (w : Int64) : pcN w ≤ 64 := pcf_le 64 _
set_option maxHeartbeats 4000000 in
set_option maxRecDepth 100000 in
theorem lm_bitsOf {d n : Nat} {f : Nat → Ac} {w0 : Int64} {Q : Po} : ∀ (t k : Nat) (w : Int64), pcN w = t → Q (some (.int (nI (k + t)))) n f → Vj MX8_bitsOf d 0 0 4 [some (.long w0), none, some (.int (nI k)), some (.long w), none] [] n f Q := by
  intro t
  induction t with
  | zero =>
    intro k w hw hQ
    have hw0 : (w = 0) = True := eq_true (pcN_z hw)
    refine Vj.wp [] 40 [4] ?_
    simp only [st1_n0, st1_ns, st2_n0, st2_ns, clr_n, ld_0, ld_s, st1_0, st1_1, st1_s, st2_0, st2_1, st2_s, clr_c, kil_n, kil_i, kil_r, kil_l, gv_0, gv_s, sv_0, sv_s, wld_s, wint_i, wlng_i, wref_i, w1_c, wobj_e, wiar_e, wsar_e, wlar_e, wqar_3, wlen_a, wlkp_s, wret_i, wret_z, wret_l, wtbl_n, wtbl_c, wlks_n, wlks_c, wstat_1, wstat_3, wstat_5, wstat_6, wspec_2, wspec_4, tk_0, tk_s, fit_i, fit_z, fit_l, fit_r, stp_s, wp_s, wcf_e, wdep_s, mem_n, mem_c, cat_0, cat_i, cat_r, cat_l, tl_s, tl_n, en_n, en_i, en_r, en_l, fv0, fv1, fv2, fv3, kl0, kl1, b10, b01, ct_t, ct_f, ap_n, ap_c, len_n, len_c, ta_i, ta_p, sw_goto, sw_iconst, sw_if_eq, sw_iinc, sw_iload_n, sw_ireti, sw_istore_n, sw_land, sw_lcmp, sw_lconst, sw_lload_n, sw_lstore_n, sw_lsub, i_X8_bitsOf_0, i_X8_bitsOf_1, i_X8_bitsOf_2, i_X8_bitsOf_3, i_X8_bitsOf_4, i_X8_bitsOf_5, i_X8_bitsOf_6, i_X8_bitsOf_7, i_X8_bitsOf_10, i_X8_bitsOf_11, i_X8_bitsOf_12, i_X8_bitsOf_13, i_X8_bitsOf_14, i_X8_bitsOf_15, i_X8_bitsOf_16, i_X8_bitsOf_19, i_X8_bitsOf_22, i_X8_bitsOf_23, k_0, k_1, t_19_m15, t_7_15, mp_MX8_bitsOf, mr_MX8_bitsOf, ↓reduceIte, Bool.false_eq_true, Nat.reduceEqDiff, Nat.reduceAdd, Nat.reduceBEq, Nat.zero_le, Int.reduceAdd, Nat.reduceLeDiff, Nat.reduceLT, true_and, and_true, true_implies, implies_true, Nat.reduceMul, Nat.le_add_left, eq_self, true_or, or_true, not_true_eq_false, not_false_eq_true, false_implies, forall_const, lc_eq, hw0]
    try simp only [w_ite]
    exact hQ
  | succ t ih =>
    intro k w hw hQ
    have hw1 : ¬ w = 0 := fun z => by rw [z, pcN_0] at hw; omega
    have hw0 : (w = 0) = False := eq_false hw1
    have hS : nI k + 1 = nI (k + 1) := nI_1 _
    refine Vj.wp [] 40 [4] ?_
    simp only [st1_n0, st1_ns, st2_n0, st2_ns, clr_n, ld_0, ld_s, st1_0, st1_1, st1_s, st2_0, st2_1, st2_s, clr_c, kil_n, kil_i, kil_r, kil_l, gv_0, gv_s, sv_0, sv_s, wld_s, wint_i, wlng_i, wref_i, w1_c, wobj_e, wiar_e, wsar_e, wlar_e, wqar_3, wlen_a, wlkp_s, wret_i, wret_z, wret_l, wtbl_n, wtbl_c, wlks_n, wlks_c, wstat_1, wstat_3, wstat_5, wstat_6, wspec_2, wspec_4, tk_0, tk_s, fit_i, fit_z, fit_l, fit_r, stp_s, wp_s, wcf_e, wdep_s, mem_n, mem_c, cat_0, cat_i, cat_r, cat_l, tl_s, tl_n, en_n, en_i, en_r, en_l, fv0, fv1, fv2, fv3, kl0, kl1, b10, b01, ct_t, ct_f, ap_n, ap_c, len_n, len_c, ta_i, ta_p, sw_goto, sw_iconst, sw_if_eq, sw_iinc, sw_iload_n, sw_ireti, sw_istore_n, sw_land, sw_lcmp, sw_lconst, sw_lload_n, sw_lstore_n, sw_lsub, i_X8_bitsOf_0, i_X8_bitsOf_1, i_X8_bitsOf_2, i_X8_bitsOf_3, i_X8_bitsOf_4, i_X8_bitsOf_5, i_X8_bitsOf_6, i_X8_bitsOf_7, i_X8_bitsOf_10, i_X8_bitsOf_11, i_X8_bitsOf_12, i_X8_bitsOf_13, i_X8_bitsOf_14, i_X8_bitsOf_15, i_X8_bitsOf_16, i_X8_bitsOf_19, i_X8_bitsOf_22, i_X8_bitsOf_23, k_0, k_1, t_19_m15, t_7_15, mp_MX8_bitsOf, mr_MX8_bitsOf, ↓reduceIte, Bool.false_eq_true, Nat.reduceEqDiff, Nat.reduceAdd, Nat.reduceBEq, Nat.zero_le, Int.reduceAdd, Nat.reduceLeDiff, Nat.reduceLT, true_and, and_true, true_implies, implies_true, Nat.reduceMul, Nat.le_add_left, eq_self, true_or, or_true, not_true_eq_false, not_false_eq_true, false_implies, forall_const, lc_eq, hw0, hS]
    try simp only [w_ite]
    refine ih (k + 1) _ (by have := pcN_d hw1; omega) ?_
    rw [show k + 1 + t = k + (t + 1) by omega]; exact hQ
set_option maxHeartbeats 4000000 in
set_option maxRecDepth 100000 in
theorem cm_bitsOf {d n : Nat} {f : Nat → Ac} {w : Int64} : Ct MX8_bitsOf d [.long w] n f (pI (nI (pcN w)) n f) := by
  refine Ct.of (by decide) rfl rfl (Nat.le_of_ble_eq_true rfl) ?_
  refine Vj.wp [] 40 [4] ?_
  simp only [st1_n0, st1_ns, st2_n0, st2_ns, clr_n, ld_0, ld_s, st1_0, st1_1, st1_s, st2_0, st2_1, st2_s, clr_c, kil_n, kil_i, kil_r, kil_l, gv_0, gv_s, sv_0, sv_s, wld_s, wint_i, wlng_i, wref_i, w1_c, wobj_e, wiar_e, wsar_e, wlar_e, wqar_3, wlen_a, wlkp_s, wret_i, wret_z, wret_l, wtbl_n, wtbl_c, wlks_n, wlks_c, wstat_1, wstat_3, wstat_5, wstat_6, wspec_2, wspec_4, tk_0, tk_s, fit_i, fit_z, fit_l, fit_r, stp_s, wp_s, wcf_e, wdep_s, mem_n, mem_c, cat_0, cat_i, cat_r, cat_l, tl_s, tl_n, en_n, en_i, en_r, en_l, fv0, fv1, fv2, fv3, kl0, kl1, b10, b01, ct_t, ct_f, ap_n, ap_c, len_n, len_c, ta_i, ta_p, sw_goto, sw_iconst, sw_if_eq, sw_iinc, sw_iload_n, sw_ireti, sw_istore_n, sw_land, sw_lcmp, sw_lconst, sw_lload_n, sw_lstore_n, sw_lsub, i_X8_bitsOf_0, i_X8_bitsOf_1, i_X8_bitsOf_2, i_X8_bitsOf_3, i_X8_bitsOf_4, i_X8_bitsOf_5, i_X8_bitsOf_6, i_X8_bitsOf_7, i_X8_bitsOf_10, i_X8_bitsOf_11, i_X8_bitsOf_12, i_X8_bitsOf_13, i_X8_bitsOf_14, i_X8_bitsOf_15, i_X8_bitsOf_16, i_X8_bitsOf_19, i_X8_bitsOf_22, i_X8_bitsOf_23, k_0, k_1, t_19_m15, t_7_15, mp_MX8_bitsOf, mr_MX8_bitsOf, ↓reduceIte, Bool.false_eq_true, Nat.reduceEqDiff, Nat.reduceAdd, Nat.reduceBEq, Nat.zero_le, Int.reduceAdd, Nat.reduceLeDiff, Nat.reduceLT, true_and, and_true, true_implies, implies_true, Nat.reduceMul, Nat.le_add_left, eq_self, true_or, or_true, not_true_eq_false, not_false_eq_true, false_implies, forall_const]
  try simp only [w_ite]
  exact lm_bitsOf (Q := pI (nI (pcN w)) n f) (pcN w) 0 w rfl (by rw [Nat.zero_add]; exact ⟨rfl, rfl, rfl⟩)
def spF (a : Nat) : Nat → Int64
  | 0 => 0
  | n + 1 => spF a n ||| ((1 : Int64) <<< ((nI (a + n)).toInt64 &&& 63))
set_option maxHeartbeats 4000000 in
set_option maxRecDepth 100000 in
theorem lm_span {d n a k : Nat} {f : Nat → Ac} {Q : Po} (hk : 1 ≤ k) (ha : a + k ≤ 64) (hQ : Q (some (.long (spF a k))) n f) : ∀ (t i : Nat), t + i = k → Vj MX8_span d 0 0 5 [some (.int (nI a)), some (.int (nI (a + k - 1))), some (.long (spF a i)), none, some (.int (nI (a + i)))] [] n f Q := by
  intro t
  induction t with
  | zero =>
    intro i ht
    have hi : i = k := by omega
    subst hi
    have h0 : (nI (a + i - 1) < nI (a + i)) = True := nf_lt (by omega) (by omega)
    refine Vj.wp [] 40 [5] ?_
    simp only [st1_n0, st1_ns, st2_n0, st2_ns, clr_n, ld_0, ld_s, st1_0, st1_1, st1_s, st2_0, st2_1, st2_s, clr_c, kil_n, kil_i, kil_r, kil_l, gv_0, gv_s, sv_0, sv_s, wld_s, wint_i, wlng_i, wref_i, w1_c, wobj_e, wiar_e, wsar_e, wlar_e, wqar_3, wlen_a, wlkp_s, wret_i, wret_z, wret_l, wtbl_n, wtbl_c, wlks_n, wlks_c, wstat_1, wstat_3, wstat_5, wstat_6, wspec_2, wspec_4, tk_0, tk_s, fit_i, fit_z, fit_l, fit_r, stp_s, wp_s, wcf_e, wdep_s, mem_n, mem_c, cat_0, cat_i, cat_r, cat_l, tl_s, tl_n, en_n, en_i, en_r, en_l, fv0, fv1, fv2, fv3, kl0, kl1, b10, b01, ct_t, ct_f, ap_n, ap_c, len_n, len_c, ta_i, ta_p, sw_goto, sw_ic_gt, sw_iinc, sw_iload, sw_iload_n, sw_istore, sw_lconst, sw_lload_n, sw_lor, sw_lret, sw_lshl, sw_lstore_n, i_X8_span_0, i_X8_span_1, i_X8_span_2, i_X8_span_3, i_X8_span_5, i_X8_span_7, i_X8_span_8, i_X8_span_11, i_X8_span_12, i_X8_span_13, i_X8_span_15, i_X8_span_16, i_X8_span_17, i_X8_span_18, i_X8_span_21, i_X8_span_24, i_X8_span_25, k_1, t_21_m16, t_8_16, mp_MX8_span, mr_MX8_span, ↓reduceIte, Bool.false_eq_true, Nat.reduceEqDiff, Nat.reduceAdd, Nat.reduceBEq, Nat.zero_le, Int.reduceAdd, Nat.reduceLeDiff, Nat.reduceLT, true_and, and_true, true_implies, implies_true, Nat.reduceMul, Nat.le_add_left, eq_self, true_or, or_true, not_true_eq_false, not_false_eq_true, false_implies, forall_const, h0]
    try simp only [w_ite]
    exact hQ
  | succ t ih =>
    intro i ht
    have h0 : (nI (a + k - 1) < nI (a + i)) = False := nf_nlt (by omega) (by omega)
    have hS : nI (a + i) + 1 = nI (a + (i + 1)) := nI_1 _
    refine Vj.wp [] 40 [5] ?_
    simp only [st1_n0, st1_ns, st2_n0, st2_ns, clr_n, ld_0, ld_s, st1_0, st1_1, st1_s, st2_0, st2_1, st2_s, clr_c, kil_n, kil_i, kil_r, kil_l, gv_0, gv_s, sv_0, sv_s, wld_s, wint_i, wlng_i, wref_i, w1_c, wobj_e, wiar_e, wsar_e, wlar_e, wqar_3, wlen_a, wlkp_s, wret_i, wret_z, wret_l, wtbl_n, wtbl_c, wlks_n, wlks_c, wstat_1, wstat_3, wstat_5, wstat_6, wspec_2, wspec_4, tk_0, tk_s, fit_i, fit_z, fit_l, fit_r, stp_s, wp_s, wcf_e, wdep_s, mem_n, mem_c, cat_0, cat_i, cat_r, cat_l, tl_s, tl_n, en_n, en_i, en_r, en_l, fv0, fv1, fv2, fv3, kl0, kl1, b10, b01, ct_t, ct_f, ap_n, ap_c, len_n, len_c, ta_i, ta_p, sw_goto, sw_ic_gt, sw_iinc, sw_iload, sw_iload_n, sw_istore, sw_lconst, sw_lload_n, sw_lor, sw_lret, sw_lshl, sw_lstore_n, i_X8_span_0, i_X8_span_1, i_X8_span_2, i_X8_span_3, i_X8_span_5, i_X8_span_7, i_X8_span_8, i_X8_span_11, i_X8_span_12, i_X8_span_13, i_X8_span_15, i_X8_span_16, i_X8_span_17, i_X8_span_18, i_X8_span_21, i_X8_span_24, i_X8_span_25, k_1, t_21_m16, t_8_16, mp_MX8_span, mr_MX8_span, ↓reduceIte, Bool.false_eq_true, Nat.reduceEqDiff, Nat.reduceAdd, Nat.reduceBEq, Nat.zero_le, Int.reduceAdd, Nat.reduceLeDiff, Nat.reduceLT, true_and, and_true, true_implies, implies_true, Nat.reduceMul, Nat.le_add_left, eq_self, true_or, or_true, not_true_eq_false, not_false_eq_true, false_implies, forall_const, h0, hS]
    try simp only [w_ite]
    exact ih (i + 1) (by omega)
set_option maxHeartbeats 4000000 in
set_option maxRecDepth 100000 in
theorem cm_span {d n a k : Nat} {f : Nat → Ac} (hk : 1 ≤ k) (ha : a + k ≤ 64) : Ct MX8_span d [.int (nI a), .int (nI (a + k - 1))] n f (pL (spF a k) n f) := by
  refine Ct.of (by decide) rfl rfl (Nat.le_of_ble_eq_true rfl) ?_
  refine Vj.wp [] 40 [5] ?_
  simp only [st1_n0, st1_ns, st2_n0, st2_ns, clr_n, ld_0, ld_s, st1_0, st1_1, st1_s, st2_0, st2_1, st2_s, clr_c, kil_n, kil_i, kil_r, kil_l, gv_0, gv_s, sv_0, sv_s, wld_s, wint_i, wlng_i, wref_i, w1_c, wobj_e, wiar_e, wsar_e, wlar_e, wqar_3, wlen_a, wlkp_s, wret_i, wret_z, wret_l, wtbl_n, wtbl_c, wlks_n, wlks_c, wstat_1, wstat_3, wstat_5, wstat_6, wspec_2, wspec_4, tk_0, tk_s, fit_i, fit_z, fit_l, fit_r, stp_s, wp_s, wcf_e, wdep_s, mem_n, mem_c, cat_0, cat_i, cat_r, cat_l, tl_s, tl_n, en_n, en_i, en_r, en_l, fv0, fv1, fv2, fv3, kl0, kl1, b10, b01, ct_t, ct_f, ap_n, ap_c, len_n, len_c, ta_i, ta_p, sw_goto, sw_ic_gt, sw_iinc, sw_iload, sw_iload_n, sw_istore, sw_lconst, sw_lload_n, sw_lor, sw_lret, sw_lshl, sw_lstore_n, i_X8_span_0, i_X8_span_1, i_X8_span_2, i_X8_span_3, i_X8_span_5, i_X8_span_7, i_X8_span_8, i_X8_span_11, i_X8_span_12, i_X8_span_13, i_X8_span_15, i_X8_span_16, i_X8_span_17, i_X8_span_18, i_X8_span_21, i_X8_span_24, i_X8_span_25, k_1, t_21_m16, t_8_16, mp_MX8_span, mr_MX8_span, ↓reduceIte, Bool.false_eq_true, Nat.reduceEqDiff, Nat.reduceAdd, Nat.reduceBEq, Nat.zero_le, Int.reduceAdd, Nat.reduceLeDiff, Nat.reduceLT, true_and, and_true, true_implies, implies_true, Nat.reduceMul, Nat.le_add_left, eq_self, true_or, or_true, not_true_eq_false, not_false_eq_true, false_implies, forall_const]
  try simp only [w_ite]
  exact lm_span (Q := pL (spF a k) n f) hk ha ⟨rfl, rfl, rfl⟩ k 0 (by omega)
theorem sp_eq : ∀ v : Fin 32, 1 ≤ v.1 → spF (v.1 - 1) 2 = (3 : Int64) <<< ((nI v.1 - 1).toInt64 &&& 63) := by decide +kernel
theorem sp_lo : ∀ v : Fin 33, spF 0 v.1 = fLow (nI v.1) := by decide +kernel
theorem sp_hi : ∀ b : Fin 33, ∀ v : Fin 33, v.1 < b.1 → spF v.1 (b.1 - v.1) = (fLow (nI b.1) &&& (fLow (nI v.1) ^^^ (-1))) := by decide +kernel
set_option maxHeartbeats 4000000 in
set_option maxRecDepth 100000 in
theorem cm_equalReads {d n s b v : Nat} {f : Nat → Ac} (hs : s ≤ 1) (hb : 2 ≤ b) (hb2 : b ≤ 32) (hv : v < b) : Ct MX8_equalReads (d + 1) [.int (nI s), .int (nI b), .int (nI v)] n f (pL (fEq (nI s) (nI b) (nI v)) n f) := by
  refine Ct.of (by decide) rfl rfl (Nat.le_of_ble_eq_true rfl) ?_
  by_cases s0 : s = 0
  · subst s0
    have a0 : (nI 0 = 0) = True := eq_true rfl
    by_cases h2 : b = 2
    · subst h2
      have h2' : (nI 2 = 2) = True := eq_true rfl
      refine Vj.wp [] 40 [] ?_
      simp only [st1_n0, st1_ns, st2_n0, st2_ns, clr_n, ld_0, ld_s, st1_0, st1_1, st1_s, st2_0, st2_1, st2_s, clr_c, kil_n, kil_i, kil_r, kil_l, gv_0, gv_s, sv_0, sv_s, wld_s, wint_i, wlng_i, wref_i, w1_c, wobj_e, wiar_e, wsar_e, wlar_e, wqar_3, wlen_a, wlkp_s, wret_i, wret_z, wret_l, wtbl_n, wtbl_c, wlks_n, wlks_c, wstat_1, wstat_3, wstat_5, wstat_6, wspec_2, wspec_4, tk_0, tk_s, fit_i, fit_z, fit_l, fit_r, stp_s, wp_s, wcf_e, wdep_s, mem_n, mem_c, cat_0, cat_i, cat_r, cat_l, tl_s, tl_n, en_n, en_i, en_r, en_l, fv0, fv1, fv2, fv3, kl0, kl1, b10, b01, ct_t, ct_f, ap_n, ap_c, len_n, len_c, ta_i, ta_p, sw_goto, sw_ic_ne, sw_iconst, sw_if_ne, sw_iload_n, sw_isub, sw_lconst, sw_lret, sw_lshl, sw_stat, i_X8_equalReads_0, i_X8_equalReads_1, i_X8_equalReads_4, i_X8_equalReads_5, i_X8_equalReads_6, i_X8_equalReads_9, i_X8_equalReads_10, i_X8_equalReads_13, i_X8_equalReads_14, i_X8_equalReads_15, i_X8_equalReads_16, i_X8_equalReads_17, i_X8_equalReads_18, i_X8_equalReads_21, i_X8_equalReads_22, i_X8_equalReads_25, i_X8_equalReads_26, i_X8_equalReads_27, i_X8_equalReads_28, i_X8_equalReads_29, i_X8_equalReads_32, i_X8_equalReads_33, i_X8_equalReads_34, i_X8_equalReads_35, i_X8_equalReads_36, i_X8_equalReads_37, i_X8_equalReads_40, i_X8_equalReads_41, i_X8_equalReads_42, i_X8_equalReads_43, i_X8_equalReads_44, i_X8_equalReads_47, k_1, k_2, pm_8_196, cc_MX8_span, t_1_16, t_10_6, t_18_7, t_22_25, t_29_11, t_37_10, t_6_7, mp_MX8_equalReads, mr_MX8_equalReads, ↓reduceIte, Bool.false_eq_true, Nat.reduceEqDiff, Nat.reduceAdd, Nat.reduceBEq, Nat.zero_le, Int.reduceAdd, Nat.reduceLeDiff, Nat.reduceLT, true_and, and_true, true_implies, implies_true, Nat.reduceMul, Nat.le_add_left, eq_self, true_or, or_true, not_true_eq_false, not_false_eq_true, false_implies, forall_const, a0, h2']
      try simp only [w_ite]
      exact ⟨rfl, rfl, rfl⟩
    · have h2' : (nI b = 2) = False := nI_ne (b := 2) (by omega) (by omega) h2
      refine Vj.wp [] 40 [] ?_
      simp only [st1_n0, st1_ns, st2_n0, st2_ns, clr_n, ld_0, ld_s, st1_0, st1_1, st1_s, st2_0, st2_1, st2_s, clr_c, kil_n, kil_i, kil_r, kil_l, gv_0, gv_s, sv_0, sv_s, wld_s, wint_i, wlng_i, wref_i, w1_c, wobj_e, wiar_e, wsar_e, wlar_e, wqar_3, wlen_a, wlkp_s, wret_i, wret_z, wret_l, wtbl_n, wtbl_c, wlks_n, wlks_c, wstat_1, wstat_3, wstat_5, wstat_6, wspec_2, wspec_4, tk_0, tk_s, fit_i, fit_z, fit_l, fit_r, stp_s, wp_s, wcf_e, wdep_s, mem_n, mem_c, cat_0, cat_i, cat_r, cat_l, tl_s, tl_n, en_n, en_i, en_r, en_l, fv0, fv1, fv2, fv3, kl0, kl1, b10, b01, ct_t, ct_f, ap_n, ap_c, len_n, len_c, ta_i, ta_p, sw_goto, sw_ic_ne, sw_iconst, sw_if_ne, sw_iload_n, sw_isub, sw_lconst, sw_lret, sw_lshl, sw_stat, i_X8_equalReads_0, i_X8_equalReads_1, i_X8_equalReads_4, i_X8_equalReads_5, i_X8_equalReads_6, i_X8_equalReads_9, i_X8_equalReads_10, i_X8_equalReads_13, i_X8_equalReads_14, i_X8_equalReads_15, i_X8_equalReads_16, i_X8_equalReads_17, i_X8_equalReads_18, i_X8_equalReads_21, i_X8_equalReads_22, i_X8_equalReads_25, i_X8_equalReads_26, i_X8_equalReads_27, i_X8_equalReads_28, i_X8_equalReads_29, i_X8_equalReads_32, i_X8_equalReads_33, i_X8_equalReads_34, i_X8_equalReads_35, i_X8_equalReads_36, i_X8_equalReads_37, i_X8_equalReads_40, i_X8_equalReads_41, i_X8_equalReads_42, i_X8_equalReads_43, i_X8_equalReads_44, i_X8_equalReads_47, k_1, k_2, pm_8_196, cc_MX8_span, t_1_16, t_10_6, t_18_7, t_22_25, t_29_11, t_37_10, t_6_7, mp_MX8_equalReads, mr_MX8_equalReads, ↓reduceIte, Bool.false_eq_true, Nat.reduceEqDiff, Nat.reduceAdd, Nat.reduceBEq, Nat.zero_le, Int.reduceAdd, Nat.reduceLeDiff, Nat.reduceLT, true_and, and_true, true_implies, implies_true, Nat.reduceMul, Nat.le_add_left, eq_self, true_or, or_true, not_true_eq_false, not_false_eq_true, false_implies, forall_const, a0, h2']
      try simp only [w_ite]
      exact ⟨by rw [fEq, if_pos (show nI 0 = 0 from rfl), if_neg (by rw [h2']; exact id)], rfl, rfl⟩
  · have s1 : s = 1 := by omega
    subst s1
    have a0 : (nI 1 = 0) = False := eq_false (by decide)
    by_cases hv0 : v = 0
    · subst hv0
      have v0 : (nI 0 = 0) = True := eq_true rfl
      refine Vj.wp [] 40 [] ?_
      simp only [st1_n0, st1_ns, st2_n0, st2_ns, clr_n, ld_0, ld_s, st1_0, st1_1, st1_s, st2_0, st2_1, st2_s, clr_c, kil_n, kil_i, kil_r, kil_l, gv_0, gv_s, sv_0, sv_s, wld_s, wint_i, wlng_i, wref_i, w1_c, wobj_e, wiar_e, wsar_e, wlar_e, wqar_3, wlen_a, wlkp_s, wret_i, wret_z, wret_l, wtbl_n, wtbl_c, wlks_n, wlks_c, wstat_1, wstat_3, wstat_5, wstat_6, wspec_2, wspec_4, tk_0, tk_s, fit_i, fit_z, fit_l, fit_r, stp_s, wp_s, wcf_e, wdep_s, mem_n, mem_c, cat_0, cat_i, cat_r, cat_l, tl_s, tl_n, en_n, en_i, en_r, en_l, fv0, fv1, fv2, fv3, kl0, kl1, b10, b01, ct_t, ct_f, ap_n, ap_c, len_n, len_c, ta_i, ta_p, sw_goto, sw_ic_ne, sw_iconst, sw_if_ne, sw_iload_n, sw_isub, sw_lconst, sw_lret, sw_lshl, sw_stat, i_X8_equalReads_0, i_X8_equalReads_1, i_X8_equalReads_4, i_X8_equalReads_5, i_X8_equalReads_6, i_X8_equalReads_9, i_X8_equalReads_10, i_X8_equalReads_13, i_X8_equalReads_14, i_X8_equalReads_15, i_X8_equalReads_16, i_X8_equalReads_17, i_X8_equalReads_18, i_X8_equalReads_21, i_X8_equalReads_22, i_X8_equalReads_25, i_X8_equalReads_26, i_X8_equalReads_27, i_X8_equalReads_28, i_X8_equalReads_29, i_X8_equalReads_32, i_X8_equalReads_33, i_X8_equalReads_34, i_X8_equalReads_35, i_X8_equalReads_36, i_X8_equalReads_37, i_X8_equalReads_40, i_X8_equalReads_41, i_X8_equalReads_42, i_X8_equalReads_43, i_X8_equalReads_44, i_X8_equalReads_47, k_1, k_2, pm_8_196, cc_MX8_span, t_1_16, t_10_6, t_18_7, t_22_25, t_29_11, t_37_10, t_6_7, mp_MX8_equalReads, mr_MX8_equalReads, ↓reduceIte, Bool.false_eq_true, Nat.reduceEqDiff, Nat.reduceAdd, Nat.reduceBEq, Nat.zero_le, Int.reduceAdd, Nat.reduceLeDiff, Nat.reduceLT, true_and, and_true, true_implies, implies_true, Nat.reduceMul, Nat.le_add_left, eq_self, true_or, or_true, not_true_eq_false, not_false_eq_true, false_implies, forall_const, a0, v0]
      try simp only [w_ite]
      exact ⟨rfl, rfl, rfl⟩
    · have v0 : (nI v = 0) = False := nz_I (by omega) (by omega)
      have eb := nI_p (a := b) (by omega)
      have ev := nI_p (a := v) (by omega)
      by_cases h3 : v = b - 1
      · have h3' : (nI v = nI (b - 1)) = True := eq_true (by rw [← h3])
        refine Vj.wp [] 40 [] ?_
        simp only [st1_n0, st1_ns, st2_n0, st2_ns, clr_n, ld_0, ld_s, st1_0, st1_1, st1_s, st2_0, st2_1, st2_s, clr_c, kil_n, kil_i, kil_r, kil_l, gv_0, gv_s, sv_0, sv_s, wld_s, wint_i, wlng_i, wref_i, w1_c, wobj_e, wiar_e, wsar_e, wlar_e, wqar_3, wlen_a, wlkp_s, wret_i, wret_z, wret_l, wtbl_n, wtbl_c, wlks_n, wlks_c, wstat_1, wstat_3, wstat_5, wstat_6, wspec_2, wspec_4, tk_0, tk_s, fit_i, fit_z, fit_l, fit_r, stp_s, wp_s, wcf_e, wdep_s, mem_n, mem_c, cat_0, cat_i, cat_r, cat_l, tl_s, tl_n, en_n, en_i, en_r, en_l, fv0, fv1, fv2, fv3, kl0, kl1, b10, b01, ct_t, ct_f, ap_n, ap_c, len_n, len_c, ta_i, ta_p, sw_goto, sw_ic_ne, sw_iconst, sw_if_ne, sw_iload_n, sw_isub, sw_lconst, sw_lret, sw_lshl, sw_stat, i_X8_equalReads_0, i_X8_equalReads_1, i_X8_equalReads_4, i_X8_equalReads_5, i_X8_equalReads_6, i_X8_equalReads_9, i_X8_equalReads_10, i_X8_equalReads_13, i_X8_equalReads_14, i_X8_equalReads_15, i_X8_equalReads_16, i_X8_equalReads_17, i_X8_equalReads_18, i_X8_equalReads_21, i_X8_equalReads_22, i_X8_equalReads_25, i_X8_equalReads_26, i_X8_equalReads_27, i_X8_equalReads_28, i_X8_equalReads_29, i_X8_equalReads_32, i_X8_equalReads_33, i_X8_equalReads_34, i_X8_equalReads_35, i_X8_equalReads_36, i_X8_equalReads_37, i_X8_equalReads_40, i_X8_equalReads_41, i_X8_equalReads_42, i_X8_equalReads_43, i_X8_equalReads_44, i_X8_equalReads_47, k_1, k_2, pm_8_196, cc_MX8_span, t_1_16, t_10_6, t_18_7, t_22_25, t_29_11, t_37_10, t_6_7, mp_MX8_equalReads, mr_MX8_equalReads, ↓reduceIte, Bool.false_eq_true, Nat.reduceEqDiff, Nat.reduceAdd, Nat.reduceBEq, Nat.zero_le, Int.reduceAdd, Nat.reduceLeDiff, Nat.reduceLT, true_and, and_true, true_implies, implies_true, Nat.reduceMul, Nat.le_add_left, eq_self, true_or, or_true, not_true_eq_false, not_false_eq_true, false_implies, forall_const, a0, v0, eb, ev, h3']
        try simp only [w_ite]
        exact ⟨by rw [fEq, if_neg (by decide), if_neg (by rw [v0]; exact id), eb, if_pos (by rw [← h3]), ev], rfl, rfl⟩
      · have h3' : (nI v = nI (b - 1)) = False := nI_ne (by omega) (by omega) h3
        refine Vj.wp [] 40 [] ?_
        simp only [st1_n0, st1_ns, st2_n0, st2_ns, clr_n, ld_0, ld_s, st1_0, st1_1, st1_s, st2_0, st2_1, st2_s, clr_c, kil_n, kil_i, kil_r, kil_l, gv_0, gv_s, sv_0, sv_s, wld_s, wint_i, wlng_i, wref_i, w1_c, wobj_e, wiar_e, wsar_e, wlar_e, wqar_3, wlen_a, wlkp_s, wret_i, wret_z, wret_l, wtbl_n, wtbl_c, wlks_n, wlks_c, wstat_1, wstat_3, wstat_5, wstat_6, wspec_2, wspec_4, tk_0, tk_s, fit_i, fit_z, fit_l, fit_r, stp_s, wp_s, wcf_e, wdep_s, mem_n, mem_c, cat_0, cat_i, cat_r, cat_l, tl_s, tl_n, en_n, en_i, en_r, en_l, fv0, fv1, fv2, fv3, kl0, kl1, b10, b01, ct_t, ct_f, ap_n, ap_c, len_n, len_c, ta_i, ta_p, sw_goto, sw_ic_ne, sw_iconst, sw_if_ne, sw_iload_n, sw_isub, sw_lconst, sw_lret, sw_lshl, sw_stat, i_X8_equalReads_0, i_X8_equalReads_1, i_X8_equalReads_4, i_X8_equalReads_5, i_X8_equalReads_6, i_X8_equalReads_9, i_X8_equalReads_10, i_X8_equalReads_13, i_X8_equalReads_14, i_X8_equalReads_15, i_X8_equalReads_16, i_X8_equalReads_17, i_X8_equalReads_18, i_X8_equalReads_21, i_X8_equalReads_22, i_X8_equalReads_25, i_X8_equalReads_26, i_X8_equalReads_27, i_X8_equalReads_28, i_X8_equalReads_29, i_X8_equalReads_32, i_X8_equalReads_33, i_X8_equalReads_34, i_X8_equalReads_35, i_X8_equalReads_36, i_X8_equalReads_37, i_X8_equalReads_40, i_X8_equalReads_41, i_X8_equalReads_42, i_X8_equalReads_43, i_X8_equalReads_44, i_X8_equalReads_47, k_1, k_2, pm_8_196, cc_MX8_span, t_1_16, t_10_6, t_18_7, t_22_25, t_29_11, t_37_10, t_6_7, mp_MX8_equalReads, mr_MX8_equalReads, ↓reduceIte, Bool.false_eq_true, Nat.reduceEqDiff, Nat.reduceAdd, Nat.reduceBEq, Nat.zero_le, Int.reduceAdd, Nat.reduceLeDiff, Nat.reduceLT, true_and, and_true, true_implies, implies_true, Nat.reduceMul, Nat.le_add_left, eq_self, true_or, or_true, not_true_eq_false, not_false_eq_true, false_implies, forall_const, a0, v0, eb, ev, h3']
        try simp only [w_ite]
        have hc := cm_span (d := d) (n := n) (f := f) (a := v - 1) (k := 2) (by omega) (by omega)
        rw [show v - 1 + 2 - 1 = v by omega] at hc
        refine Cl.L hc ?_
        simp only [st1_n0, st1_ns, st2_n0, st2_ns, clr_n, ld_0, ld_s, st1_0, st1_1, st1_s, st2_0, st2_1, st2_s, clr_c, kil_n, kil_i, kil_r, kil_l, gv_0, gv_s, sv_0, sv_s, wld_s, wint_i, wlng_i, wref_i, w1_c, wobj_e, wiar_e, wsar_e, wlar_e, wqar_3, wlen_a, wlkp_s, wret_i, wret_z, wret_l, wtbl_n, wtbl_c, wlks_n, wlks_c, wstat_1, wstat_3, wstat_5, wstat_6, wspec_2, wspec_4, tk_0, tk_s, fit_i, fit_z, fit_l, fit_r, stp_s, wp_s, wcf_e, wdep_s, mem_n, mem_c, cat_0, cat_i, cat_r, cat_l, tl_s, tl_n, en_n, en_i, en_r, en_l, fv0, fv1, fv2, fv3, kl0, kl1, b10, b01, ct_t, ct_f, ap_n, ap_c, len_n, len_c, ta_i, ta_p, sw_goto, sw_ic_ne, sw_iconst, sw_if_ne, sw_iload_n, sw_isub, sw_lconst, sw_lret, sw_lshl, sw_stat, i_X8_equalReads_0, i_X8_equalReads_1, i_X8_equalReads_4, i_X8_equalReads_5, i_X8_equalReads_6, i_X8_equalReads_9, i_X8_equalReads_10, i_X8_equalReads_13, i_X8_equalReads_14, i_X8_equalReads_15, i_X8_equalReads_16, i_X8_equalReads_17, i_X8_equalReads_18, i_X8_equalReads_21, i_X8_equalReads_22, i_X8_equalReads_25, i_X8_equalReads_26, i_X8_equalReads_27, i_X8_equalReads_28, i_X8_equalReads_29, i_X8_equalReads_32, i_X8_equalReads_33, i_X8_equalReads_34, i_X8_equalReads_35, i_X8_equalReads_36, i_X8_equalReads_37, i_X8_equalReads_40, i_X8_equalReads_41, i_X8_equalReads_42, i_X8_equalReads_43, i_X8_equalReads_44, i_X8_equalReads_47, k_1, k_2, pm_8_196, cc_MX8_span, t_1_16, t_10_6, t_18_7, t_22_25, t_29_11, t_37_10, t_6_7, mp_MX8_equalReads, mr_MX8_equalReads, ↓reduceIte, Bool.false_eq_true, Nat.reduceEqDiff, Nat.reduceAdd, Nat.reduceBEq, Nat.zero_le, Int.reduceAdd, Nat.reduceLeDiff, Nat.reduceLT, true_and, and_true, true_implies, implies_true, Nat.reduceMul, Nat.le_add_left, eq_self, true_or, or_true, not_true_eq_false, not_false_eq_true, false_implies, forall_const]; try simp only [w_ite]
        exact ⟨by rw [fEq, if_neg (by decide), if_neg (by rw [v0]; exact id), eb, if_neg (by rw [h3']; exact id)]; exact congrArg (fun x => some (Value.long x)) (sp_eq ⟨v, by omega⟩ (by show 1 ≤ v; omega)), rfl, rfl⟩
set_option maxHeartbeats 4000000 in
set_option maxRecDepth 100000 in
theorem cm_lessReads {d n s b v : Nat} {f : Nat → Ac} (hs : s ≤ 1) (hb : 2 ≤ b) (hb2 : b ≤ 32) (hv : v < b) (hv1 : 1 ≤ v) : Ct MX8_lessReads (d + 1) [.int (nI s), .int (nI b), .int (nI v)] n f (pL (fLt (nI s) (nI b) (nI v)) n f) := by
  refine Ct.of (by decide) rfl rfl (Nat.le_of_ble_eq_true rfl) ?_
  have v0 : (nI v = 0) = False := nz_I (by omega) (by omega)
  have ev := nI_p (a := v) (by omega)
  have eb := nI_p (a := b) (by omega)
  have hf : fLt (nI s) (nI b) (nI v) = if nI s = 1 then (1 : Int64) <<< ((nI v - 1).toInt64 &&& 63) else if nI b = 2 then 1 else if 2 * nI v ≤ nI b then fLow (nI v) else fLow (nI b) &&& (fLow (nI v) ^^^ (-1)) := by rw [fLt, if_neg (by rw [v0]; exact id)]
  rw [hf]
  by_cases s1 : s = 1
  · subst s1
    have a0 : (nI 1 = 1) = True := eq_true rfl
    refine Vj.wp [] 40 [] ?_
    simp only [st1_n0, st1_ns, st2_n0, st2_ns, clr_n, ld_0, ld_s, st1_0, st1_1, st1_s, st2_0, st2_1, st2_s, clr_c, kil_n, kil_i, kil_r, kil_l, gv_0, gv_s, sv_0, sv_s, wld_s, wint_i, wlng_i, wref_i, w1_c, wobj_e, wiar_e, wsar_e, wlar_e, wqar_3, wlen_a, wlkp_s, wret_i, wret_z, wret_l, wtbl_n, wtbl_c, wlks_n, wlks_c, wstat_1, wstat_3, wstat_5, wstat_6, wspec_2, wspec_4, tk_0, tk_s, fit_i, fit_z, fit_l, fit_r, stp_s, wp_s, wcf_e, wdep_s, mem_n, mem_c, cat_0, cat_i, cat_r, cat_l, tl_s, tl_n, en_n, en_i, en_r, en_l, fv0, fv1, fv2, fv3, kl0, kl1, b10, b01, ct_t, ct_f, ap_n, ap_c, len_n, len_c, ta_i, ta_p, sw_goto, sw_ic_le, sw_ic_ne, sw_iconst, sw_iload_n, sw_imul, sw_isub, sw_lconst, sw_lret, sw_lshl, sw_stat, i_X8_lessReads_0, i_X8_lessReads_1, i_X8_lessReads_2, i_X8_lessReads_5, i_X8_lessReads_6, i_X8_lessReads_7, i_X8_lessReads_8, i_X8_lessReads_9, i_X8_lessReads_10, i_X8_lessReads_11, i_X8_lessReads_12, i_X8_lessReads_13, i_X8_lessReads_16, i_X8_lessReads_17, i_X8_lessReads_20, i_X8_lessReads_21, i_X8_lessReads_22, i_X8_lessReads_23, i_X8_lessReads_24, i_X8_lessReads_27, i_X8_lessReads_28, i_X8_lessReads_29, i_X8_lessReads_30, i_X8_lessReads_31, i_X8_lessReads_34, i_X8_lessReads_37, i_X8_lessReads_38, i_X8_lessReads_39, i_X8_lessReads_40, i_X8_lessReads_41, i_X8_lessReads_44, k_0, k_1, k_2, pm_8_196, cc_MX8_span, t_13_7, t_17_27, t_2_9, t_24_13, t_34_10, mp_MX8_lessReads, mr_MX8_lessReads, ↓reduceIte, Bool.false_eq_true, Nat.reduceEqDiff, Nat.reduceAdd, Nat.reduceBEq, Nat.zero_le, Int.reduceAdd, Nat.reduceLeDiff, Nat.reduceLT, true_and, and_true, true_implies, implies_true, Nat.reduceMul, Nat.le_add_left, eq_self, true_or, or_true, not_true_eq_false, not_false_eq_true, false_implies, forall_const, a0]
    try simp only [w_ite]
    exact ⟨rfl, rfl, rfl⟩
  · have s0 : s = 0 := by omega
    subst s0
    have a0 : (nI 0 = 1) = False := eq_false (by decide)
    rw [if_neg (by decide)]
    by_cases h2 : b = 2
    · subst h2
      have h2' : (nI 2 = 2) = True := eq_true rfl
      refine Vj.wp [] 40 [] ?_
      simp only [st1_n0, st1_ns, st2_n0, st2_ns, clr_n, ld_0, ld_s, st1_0, st1_1, st1_s, st2_0, st2_1, st2_s, clr_c, kil_n, kil_i, kil_r, kil_l, gv_0, gv_s, sv_0, sv_s, wld_s, wint_i, wlng_i, wref_i, w1_c, wobj_e, wiar_e, wsar_e, wlar_e, wqar_3, wlen_a, wlkp_s, wret_i, wret_z, wret_l, wtbl_n, wtbl_c, wlks_n, wlks_c, wstat_1, wstat_3, wstat_5, wstat_6, wspec_2, wspec_4, tk_0, tk_s, fit_i, fit_z, fit_l, fit_r, stp_s, wp_s, wcf_e, wdep_s, mem_n, mem_c, cat_0, cat_i, cat_r, cat_l, tl_s, tl_n, en_n, en_i, en_r, en_l, fv0, fv1, fv2, fv3, kl0, kl1, b10, b01, ct_t, ct_f, ap_n, ap_c, len_n, len_c, ta_i, ta_p, sw_goto, sw_ic_le, sw_ic_ne, sw_iconst, sw_iload_n, sw_imul, sw_isub, sw_lconst, sw_lret, sw_lshl, sw_stat, i_X8_lessReads_0, i_X8_lessReads_1, i_X8_lessReads_2, i_X8_lessReads_5, i_X8_lessReads_6, i_X8_lessReads_7, i_X8_lessReads_8, i_X8_lessReads_9, i_X8_lessReads_10, i_X8_lessReads_11, i_X8_lessReads_12, i_X8_lessReads_13, i_X8_lessReads_16, i_X8_lessReads_17, i_X8_lessReads_20, i_X8_lessReads_21, i_X8_lessReads_22, i_X8_lessReads_23, i_X8_lessReads_24, i_X8_lessReads_27, i_X8_lessReads_28, i_X8_lessReads_29, i_X8_lessReads_30, i_X8_lessReads_31, i_X8_lessReads_34, i_X8_lessReads_37, i_X8_lessReads_38, i_X8_lessReads_39, i_X8_lessReads_40, i_X8_lessReads_41, i_X8_lessReads_44, k_0, k_1, k_2, pm_8_196, cc_MX8_span, t_13_7, t_17_27, t_2_9, t_24_13, t_34_10, mp_MX8_lessReads, mr_MX8_lessReads, ↓reduceIte, Bool.false_eq_true, Nat.reduceEqDiff, Nat.reduceAdd, Nat.reduceBEq, Nat.zero_le, Int.reduceAdd, Nat.reduceLeDiff, Nat.reduceLT, true_and, and_true, true_implies, implies_true, Nat.reduceMul, Nat.le_add_left, eq_self, true_or, or_true, not_true_eq_false, not_false_eq_true, false_implies, forall_const, a0, h2']
      try simp only [w_ite]
      exact ⟨rfl, rfl, rfl⟩
    · have h2' : (nI b = 2) = False := nI_ne (b := 2) (by omega) (by omega) h2
      rw [if_neg (by rw [h2']; exact id)]
      have e2 : 2 * nI v = nI (2 * v) := pk_mul 2 v
      rw [e2]
      by_cases h3 : 2 * v ≤ b
      · have h3' : (nI (2 * v) ≤ nI b) = True := nf_le h3 (by omega)
        refine Vj.wp [] 40 [] ?_
        simp only [st1_n0, st1_ns, st2_n0, st2_ns, clr_n, ld_0, ld_s, st1_0, st1_1, st1_s, st2_0, st2_1, st2_s, clr_c, kil_n, kil_i, kil_r, kil_l, gv_0, gv_s, sv_0, sv_s, wld_s, wint_i, wlng_i, wref_i, w1_c, wobj_e, wiar_e, wsar_e, wlar_e, wqar_3, wlen_a, wlkp_s, wret_i, wret_z, wret_l, wtbl_n, wtbl_c, wlks_n, wlks_c, wstat_1, wstat_3, wstat_5, wstat_6, wspec_2, wspec_4, tk_0, tk_s, fit_i, fit_z, fit_l, fit_r, stp_s, wp_s, wcf_e, wdep_s, mem_n, mem_c, cat_0, cat_i, cat_r, cat_l, tl_s, tl_n, en_n, en_i, en_r, en_l, fv0, fv1, fv2, fv3, kl0, kl1, b10, b01, ct_t, ct_f, ap_n, ap_c, len_n, len_c, ta_i, ta_p, sw_goto, sw_ic_le, sw_ic_ne, sw_iconst, sw_iload_n, sw_imul, sw_isub, sw_lconst, sw_lret, sw_lshl, sw_stat, i_X8_lessReads_0, i_X8_lessReads_1, i_X8_lessReads_2, i_X8_lessReads_5, i_X8_lessReads_6, i_X8_lessReads_7, i_X8_lessReads_8, i_X8_lessReads_9, i_X8_lessReads_10, i_X8_lessReads_11, i_X8_lessReads_12, i_X8_lessReads_13, i_X8_lessReads_16, i_X8_lessReads_17, i_X8_lessReads_20, i_X8_lessReads_21, i_X8_lessReads_22, i_X8_lessReads_23, i_X8_lessReads_24, i_X8_lessReads_27, i_X8_lessReads_28, i_X8_lessReads_29, i_X8_lessReads_30, i_X8_lessReads_31, i_X8_lessReads_34, i_X8_lessReads_37, i_X8_lessReads_38, i_X8_lessReads_39, i_X8_lessReads_40, i_X8_lessReads_41, i_X8_lessReads_44, k_0, k_1, k_2, pm_8_196, cc_MX8_span, t_13_7, t_17_27, t_2_9, t_24_13, t_34_10, mp_MX8_lessReads, mr_MX8_lessReads, ↓reduceIte, Bool.false_eq_true, Nat.reduceEqDiff, Nat.reduceAdd, Nat.reduceBEq, Nat.zero_le, Int.reduceAdd, Nat.reduceLeDiff, Nat.reduceLT, true_and, and_true, true_implies, implies_true, Nat.reduceMul, Nat.le_add_left, eq_self, true_or, or_true, not_true_eq_false, not_false_eq_true, false_implies, forall_const, a0, h2', e2, h3', ev, eb]
        try simp only [w_ite]
        have hc := cm_span (d := d) (n := n) (f := f) (a := 0) (k := v) (by omega) (by omega)
        rw [Nat.zero_add] at hc
        refine Cl.L hc ?_
        simp only [st1_n0, st1_ns, st2_n0, st2_ns, clr_n, ld_0, ld_s, st1_0, st1_1, st1_s, st2_0, st2_1, st2_s, clr_c, kil_n, kil_i, kil_r, kil_l, gv_0, gv_s, sv_0, sv_s, wld_s, wint_i, wlng_i, wref_i, w1_c, wobj_e, wiar_e, wsar_e, wlar_e, wqar_3, wlen_a, wlkp_s, wret_i, wret_z, wret_l, wtbl_n, wtbl_c, wlks_n, wlks_c, wstat_1, wstat_3, wstat_5, wstat_6, wspec_2, wspec_4, tk_0, tk_s, fit_i, fit_z, fit_l, fit_r, stp_s, wp_s, wcf_e, wdep_s, mem_n, mem_c, cat_0, cat_i, cat_r, cat_l, tl_s, tl_n, en_n, en_i, en_r, en_l, fv0, fv1, fv2, fv3, kl0, kl1, b10, b01, ct_t, ct_f, ap_n, ap_c, len_n, len_c, ta_i, ta_p, sw_goto, sw_ic_le, sw_ic_ne, sw_iconst, sw_iload_n, sw_imul, sw_isub, sw_lconst, sw_lret, sw_lshl, sw_stat, i_X8_lessReads_0, i_X8_lessReads_1, i_X8_lessReads_2, i_X8_lessReads_5, i_X8_lessReads_6, i_X8_lessReads_7, i_X8_lessReads_8, i_X8_lessReads_9, i_X8_lessReads_10, i_X8_lessReads_11, i_X8_lessReads_12, i_X8_lessReads_13, i_X8_lessReads_16, i_X8_lessReads_17, i_X8_lessReads_20, i_X8_lessReads_21, i_X8_lessReads_22, i_X8_lessReads_23, i_X8_lessReads_24, i_X8_lessReads_27, i_X8_lessReads_28, i_X8_lessReads_29, i_X8_lessReads_30, i_X8_lessReads_31, i_X8_lessReads_34, i_X8_lessReads_37, i_X8_lessReads_38, i_X8_lessReads_39, i_X8_lessReads_40, i_X8_lessReads_41, i_X8_lessReads_44, k_0, k_1, k_2, pm_8_196, cc_MX8_span, t_13_7, t_17_27, t_2_9, t_24_13, t_34_10, mp_MX8_lessReads, mr_MX8_lessReads, ↓reduceIte, Bool.false_eq_true, Nat.reduceEqDiff, Nat.reduceAdd, Nat.reduceBEq, Nat.zero_le, Int.reduceAdd, Nat.reduceLeDiff, Nat.reduceLT, true_and, and_true, true_implies, implies_true, Nat.reduceMul, Nat.le_add_left, eq_self, true_or, or_true, not_true_eq_false, not_false_eq_true, false_implies, forall_const]; try simp only [w_ite]
        exact ⟨by exact congrArg (fun x => some (Value.long x)) (sp_lo ⟨v, by omega⟩), rfl, rfl⟩
      · have h3' : (nI (2 * v) ≤ nI b) = False := nf_ge (by omega) (by omega)
        refine Vj.wp [] 40 [] ?_
        simp only [st1_n0, st1_ns, st2_n0, st2_ns, clr_n, ld_0, ld_s, st1_0, st1_1, st1_s, st2_0, st2_1, st2_s, clr_c, kil_n, kil_i, kil_r, kil_l, gv_0, gv_s, sv_0, sv_s, wld_s, wint_i, wlng_i, wref_i, w1_c, wobj_e, wiar_e, wsar_e, wlar_e, wqar_3, wlen_a, wlkp_s, wret_i, wret_z, wret_l, wtbl_n, wtbl_c, wlks_n, wlks_c, wstat_1, wstat_3, wstat_5, wstat_6, wspec_2, wspec_4, tk_0, tk_s, fit_i, fit_z, fit_l, fit_r, stp_s, wp_s, wcf_e, wdep_s, mem_n, mem_c, cat_0, cat_i, cat_r, cat_l, tl_s, tl_n, en_n, en_i, en_r, en_l, fv0, fv1, fv2, fv3, kl0, kl1, b10, b01, ct_t, ct_f, ap_n, ap_c, len_n, len_c, ta_i, ta_p, sw_goto, sw_ic_le, sw_ic_ne, sw_iconst, sw_iload_n, sw_imul, sw_isub, sw_lconst, sw_lret, sw_lshl, sw_stat, i_X8_lessReads_0, i_X8_lessReads_1, i_X8_lessReads_2, i_X8_lessReads_5, i_X8_lessReads_6, i_X8_lessReads_7, i_X8_lessReads_8, i_X8_lessReads_9, i_X8_lessReads_10, i_X8_lessReads_11, i_X8_lessReads_12, i_X8_lessReads_13, i_X8_lessReads_16, i_X8_lessReads_17, i_X8_lessReads_20, i_X8_lessReads_21, i_X8_lessReads_22, i_X8_lessReads_23, i_X8_lessReads_24, i_X8_lessReads_27, i_X8_lessReads_28, i_X8_lessReads_29, i_X8_lessReads_30, i_X8_lessReads_31, i_X8_lessReads_34, i_X8_lessReads_37, i_X8_lessReads_38, i_X8_lessReads_39, i_X8_lessReads_40, i_X8_lessReads_41, i_X8_lessReads_44, k_0, k_1, k_2, pm_8_196, cc_MX8_span, t_13_7, t_17_27, t_2_9, t_24_13, t_34_10, mp_MX8_lessReads, mr_MX8_lessReads, ↓reduceIte, Bool.false_eq_true, Nat.reduceEqDiff, Nat.reduceAdd, Nat.reduceBEq, Nat.zero_le, Int.reduceAdd, Nat.reduceLeDiff, Nat.reduceLT, true_and, and_true, true_implies, implies_true, Nat.reduceMul, Nat.le_add_left, eq_self, true_or, or_true, not_true_eq_false, not_false_eq_true, false_implies, forall_const, a0, h2', e2, h3', ev, eb]
        try simp only [w_ite]
        have hc := cm_span (d := d) (n := n) (f := f) (a := v) (k := b - v) (by omega) (by omega)
        rw [show v + (b - v) - 1 = b - 1 by omega] at hc
        refine Cl.L hc ?_
        simp only [st1_n0, st1_ns, st2_n0, st2_ns, clr_n, ld_0, ld_s, st1_0, st1_1, st1_s, st2_0, st2_1, st2_s, clr_c, kil_n, kil_i, kil_r, kil_l, gv_0, gv_s, sv_0, sv_s, wld_s, wint_i, wlng_i, wref_i, w1_c, wobj_e, wiar_e, wsar_e, wlar_e, wqar_3, wlen_a, wlkp_s, wret_i, wret_z, wret_l, wtbl_n, wtbl_c, wlks_n, wlks_c, wstat_1, wstat_3, wstat_5, wstat_6, wspec_2, wspec_4, tk_0, tk_s, fit_i, fit_z, fit_l, fit_r, stp_s, wp_s, wcf_e, wdep_s, mem_n, mem_c, cat_0, cat_i, cat_r, cat_l, tl_s, tl_n, en_n, en_i, en_r, en_l, fv0, fv1, fv2, fv3, kl0, kl1, b10, b01, ct_t, ct_f, ap_n, ap_c, len_n, len_c, ta_i, ta_p, sw_goto, sw_ic_le, sw_ic_ne, sw_iconst, sw_iload_n, sw_imul, sw_isub, sw_lconst, sw_lret, sw_lshl, sw_stat, i_X8_lessReads_0, i_X8_lessReads_1, i_X8_lessReads_2, i_X8_lessReads_5, i_X8_lessReads_6, i_X8_lessReads_7, i_X8_lessReads_8, i_X8_lessReads_9, i_X8_lessReads_10, i_X8_lessReads_11, i_X8_lessReads_12, i_X8_lessReads_13, i_X8_lessReads_16, i_X8_lessReads_17, i_X8_lessReads_20, i_X8_lessReads_21, i_X8_lessReads_22, i_X8_lessReads_23, i_X8_lessReads_24, i_X8_lessReads_27, i_X8_lessReads_28, i_X8_lessReads_29, i_X8_lessReads_30, i_X8_lessReads_31, i_X8_lessReads_34, i_X8_lessReads_37, i_X8_lessReads_38, i_X8_lessReads_39, i_X8_lessReads_40, i_X8_lessReads_41, i_X8_lessReads_44, k_0, k_1, k_2, pm_8_196, cc_MX8_span, t_13_7, t_17_27, t_2_9, t_24_13, t_34_10, mp_MX8_lessReads, mr_MX8_lessReads, ↓reduceIte, Bool.false_eq_true, Nat.reduceEqDiff, Nat.reduceAdd, Nat.reduceBEq, Nat.zero_le, Int.reduceAdd, Nat.reduceLeDiff, Nat.reduceLT, true_and, and_true, true_implies, implies_true, Nat.reduceMul, Nat.le_add_left, eq_self, true_or, or_true, not_true_eq_false, not_false_eq_true, false_implies, forall_const]; try simp only [w_ite]
        exact ⟨by exact congrArg (fun x => some (Value.long x)) (sp_hi ⟨b, by omega⟩ ⟨v, by omega⟩ hv), rfl, rfl⟩
