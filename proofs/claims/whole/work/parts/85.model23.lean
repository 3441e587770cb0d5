/-! ===== the model: goodOf, good, ask ===== -/
def c15 : List Int32 → Nat
  | [] => 0
  | x :: W => (if x = 15 then 1 else 0) + c15 W
theorem c15_le : ∀ W, c15 W ≤ W.length
  | [] => Nat.le_refl 0
  | x :: W => by have := c15_le W; rw [c15, List.length_cons]; split <;> omega
theorem c15_mpr {s : Int32} (hs : s = 13 ∨ s = 14) : ∀ W, c15 (mpr s W) = c15 W
  | [] => rfl
  | x :: W => by
    rw [mpr]
    by_cases h : s < x
    · rw [if_pos h]
    · rw [if_neg h, c15, c15_mpr hs W, if_neg, Nat.zero_add]
      intro e
      rw [e] at h
      rcases hs with rfl | rfl <;> exact h (by decide)
def okS (W : List Int32) : Prop := ∀ x, x ∈ W → x = 12 ∨ x = 13 ∨ x = 14 ∨ x = 15
theorem okS_mpr {s : Int32} : ∀ {W}, okS W → okS (mpr s W)
  | [], h => h
  | x :: W, h => by
    rw [mpr]
    by_cases q : s < x
    · rw [if_pos q]; exact h
    · rw [if_neg q]; exact okS_mpr (fun y hy => h y (List.mem_cons_of_mem _ hy))
theorem mpr_hd {s : Int32} : ∀ {W x L}, mpr s W = x :: L → s < x
  | [], x, L, h => by rw [mpr] at h; cases h
  | y :: W, x, L, h => by
    rw [mpr] at h
    by_cases q : s < y
    · rw [if_pos q] at h; injection h with h1 h2; rw [← h1]; exact q
    · rw [if_neg q] at h; exact mpr_hd h
def WP (k : Nat) : Pz → Prop
  | (st, dp, _, _, _, en, A, _, W) => st ≤ 4 ∧ dp = c15 W ∧ okS W ∧ A.length + W.length + nEn en ≤ k
theorem gb_W {c : Int32} {k : Nat} {p p' : Pz} (h : WP k p) (hg : gbF c p = some p') : WP (k + 1) p' := by
  obtain ⟨st, dp, le, sg, va, en, A, N, W⟩ := p
  obtain ⟨h1, h2, h3, h4⟩ := h
  have hel : (enA le sg en A).length = A.length + nEn en := enA_l
  rw [gbF] at hg
  by_cases c1 : c = 38
  · rw [if_pos c1] at hg
    injection hg with hg; subst hg
    have := mpp_mpr 13 W
    refine ⟨by omega, ?_, ?_, ?_⟩
    · rw [c15, if_neg (by decide), c15_mpr (Or.inl rfl)]; omega
    · intro x hx
      rcases List.mem_cons.mp hx with q | q
      · exact Or.inr (Or.inl q)
      · exact okS_mpr h3 x q
    · rw [List.length_append, List.length_cons]; show _ + 0 ≤ _; omega
  rw [if_neg c1] at hg
  by_cases c2 : c = 124
  · rw [if_pos c2] at hg
    injection hg with hg; subst hg
    have := mpp_mpr 14 W
    refine ⟨by omega, ?_, ?_, ?_⟩
    · rw [c15, if_neg (by decide), c15_mpr (Or.inr rfl)]; omega
    · intro x hx
      rcases List.mem_cons.mp hx with q | q
      · exact Or.inr (Or.inr (Or.inl q))
      · exact okS_mpr h3 x q
    · rw [List.length_append, List.length_cons]; show _ + 0 ≤ _; omega
  rw [if_neg c2] at hg
  by_cases c3 : c = 41 ∧ 0 < dp
  · rw [if_pos c3] at hg
    injection hg with hg; subst hg
    have := mpp_mpr 14 W
    have hc := c15_mpr (s := 14) (Or.inr rfl) W
    have ho := okS_mpr (s := 14) h3
    cases hm : mpr 14 W with
    | nil => rw [hm] at hc; rw [c15] at hc; omega
    | cons x L =>
      have hx := mpr_hd hm
      rw [hm] at hc ho this
      have hx15 : x = 15 := by
        rcases ho x List.mem_cons_self with q | q | q | q
        · rw [q] at hx; exact absurd hx (by decide)
        · rw [q] at hx; exact absurd hx (by decide)
        · rw [q] at hx; exact absurd hx (by decide)
        · exact q
      rw [c15, if_pos hx15] at hc
      refine ⟨by omega, ?_, ?_, ?_⟩
      · show dp - 1 = c15 L; omega
      · exact fun y hy => ho y (List.mem_cons_of_mem _ hy)
      · rw [List.length_cons] at this
        rw [List.length_append]; show _ + L.length + 0 ≤ _; omega
  · rw [if_neg c3] at hg; cases hg
theorem go_W {c : Int32} {k : Nat} {p : Pz} (h : WP k p) (hg : (goF c p).1 = true) : WP (k + 1) (goF c p).2 := by
  obtain ⟨st, dp, le, sg, va, en, A, N, W⟩ := p
  have h' := h
  obtain ⟨h1, h2, h3, h4⟩ := h'
  have hn : nEn en ≤ 1 := by cases en <;> decide
  rcases (show st = 0 ∨ st = 1 ∨ st = 2 ∨ st = 3 ∨ st = 4 by omega) with rfl | rfl | rfl | rfl | rfl
  · rw [goF]
    by_cases c1 : c = 33
    · rw [if_pos c1]
      refine ⟨by omega, ?_, ?_, ?_⟩
      · rw [c15, if_neg (by decide)]; omega
      · intro x hx
        rcases List.mem_cons.mp hx with q | q
        · exact Or.inl q
        · exact h3 x q
      · rw [List.length_cons]; omega
    rw [if_neg c1]
    by_cases c2 : c = 40
    · rw [if_pos c2]
      refine ⟨by omega, ?_, ?_, ?_⟩
      · rw [c15, if_pos rfl]; omega
      · intro x hx
        rcases List.mem_cons.mp hx with q | q
        · exact Or.inr (Or.inr (Or.inr q))
        · exact h3 x q
      · rw [List.length_cons]; omega
    · rw [if_neg c2]; exact ⟨by omega, h2, h3, by omega⟩
  · rw [goF]; exact ⟨by omega, h2, h3, by omega⟩
  · rw [goF]; refine ⟨by omega, h2, h3, ?_⟩; show A.length + W.length + 1 ≤ k + 1; omega
  · rw [goF] at hg ⊢
    by_cases c1 : ¬ c < 48 ∧ ¬ 57 < c
    · rw [if_pos c1]; exact ⟨by omega, h2, h3, by omega⟩
    · rw [if_neg c1] at hg ⊢
      cases hb : gbF c (3, dp, le, sg, va, en, A, N, W) with
      | none => rw [hb] at hg; cases hg
      | some p' => exact gb_W h hb
  · have e : goF c (4, dp, le, sg, va, en, A, N, W) = (match gbF c (4, dp, le, sg, va, en, A, N, W) with | some p => (true, p) | none => (false, (4, dp, le, sg, va, en, A, N, W))) := rfl
    rw [e] at hg ⊢
    cases hb : gbF c (4, dp, le, sg, va, en, A, N, W) with
    | none => rw [hb] at hg; cases hg
    | some p' => exact gb_W h hb
set_option maxHeartbeats 4000000 in
set_option maxRecDepth 100000 in
theorem cm_go {d n k : Nat} {c : Int32} {p : Pz} {m : Mm} (h : Pm m p) (hW : WP k p) (hk : k < 60) (hn : n = nn m) : Ct MX8_go (d + 3) [.ref 40, .int c] n (vw m) (eI (rGo m c p)) := by
  obtain ⟨st, dp, le, sg, va, en, A, N, W⟩ := p
  obtain ⟨h1, h2, h3, h4⟩ := hW
  have hd : dp ≤ 60 := by have := c15_le W; omega
  have hl : A.length + W.length + nEn en < 60 := by omega
  have hw : 0 < dp → mpr 14 W ≠ [] := fun q z => by
    have := c15_mpr (s := 14) (Or.inr rfl) W
    rw [z, c15] at this; omega
  rcases (show st = 0 ∨ st = 1 ∨ st = 2 ∨ st = 3 ∨ st = 4 by omega) with rfl | rfl | rfl | rfl | rfl
  · exact cm_go0 h hl hn
  · exact cm_go1 h hn
  · exact cm_go2 h hn
  · exact cm_go3 h hd hl hw hn
  · exact cm_go4 h hd hl hw hn
def gdF (p0 : Pz) (g : Nat → Int32) : Nat → Pz
  | 0 => p0
  | k + 1 => (goF (g k) (gdF p0 g k)).2
def gdN (p0 : Pz) (g : Nat → Int32) (L : Nat) : Nat := fa_first (fun k => !(goF (g k) (gdF p0 g k)).1) L
def rGd (m : Mm) (p0 : Pz) (L : Nat) (r : Int32) (m' : Mm) : Prop := r = nI (gdN p0 (mA m 56) L) ∧ KP m m' ∧ (gdN p0 (mA m 56) L = L → Pm m' (gdF p0 (mA m 56) L) ∧ WP L (gdF p0 (mA m 56) L))
set_option maxHeartbeats 4000000 in
set_option maxRecDepth 100000 in
theorem lm_goodOf {d L : Nat} {p0 : Pz} {m : Mm} {Q : Po} (hL : L ≤ 60) (hl : mI m 40 26 = nI L) (hQ : ∀ r m', rGd m p0 L r m' → Q (some (.int r)) (nn m) (vw m')) : ∀ (t k : Nat) (m1 : Mm), t + k = L → KP m m1 → Pm m1 (gdF p0 (mA m 56) k) → WP k (gdF p0 (mA m 56) k) → (∀ u, u < k → (goF (mA m 56 u) (gdF p0 (mA m 56) u)).1 = true) → Vj MX8_goodOf (d + 4) 0 0 27 [some (.ref 40), some (.int (nI k))] [] (nn m) (vw m1) Q := by
  intro t
  induction t with
  | zero =>
    intro k m1 ht hK hP hW hu
    have hk : k = L := by omega
    subst hk
    have h0 : (nI k ≤ nI k) = True := nf_le (Nat.le_refl _) (by omega)
    have e26 : mI m1 40 26 = nI k := (hK.2 26 (by omega)).trans hl
    refine Vj.wp [] 40 [27] ?_
    simp only [st1_n0, st1_ns, st2_n0, st2_ns, clr_n, ld_0, ld_s, st1_0, st1_1, st1_s, st2_0, st2_1, st2_s, clr_c, kil_n, kil_i, kil_r, kil_l, gv_0, gv_s, sv_0, sv_s, wld_s, wint_i, wlng_i, wref_i, w1_c, wobj_e, wiar_e, wsar_e, wlar_e, wqar_3, wlen_a, wlkp_s, wret_i, wret_z, wret_l, wtbl_n, wtbl_c, wlks_n, wlks_c, wstat_1, wstat_3, wstat_5, wstat_6, wspec_2, wspec_4, tk_0, tk_s, fit_i, fit_z, fit_l, fit_r, stp_s, wp_s, wcf_e, wdep_s, mem_n, mem_c, cat_0, cat_i, cat_r, cat_l, tl_s, tl_n, en_n, en_i, en_r, en_l, fv0, fv1, fv2, fv3, kl0, kl1, b10, b01, ct_t, ct_f, ap_n, ap_c, len_n, len_c, ta_i, ta_p, sg_259, sg_56, sp_262, sp_265, sp_271, sp_290, sp_293, sw_aload_n, sw_goto, sw_iald, sw_ic_ge, sw_iconst, sw_if_eq, sw_iinc, sw_iload_n, sw_ireti, sw_istore_n, sw_virt, i_X8_goodOf_0, i_X8_goodOf_1, i_X8_goodOf_2, i_X8_goodOf_5, i_X8_goodOf_6, i_X8_goodOf_7, i_X8_goodOf_10, i_X8_goodOf_11, i_X8_goodOf_12, i_X8_goodOf_15, i_X8_goodOf_16, i_X8_goodOf_17, i_X8_goodOf_20, i_X8_goodOf_21, i_X8_goodOf_22, i_X8_goodOf_25, i_X8_goodOf_26, i_X8_goodOf_27, i_X8_goodOf_28, i_X8_goodOf_29, i_X8_goodOf_32, i_X8_goodOf_35, i_X8_goodOf_36, i_X8_goodOf_37, i_X8_goodOf_40, i_X8_goodOf_41, i_X8_goodOf_42, i_X8_goodOf_45, i_X8_goodOf_48, i_X8_goodOf_51, i_X8_goodOf_54, i_X8_goodOf_55, k_0, k_1, pf_8_259, pf_8_262, pf_8_265, pf_8_271, pf_8_290, pf_8_293, pf_8_56, pm_8_303, cc_MX8_go, t_32_22, t_45_9, t_51_m24, mp_MX8_goodOf, mr_MX8_goodOf, ↓reduceIte, Bool.false_eq_true, Nat.reduceEqDiff, Nat.reduceAdd, Nat.reduceBEq, Nat.zero_le, Int.reduceAdd, Nat.reduceLeDiff, Nat.reduceLT, true_and, and_true, true_implies, implies_true, Nat.reduceMul, Nat.le_add_left, eq_self, true_or, or_true, not_true_eq_false, not_false_eq_true, false_implies, forall_const, mI_sI, mA_sI, mL_sI, mT_sI, mq_sI, ml_sI, mI_sA, mA_sA, mL_sA, mT_sA, mq_sA, ml_sA, mI_sL, mA_sL, mL_sL, mT_sL, mq_sL, ml_sL, mI_sT, mA_sT, mL_sT, mT_sT, mq_sT, ml_sT, sI_sI, sA_sA, sL_sL, sT_sT, vw_0, vw_1, vw_2, vw_3, vw_4, vw_5, vw_6, vw_7, vw_32, vw_33, vw_34, vw_35, vw_36, vw_37, vw_38, vw_39, vw_41, vw_42, vw_43, vw_44, vw_45, vw_46, vw_47, vw_48, vw_49, vw_50, vw_51, vw_52, vw_53, vw_54, vw_55, vw_56, vw_57, vw_58, vw_59, vw_60, vw_61, vw_62, vw_63, vw_64, vw_65, up_1, up_2, up_32, up_35, up_38, up_3, up_4, up_5, up_6, up_33, up_36, up_37, up_39, up_41, up_42, up_43, up_44, up_45, up_46, up_47, up_48, up_49, up_50, up_51, up_52, up_53, up_54, up_55, up_56, up_57, up_58, up_59, up_60, up_61, up_62, up_63, up_64, up_65, lI_0, lI_s, vu_e, va_up_self, ud_e, ud_n, c40, s40_I, s40_In, s40_mA, s40_mL, s40_mT, s40_mq, s40_ml, e26, h0]
    try simp only [w_ite]
    have hg : gdN p0 (mA m 56) k = k := fa_first_none (fun u hu' => by rw [hu u hu']; rfl)
    exact hQ _ _ ⟨by rw [hg], hK, fun _ => ⟨hP, hW⟩⟩
  | succ t ih =>
    intro k m1 ht hK hP hW hu
    have h0 : (nI L ≤ nI k) = False := nf_ge (by omega) (by omega)
    have e26 : mI m1 40 26 = nI L := (hK.2 26 (by omega)).trans hl
    have e56 : mA m1 56 = mA m 56 := (hK.1.1 56 (by simp)).2.1
    have hk60 : k < 60 := by omega
    have hB_k : ((60 : Int32) ≤ nI (k)) = False := nf_ge (c := 60) (by omega) (by decide)
    have hN_k : (nI (k) < 0) = False := nf_neg (by omega)
    have hV_k : vp_in (nI (k)) 60 = True := nf_in (by omega) (by decide)
    have hC_k : (nI (k)).toNatClampNeg = k := nI_clamp (by omega)
    have hS_k : nI (k) + 1 = nI (k + 1) := nI_1 _
    refine Vj.wp [] 40 [27] ?_
    simp only [st1_n0, st1_ns, st2_n0, st2_ns, clr_n, ld_0, ld_s, st1_0, st1_1, st1_s, st2_0, st2_1, st2_s, clr_c, kil_n, kil_i, kil_r, kil_l, gv_0, gv_s, sv_0, sv_s, wld_s, wint_i, wlng_i, wref_i, w1_c, wobj_e, wiar_e, wsar_e, wlar_e, wqar_3, wlen_a, wlkp_s, wret_i, wret_z, wret_l, wtbl_n, wtbl_c, wlks_n, wlks_c, wstat_1, wstat_3, wstat_5, wstat_6, wspec_2, wspec_4, tk_0, tk_s, fit_i, fit_z, fit_l, fit_r, stp_s, wp_s, wcf_e, wdep_s, mem_n, mem_c, cat_0, cat_i, cat_r, cat_l, tl_s, tl_n, en_n, en_i, en_r, en_l, fv0, fv1, fv2, fv3, kl0, kl1, b10, b01, ct_t, ct_f, ap_n, ap_c, len_n, len_c, ta_i, ta_p, sg_259, sg_56, sp_262, sp_265, sp_271, sp_290, sp_293, sw_aload_n, sw_goto, sw_iald, sw_ic_ge, sw_iconst, sw_if_eq, sw_iinc, sw_iload_n, sw_ireti, sw_istore_n, sw_virt, i_X8_goodOf_0, i_X8_goodOf_1, i_X8_goodOf_2, i_X8_goodOf_5, i_X8_goodOf_6, i_X8_goodOf_7, i_X8_goodOf_10, i_X8_goodOf_11, i_X8_goodOf_12, i_X8_goodOf_15, i_X8_goodOf_16, i_X8_goodOf_17, i_X8_goodOf_20, i_X8_goodOf_21, i_X8_goodOf_22, i_X8_goodOf_25, i_X8_goodOf_26, i_X8_goodOf_27, i_X8_goodOf_28, i_X8_goodOf_29, i_X8_goodOf_32, i_X8_goodOf_35, i_X8_goodOf_36, i_X8_goodOf_37, i_X8_goodOf_40, i_X8_goodOf_41, i_X8_goodOf_42, i_X8_goodOf_45, i_X8_goodOf_48, i_X8_goodOf_51, i_X8_goodOf_54, i_X8_goodOf_55, k_0, k_1, pf_8_259, pf_8_262, pf_8_265, pf_8_271, pf_8_290, pf_8_293, pf_8_56, pm_8_303, cc_MX8_go, t_32_22, t_45_9, t_51_m24, mp_MX8_goodOf, mr_MX8_goodOf, ↓reduceIte, Bool.false_eq_true, Nat.reduceEqDiff, Nat.reduceAdd, Nat.reduceBEq, Nat.zero_le, Int.reduceAdd, Nat.reduceLeDiff, Nat.reduceLT, true_and, and_true, true_implies, implies_true, Nat.reduceMul, Nat.le_add_left, eq_self, true_or, or_true, not_true_eq_false, not_false_eq_true, false_implies, forall_const, mI_sI, mA_sI, mL_sI, mT_sI, mq_sI, ml_sI, mI_sA, mA_sA, mL_sA, mT_sA, mq_sA, ml_sA, mI_sL, mA_sL, mL_sL, mT_sL, mq_sL, ml_sL, mI_sT, mA_sT, mL_sT, mT_sT, mq_sT, ml_sT, sI_sI, sA_sA, sL_sL, sT_sT, vw_0, vw_1, vw_2, vw_3, vw_4, vw_5, vw_6, vw_7, vw_32, vw_33, vw_34, vw_35, vw_36, vw_37, vw_38, vw_39, vw_41, vw_42, vw_43, vw_44, vw_45, vw_46, vw_47, vw_48, vw_49, vw_50, vw_51, vw_52, vw_53, vw_54, vw_55, vw_56, vw_57, vw_58, vw_59, vw_60, vw_61, vw_62, vw_63, vw_64, vw_65, up_1, up_2, up_32, up_35, up_38, up_3, up_4, up_5, up_6, up_33, up_36, up_37, up_39, up_41, up_42, up_43, up_44, up_45, up_46, up_47, up_48, up_49, up_50, up_51, up_52, up_53, up_54, up_55, up_56, up_57, up_58, up_59, up_60, up_61, up_62, up_63, up_64, up_65, lI_0, lI_s, vu_e, va_up_self, ud_e, ud_n, c40, s40_I, s40_In, s40_mA, s40_mL, s40_mT, s40_mq, s40_ml, e26, h0, e56, hB_k, hN_k, hV_k, hC_k, hS_k]
    try simp only [w_ite]
    refine Cl.eI (cm_go hP hW (by omega) hK.1.nn.symm) (fun r m2 h2 => ?_)
    obtain ⟨hr, hP2⟩ := h2
    subst hr
    have hK2 : KP m m2 := hK.tr hP2.1
    cases hb : (goF (mA m 56 k) (gdF p0 (mA m 56) k)).1 with
    | true =>
      have g0 : (b2i true = 0) = False := eq_false (by decide)
      simp only [st1_n0, st1_ns, st2_n0, st2_ns, clr_n, ld_0, ld_s, st1_0, st1_1, st1_s, st2_0, st2_1, st2_s, clr_c, kil_n, kil_i, kil_r, kil_l, gv_0, gv_s, sv_0, sv_s, wld_s, wint_i, wlng_i, wref_i, w1_c, wobj_e, wiar_e, wsar_e, wlar_e, wqar_3, wlen_a, wlkp_s, wret_i, wret_z, wret_l, wtbl_n, wtbl_c, wlks_n, wlks_c, wstat_1, wstat_3, wstat_5, wstat_6, wspec_2, wspec_4, tk_0, tk_s, fit_i, fit_z, fit_l, fit_r, stp_s, wp_s, wcf_e, wdep_s, mem_n, mem_c, cat_0, cat_i, cat_r, cat_l, tl_s, tl_n, en_n, en_i, en_r, en_l, fv0, fv1, fv2, fv3, kl0, kl1, b10, b01, ct_t, ct_f, ap_n, ap_c, len_n, len_c, ta_i, ta_p, sg_259, sg_56, sp_262, sp_265, sp_271, sp_290, sp_293, sw_aload_n, sw_goto, sw_iald, sw_ic_ge, sw_iconst, sw_if_eq, sw_iinc, sw_iload_n, sw_ireti, sw_istore_n, sw_virt, i_X8_goodOf_0, i_X8_goodOf_1, i_X8_goodOf_2, i_X8_goodOf_5, i_X8_goodOf_6, i_X8_goodOf_7, i_X8_goodOf_10, i_X8_goodOf_11, i_X8_goodOf_12, i_X8_goodOf_15, i_X8_goodOf_16, i_X8_goodOf_17, i_X8_goodOf_20, i_X8_goodOf_21, i_X8_goodOf_22, i_X8_goodOf_25, i_X8_goodOf_26, i_X8_goodOf_27, i_X8_goodOf_28, i_X8_goodOf_29, i_X8_goodOf_32, i_X8_goodOf_35, i_X8_goodOf_36, i_X8_goodOf_37, i_X8_goodOf_40, i_X8_goodOf_41, i_X8_goodOf_42, i_X8_goodOf_45, i_X8_goodOf_48, i_X8_goodOf_51, i_X8_goodOf_54, i_X8_goodOf_55, k_0, k_1, pf_8_259, pf_8_262, pf_8_265, pf_8_271, pf_8_290, pf_8_293, pf_8_56, pm_8_303, cc_MX8_go, t_32_22, t_45_9, t_51_m24, mp_MX8_goodOf, mr_MX8_goodOf, ↓reduceIte, Bool.false_eq_true, Nat.reduceEqDiff, Nat.reduceAdd, Nat.reduceBEq, Nat.zero_le, Int.reduceAdd, Nat.reduceLeDiff, Nat.reduceLT, true_and, and_true, true_implies, implies_true, Nat.reduceMul, Nat.le_add_left, eq_self, true_or, or_true, not_true_eq_false, not_false_eq_true, false_implies, forall_const, mI_sI, mA_sI, mL_sI, mT_sI, mq_sI, ml_sI, mI_sA, mA_sA, mL_sA, mT_sA, mq_sA, ml_sA, mI_sL, mA_sL, mL_sL, mT_sL, mq_sL, ml_sL, mI_sT, mA_sT, mL_sT, mT_sT, mq_sT, ml_sT, sI_sI, sA_sA, sL_sL, sT_sT, vw_0, vw_1, vw_2, vw_3, vw_4, vw_5, vw_6, vw_7, vw_32, vw_33, vw_34, vw_35, vw_36, vw_37, vw_38, vw_39, vw_41, vw_42, vw_43, vw_44, vw_45, vw_46, vw_47, vw_48, vw_49, vw_50, vw_51, vw_52, vw_53, vw_54, vw_55, vw_56, vw_57, vw_58, vw_59, vw_60, vw_61, vw_62, vw_63, vw_64, vw_65, up_1, up_2, up_32, up_35, up_38, up_3, up_4, up_5, up_6, up_33, up_36, up_37, up_39, up_41, up_42, up_43, up_44, up_45, up_46, up_47, up_48, up_49, up_50, up_51, up_52, up_53, up_54, up_55, up_56, up_57, up_58, up_59, up_60, up_61, up_62, up_63, up_64, up_65, lI_0, lI_s, vu_e, va_up_self, ud_e, ud_n, c40, s40_I, s40_In, s40_mA, s40_mL, s40_mT, s40_mq, s40_ml, g0, hB_k, hN_k, hV_k, hC_k, hS_k]; try simp only [w_ite]
      rw [hK2.1.nn]
      refine ih (k + 1) m2 (by omega) hK2 hP2.2 (go_W hW hb) (fun u hu' => ?_)
      rcases Nat.lt_or_ge u k with w | w
      · exact hu u w
      · rw [show u = k by omega]; exact hb
    | false =>
      have g0 : (b2i false = 0) = True := eq_true (by decide)
      simp only [st1_n0, st1_ns, st2_n0, st2_ns, clr_n, ld_0, ld_s, st1_0, st1_1, st1_s, st2_0, st2_1, st2_s, clr_c, kil_n, kil_i, kil_r, kil_l, gv_0, gv_s, sv_0, sv_s, wld_s, wint_i, wlng_i, wref_i, w1_c, wobj_e, wiar_e, wsar_e, wlar_e, wqar_3, wlen_a, wlkp_s, wret_i, wret_z, wret_l, wtbl_n, wtbl_c, wlks_n, wlks_c, wstat_1, wstat_3, wstat_5, wstat_6, wspec_2, wspec_4, tk_0, tk_s, fit_i, fit_z, fit_l, fit_r, stp_s, wp_s, wcf_e, wdep_s, mem_n, mem_c, cat_0, cat_i, cat_r, cat_l, tl_s, tl_n, en_n, en_i, en_r, en_l, fv0, fv1, fv2, fv3, kl0, kl1, b10, b01, ct_t, ct_f, ap_n, ap_c, len_n, len_c, ta_i, ta_p, sg_259, sg_56, sp_262, sp_265, sp_271, sp_290, sp_293, sw_aload_n, sw_goto, sw_iald, sw_ic_ge, sw_iconst, sw_if_eq, sw_iinc, sw_iload_n, sw_ireti, sw_istore_n, sw_virt, i_X8_goodOf_0, i_X8_goodOf_1, i_X8_goodOf_2, i_X8_goodOf_5, i_X8_goodOf_6, i_X8_goodOf_7, i_X8_goodOf_10, i_X8_goodOf_11, i_X8_goodOf_12, i_X8_goodOf_15, i_X8_goodOf_16, i_X8_goodOf_17, i_X8_goodOf_20, i_X8_goodOf_21, i_X8_goodOf_22, i_X8_goodOf_25, i_X8_goodOf_26, i_X8_goodOf_27, i_X8_goodOf_28, i_X8_goodOf_29, i_X8_goodOf_32, i_X8_goodOf_35, i_X8_goodOf_36, i_X8_goodOf_37, i_X8_goodOf_40, i_X8_goodOf_41, i_X8_goodOf_42, i_X8_goodOf_45, i_X8_goodOf_48, i_X8_goodOf_51, i_X8_goodOf_54, i_X8_goodOf_55, k_0, k_1, pf_8_259, pf_8_262, pf_8_265, pf_8_271, pf_8_290, pf_8_293, pf_8_56, pm_8_303, cc_MX8_go, t_32_22, t_45_9, t_51_m24, mp_MX8_goodOf, mr_MX8_goodOf, ↓reduceIte, Bool.false_eq_true, Nat.reduceEqDiff, Nat.reduceAdd, Nat.reduceBEq, Nat.zero_le, Int.reduceAdd, Nat.reduceLeDiff, Nat.reduceLT, true_and, and_true, true_implies, implies_true, Nat.reduceMul, Nat.le_add_left, eq_self, true_or, or_true, not_true_eq_false, not_false_eq_true, false_implies, forall_const, mI_sI, mA_sI, mL_sI, mT_sI, mq_sI, ml_sI, mI_sA, mA_sA, mL_sA, mT_sA, mq_sA, ml_sA, mI_sL, mA_sL, mL_sL, mT_sL, mq_sL, ml_sL, mI_sT, mA_sT, mL_sT, mT_sT, mq_sT, ml_sT, sI_sI, sA_sA, sL_sL, sT_sT, vw_0, vw_1, vw_2, vw_3, vw_4, vw_5, vw_6, vw_7, vw_32, vw_33, vw_34, vw_35, vw_36, vw_37, vw_38, vw_39, vw_41, vw_42, vw_43, vw_44, vw_45, vw_46, vw_47, vw_48, vw_49, vw_50, vw_51, vw_52, vw_53, vw_54, vw_55, vw_56, vw_57, vw_58, vw_59, vw_60, vw_61, vw_62, vw_63, vw_64, vw_65, up_1, up_2, up_32, up_35, up_38, up_3, up_4, up_5, up_6, up_33, up_36, up_37, up_39, up_41, up_42, up_43, up_44, up_45, up_46, up_47, up_48, up_49, up_50, up_51, up_52, up_53, up_54, up_55, up_56, up_57, up_58, up_59, up_60, up_61, up_62, up_63, up_64, up_65, lI_0, lI_s, vu_e, va_up_self, ud_e, ud_n, c40, s40_I, s40_In, s40_mA, s40_mL, s40_mT, s40_mq, s40_ml, g0]; try simp only [w_ite]
      rw [hK2.1.nn]
      have hg : gdN p0 (mA m 56) L = k := fa_first_eq (by omega) (fun u hu' => by rw [hu u hu']; rfl) (by rw [hb]; rfl)
      exact hQ _ _ ⟨by rw [hg], hK2, fun q => by omega⟩
def p0M (m : Mm) : Pz := (0, 0, mI m 40 33, mI m 40 34, mI m 40 35, false, [], [], [])
set_option maxHeartbeats 4000000 in
set_option maxRecDepth 100000 in
theorem cm_goodOf {d n L : Nat} {m : Mm} (hL : L ≤ 60) (hl : mI m 40 26 = nI L) (hn : n = nn m) : Ct MX8_goodOf (d + 4) [.ref 40] n (vw m) (eI (rGd m (p0M m) L)) := by
  subst hn
  refine Ct.of (by decide) rfl rfl (Nat.le_of_ble_eq_true rfl) ?_
  refine Vj.wp [] 40 [27] ?_
  simp only [st1_n0, st1_ns, st2_n0, st2_ns, clr_n, ld_0, ld_s, st1_0, st1_1, st1_s, st2_0, st2_1, st2_s, clr_c, kil_n, kil_i, kil_r, kil_l, gv_0, gv_s, sv_0, sv_s, wld_s, wint_i, wlng_i, wref_i, w1_c, wobj_e, wiar_e, wsar_e, wlar_e, wqar_3, wlen_a, wlkp_s, wret_i, wret_z, wret_l, wtbl_n, wtbl_c, wlks_n, wlks_c, wstat_1, wstat_3, wstat_5, wstat_6, wspec_2, wspec_4, tk_0, tk_s, fit_i, fit_z, fit_l, fit_r, stp_s, wp_s, wcf_e, wdep_s, mem_n, mem_c, cat_0, cat_i, cat_r, cat_l, tl_s, tl_n, en_n, en_i, en_r, en_l, fv0, fv1, fv2, fv3, kl0, kl1, b10, b01, ct_t, ct_f, ap_n, ap_c, len_n, len_c, ta_i, ta_p, sg_259, sg_56, sp_262, sp_265, sp_271, sp_290, sp_293, sw_aload_n, sw_goto, sw_iald, sw_ic_ge, sw_iconst, sw_if_eq, sw_iinc, sw_iload_n, sw_ireti, sw_istore_n, sw_virt, i_X8_goodOf_0, i_X8_goodOf_1, i_X8_goodOf_2, i_X8_goodOf_5, i_X8_goodOf_6, i_X8_goodOf_7, i_X8_goodOf_10, i_X8_goodOf_11, i_X8_goodOf_12, i_X8_goodOf_15, i_X8_goodOf_16, i_X8_goodOf_17, i_X8_goodOf_20, i_X8_goodOf_21, i_X8_goodOf_22, i_X8_goodOf_25, i_X8_goodOf_26, i_X8_goodOf_27, i_X8_goodOf_28, i_X8_goodOf_29, i_X8_goodOf_32, i_X8_goodOf_35, i_X8_goodOf_36, i_X8_goodOf_37, i_X8_goodOf_40, i_X8_goodOf_41, i_X8_goodOf_42, i_X8_goodOf_45, i_X8_goodOf_48, i_X8_goodOf_51, i_X8_goodOf_54, i_X8_goodOf_55, k_0, k_1, pf_8_259, pf_8_262, pf_8_265, pf_8_271, pf_8_290, pf_8_293, pf_8_56, pm_8_303, cc_MX8_go, t_32_22, t_45_9, t_51_m24, mp_MX8_goodOf, mr_MX8_goodOf, ↓reduceIte, Bool.false_eq_true, Nat.reduceEqDiff, Nat.reduceAdd, Nat.reduceBEq, Nat.zero_le, Int.reduceAdd, Nat.reduceLeDiff, Nat.reduceLT, true_and, and_true, true_implies, implies_true, Nat.reduceMul, Nat.le_add_left, eq_self, true_or, or_true, not_true_eq_false, not_false_eq_true, false_implies, forall_const, mI_sI, mA_sI, mL_sI, mT_sI, mq_sI, ml_sI, mI_sA, mA_sA, mL_sA, mT_sA, mq_sA, ml_sA, mI_sL, mA_sL, mL_sL, mT_sL, mq_sL, ml_sL, mI_sT, mA_sT, mL_sT, mT_sT, mq_sT, ml_sT, sI_sI, sA_sA, sL_sL, sT_sT, vw_0, vw_1, vw_2, vw_3, vw_4, vw_5, vw_6, vw_7, vw_32, vw_33, vw_34, vw_35, vw_36, vw_37, vw_38, vw_39, vw_41, vw_42, vw_43, vw_44, vw_45, vw_46, vw_47, vw_48, vw_49, vw_50, vw_51, vw_52, vw_53, vw_54, vw_55, vw_56, vw_57, vw_58, vw_59, vw_60, vw_61, vw_62, vw_63, vw_64, vw_65, up_1, up_2, up_32, up_35, up_38, up_3, up_4, up_5, up_6, up_33, up_36, up_37, up_39, up_41, up_42, up_43, up_44, up_45, up_46, up_47, up_48, up_49, up_50, up_51, up_52, up_53, up_54, up_55, up_56, up_57, up_58, up_59, up_60, up_61, up_62, up_63, up_64, up_65, lI_0, lI_s, vu_e, va_up_self, ud_e, ud_n, c40, s40_I, s40_In, s40_mA, s40_mL, s40_mT, s40_mq, s40_ml]
  try simp only [w_ite]
  have hK : KP m (s40 (s40 (s40 (s40 (s40 m 31 0) 32 0) 36 0) 39 0) 41 0) := ((((KP.rf.s (by omega)).s (by omega)).s (by omega)).s (by omega)).s (by omega)
  refine lm_goodOf (Q := eI (rGd m (p0M m) L)) hL hl (fun r m' h => eI_i h.2.1.1.2.1 h) L 0 _ (by omega) hK ?_ ⟨by omega, rfl, fun x hx => by simp at hx, by decide⟩ (fun u hu => absurd hu (Nat.not_lt_zero u))
  refine ⟨?_, ?_, ?_, ?_, ?_, ?_, ?_, ?_, rfl, fun i hi => absurd hi (Nat.not_lt_zero i), fun i hi => absurd hi (Nat.not_lt_zero i), trivial⟩
  all_goals (simp only [mI_sI, mA_sI, mL_sI, mT_sI, mq_sI, ml_sI, mI_sA, mA_sA, mL_sA, mT_sA, mq_sA, ml_sA, mI_sL, mA_sL, mL_sL, mT_sL, mq_sL, ml_sL, mI_sT, mA_sT, mL_sT, mT_sT, mq_sT, ml_sT, sI_sI, sA_sA, sL_sL, sT_sT, vw_0, vw_1, vw_2, vw_3, vw_4, vw_5, vw_6, vw_7, vw_32, vw_33, vw_34, vw_35, vw_36, vw_37, vw_38, vw_39, vw_41, vw_42, vw_43, vw_44, vw_45, vw_46, vw_47, vw_48, vw_49, vw_50, vw_51, vw_52, vw_53, vw_54, vw_55, vw_56, vw_57, vw_58, vw_59, vw_60, vw_61, vw_62, vw_63, vw_64, vw_65, up_1, up_2, up_32, up_35, up_38, up_3, up_4, up_5, up_6, up_33, up_36, up_37, up_39, up_41, up_42, up_43, up_44, up_45, up_46, up_47, up_48, up_49, up_50, up_51, up_52, up_53, up_54, up_55, up_56, up_57, up_58, up_59, up_60, up_61, up_62, up_63, up_64, up_65, lI_0, lI_s, vu_e, va_up_self, ud_e, ud_n, c40, s40_I, s40_In, s40_mA, s40_mL, s40_mT, s40_mq, s40_ml, Nat.reduceBEq, ct_t, ct_f, Nat.reduceEqDiff, not_false_eq_true])
  all_goals rfl
set_option maxHeartbeats 4000000 in
set_option maxRecDepth 100000 in
theorem cm_good {d n L : Nat} {m : Mm} (hL : L ≤ 60) (hl : mI m 40 26 = nI L) (hn : n = nn m) : Ct MX8_good (d + 5) [.ref 40] n (vw m) (eI (rGd m (p0M m) L)) := by
  subst hn
  refine Ct.of (by decide) rfl rfl (Nat.le_of_ble_eq_true rfl) ?_
  refine Vj.wp [] 40 [] ?_
  simp only [st1_n0, st1_ns, st2_n0, st2_ns, clr_n, ld_0, ld_s, st1_0, st1_1, st1_s, st2_0, st2_1, st2_s, clr_c, kil_n, kil_i, kil_r, kil_l, gv_0, gv_s, sv_0, sv_s, wld_s, wint_i, wlng_i, wref_i, w1_c, wobj_e, wiar_e, wsar_e, wlar_e, wqar_3, wlen_a, wlkp_s, wret_i, wret_z, wret_l, wtbl_n, wtbl_c, wlks_n, wlks_c, wstat_1, wstat_3, wstat_5, wstat_6, wspec_2, wspec_4, tk_0, tk_s, fit_i, fit_z, fit_l, fit_r, stp_s, wp_s, wcf_e, wdep_s, mem_n, mem_c, cat_0, cat_i, cat_r, cat_l, tl_s, tl_n, en_n, en_i, en_r, en_l, fv0, fv1, fv2, fv3, kl0, kl1, b10, b01, ct_t, ct_f, ap_n, ap_c, len_n, len_c, ta_i, ta_p, sw_aload_n, sw_ireti, sw_virt, i_X8_good_0, i_X8_good_1, i_X8_good_4, pm_8_306, cc_MX8_goodOf, mp_MX8_good, mr_MX8_good, ↓reduceIte, Bool.false_eq_true, Nat.reduceEqDiff, Nat.reduceAdd, Nat.reduceBEq, Nat.zero_le, Int.reduceAdd, Nat.reduceLeDiff, Nat.reduceLT, true_and, and_true, true_implies, implies_true, Nat.reduceMul, Nat.le_add_left, eq_self, true_or, or_true, not_true_eq_false, not_false_eq_true, false_implies, forall_const, mI_sI, mA_sI, mL_sI, mT_sI, mq_sI, ml_sI, mI_sA, mA_sA, mL_sA, mT_sA, mq_sA, ml_sA, mI_sL, mA_sL, mL_sL, mT_sL, mq_sL, ml_sL, mI_sT, mA_sT, mL_sT, mT_sT, mq_sT, ml_sT, sI_sI, sA_sA, sL_sL, sT_sT, vw_0, vw_1, vw_2, vw_3, vw_4, vw_5, vw_6, vw_7, vw_32, vw_33, vw_34, vw_35, vw_36, vw_37, vw_38, vw_39, vw_41, vw_42, vw_43, vw_44, vw_45, vw_46, vw_47, vw_48, vw_49, vw_50, vw_51, vw_52, vw_53, vw_54, vw_55, vw_56, vw_57, vw_58, vw_59, vw_60, vw_61, vw_62, vw_63, vw_64, vw_65, up_1, up_2, up_32, up_35, up_38, up_3, up_4, up_5, up_6, up_33, up_36, up_37, up_39, up_41, up_42, up_43, up_44, up_45, up_46, up_47, up_48, up_49, up_50, up_51, up_52, up_53, up_54, up_55, up_56, up_57, up_58, up_59, up_60, up_61, up_62, up_63, up_64, up_65, lI_0, lI_s, vu_e, va_up_self, ud_e, ud_n, c40, s40_I, s40_In, s40_mA, s40_mL, s40_mT, s40_mq, s40_ml]
  try simp only [w_ite]
  refine Cl.eI (cm_goodOf hL hl rfl) (fun r m1 h => ?_)
  simp only [st1_n0, st1_ns, st2_n0, st2_ns, clr_n, ld_0, ld_s, st1_0, st1_1, st1_s, st2_0, st2_1, st2_s, clr_c, kil_n, kil_i, kil_r, kil_l, gv_0, gv_s, sv_0, sv_s, wld_s, wint_i, wlng_i, wref_i, w1_c, wobj_e, wiar_e, wsar_e, wlar_e, wqar_3, wlen_a, wlkp_s, wret_i, wret_z, wret_l, wtbl_n, wtbl_c, wlks_n, wlks_c, wstat_1, wstat_3, wstat_5, wstat_6, wspec_2, wspec_4, tk_0, tk_s, fit_i, fit_z, fit_l, fit_r, stp_s, wp_s, wcf_e, wdep_s, mem_n, mem_c, cat_0, cat_i, cat_r, cat_l, tl_s, tl_n, en_n, en_i, en_r, en_l, fv0, fv1, fv2, fv3, kl0, kl1, b10, b01, ct_t, ct_f, ap_n, ap_c, len_n, len_c, ta_i, ta_p, sw_aload_n, sw_ireti, sw_virt, i_X8_good_0, i_X8_good_1, i_X8_good_4, pm_8_306, cc_MX8_goodOf, mp_MX8_good, mr_MX8_good, ↓reduceIte, Bool.false_eq_true, Nat.reduceEqDiff, Nat.reduceAdd, Nat.reduceBEq, Nat.zero_le, Int.reduceAdd, Nat.reduceLeDiff, Nat.reduceLT, true_and, and_true, true_implies, implies_true, Nat.reduceMul, Nat.le_add_left, eq_self, true_or, or_true, not_true_eq_false, not_false_eq_true, false_implies, forall_const, mI_sI, mA_sI, mL_sI, mT_sI, mq_sI, ml_sI, mI_sA, mA_sA, mL_sA, mT_sA, mq_sA, ml_sA, mI_sL, mA_sL, mL_sL, mT_sL, mq_sL, ml_sL, mI_sT, mA_sT, mL_sT, mT_sT, mq_sT, ml_sT, sI_sI, sA_sA, sL_sL, sT_sT, vw_0, vw_1, vw_2, vw_3, vw_4, vw_5, vw_6, vw_7, vw_32, vw_33, vw_34, vw_35, vw_36, vw_37, vw_38, vw_39, vw_41, vw_42, vw_43, vw_44, vw_45, vw_46, vw_47, vw_48, vw_49, vw_50, vw_51, vw_52, vw_53, vw_54, vw_55, vw_56, vw_57, vw_58, vw_59, vw_60, vw_61, vw_62, vw_63, vw_64, vw_65, up_1, up_2, up_32, up_35, up_38, up_3, up_4, up_5, up_6, up_33, up_36, up_37, up_39, up_41, up_42, up_43, up_44, up_45, up_46, up_47, up_48, up_49, up_50, up_51, up_52, up_53, up_54, up_55, up_56, up_57, up_58, up_59, up_60, up_61, up_62, up_63, up_64, up_65, lI_0, lI_s, vu_e, va_up_self, ud_e, ud_n, c40, s40_I, s40_In, s40_mA, s40_mL, s40_mT, s40_mq, s40_ml]; try simp only [w_ite]
  rw [h.2.1.1.nn]
  exact eI_i h.2.1.1.2.1 h
