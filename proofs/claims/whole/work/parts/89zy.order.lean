/-! ===== words, all, placed, order: class and model ===== -/
set_option maxRecDepth 100000 in
theorem cl_all : ∀ o : Fin 256, ∀ k : Fin 4, clA (nI o.1) k.1 = nI (cAt4 o.1 k.1) := by decide +kernel
set_option maxRecDepth 100000 in
theorem or_all : ∀ o : Fin 256, ordI (nI o.1) = 0 ↔ orB o.1 = false := by decide +kernel
theorem cl_C {o : Nat} (ho : o < 256) : ∀ k, k < 4 → clA (nI o) k = nI (cAt4 o k) ∧ cAt4 o k < 4 := fun k hk => ⟨cl_all ⟨o, ho⟩ ⟨k, hk⟩, Nat.mod_lt _ (by decide)⟩
theorem ord_c (x : Int32) : (ordI x = 0 ∧ ∀ o, o < 256 → x = nI o → orB o = false) ∨ (¬ ordI x = 0 ∧ ∃ o, o < 256 ∧ x = nI o ∧ orB o = true) := by
  by_cases h1 : x < 0
  · refine Or.inl ⟨by unfold ordI; rw [if_pos h1], fun o ho e => ?_⟩
    rw [e] at h1
    exact absurd h1 (nI_pos (by omega))
  · by_cases h2 : 255 < x
    · refine Or.inl ⟨by unfold ordI; rw [if_neg h1, if_pos h2], fun o ho e => ?_⟩
      rw [e] at h2
      exact absurd h2 (nI_nlt (a := 255) (by omega) (by omega))
    · obtain ⟨o, ho, rfl⟩ := nI_of2 (M := 255) (n := 255) rfl h1 (fa_of_nlt h2)
      have ha := or_all ⟨o, by omega⟩
      by_cases h3 : ordI (nI o) = 0
      · refine Or.inl ⟨h3, fun o' ho' e => ?_⟩
        have e' := (nI_eq (by omega) (by omega)).mp e
        subst e'
        exact ha.mp h3
      · refine Or.inr ⟨h3, o, by omega, rfl, ?_⟩
        cases hb : orB o with
        | true => rfl
        | false => exact absurd (ha.mpr hb) h3
/-- the class's order of lines changes, then the model's scratch -/
theorem RR.ko {m m1 m2 : Mm} {s b z : Nat → Nat} {B : Nat → Nat → Nat} {x k mk L u : Nat} {S : Nat → Qn} (h : RR m s b z B x k mk L u S) (F : Fr [38, 39] m m1) (K : Ko m1 m2) (hL : LOk (mA m2 64)) : RM m2 := by
  have a := F.sC (fun j hj => by simp at hj; omega)
  have h1 := h.same a.1 a.2 (h.2.2.2.2.2.2.1.f (by rw [(F.1 1 (by simp)).1]) (by rw [(F.1 1 (by simp)).1]) (by rw [(F.1 40 (by simp)).1]) (by rw [(F.1 40 (by simp)).1])) (by rw [(F.1 64 (by simp)).2.1]; exact h.2.2.2.2.2.2.2)
  have b := K.1.sM (fun j hj => by simp at hj; omega) (K.2 3 (by decide) (by decide)) (K.2 7 (by decide) (by decide)) (K.2 26 (by decide) (by decide)) (K.2 27 (by decide) (by decide))
  exact ⟨_, _, _, _, _, _, _, _, _, _, h1.same b.1 b.2 (h1.2.2.2.2.2.2.1.f (by rw [(K.1.1 1 (by simp)).1]) (by rw [(K.1.1 1 (by simp)).1]) (K.2 19 (by decide) (by decide)) (K.2 45 (by decide) (by decide))) hL⟩
theorem RR.fo {m m1 : Mm} {s b z : Nat → Nat} {B : Nat → Nat → Nat} {x k mk L u : Nat} {S : Nat → Qn} (h : RR m s b z B x k mk L u S) (F : Fr [38, 39] m m1) : RR m1 s b z B x k mk L u S := by
  have a := F.sC (fun j hj => by simp at hj; omega)
  exact h.same a.1 a.2 (h.2.2.2.2.2.2.1.f (by rw [(F.1 1 (by simp)).1]) (by rw [(F.1 1 (by simp)).1]) (by rw [(F.1 40 (by simp)).1]) (by rw [(F.1 40 (by simp)).1])) (by rw [(F.1 64 (by simp)).2.1]; exact h.2.2.2.2.2.2.2)
/-- the lines that the class lays, at the memory behind it -/
theorem lay_m {m m1 : Mm} {s b z : Nat → Nat} {B : Nat → Nat → Nat} {x k mk L u o : Nat} {S : Nat → Qn} {tb : Bool} {g' : Nat → Int32} (h : RR m s b z B x k mk L u S) (ho : o < 256) (hr : rArr m (nI o) (b2i tb) m1) : (∀ j, j < 64 → mA m1 39 j = arM m1 (cAt4 o) tb g' j) ∧ LOk (mA m1 39) := by
  obtain ⟨F, -, e⟩ := hr
  have q := arr_e (tb := tb) (g := mA m 39) (g' := g') h.z h.1 (cl_C ho)
  rw [e, arM_c (F.1 42 (by simp)).2.1 (F.1 43 (by simp)).2.1]
  exact q
theorem q_words {m m1 m2 : Mm} {s b z : Nat → Nat} {B : Nat → Nat → Nat} {x k mk L u c : Nat} {S : Nat → Qn} {v o r r' : Int32} {tb : Bool} (h : RR m s b z B x k mk L u S) (hc4 : c < 4) (hc : rWords m c v o (b2i tb) r m1) (hm : rMwords m1 c (s c) (b c) (B c) v o tb r' m2) : r = r' ∧ RM m2 := by
  have hcol := h.col' c hc4
  have hrm := room_e hcol
  have h64 := hcol.2.1
  rcases hc with ⟨p, rfl, rfl⟩ | ⟨p1, p2, hc⟩
  · rcases hm with ⟨_, rfl, rfl⟩ | ⟨w, hw, rfl, _⟩
    · exact ⟨rfl, _, _, _, _, _, _, _, _, _, _, h⟩
    · exfalso
      rw [hrm] at p
      rcases p with p | p
      · exact nI_pos (by omega) p
      · exact nI_ge hw (by omega) p
  · have hv : isV v (rmN (s c) (B c) (b c)) = true := by
      unfold isV; refine decide_eq_true ⟨p1, ?_⟩
      rw [hrm] at p2; exact fa_of_nle p2
    rcases hm with ⟨q, _⟩ | ⟨w, hw, rfl, K, hL, hm⟩
    · rw [hv] at q; cases q
    · rcases ord_c o with ⟨o1, o2⟩ | ⟨o1, y, y1, rfl, y3⟩
      · rcases hc with ⟨_, rfl, rfl⟩ | ⟨q, _⟩
        · rcases hm with ⟨_, rfl⟩ | ⟨y, y1, y2, y3, _⟩
          · exact ⟨rfl, h.ko Fr.rf K hL⟩
          · rw [o2 y y1 y2] at y3; cases y3
        · exact absurd o1 q
      · rcases hc with ⟨q, _⟩ | ⟨_, hr, rfl⟩
        · exact absurd q o1
        · have h1 := h.fo hr.1
          have hl := lay_m (g' := mA m1 64) h y1 hr
          rcases hm with ⟨q, _⟩ | ⟨y', y1', e, _, rfl⟩
          · exfalso
            rcases q with (q | q) | ⟨y', y1', e, q⟩
            · exact nI_pos (by omega) q
            · exact nI_nlt (a := 255) (by omega) (by omega) q
            · have := (nI_eq (by omega) (by omega)).mp e
              subst this
              rw [y3] at q; cases q
          · have := (nI_eq (by omega) (by omega)).mp e
            subst this
            refine ⟨?_, h.ko hr.1 K hL⟩
            rw [wd_e h1.z h1.1 (h1.col' c hc4) hl.2 hw, woM_cg hl.1 10 (Nat.le_refl 10)]
theorem awM_cg {m : Mm} {g g' : Nat → Int32} {s b : Nat → Nat} {B : Nat → Nat → Nat} (hg : ∀ j, j < 64 → g j = g' j) : ∀ c, awM m g s b B c = awM m g' s b B c
  | 0 => rfl
  | c + 1 => by
    rw [awM, awM, awM_cg hg c, awV_sm, awV_sm]
    congr 1
    exact sm_cg _ (fun v hv => woM_cg hg 10 (Nat.le_refl 10))
theorem q_all {m m1 m2 : Mm} {s b z : Nat → Nat} {B : Nat → Nat → Nat} {x k mk L u : Nat} {S : Nat → Qn} {o r r' : Int32} {tb : Bool} (h : RR m s b z B x k mk L u S) (hc : rAll m o (b2i tb) r m1) (hm : rMall m1 s b B o tb r' m2) : r = r' ∧ RM m2 := by
  obtain ⟨K, hL, hm⟩ := hm
  rcases ord_c o with ⟨o1, o2⟩ | ⟨o1, y, y1, rfl, y3⟩
  · rcases hc with ⟨_, rfl, rfl⟩ | ⟨q, _⟩
    · rcases hm with ⟨_, rfl⟩ | ⟨y, y1, y2, y3, _⟩
      · exact ⟨rfl, h.ko Fr.rf K hL⟩
      · rw [o2 y y1 y2] at y3; cases y3
    · exact absurd o1 q
  · rcases hc with ⟨q, _⟩ | ⟨_, hr, rfl⟩
    · exact absurd q o1
    · have h1 := h.fo hr.1
      have hl := lay_m (g' := mA m1 64) h y1 hr
      rcases hm with ⟨q, _⟩ | ⟨y', y1', e, _, rfl⟩
      · exfalso
        rcases q with (q | q) | ⟨y', y1', e, q⟩
        · exact nI_pos (by omega) q
        · exact nI_nlt (a := 255) (by omega) (by omega) q
        · have := (nI_eq (by omega) (by omega)).mp e
          subst this
          rw [y3] at q; cases q
      · have := (nI_eq (by omega) (by omega)).mp e
        subst this
        refine ⟨?_, h.ko hr.1 K hL⟩
        rw [tw_e h1.z h1.1 h1.col' hl.2 4 (Nat.le_refl 4), awM_cg hl.1 4]
theorem q_placed {m m1 m2 : Mm} {s b z : Nat → Nat} {B : Nat → Nat → Nat} {x k mk L u : Nat} {S : Nat → Qn} {o i r r' : Int32} {tb : Bool} (h : RR m s b z B x k mk L u S) (hc : rPlaced m o (b2i tb) i r m1) (hm : rMplaced m1 o tb i r' m2) : r = r' ∧ RM m2 := by
  obtain ⟨K, hL, hm⟩ := hm
  rcases hc with ⟨p, rfl, rfl⟩ | ⟨o1, n, hn, rfl, hr, rfl⟩
  · rcases hm with ⟨_, rfl⟩ | ⟨y, n, y1, rfl, y3, hn, rfl, _⟩
    · exact ⟨rfl, h.ko Fr.rf K hL⟩
    · exfalso
      rcases p with p | p | p
      · rw [or_all ⟨y, y1⟩] at p
        have : orB y = false := p
        rw [y3] at this; cases this
      · exact nI_pos (by omega) p
      · exact p (nI_lt (b := 64) hn (by omega))
  · rcases ord_c o with ⟨q, _⟩ | ⟨_, y, y1, rfl, y3⟩
    · exact absurd q o1
    · have hl := lay_m (g' := mA m1 64) h y1 hr
      rcases hm with ⟨q, _⟩ | ⟨y', n', y1', e, _, hn', e2, rfl⟩
      · exfalso
        rcases q with ((q | q) | ⟨y', y1', e, q⟩) | q | q
        · exact nI_pos (by omega) q
        · exact nI_nlt (a := 255) (by omega) (by omega) q
        · have := (nI_eq (by omega) (by omega)).mp e
          subst this
          rw [y3] at q; cases q
        · exact nI_pos (by omega) q
        · exact nI_ge (b := 64) hn (by omega) q
      · have := (nI_eq (by omega) (by omega)).mp e
        subst this
        have := (nI_eq (by omega) (by omega)).mp e2
        subst this
        exact ⟨hl.1 n hn, h.ko hr.1 K hL⟩
theorem twG_N {m : Mm} {s b z : Nat → Nat} {B : Nat → Nat → Nat} {x k mk L u : Nat} {S : Nat → Qn} {g : Nat → Int32} (h : RR m s b z B x k mk L u S) (hL : LOk g) : twG m g = nI (awM m g s b B 4) := by
  have F : Fr [38, 39] m (sA m 39 g) := Fr.sA Fr.rf (by simp)
  have h1 := h.fo F
  have e : mA (sA m 39 g) 39 = g := sA_e
  have := tw_e h1.z h1.1 h1.col' (by rw [e]; exact hL) 4 (Nat.le_refl 4)
  rw [e, awM_c (F.1 42 (by simp)).2.1 (F.1 43 (by simp)).2.1] at this
  exact this
theorem ord_F {m : Mm} {s b z : Nat → Nat} {B : Nat → Nat → Nat} {x k mk L u : Nat} {S : Nat → Qn} {tb : Bool} {st st' : Os} (h : RR m s b z B x k mk L u S) (he : st.2 = st'.2) : ∀ n, n ≤ 256 → (ordF m (b2i tb) st n).2 = (orF m s b B tb st' n).2
  | 0, _ => he
  | n + 1, hn => by
    have ih := ord_F (tb := tb) h he n (by omega)
    rw [ordF, orF]
    unfold ordS orS
    have ha := or_all ⟨n, by omega⟩
    by_cases q : ordI (nI n) = 0
    · rw [if_pos q, if_pos (ha.mp q)]; exact ih
    · rw [if_neg q, if_neg (fun e => q (ha.mpr e))]
      have hr := arr_e (tb := tb) (g := (ordF m (b2i tb) st n).1) (g' := (orF m s b B tb st' n).1) h.z h.1 (cl_C (show n < 256 by omega))
      have ew : twG m (arrF m (nI n) (b2i tb) (ordF m (b2i tb) st n).1) = nI (awM m (arM m (cAt4 n) tb (orF m s b B tb st' n).1) s b B 4) := by
        rw [twG_N h hr.2, awM_cg hr.1 4]
      rw [ew, ih]
      by_cases p : (orF m s b B tb st' n).2.1 = -1 ∨ ¬ (orF m s b B tb st' n).2.1 ≤ nI (awM m (arM m (cAt4 n) tb (orF m s b B tb st' n).1) s b B 4)
      · rw [if_pos p, if_pos p]
      · rw [if_neg p, if_neg p]
theorem ordA_e {m : Mm} {s b z : Nat → Nat} {B : Nat → Nat → Nat} {x k mk L u : Nat} {S : Nat → Qn} (h : RR m s b z B x k mk L u S) : (ordA m).2 = (orA m s b B).2 := by
  unfold ordA orA
  have h1 : ((mA m 39, -1, 0, 0) : Os).2 = ((mA m 64, -1, 0, 0) : Os).2 := rfl
  have h2 := ord_F (tb := false) h h1 256 (Nat.le_refl 256)
  have h3 := ord_F (tb := true) h h2 256 (Nat.le_refl 256)
  have e0 : b2i false = 0 := rfl
  have e1 : b2i true = 1 := rfl
  rw [e0, e1] at h3
  exact h3
theorem q_order {m m1 m2 : Mm} {s b z : Nat → Nat} {B : Nat → Nat → Nat} {x k mk L u : Nat} {S : Nat → Qn} {w r r' : Int32} (h : RR m s b z B x k mk L u S) (hc : rOrder m w r m1) (hm : rMorder m1 s b B w r' m2) : r = r' ∧ RM m2 := by
  obtain ⟨y1, y2, hy1, hy2, c17, c419, c18, c445⟩ := h.2.2.2.2.2.2.1
  rcases hc with ⟨p, rfl, rfl⟩ | ⟨p1, p2, hc⟩
  · rcases hm with ⟨_, rfl, rfl⟩ | ⟨q1, q2, _⟩
    · exact ⟨rfl, _, _, _, _, _, _, _, _, _, _, h⟩
    · rcases p with p | p
      · exact absurd p q1
      · exact absurd (fa_of_nle p) q2
  · rcases hm with ⟨q, _⟩ | ⟨_, _, hm⟩
    · rcases q with q | q
      · exact absurd q p1
      · exact absurd p2 (fa_of_lt q).2.1
    · rcases hc with ⟨q, rfl, rfl⟩ | ⟨q, rfl, F1⟩
      · have hx : y2 = 30 := by
          rcases Nat.lt_or_ge y2 30 with p | p
          · exfalso; apply q; rw [c18]; exact nI_lt (b := 30) p (by omega)
          · omega
        subst hx
        rcases hm with ⟨_, rfl, rfl⟩ | ⟨p, _⟩
        · exact ⟨rfl, _, _, _, _, _, _, _, _, _, _, h⟩
        · exact absurd c445 p
      · have hx : y2 < 30 := by rw [c18] at q; exact (nI_ltI (b := 30) (by omega) (by omega)).mp q
        generalize hm0 : sI m 1 [0, 0, 0, 0, 0, 0, mI m 1 6, mI m 1 7, mI m 1 8 + 1] = m0 at F1
        have i0 : ∀ j, ¬ j = 1 → mI m0 j = mI m j := fun j hj => by rw [← hm0, mI_sI, va_up_ne _ _ hj]
        have i1 : mI m0 1 = lI [0, 0, 0, 0, 0, 0, mI m 1 6, mI m 1 7, mI m 1 8 + 1] := by rw [← hm0, mI_sI, va_up_self]
        have e445 : mI m1 40 45 = nI y2 := by rw [(F1.1 40 (by simp)).1, i0 40 (by decide)]; exact c445
        rcases hm with ⟨p, _⟩ | ⟨_, rfl, K, hL⟩
        · rw [e445] at p
          have := (nI_eq (b := 30) (by omega) (by omega)).mp p
          omega
        · have a42 : mA m1 42 = mA m 42 := by rw [(F1.1 42 (by simp)).2.1, ← hm0]; rfl
          have a43 : mA m1 43 = mA m 43 := by rw [(F1.1 43 (by simp)).2.1, ← hm0]; rfl
          have a64 : mA m1 64 = mA m 64 := by rw [(F1.1 64 (by simp)).2.1, ← hm0]; rfl
          have eo : orA m1 s b B = orA m s b B := by
            unfold orA
            rw [orF_c a42 a43, orF_c a42 a43, a64]
          refine ⟨?_, ?_⟩
          · rw [eo]
            unfold ordR
            rw [ordA_e h]
          · have i40 : ∀ j, ¬ j = 17 → ¬ j = 18 → ¬ j = 45 → mI m2 40 j = mI m 40 j := fun j h1 h2 h3 => by
              rw [K.2 j h1 h2, s40_I, ud_n h3, (F1.1 40 (by simp)).1, i0 40 (by decide)]
            have FA : ∀ j, j ∉ [38, 39] → ¬ j = 40 → ¬ j = 64 → ¬ j = 65 → mA m2 j = mA m j := fun j h1 h2 h3 h4 => by
              rw [(K.1.1 j (by simp; omega)).2.1, s40_mA, (F1.1 j h1).2.1, ← hm0]; rfl
            have FI : ∀ j, j ∉ [38, 39] → ¬ j = 40 → ¬ j = 64 → ¬ j = 65 → ¬ j = 1 → mI m2 j = mI m j := fun j h1 h2 h3 h4 h5 => by
              rw [(K.1.1 j (by simp; omega)).1, s40_In h2, (F1.1 j h1).1, i0 j h5]
            have FL : ∀ j, j ∉ [38, 39] → ¬ j = 40 → ¬ j = 64 → ¬ j = 65 → mL m2 j = mL m j ∧ mT m2 j = mT m j := fun j h1 h2 h3 h4 => by
              refine ⟨?_, ?_⟩
              · rw [(K.1.1 j (by simp; omega)).2.2.1, s40_mL, (F1.1 j h1).2.2.1, ← hm0]; rfl
              · rw [(K.1.1 j (by simp; omega)).2.2.2, s40_mT, (F1.1 j h1).2.2.2, ← hm0]; rfl
            have I1 : mI m2 1 = lI [0, 0, 0, 0, 0, 0, mI m 1 6, mI m 1 7, mI m 1 8 + 1] := by
              rw [(K.1.1 1 (by simp)).1, s40_In (by decide), (F1.1 1 (by simp)).1, i1]
            have hsm : SamM m m2 := ⟨fun j hj => FA j (by simp; omega) (by omega) (by omega) (by omega), i40 3 (by omega) (by omega) (by omega), i40 7 (by omega) (by omega) (by omega), i40 26 (by omega) (by omega) (by omega), i40 27 (by omega) (by omega) (by omega)⟩
            have hq2 : mq m2 = mq m ∧ ml m2 = ml m := by
              refine ⟨?_, ?_⟩
              · rw [K.1.2.1, s40_mq, F1.2.1, ← hm0]; rfl
              · rw [K.1.2.2, s40_ml, F1.2.2, ← hm0]; rfl
            have hsc : SamC m m2 := by
              refine ⟨fun j hj => FA j (by simp; omega) (by omega) (by omega) (by omega), FI 2 (by simp) (by omega) (by omega) (by omega) (by omega), by rw [I1]; rfl, by rw [FI 32 (by simp) (by omega) (by omega) (by omega) (by omega)], by rw [FI 34 (by simp) (by omega) (by omega) (by omega) (by omega)], fun c hc => ?_, hq2.1, hq2.2, fun q hq => ⟨FI _ (by simp; omega) (by omega) (by omega) (by omega) (by omega), FA _ (by simp; omega) (by omega) (by omega) (by omega)⟩⟩
              exact ⟨FI _ (by simp; omega) (by omega) (by omega) (by omega) (by omega), FA _ (by simp; omega) (by omega) (by omega) (by omega), FA _ (by simp; omega) (by omega) (by omega) (by omega), FA _ (by simp; omega) (by omega) (by omega) (by omega), (FL _ (by simp; omega) (by omega) (by omega) (by omega)).1, (FL _ (by simp; omega) (by omega) (by omega) (by omega)).2⟩
            refine ⟨_, _, _, _, _, _, _, _, _, _, h.same hsm hsc ⟨y1, y2 + 1, hy1, by omega, ?_, ?_, ?_, ?_⟩ hL⟩
            · rw [I1]; exact c17
            · rw [i40 19 (by omega) (by omega) (by omega)]; exact c419
            · rw [I1]; show mI m 1 8 + 1 = _; rw [c18, nI_1]
            · rw [K.2 45 (by omega) (by omega), s40_I, ud_e, (F1.1 40 (by simp)).1, i0 40 (by decide), c445, nI_1]
