/-! ===== design: class and model ===== -/
theorem fDes_e {s z k T : Nat} (hs : s ≤ 1) (hz : 2 ≤ z) (hz2 : z ≤ 32) (hT : Told T k) : fDes (nI s) (fun j => nI (T / 100 ^ j % 100)) k (nI z) ↔ dsB s (dgT T) k z k = true := by
  obtain ⟨k1, k5, -, -, hB⟩ := hT
  have hB' : ∀ j, j < k → 2 ≤ dgT T j ∧ dgT T j ≤ 32 := hB
  have e1 : sFv (nI s) (fun j => nI (T / 100 ^ j % 100)) k = nI (rmN s (dgT T) k) := sFv_e hs hB' (fun j _ => rfl) k (Nat.le_refl k)
  have e2 : sStr (fun j => nI (T / 100 ^ j % 100)) k = nI (pdN (dgT T) k) := sStr_e (fun j _ => rfl) k (Nat.le_refl k)
  have hp := pd_b k5 (fun j hj => (hB' j hj).2) (Nat.le_refl k)
  have hr : rmN s (dgT T) k < 2 ^ 31 := by
    have : ∀ j, j ≤ k → rmN s (dgT T) j ≤ 32 * j := fun j => by
      induction j with
      | zero => intro _; exact Nat.le_refl 0
      | succ j ih =>
        intro hj
        have h1 := ih (by omega)
        have h2 := hB' j (by omega)
        have h3 : vo s (dgT T j) ≤ dgT T j := by
          unfold vo
          split
          · omega
          · split
            · omega
            · omega
        rw [rmN]; omega
    have := this k (Nat.le_refl k)
    omega
  unfold fDes fJust
  rw [e1, e2]
  have d : ∀ j, j < k → (nI (pdN (dgT T) k) / (if nI (T / 100 ^ j % 100) < 2 then 2 else nI (T / 100 ^ j % 100)) < nI z ↔ pdN (dgT T) k / dgT T j < z) := fun j hj => by
    have h2 := hB' j hj
    have e : (if nI (T / 100 ^ j % 100) < 2 then 2 else nI (T / 100 ^ j % 100)) = nI (dgT T j) := if_neg (nI_nlt (b := 2) h2.1 (show dgT T j < 2 ^ 31 by omega))
    rw [e, pk_div (by omega) (by omega) (by omega)]
    have : pdN (dgT T) k / dgT T j ≤ pdN (dgT T) k := Nat.div_le_self _ _
    exact nI_ltI (by omega) (by omega)
  have g1 : ¬ 64 < nI (rmN s (dgT T) k) ↔ rmN s (dgT T) k ≤ 64 := by
    rw [show (64 : Int32) = nI 64 from rfl, nI_ltI (by omega) hr]; omega
  have g2 : nI z ≤ nI (pdN (dgT T) k) ↔ z ≤ pdN (dgT T) k := nI_leI (by omega) (by omega)
  rw [g1, g2]
  constructor
  · rintro ⟨q1, q2, q3⟩
    exact ds_i ⟨k1, q2, q1⟩ k (fun j hj => (d j hj).mp (q3 j hj))
  · intro q
    have h0 := ds_0 k q
    exact ⟨h0.2.2, h0.2.1, fun j hj => (d j hj).mpr (ds_j k q j hj)⟩
theorem lN_inj {a b : Nat} (ha : a < 2 ^ 63) (hb : b < 2 ^ 63) (h : lN a = lN b) : a = b := (pk_lEQ ha hb).mp h
theorem q_design {m m1 m2 : Mm} {s b z : Nat → Nat} {B : Nat → Nat → Nat} {x k mk L u c : Nat} {S : Nat → Qn} {so r r' : Int32} {t : Int64} (h : RR m s b z B x k mk L u S) (hc4 : c < 4) (hc : rDsg m c (z c) so t r m1) (hm : rMdsg m1 c (z c) so t r' m2) : r = r' ∧ RM m2 := by
  have hz := h.z c hc4
  have sc : ∀ m m' : Mm, ∀ s b z : Nat → Nat, ∀ B : Nat → Nat → Nat, ∀ x k mk L u, ∀ S : Nat → Qn, RR m s b z B x k mk L u S → Fr [40, 54] m m' → (∃ k, mI m' 40 = upd (mI m 40) 16 k) → RM m' := fun m m' s b z B x k mk L u S h F e => by
    obtain ⟨w, e⟩ := e
    have q := F.sM (fun k hk => by simp at hk; omega) (by rw [e, ud_n (by decide)]) (by rw [e, ud_n (by decide)]) (by rw [e, ud_n (by decide)]) (by rw [e, ud_n (by decide)])
    exact ⟨_, _, _, _, _, _, _, _, _, _, h.same q.1 q.2 (h.2.2.2.2.2.2.1.f (by rw [(F.1 1 (by simp)).1]) (by rw [(F.1 1 (by simp)).1]) (by rw [e, ud_n (by decide)]) (by rw [e, ud_n (by decide)])) (by rw [(F.1 64 (by simp)).2.1]; exact h.2.2.2.2.2.2.2)⟩
  rcases hc with ⟨q, rfl, rfl⟩ | ⟨hs, T, T0, T1, rfl, w, hd, hq, hr⟩
  · rcases hm with ⟨rfl, F, e, _⟩ | ⟨s', T, k', hs', rfl, T0, T1, rfl, _⟩
    · exact ⟨rfl, sc _ _ _ _ _ _ _ _ _ _ _ _ h F e⟩
    · exfalso
      rcases q with q | q
      · apply q
        rcases (show s' = 0 ∨ s' = 1 by omega) with rfl | rfl
        · exact Or.inl rfl
        · exact Or.inr rfl
      · exact q ((pk_lLT (a := 0) (by omega) T1).mpr T0)
  · obtain ⟨s0, hs0, rfl⟩ : ∃ s0, s0 ≤ 1 ∧ so = nI s0 := by
      rcases hs with rfl | rfl
      · exact ⟨0, by omega, rfl⟩
      · exact ⟨1, by omega, rfl⟩
    rcases hd with ⟨k0, hT, hD, rfl, hR⟩ | ⟨hD, rfl, F0⟩
    · rw [fDes_e hs0 hz.1 hz.2 hT] at hD
      rcases hm with ⟨rfl, F, e, hn⟩ | ⟨s', T', k', hs', es, T0', T1', eT, hT', hD', rfl, hm⟩
      · exact absurd (hn s0 T k0 rfl hs0 rfl T1 hT) (by rw [hD]; decide)
      · have e1 := lN_inj T1 T1' eT
        subst e1
        have e2 := Told_one hT hT'
        subst e2
        have e3 : s0 = s' := (nI_eq (by omega) (by omega)).mp es
        subst e3
        rw [if_neg (by decide)] at hr
        obtain ⟨f1, a9, a0, a1, a2, aT, aS, aL⟩ := hR
        obtain ⟨f2, b40, b50, b52, b51, b53⟩ := hm
        have hA : ∀ j, ¬ (8 + 6 * c ≤ j ∧ j ≤ 13 + 6 * c) → mA m1 j = mA m j := fun j hj => (f1.1 j (by simp; omega)).2.1
        have hB : ∀ j, j < k0 → 2 ≤ dgT T j ∧ dgT T j ≤ 32 := hT.2.2.2.2
        have tC : mI m2 (8 + 6 * c) = mI m1 (8 + 6 * c) := (f2.1 _ (by simp; omega)).1
        have y9 : mA m2 (9 + 6 * c) = mA m1 (9 + 6 * c) := (f2.1 _ (by simp; omega)).2.1
        have y11 : mA m2 (11 + 6 * c) = mA m1 (11 + 6 * c) := (f2.1 _ (by simp; omega)).2.1
        have y12 : mA m2 (12 + 6 * c) = mA m1 (12 + 6 * c) := (f2.1 _ (by simp; omega)).2.1
        have y13 : mL m2 (13 + 6 * c) = mL m1 (13 + 6 * c) := (f2.1 _ (by simp; omega)).2.2.1
        have yT : mT m2 (8 + 6 * c) = mT m1 (8 + 6 * c) := (f2.1 _ (by simp; omega)).2.2.2
        have t53 : mA m2 53 = cpF (mA m 53) (fun _ => 0) (64 * c) 0 64 := by rw [b53, hA 53 (by omega)]
        have t41 : mA m2 41 = mA m 41 := by rw [(f2.1 41 (by simp)).2.1, hA 41 (by omega)]
        have k5 := hT.2.1
        have hcol : RCol m2 c s0 k0 (z c) (dgT T) := by
          refine RCol.new hc4 hs0 k5 hz.1 hz.2 hB (by rw [b50, ud_e]) (by rw [b52, ud_e]) (by rw [t41]; exact (h.sz c hc4).2) (fun j hj => ?_) hD (by rw [tC]; exact a0) (by rw [tC]; exact a1) (by rw [tC]; exact a2) (fun j hj => ?_) ?_ (fun v hv => ?_) (by rw [yT]; exact aT) (fun v hv => ?_) ?_
          · rw [b51]; unfold cpF; rw [if_pos (by omega)]; congr 2; omega
          · rw [y9, a9 j hj, sA_e]; rfl
          · unfold Stl; rw [tC, y9, y11, y12]; exact aS
          · rw [y13, cSl_cong (m := m1) (m' := m2) (by rw [tC]) y9 y11 y12]; exact aL v hv
          · rw [t53]; unfold cpF; rw [if_pos (by omega)]
          · rw [t53]; exact bl_cp (h.2.2.2.1 c hc4).2.2.2.2.2.2.2.2.2.2.2 (fun _ => Or.inl rfl)
        have ez : cg1 z c (z c) = z := by
          funext j
          unfold cg1
          split
          · rename_i e; rw [e]
          · rfl
        have fA : ∀ j, ¬ (8 + 6 * c ≤ j ∧ j ≤ 13 + 6 * c) → j ∉ [40, 50, 51, 52, 53, 54] → mA m2 j = mA m j := fun j hj hj2 => by rw [(f2.1 j hj2).2.1, hA j hj]
        have x2 : mI m2 2 = mI m 2 := by rw [(f2.1 2 (by simp)).1, (f1.1 2 (by simp; omega)).1]
        have x40 : ∀ j, ¬ j = 16 → mI m2 40 j = mI m 40 j := fun j hj => by rw [b40, ud_n hj, (f1.1 40 (by simp; omega)).1]
        refine ⟨?_, ?_⟩
        · rw [hr, ← tC]; exact room_e hcol
        · have F : Fr [2, 8 + 6 * c, 9 + 6 * c, 10 + 6 * c, 11 + 6 * c, 12 + 6 * c, 13 + 6 * c, 40, 41, 50, 51, 52, 53, 54] m m2 := (f1.wd (fun j hj => by simp at hj ⊢; omega)).tr (f2.wd (fun j hj => by simp at hj ⊢; omega))
          refine ⟨_, _, _, _, _, _, _, _, _, _, h.col hc4 (z' := z c) (x' := x) (k' := k) (mk' := mk) ?_ ?_ ?_ hcol F (fun j _ j16 => x40 j j16) (fun j _ => by rw [t41]) (fun j hj => by rw [b50, ud_n hj, hA 50 (by omega)]) (fun j hj => by rw [b52, ud_n hj, hA 52 (by omega)]) (fun j hj => ?_) (fun j hj => by rw [t53]; unfold cpF; rw [if_neg (by omega)])⟩
          · rw [ez]; exact h.1.f (fA 3 (by omega) (by simp)) (fA 43 (by omega) (by simp)) (fA 42 (by omega) (by simp)) (by rw [x2])
          · rw [ez]; exact h.2.1.f (by rw [x2]) (by rw [x2]) (x40 3 (by decide)) (fA 4 (by omega) (by simp)) (fA 5 (by omega) (by simp)) (fA 44 (by omega) (by simp)) (fA 45 (by omega) (by simp)) (fA 46 (by omega) (by simp))
          · rw [ez]; exact h.2.2.1.f (by rw [x2]) (x40 7 (by decide)) (fA 6 (by omega) (by simp)) (fA 47 (by omega) (by simp)) (fA 48 (by omega) (by simp))
          · rw [b51]; unfold cpF; rw [if_neg (by omega), hA 51 (by omega)]
    · rw [if_pos rfl] at hr
      have q := F0.sC (fun k hk => by simp at hk; omega)
      have h1 := h.same q.1 q.2 (h.2.2.2.2.2.2.1.f (by rw [(F0.1 1 (by simp; omega)).1]) (by rw [(F0.1 1 (by simp; omega)).1]) (by rw [(F0.1 40 (by simp; omega)).1]) (by rw [(F0.1 40 (by simp; omega)).1])) (by rw [(F0.1 64 (by simp; omega)).2.1]; exact h.2.2.2.2.2.2.2)
      rcases hm with ⟨rfl, F, e, _⟩ | ⟨s', T', k', hs', es, T0', T1', eT, hT', hD', _⟩
      · exact ⟨hr, sc _ _ _ _ _ _ _ _ _ _ _ _ h1 F e⟩
      · exfalso
        have e1 := lN_inj T1 T1' eT
        subst e1
        have e3 : s0 = s' := (nI_eq (by omega) (by omega)).mp es
        subst e3
        exact hD k' hT' ((fDes_e hs0 hz.1 hz.2 hT').mpr hD')
