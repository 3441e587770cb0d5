/-! ===== best: class and model ===== -/
def Wd (s w : Nat) : Vs := fun s' k' _ => s' < s ∨ (s' = s ∧ k' < w)
theorem sk_inv {z R e l s : Nat} (hz2 : 2 ≤ z) (hz : z ≤ 32) (hR : R ≤ 64) (he : e ≤ 9) (hl : l ≤ 9) (hs : s ≤ 1) : ∀ (t w : Nat) (st : Sb), t + w = 6 → 1 ≤ w → CI z R e l (Wd s w) st → CI z R e l (Wd s 6) (skW z (nI R) (nI e) (nI l) (nI s) t w st) := by
  intro t
  induction t with
  | zero =>
    intro w st hw h1 h
    have : w = 6 := by omega
    subst this
    exact h
  | succ t ih =>
    intro w st hw h1 h
    rw [skW]
    refine ih (w + 1) _ (by omega) (by omega) ?_
    have h2 := ex_inv (s := s) (w := w) hz2 hz hR he hl hs (by omega) 5 0 (fun _ => 0) st rfl (by omega) (fun j hj => absurd hj (Nat.not_lt_zero j)) (by show 1 < z; omega) (fun j hj => absurd hj (Nat.not_lt_zero j)) (h.sub (fun s' k' B' o' => by
      unfold Wd Vb bef
      constructor
      · rintro (q | ⟨q, p⟩)
        · exact Or.inl q
        · exact Or.inr ⟨q, Or.inl p⟩
      · rintro (q | ⟨q, (p | ⟨p, j, hj, _, (h1 | ⟨_, h2⟩)⟩)⟩)
        · exact Or.inl q
        · exact Or.inr ⟨q, p⟩
        · omega
        · have := (o'.2.2.2.1 0 o'.2.1).1; omega))
    refine h2.1.sub (fun s' k' B' o' => ?_)
    unfold Wd Vb bef
    constructor
    · rintro (q | ⟨q, (p | ⟨p, _⟩)⟩)
      · exact Or.inl q
      · exact Or.inr ⟨q, by omega⟩
      · exact Or.inr ⟨q, by omega⟩
    · rintro (q | ⟨q, p⟩)
      · exact Or.inl q
      · by_cases e : k' = w
        · refine Or.inr ⟨q, Or.inr ⟨e, 0, Nat.le_refl 0, fun i hi => absurd hi (Nat.not_lt_zero i), Or.inr ⟨rfl, ?_⟩⟩⟩
          have := (o'.2.2.2.1 0 o'.2.1).2; omega
        · exact Or.inr ⟨q, Or.inl (by omega)⟩
theorem skF_inv {z R e l : Nat} {st : Sb} (hz2 : 2 ≤ z) (hz : z ≤ 32) (hR : R ≤ 64) (he : e ≤ 9) (hl : l ≤ 9) (h0 : st.1 = 0) : CI z R e l (fun _ _ _ => True) (skF z (nI R) (nI e) (nI l) st) := by
  have a1 : CI z R e l (Wd 0 1) st := Or.inl ⟨h0, fun s' k' B' o' v => by
    have := o'.2.1
    rcases v with v | ⟨_, v⟩ <;> omega⟩
  have a2 := sk_inv (s := 0) hz2 hz hR he hl (by omega) 5 1 st rfl (by omega) a1
  have a3 : CI z R e l (Wd 1 1) (skW z (nI R) (nI e) (nI l) (nI 0) 5 1 st) := a2.sub (fun s' k' B' o' => by
    have h1 := o'.2.1
    have h2 := o'.2.2.1
    have h3 := o'.1
    unfold Wd
    omega)
  refine (sk_inv (s := 1) hz2 hz hR he hl (by omega) 5 1 _ rfl (by omega) a3).sub (fun s' k' B' o' => ?_)
  have h2 := o'.2.2.1
  have h3 := o'.1
  unfold Wd
  refine ⟨fun _ => trivial, fun _ => by omega⟩
theorem wgt_n {e : Int32} (h : wgt e) : ∃ n, n ≤ 9 ∧ e = nI n := nI_of2 (M := 9) (n := 9) rfl h.1 h.2
theorem q_best {m m1 m2 : Mm} {s b z : Nat → Nat} {B : Nat → Nat → Nat} {x k mk L u c : Nat} {S : Nat → Qn} {R e l w r r' : Int32} (h : RR m s b z B x k mk L u S) (hc4 : c < 4) (hok : okB R e l w) (hc : rBest m (z c) R e l w r m1) (hm : rMbest m1 (z c) R e l w r' m2) : r = r' ∧ RM m2 := by
  have hz := h.z c hc4
  obtain ⟨y1, y2, hy1, hy2, c17, c419, c18, c445⟩ := h.2.2.2.2.2.2.1
  obtain ⟨hR1, hR2, hwe, hwl, -⟩ := hok
  obtain ⟨e', he', rfl⟩ := wgt_n hwe
  obtain ⟨l', hl', rfl⟩ := wgt_n hwl
  rcases hc with ⟨q, rfl, rfl⟩ | ⟨q, ⟨F1, hg⟩, rfl⟩
  · have hx : y1 = 30 := by
      rcases Nat.lt_or_ge y1 30 with p | p
      · exfalso; apply q; rw [c17]; exact nI_lt (b := 30) p (by omega)
      · omega
    subst hx
    rcases hm with ⟨_, rfl, rfl⟩ | ⟨p, _⟩
    · exact ⟨rfl, _, _, _, _, _, _, _, _, _, _, h⟩
    · exact absurd c419 p
  · have hx : y1 < 30 := by rw [c17] at q; exact (nI_ltI (b := 30) (by omega) (by omega)).mp q
    generalize hm0 : sI m 1 [0, 0, 0, 0, 0, 0, mI m 1 6, mI m 1 7 + 1, mI m 1 8] = m0 at F1 hg
    have i0 : ∀ j, ¬ j = 1 → mI m0 j = mI m j := fun j hj => by rw [← hm0, mI_sI, va_up_ne _ _ hj]
    have i1 : mI m0 1 = lI [0, 0, 0, 0, 0, 0, mI m 1 6, mI m 1 7 + 1, mI m 1 8] := by rw [← hm0, mI_sI, va_up_self]
    have F0 : Fr [1] m m0 := by rw [← hm0]; exact Fr.sI Fr.rf (by simp)
    have e419 : mI m1 40 19 = nI y1 := by rw [(F1.1 40 (by simp)).1, i0 40 (by decide)]; exact c419
    rcases hm with ⟨p, _⟩ | ⟨_, R', hR', rfl, hk, hgb, rfl⟩
    · rw [e419] at p
      have := (nI_eq (b := 30) (by omega) (by omega)).mp p
      omega
    · have hci := skF_inv (R := R') (st := (0, mI m0 35 1, mI m0 35 2, mI m0 35 3, mI m0 35 4, mA m0 36, mA m0 37)) hz.1 hz.2 hR' he' hl' rfl
      have hmi := fbA_inv (z := z c) (R := R') (b := gB m1) hz.2 hR' he' hl'
      rw [← hg] at hci
      rw [← hgb] at hmi
      refine ⟨?_, ?_⟩
      · rcases hci with ⟨h0, hn⟩ | ⟨h0, s1, k1, B1, a1, -, a3, a4, a5, a6, a7, a8⟩
        · rcases hmi with ⟨g0, _⟩ | ⟨s2, k2, B2, b1, b2, _⟩
          · unfold bsI bsJ
            rw [if_pos (show mI m1 35 0 = 0 from h0), if_pos g0]
          · exact absurd b2 (hn _ _ _ b1)
        · rcases hmi with ⟨_, hn⟩ | ⟨s2, k2, B2, b1, -, b3, b4, b5, b6, b7, b8⟩
          · exact absurd trivial (hn _ _ _ a1)
          · obtain ⟨d1, d2, d3, d4, d5⟩ := blt_an (b8 _ _ _ a1 trivial) (a8 _ _ _ b1 trivial)
            have cb := cN_le (s := s2) (B := B2) hz.2 he' hl' b1.2.2.1
            subst d3; subst d4
            have a0' : mI m1 35 0 = 1 := h0
            have a3' : mI m1 35 1 = nI (cN (z c) e' l' s1 B1 k1) := a3
            have a4' : mI m1 35 2 = nI (rmN s1 B1 k1) := a4
            have a5' : mI m1 35 3 = nI s1 := a5
            have a6' : mI m1 35 4 = nI k1 := a6
            have a7' : ∀ j, j < k1 → mA m1 36 j = nI (B1 j) := a7
            unfold bsI bsJ
            rw [a0', a3', a4', a5', a6', b3, b4, b5, b6, if_neg (by decide), if_neg (nI_nm (by omega)), d1, d2]
            have hk5 := a1.2.2.1
            have e5 : bsN (mA m1 36) (nI k1) (w.toNatClampNeg - 10) = bsN (gB m2).2.2.2.2 (nI k1) (w.toNatClampNeg - 10) := by
              unfold bsN
              by_cases p : nI k1 ≤ nI (w.toNatClampNeg - 10)
              · rw [if_pos p, if_pos p]
              · rw [if_neg p, if_neg p]
                have hw : w.toNatClampNeg < 2 ^ 31 := by
                  have := w.toInt_lt
                  have e : w.toNatClampNeg = w.toInt.toNat := rfl
                  omega
                have : w.toNatClampNeg - 10 < k1 := by
                  rw [nI_leI (by omega) (by omega)] at p; omega
                rw [a7' _ this, b7 _ this, d5 _ this]
            rw [e5]
      · have i40 : ∀ j, ¬ (j = 16 ∨ (20 ≤ j ∧ j ≤ 23)) → ¬ j = 19 → mI m2 40 j = mI m 40 j := fun j h1 h2 => by
          rw [hk.2 j h1, s40_I, ud_n h2, (F1.1 40 (by simp)).1, i0 40 (by decide)]
        have FA : ∀ j, j ∉ [35, 36, 37] → ¬ j = 40 → ¬ j = 54 → ¬ j = 55 → mA m2 j = mA m j := fun j h1 h2 h3 h4 => by
          rw [(hk.1.1 j (by simp; omega)).2.1, s40_mA, (F1.1 j h1).2.1, ← hm0]; rfl
        have FI : ∀ j, j ∉ [35, 36, 37] → ¬ j = 40 → ¬ j = 54 → ¬ j = 55 → ¬ j = 1 → mI m2 j = mI m j := fun j h1 h2 h3 h4 h5 => by
          rw [(hk.1.1 j (by simp; omega)).1, s40_In h2, (F1.1 j h1).1, i0 j h5]
        have FL : ∀ j, j ∉ [35, 36, 37] → ¬ j = 40 → ¬ j = 54 → ¬ j = 55 → mL m2 j = mL m j ∧ mT m2 j = mT m j := fun j h1 h2 h3 h4 => by
          refine ⟨?_, ?_⟩
          · rw [(hk.1.1 j (by simp; omega)).2.2.1, s40_mL, (F1.1 j h1).2.2.1, ← hm0]; rfl
          · rw [(hk.1.1 j (by simp; omega)).2.2.2, s40_mT, (F1.1 j h1).2.2.2, ← hm0]; rfl
        have I1 : mI m2 1 = lI [0, 0, 0, 0, 0, 0, mI m 1 6, mI m 1 7 + 1, mI m 1 8] := by
          rw [(hk.1.1 1 (by simp)).1, s40_In (by decide), (F1.1 1 (by simp)).1, i1]
        have hsm : SamM m m2 := ⟨fun j hj => FA j (by simp; omega) (by omega) (by omega) (by omega), i40 3 (by omega) (by omega), i40 7 (by omega) (by omega), i40 26 (by omega) (by omega), i40 27 (by omega) (by omega)⟩
        have hq2 : mq m2 = mq m ∧ ml m2 = ml m := by
          refine ⟨?_, ?_⟩
          · rw [hk.1.2.1, s40_mq, F1.2.1, ← hm0]; rfl
          · rw [hk.1.2.2, s40_ml, F1.2.2, ← hm0]; rfl
        have hsc : SamC m m2 := by
          refine ⟨fun j hj => FA j (by simp; omega) (by omega) (by omega) (by omega), FI 2 (by simp) (by omega) (by omega) (by omega) (by omega), by rw [I1]; rfl, by rw [FI 32 (by simp) (by omega) (by omega) (by omega) (by omega)], by rw [FI 34 (by simp) (by omega) (by omega) (by omega) (by omega)], fun c hc => ?_, hq2.1, hq2.2, fun q hq => ⟨FI _ (by simp; omega) (by omega) (by omega) (by omega) (by omega), FA _ (by simp; omega) (by omega) (by omega) (by omega)⟩⟩
          exact ⟨FI _ (by simp; omega) (by omega) (by omega) (by omega) (by omega), FA _ (by simp; omega) (by omega) (by omega) (by omega), FA _ (by simp; omega) (by omega) (by omega) (by omega), FA _ (by simp; omega) (by omega) (by omega) (by omega), (FL _ (by simp; omega) (by omega) (by omega) (by omega)).1, (FL _ (by simp; omega) (by omega) (by omega) (by omega)).2⟩
        refine ⟨_, _, _, _, _, _, _, _, _, _, h.same hsm hsc ⟨y1 + 1, y2, by omega, hy2, ?_, ?_, ?_, ?_⟩ ?_⟩
        · rw [I1]; show mI m 1 7 + 1 = _; rw [c17, nI_1]
        · rw [hk.2 19 (by omega), s40_I, ud_e, (F1.1 40 (by simp)).1, i0 40 (by decide), c419, nI_1]
        · rw [I1]; exact c18
        · rw [i40 45 (by omega) (by omega)]; exact c445
        · rw [FA 64 (by simp) (by omega) (by omega) (by omega)]; exact h.2.2.2.2.2.2.2
