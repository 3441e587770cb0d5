/-! ===== size, design: class and model ===== -/
theorem ds_0 {s : Nat} {B : Nat → Nat} {k z : Nat} : ∀ i, dsB s B k z i = true → 0 < k ∧ z ≤ pdN B k ∧ rmN s B k ≤ 64
  | 0, h => of_decide_eq_true h
  | i + 1, h => by
    rw [dsB, Bool.and_eq_true] at h
    exact ds_0 i h.1
theorem ds_j {s : Nat} {B : Nat → Nat} {k z : Nat} : ∀ i, dsB s B k z i = true → ∀ j, j < i → pdN B k / B j < z
  | 0, _, j, hj => absurd hj (Nat.not_lt_zero j)
  | i + 1, h, j, hj => by
    rw [dsB, Bool.and_eq_true] at h
    by_cases e : j = i
    · subst e; exact of_decide_eq_true h.2
    · exact ds_j i h.1 j (by omega)
theorem ds_i {s : Nat} {B : Nat → Nat} {k z : Nat} (h : 0 < k ∧ z ≤ pdN B k ∧ rmN s B k ≤ 64) : ∀ i, (∀ j, j < i → pdN B k / B j < z) → dsB s B k z i = true
  | 0, _ => decide_eq_true h
  | i + 1, hj => by
    rw [dsB, ds_i h i (fun j q => hj j (by omega)), decide_eq_true (hj i (by omega))]; rfl
theorem RCol.new {m : Mm} {c s b z : Nat} {B : Nat → Nat} (hc : c < 4) (hs : s ≤ 1) (hb : b ≤ 5) (hz : 2 ≤ z) (hz2 : z ≤ 32) (hB : ∀ j, j < b → 2 ≤ B j ∧ B j ≤ 32) (e50 : mA m 50 c = nI s) (e52 : mA m 52 c = nI b) (e41 : mA m 41 c = nI z) (e51 : ∀ j, j < b → mA m 51 (6 * c + j) = nI (B j)) (hd : dsB s B b z b = true) (i0 : mI m (8 + 6 * c) 0 = nI z) (i1 : mI m (8 + 6 * c) 1 = nI s) (i2 : mI m (8 + 6 * c) 2 = nI b) (hA : ∀ j, j < b → mA m (9 + 6 * c) j = nI (B j)) (hS : Stl m c b) (hL : ∀ v, v < z → mL m (13 + 6 * c) v = cSl m c (nI v) b) (hT : mT m (8 + 6 * c) = 0) (h53 : ∀ v, v < 64 → mA m 53 (64 * c + v) = 0) (hbl : ∀ j, bl01 (mA m 53 j)) : RCol m c s b z B := by
  have h0 := ds_0 b hd
  have ht : ∀ v, v < 64 → trB m c v = false := fun v hv => trB_f (h53 v hv)
  exact ⟨⟨hc, hs, h0.1, hb, hz, hz2, hB, e50, e52, e41, e51⟩, h0.2.2, hd, i0, i1, i2, hA, hS, hL, by rw [hT, mk_0 ht], fun v hv _ => ht v hv, hbl⟩
theorem RCol.p {m m' : Mm} {c s b z : Nat} {B : Nat → Nat} (h : RCol m c s b z B) (eI : mI m' (8 + 6 * c) = mI m (8 + 6 * c)) (e9 : mA m' (9 + 6 * c) = mA m (9 + 6 * c)) (e11 : mA m' (11 + 6 * c) = mA m (11 + 6 * c)) (e12 : mA m' (12 + 6 * c) = mA m (12 + 6 * c)) (e13 : mL m' (13 + 6 * c) = mL m (13 + 6 * c)) (eT : mT m' (8 + 6 * c) = mT m (8 + 6 * c)) (e41 : mA m' 41 c = mA m 41 c) (e50 : mA m' 50 c = mA m 50 c) (e51 : ∀ j, j < 6 → mA m' 51 (6 * c + j) = mA m 51 (6 * c + j)) (e52 : mA m' 52 c = mA m 52 c) (e53 : ∀ v, v < 64 → mA m' 53 (64 * c + v) = mA m 53 (64 * c + v)) (hbl : ∀ j, bl01 (mA m' 53 j)) : RCol m' c s b z B := by
  have ht : ∀ v, v < 64 → trB m' c v = trB m c v := fun v hv => by unfold trB; rw [e53 v hv]
  have hmk : mkm (trB m' c) 64 = mkm (trB m c) 64 := by
    rw [mkm_N 64 (by omega), mkm_N 64 (by omega)]
    congr 1
    apply Nat.eq_of_testBit_eq
    intro i
    rw [mkN_bit, mkN_bit]
    by_cases hi : i < 64
    · rw [ht i hi]
    · rw [decide_eq_false hi, Bool.false_and, Bool.false_and]
  obtain ⟨⟨a1, a2, a3, a4, a5, a6, a7, g50, g52, g41, g51⟩, h2, h3, h4, h5, h6, h7, h8, h9, h10, h11, h12⟩ := h
  refine ⟨⟨a1, a2, a3, a4, a5, a6, a7, by rw [e50]; exact g50, by rw [e52]; exact g52, by rw [e41]; exact g41, fun j hj => by rw [e51 j (by omega)]; exact g51 j hj⟩, h2, h3, by rw [eI]; exact h4, by rw [eI]; exact h5, by rw [eI]; exact h6, by rw [e9]; exact h7, ?_, fun v hv => ?_, by rw [eT, hmk]; exact h10, fun v hv hr => by rw [ht v hv]; exact h11 v hv hr, hbl⟩
  · unfold Stl; rw [eI, e9, e11, e12]; exact h8
  · rw [e13, cSl_cong (m := m) (m' := m') (by rw [eI]) e9 e11 e12]; exact h9 v hv
def cg1 (f : Nat → Nat) (c x : Nat) : Nat → Nat := fun j => if j = c then x else f j
def cgB (f : Nat → Nat → Nat) (c : Nat) (x : Nat → Nat) : Nat → Nat → Nat := fun j => if j = c then x else f j
theorem RR.col {m m' : Mm} {s b z : Nat → Nat} {B : Nat → Nat → Nat} {x k mk L u x' k' mk' c s' b' z' : Nat} {B' : Nat → Nat} {S : Nat → Qn} (h : RR m s b z B x k mk L u S) (hc : c < 4) (hR : RRows m' (cg1 z c z')) (hC : RChg m' (cg1 z c z') x' k') (hM : RMrk m' (cg1 z c z') mk') (hcol : RCol m' c s' b' z' B') (F : Fr [2, 8 + 6 * c, 9 + 6 * c, 10 + 6 * c, 11 + 6 * c, 12 + 6 * c, 13 + 6 * c, 40, 41, 50, 51, 52, 53, 54] m m') (e40 : ∀ j, ¬ j = 3 → ¬ j = 16 → mI m' 40 j = mI m 40 j) (e41 : ∀ j, ¬ j = c → mA m' 41 j = mA m 41 j) (e50 : ∀ j, ¬ j = c → mA m' 50 j = mA m 50 j) (e52 : ∀ j, ¬ j = c → mA m' 52 j = mA m 52 j) (e51 : ∀ j, ¬ j / 6 = c → mA m' 51 j = mA m 51 j) (e53 : ∀ j, ¬ j / 64 = c → mA m' 53 j = mA m 53 j) : RR m' (cg1 s c s') (cg1 b c b') (cg1 z c z') (cgB B c B') x' k' mk' L u S := by
  obtain ⟨-, -, -, h4, h5, h6, h7, h8⟩ := h
  have fI : ∀ j, j ∉ [2, 8 + 6 * c, 9 + 6 * c, 10 + 6 * c, 11 + 6 * c, 12 + 6 * c, 13 + 6 * c, 40, 41, 50, 51, 52, 53, 54] → mI m' j = mI m j := fun j hj => (F.1 j hj).1
  have fA : ∀ j, j ∉ [2, 8 + 6 * c, 9 + 6 * c, 10 + 6 * c, 11 + 6 * c, 12 + 6 * c, 13 + 6 * c, 40, 41, 50, 51, 52, 53, 54] → mA m' j = mA m j := fun j hj => (F.1 j hj).2.1
  refine ⟨hR, hC, hM, fun j hj => ?_, h5.f (by rw [fI 32 (by simp; omega)]) (e40 26 (by decide) (by decide)) (fA 33 (by simp; omega)) (fA 56 (by simp; omega)), ?_, ?_, ?_⟩
  · by_cases e : j = c
    · subst e
      unfold cg1 cgB
      rw [if_pos rfl, if_pos rfl, if_pos rfl, if_pos rfl]; exact hcol
    · unfold cg1 cgB
      rw [if_neg e, if_neg e, if_neg e, if_neg e]
      exact (h4 j hj).p (fI _ (by simp; omega)) (fA _ (by simp; omega)) (fA _ (by simp; omega)) (fA _ (by simp; omega)) ((F.1 _ (by simp; omega)).2.2.1) ((F.1 _ (by simp; omega)).2.2.2) (e41 j e) (e50 j e) (fun a ha => e51 _ (by omega)) (e52 j e) (fun v hv => e53 _ (by omega)) hcol.2.2.2.2.2.2.2.2.2.2.2
  · exact h6.f F.2.1 F.2.2 (by rw [fI 1 (by simp; omega)]) (by rw [fI 34 (by simp; omega)]) (e40 27 (by decide) (by decide)) (fA 57 (by simp; omega)) (fA 58 (by simp; omega)) (fA 59 (by simp; omega)) (fun q hq => fI _ (by simp; omega)) (fun q hq => fA _ (by simp; omega))
  · exact h7.f (by rw [fI 1 (by simp; omega)]) (by rw [fI 1 (by simp; omega)]) (e40 19 (by decide) (by decide)) (e40 45 (by decide) (by decide))
  · rw [fA 64 (by simp; omega)]; exact h8
theorem cnR_0 {g : Nat → Int32} : ∀ n, cnR g n = 0 → ∀ i, i < n → g i = -1
  | 0, _, i, hi => absurd hi (Nat.not_lt_zero i)
  | n + 1, h, i, hi => by
    rw [cnR_s] at h
    by_cases q : g n = -1
    · rw [if_pos q] at h
      by_cases e : i = n
      · subst e; exact q
      · exact cnR_0 n (by omega) i (by omega)
    · rw [if_neg q] at h; omega
theorem q_size {m m1 m2 : Mm} {s b z : Nat → Nat} {B : Nat → Nat → Nat} {x k mk L u c : Nat} {S : Nat → Qn} {v r r' : Int32} (h : RR m s b z B x k mk L u S) (hc4 : c < 4) (hc : rSize m (nI c) v r m1) (hm : rMsize m1 c v r' m2) : r = r' ∧ RM m2 := by
  have hz := h.z
  have hR := h.1
  have hcr := cn_e hz hR 64 (by omega)
  have n4 := nI_4 hc4
  rcases hc with ⟨q, _⟩ | ⟨i, hi, ei, hc⟩
  · rcases q with q | q
    · exact absurd q n4.1
    · exact absurd q n4.2
  have e := (nI_eq (by omega) (by omega)).mp ei
  subst e
  rcases hc with ⟨q, rfl, rfl⟩ | ⟨w, w2, w32, rfl, hc⟩
  · rcases hm with ⟨_, rfl, rfl⟩ | ⟨q1, q2, _⟩
    · exact ⟨rfl, _, _, _, _, _, _, _, _, _, _, h⟩
    · rcases q with q | q
      · exact absurd q q1
      · exact absurd q q2
  have q1 : ¬ nI w < 2 := nI_nlt (b := 2) w2 (by omega)
  have q2 : ¬ 32 < nI w := nI_nlt (a := 32) w32 (by omega)
  have k24 : mI m 2 4 = mrw (mA m 43) 64 := by rw [hR.2.2.2, hcr]
  have k27 : mI m 2 7 = mI m 40 7 := by rw [h.2.2.1.2.1, h.2.2.1.2.2.1]
  rcases hc with ⟨q, rfl, rfl⟩ | ⟨g1, g2, rfl, m', hc, rfl⟩
  · rw [k24, k27] at q
    rcases hm with ⟨q', _⟩ | ⟨_, _, hm⟩
    · rcases q' with q' | q'
      · exact absurd q' q1
      · exact absurd q' q2
    · rcases hm with ⟨_, rfl, rfl⟩ | ⟨p1, p2, _⟩
      · exact ⟨rfl, _, _, _, _, _, _, _, _, _, _, h⟩
      · rcases q with q | q
        · exact absurd q p1
        · exact absurd q p2
  · obtain ⟨f1, a9, a0, a1, a2, aT, aS, aL⟩ := hc
    have fA : ∀ j, 32 ≤ j ∨ j < 8 → mA m' j = mA m j := fun j hj => (f1.1 j (by simp; omega)).2.1
    have fI : ∀ j, 32 ≤ j ∨ j < 8 → mI m' j = mI m j := fun j hj => (f1.1 j (by simp; omega)).1
    have e41 : mA m' 41 = mA m 41 := fA 41 (by omega)
    have e43 : mA m' 43 = mA m 43 := fA 43 (by omega)
    have e40 : mI m' 40 = mI m 40 := fI 40 (by omega)
    have s43 : mA (sI m' 2 [0, 0, 0, 0, mI m' 2 4, mI m' 2 5, 0, mI m' 2 7]) 43 = mA m 43 := e43
    have s41 : mA (sI m' 2 [0, 0, 0, 0, mI m' 2 4, mI m' 2 5, 0, mI m' 2 7]) 41 = mA m 41 := e41
    have s40' : mI (sI m' 2 [0, 0, 0, 0, mI m' 2 4, mI m' 2 5, 0, mI m' 2 7]) 40 = mI m 40 := by rw [mI_sI, va_up_ne _ _ (by decide), e40]
    rcases hm with ⟨q', _⟩ | ⟨_, _, hm⟩
    · rcases q' with q' | q'
      · exact absurd q' q1
      · exact absurd q' q2
    rw [s43, s41, s40', ← k24, ← k27] at hm
    rcases hm with ⟨q, _⟩ | ⟨_, _, rfl, hu⟩
    · rcases q with q | q
      · exact absurd q g1
      · exact absurd q g2
    refine ⟨?_, ?_⟩
    · rw [(h.sz c hc4).1, (h.sz c hc4).2]
    generalize hmm : sI m' 2 [0, 0, 0, 0, mI m' 2 4, mI m' 2 5, 0, mI m' 2 7] = mm at hu
    obtain ⟨f2, u53⟩ := hu
    have hcn : cnR (mA m 3) 64 = 0 := by
      rcases Nat.eq_zero_or_pos (cnR (mA m 3) 64) with q | q
      · exact q
      · exfalso; apply g1
        have := cnR_le (mA m 3) 64
        rw [hR.2.2.2]; exact nI_lt (a := 0) q (by omega)
    have hmk : mk = 0 := by
      rcases Nat.eq_zero_or_pos mk with q | q
      · exact q
      · exfalso; apply g2
        have := h.2.2.1.1
        rw [h.2.2.1.2.1]; exact nI_lt (a := 0) q (by omega)
    subst hmk
    have tA : ∀ j, ¬ j = 41 → ¬ j = 50 → ¬ j = 51 → ¬ j = 52 → ¬ j = 53 → mA m2 j = mA m' j := fun j j1 j2 j3 j4 j5 => by
      rw [(f2.1 j (by simp; omega)).2.1]
      unfold szM
      rw [sA_n j3, sA_n j4, sA_n j2, sA_n j1, s40_mA, ← hmm, mA_sI]
    have t41 : mA m2 41 = upd (mA m 41) c (nI w) := by
      rw [(f2.1 41 (by simp)).2.1]
      unfold szM
      rw [sA_n (by decide), sA_n (by decide), sA_n (by decide), sA_e, ← hmm, s41]
    have t50 : mA m2 50 = upd (mA m 50) c 0 := by
      rw [(f2.1 50 (by simp)).2.1]
      unfold szM
      rw [sA_n (by decide), sA_n (by decide), sA_e, ← hmm]
      show upd (mA m' 50) c 0 = _
      rw [fA 50 (by omega)]
    have t52 : mA m2 52 = upd (mA m 52) c 1 := by
      rw [(f2.1 52 (by simp)).2.1]
      unfold szM
      rw [sA_n (by decide), sA_e, ← hmm]
      show upd (mA m' 52) c 1 = _
      rw [fA 52 (by omega)]
    have t51 : mA m2 51 = upd (mA m 51) (6 * c) (nI w) := by
      rw [(f2.1 51 (by simp)).2.1]
      unfold szM
      rw [sA_e, ← hmm]
      show upd (mA m' 51) (6 * c) (nI w) = _
      rw [fA 51 (by omega)]
    have t53 : mA m2 53 = cpF (mA m 53) (fun _ => 0) (64 * c) 0 64 := by
      rw [u53]
      have : mA (szM mm c (nI w)) 53 = mA m 53 := by
        unfold szM
        rw [sA_n (by decide), sA_n (by decide), sA_n (by decide), sA_n (by decide), s40_mA, ← hmm, mA_sI]
        exact fA 53 (by omega)
      rw [this]
    have tI : ∀ j, ¬ j = 40 → ¬ j = 53 → mI m2 j = mI mm j := fun j hj hj5 => by
      rw [(f2.1 j (by simp; omega)).1]
      exact va_up_ne _ _ hj
    have t40 : mI m2 40 = upd (mI m 40) 3 0 := by
      rw [(f2.1 40 (by simp)).1]
      show va_up (mI mm) 40 (upd (mI mm 40) 3 0) 40 = _
      rw [va_up_self, ← hmm, s40']
    have tC : mI m2 (8 + 6 * c) = mI m' (8 + 6 * c) := by
      rw [tI _ (by omega) (by omega), ← hmm, mI_sI, va_up_ne _ _ (by omega)]
    have t2 : mI m2 2 = lI [0, 0, 0, 0, mI m 2 4, mI m 2 5, 0, mI m 2 7] := by
      rw [tI 2 (by decide) (by decide), ← hmm, mI_sI, va_up_self, fI 2 (by omega)]
    have tAm : ∀ j, 32 ≤ j ∨ j < 8 → ¬ j = 41 → ¬ j = 50 → ¬ j = 51 → ¬ j = 52 → ¬ j = 53 → mA m2 j = mA m j := fun j j0 j1 j2 j3 j4 j5 => (tA j j1 j2 j3 j4 j5).trans (fA j j0)
    have x3 : mA m2 3 = mA m 3 := tAm 3 (by omega) (by decide) (by decide) (by decide) (by decide) (by decide)
    have x43 : mA m2 43 = mA m 43 := tAm 43 (by omega) (by decide) (by decide) (by decide) (by decide) (by decide)
    have x42 : mA m2 42 = mA m 42 := tAm 42 (by omega) (by decide) (by decide) (by decide) (by decide) (by decide)
    have x45 : mA m2 45 = mA m 45 := tAm 45 (by omega) (by decide) (by decide) (by decide) (by decide) (by decide)
    have x46 : mA m2 46 = mA m 46 := tAm 46 (by omega) (by decide) (by decide) (by decide) (by decide) (by decide)
    have x47 : mA m2 47 = mA m 47 := tAm 47 (by omega) (by decide) (by decide) (by decide) (by decide) (by decide)
    have x48 : mA m2 48 = mA m 48 := tAm 48 (by omega) (by decide) (by decide) (by decide) (by decide) (by decide)
    have hR2 : RRows m2 (cg1 z c w) := by
      refine ⟨fun l hl => ?_, by rw [x43]; exact hR.2.1, by rw [x42]; exact hR.2.2.1, ?_⟩
      · have e3 := cnR_0 64 hcn l hl
        rw [x3, x43]
        exact Or.inl ⟨(row_e hz (hR.1 l hl)).mp e3, e3⟩
      · rw [t2, x3]; exact hR.2.2.2
    have hC2 : RChg m2 (cg1 z c w) x 0 := by
      refine ⟨h.2.1.1, by omega, by rw [t2]; exact h.2.1.2.2.1, by rw [t2]; rfl, by rw [t40, ud_e]; rfl, by rw [x45]; exact h.2.1.2.2.2.2.2.1, by rw [x46]; exact h.2.1.2.2.2.2.2.2.1, fun j hj => absurd hj (Nat.not_lt_zero j)⟩
    have hM2 : RMrk m2 (cg1 z c w) 0 := by
      refine ⟨by omega, by rw [t2]; exact h.2.2.1.2.1, by rw [t40, ud_n (by decide)]; exact h.2.2.1.2.2.1, by rw [x47]; exact h.2.2.1.2.2.2.1, by rw [x48]; exact h.2.2.1.2.2.2.2.1, fun q l hq => absurd hq (Nat.not_lt_zero q)⟩
    have hd : dsB 0 (fun _ => w) 1 w 1 = true := by
      refine ds_i ⟨by omega, by show w ≤ 1 * w; omega, ?_⟩ 1 (fun j hj => ?_)
      · show 0 + vo 0 w ≤ 64
        unfold vo
        rw [if_neg (by decide)]
        split
        · omega
        · omega
      · show 1 * w / w < w
        rw [Nat.one_mul, Nat.div_self (by omega)]; omega
    have y9 : mA m2 (9 + 6 * c) = mA m' (9 + 6 * c) := tA _ (by omega) (by omega) (by omega) (by omega) (by omega)
    have y11 : mA m2 (11 + 6 * c) = mA m' (11 + 6 * c) := tA _ (by omega) (by omega) (by omega) (by omega) (by omega)
    have y12 : mA m2 (12 + 6 * c) = mA m' (12 + 6 * c) := tA _ (by omega) (by omega) (by omega) (by omega) (by omega)
    have y13 : mL m2 (13 + 6 * c) = mL m' (13 + 6 * c) := by rw [(f2.1 _ (by simp; omega)).2.2.1, ← hmm]; rfl
    have yT : mT m2 (8 + 6 * c) = mT m' (8 + 6 * c) := by rw [(f2.1 _ (by simp; omega)).2.2.2, ← hmm]; rfl
    have hbl : ∀ j, bl01 (mA m2 53 j) := by rw [t53]; exact bl_cp (h.2.2.2.1 c hc4).2.2.2.2.2.2.2.2.2.2.2 (fun _ => Or.inl rfl)
    have hcol : RCol m2 c 0 1 w (fun _ => w) := by
      refine RCol.new hc4 (by omega) (by omega) w2 w32 (fun j hj => ⟨w2, w32⟩) (by rw [t50, ud_e]; rfl) (by rw [t52, ud_e]; rfl) (by rw [t41, ud_e]) (fun j hj => ?_) hd (by rw [tC]; exact a0) (by rw [tC]; exact a1) (by rw [tC]; exact a2) (fun j hj => ?_) ?_ (fun v hv => ?_) (by rw [yT]; exact aT) (fun v hv => ?_) hbl
      · have : j = 0 := by omega
        subst this; rw [t51]; exact ud_e
      · have : j = 0 := by omega
        subst this; rw [y9]; exact a9
      · unfold Stl; rw [tC, y9, y11, y12]; exact aS
      · rw [y13, cSl_cong (m := m') (m' := m2) (by rw [tC]) y9 y11 y12]; exact aL v hv
      · rw [t53]; unfold cpF; rw [if_pos (by omega)]
    have F : Fr [2, 8 + 6 * c, 9 + 6 * c, 10 + 6 * c, 11 + 6 * c, 12 + 6 * c, 13 + 6 * c, 40, 41, 50, 51, 52, 53, 54] m m2 := by
      refine Fr.tr (m' := szM mm c (nI w)) ?_ (f2.wd (fun j hj => by simp at hj ⊢; omega))
      unfold szM
      refine Fr.sA (Fr.sA (Fr.sA (Fr.sA (Fr.s40 ?_ (by simp)) (by simp)) (by simp)) (by simp)) (by simp)
      rw [← hmm]
      exact Fr.sI (f1.wd (fun j hj => by simp at hj ⊢; omega)) (by simp)
    exact ⟨_, _, _, _, _, _, _, _, _, _, h.col hc4 hR2 hC2 hM2 hcol F (fun j j3 _ => by rw [t40, ud_n j3]) (fun j hj => by rw [t41, ud_n hj]) (fun j hj => by rw [t50, ud_n hj]) (fun j hj => by rw [t52, ud_n hj]) (fun j hj => by rw [t51, ud_n (by omega)]) (fun j hj => by rw [t53]; unfold cpF; rw [if_neg (by omega)])⟩
