/-! ===== slices as sets of bits: class and model ===== -/
set_option maxRecDepth 100000 in
theorem fSl_all : ∀ s : Fin 2, ∀ b : Fin 33, ∀ f : Fin 33, 2 ≤ b.1 → f.1 < b.1 → fSlice (nI s.1) (nI b.1) (nI f.1) = lN (mkN (fun p => vbt s.1 b.1 p f.1) (vo s.1 b.1)) := by decide +kernel
/-- bit v of the slices of the number x, by its figures -/
def bw (s : Nat) (B : Nat → Nat) (x v : Nat) : Nat → Bool
  | 0 => false
  | j + 1 => if rmN s B j ≤ v ∧ v < rmN s B (j + 1) then vbt s (B j) (v - rmN s B j) (fgN B j x) else bw s B x v j
theorem rm_ad {s : Nat} {B : Nat → Nat} {i : Nat} : ∀ t, rmN s B i ≤ rmN s B (i + t)
  | 0 => Nat.le_refl _
  | t + 1 => Nat.le_trans (rm_ad t) (by show _ ≤ rmN s B (i + t + 1); rw [rmN]; omega)
theorem rm_mono {s : Nat} {B : Nat → Nat} {i j : Nat} (h : i ≤ j) : rmN s B i ≤ rmN s B j := by
  have := rm_ad (s := s) (B := B) (i := i) (j - i)
  rwa [Nat.add_sub_cancel' h] at this
theorem bw_out {s : Nat} {B : Nat → Nat} {x v : Nat} : ∀ j, rmN s B j ≤ v → bw s B x v j = false
  | 0, _ => rfl
  | j + 1, h => by
    have := rm_mono (s := s) (B := B) (show j ≤ j + 1 by omega)
    rw [bw, if_neg (by omega)]
    exact bw_out j (by omega)
theorem bw_at {s : Nat} {B : Nat → Nat} {x v i : Nat} (h1 : rmN s B i ≤ v) (h2 : v < rmN s B (i + 1)) : ∀ j, i < j → bw s B x v j = vbt s (B i) (v - rmN s B i) (fgN B i x)
  | 0, h => absurd h (Nat.not_lt_zero i)
  | j + 1, h => by
    by_cases e : i = j
    · subst e; rw [bw, if_pos ⟨h1, h2⟩]
    · have := rm_mono (s := s) (B := B) (show i + 1 ≤ j by omega)
      rw [bw, if_neg (by omega)]
      exact bw_at h1 h2 j (by omega)
theorem vo_p {s b : Nat} (h : 2 ≤ b) : 1 ≤ vo s b := by
  unfold vo
  split
  · omega
  · split
    · omega
    · omega
theorem cSl_N {m : Mm} {c s b z : Nat} {B : Nat → Nat} (h : RCol m c s b z B) {x : Nat} (hx : x < 2 ^ 31) : ∀ j, j ≤ b → ∃ W, W < 2 ^ 64 ∧ cSl m c (nI x) j = lN W ∧ ∀ v, W.testBit v = bw s B x v j
  | 0, _ => ⟨0, by decide, rfl, fun v => by rw [Nat.zero_testBit]; rfl⟩
  | j + 1, hj => by
    obtain ⟨W, hW, e, hb⟩ := cSl_N h hx j (by omega)
    have hn := col_n h (j := j) (by omega)
    have hB := h.1.2.2.2.2.2.2.1 j (by omega)
    have hs := h.1.2.1
    have hr := h.2.1
    have hmo := rm_mono (s := s) (B := B) hj
    have hvo := vo_p (s := s) hB.1
    have hrs : rmN s B (j + 1) = rmN s B j + vo s (B j) := rfl
    have hf : fgN B j x < B j := Nat.mod_lt _ (by omega)
    have e2 : fSlice (nI s) (nI (B j)) (nI (fgN B j x)) = lN (mkN (fun p => vbt s (B j) p (fgN B j x)) (vo s (B j))) := fSl_all ⟨s, by omega⟩ ⟨B j, by omega⟩ ⟨fgN B j x, by omega⟩ hB.1 hf
    have e3 : fFig (nI x) (mA m (11 + 6 * c) j) (mA m (9 + 6 * c) j) = nI (fgN B j x) := cFg_e h (by omega) hx
    have hlt := mkN_lt (fun p => vbt s (B j) p (fgN B j x)) (vo s (B j))
    refine ⟨W ||| (2 ^ rmN s B j * mkN (fun p => vbt s (B j) p (fgN B j x)) (vo s (B j))), ?_, ?_, fun v => ?_⟩
    · apply Nat.or_lt_two_pow hW
      have h1 : 2 ^ rmN s B j * mkN (fun p => vbt s (B j) p (fgN B j x)) (vo s (B j)) < 2 ^ rmN s B j * 2 ^ vo s (B j) := Nat.mul_lt_mul_of_pos_left hlt (Nat.two_pow_pos _)
      rw [← Nat.pow_add] at h1
      exact Nat.lt_of_lt_of_le h1 (Nat.pow_le_pow_right (by omega) (by omega))
    · rw [cSl, e, e3, hn.1, hn.2.1, hn.2.2.2.1, e2, on_shl (by omega), fb_orL, Nat.mul_comm]
    · rw [Nat.testBit_or, hb v, Nat.testBit_two_pow_mul, mkN_bit, bw]
      by_cases q : rmN s B j ≤ v ∧ v < rmN s B (j + 1)
      · rw [if_pos q, bw_out j q.1, Bool.false_or, decide_eq_true q.1, decide_eq_true (show v - rmN s B j < vo s (B j) by omega)]; rfl
      · rw [if_neg q]
        have : (decide (v ≥ rmN s B j) && (decide (v - rmN s B j < vo s (B j)) && vbt s (B j) (v - rmN s B j) (fgN B j x))) = false := by
          by_cases q1 : rmN s B j ≤ v
          · rw [decide_eq_false (show ¬ v - rmN s B j < vo s (B j) by omega), Bool.false_and, Bool.and_false]
          · rw [decide_eq_false (show ¬ v ≥ rmN s B j from q1), Bool.false_and]
        rw [this, Bool.or_false]
def slP (m : Mm) (c s b : Nat) (B : Nat → Nat) (l v : Nat) : Bool := decide (v < rmN s B b) && bitM m c s b B v l
theorem mkm_ext {W : Nat} {p : Nat → Bool} (hW : W < 2 ^ 64) (h : ∀ v, v < 64 → W.testBit v = p v) : lN W = mkm p 64 := by
  rw [mkm_N 64 (by omega)]
  congr 1
  apply Nat.eq_of_testBit_eq
  intro i
  rw [mkN_bit]
  by_cases hi : i < 64
  · rw [decide_eq_true hi, Bool.true_and, h i hi]
  · rw [decide_eq_false hi, Bool.false_and]
    exact Nat.testBit_lt_two_pow (Nat.lt_of_lt_of_le hW (Nat.pow_le_pow_right (by omega) (by omega)))
/-- the slices of a line -/
theorem slA_e {m : Mm} {z : Nat → Nat} {c s b : Nat} {B : Nat → Nat} {l : Nat} (hz : Z32 z) (hR : RRows m z) (h : RCol m c s b (z c) B) (hl : l < 64) : slA m c (nI l) = mkm (slP m c s b B l) 64 := by
  have hc := h.1.1
  have zc := hz c hc
  unfold slA
  rw [num_e hz hR hl hc]
  by_cases ht : mA m 43 l = 0
  · have e : gtM m l c = -1 := if_pos ht
    rw [e, if_pos (by decide)]
    refine (mk_0 (fun v hv => ?_)).symm
    unfold slP bitM thB
    rw [ht]
    simp
  · obtain ⟨v0, v1, v2, v3, a0, a1, a2, a3, e0, e1, e2, e3, -⟩ := row_t hz (hR.1 l hl) ht
    obtain ⟨x, hx, ex⟩ : ∃ x, x < z c ∧ mA m 42 (4 * l + c) = nI x := by
      rcases (show c = 0 ∨ c = 1 ∨ c = 2 ∨ c = 3 by omega) with rfl | rfl | rfl | rfl
      · exact ⟨v0, a0, e0⟩
      · exact ⟨v1, a1, e1⟩
      · exact ⟨v2, a2, e2⟩
      · exact ⟨v3, a3, e3⟩
    have e : gtM m l c = nI x := (if_neg ht).trans ex
    obtain ⟨W, hW, eW, hb⟩ := cSl_N h (x := x) (by omega) b (Nat.le_refl b)
    rw [e, if_neg (nI_pos (by omega)), h.2.2.2.1, if_neg (nI_ge hx (by omega)), nI_clamp (by omega), h.2.2.2.2.2.2.2.2.1 x hx, eW]
    refine mkm_ext hW (fun v hv => ?_)
    rw [hb v]
    have hN : nmN m l c = x := by unfold nmN; rw [ex, nI_clamp (by omega)]
    have hT : thB m l = true := by simp [thB, ht]
    unfold slP bitM
    rw [hT, hN, Bool.true_and]
    by_cases q : v < rmN s B b
    · have hv := fvJ_lt h.1.2.2.1 q
      rw [bw_at hv.2.1 hv.2.2 b hv.1, decide_eq_true q, Bool.true_and]
    · rw [bw_out b (by omega), decide_eq_false q, Bool.false_and]
theorem tb_mkb {p : Nat → Bool} {v : Nat} (hv : v < 64) : tbI (mkm p 64) (nI v) = if p v then 1 else 0 := by
  have h := tb_N (X := mkN p 64) (v := v) (mkN_lt p 64) hv (nI v) rfl
  unfold ush at h
  unfold tbI
  rw [mkm_N 64 (by omega), h, mkN_bit, decide_eq_true hv, Bool.true_and]
  cases p v <;> rfl
theorem or_bit {w : Int64} {p : Bool} {l : Nat} (hl : l < 64) : w ||| ((if p then (1 : Int64) else 0) <<< ((nI l).toInt64 &&& 63)) = if p then w ||| ((1 : Int64) <<< ((nI l).toInt64 &&& 63)) else w := by
  cases p with
  | true => rfl
  | false =>
    show w ||| ((0 : Int64) <<< ((nI l).toInt64 &&& 63)) = w
    rw [show (0 : Int64) = lN 0 from rfl, on_shl hl, Nat.zero_mul]
    show w ||| 0 = w
    exact Int64.or_zero
theorem vec_e {m : Mm} {z : Nat → Nat} {c s b v : Nat} {B : Nat → Nat} (hz : Z32 z) (hR : RRows m z) (h : RCol m c s b (z c) B) (hv : v < rmN s B b) : ∀ l, l ≤ 64 → vecF m c (nI v) l = mkm (bitM m c s b B v) l
  | 0, _ => rfl
  | l + 1, hl => by
    have h64 := h.2.1
    rw [vecF, mkm, vec_e hz hR h hv l (by omega), slA_e hz hR h (show l < 64 by omega), tb_mkb (show v < 64 by omega), or_bit (by omega)]
    unfold slP
    rw [decide_eq_true hv, Bool.true_and]
theorem q_vector {m m2 : Mm} {z : Nat → Nat} {c s b : Nat} {B : Nat → Nat} {x : Int32} {r' : Int64} (hz : Z32 z) (hR : RRows m z) (h : RCol m c s b (z c) B) (hm : rMvec m c s b B x r' m2) : vecI m c x = r' := by
  have hrm := room_e h
  have h64 := h.2.1
  have hT : mT m (8 + 6 * c) = mkm (trB m c) 64 := h.2.2.2.2.2.2.2.2.2.1
  unfold vecI
  rw [hrm, hT]
  rcases hm with ⟨hv, rfl, -⟩ | ⟨v, hv, rfl, hm⟩
  · by_cases q1 : x < 0
    · rw [if_pos q1]
    · rw [if_neg q1]
      by_cases q2 : nI (rmN s B b) ≤ x
      · rw [if_pos q2]
      · exfalso
        have : isV x (rmN s B b) = true := decide_eq_true ⟨q1, fa_of_nle q2⟩
        rw [this] at hv; cases hv
  · rw [if_neg (nI_pos (by omega)), if_neg (nI_ge hv (by omega)), tb_mkb (by omega)]
    rcases hm with ⟨ht, rfl, -⟩ | ⟨ht, hm⟩
    · rw [ht]; rfl
    · rw [ht, hm.1]
      exact vec_e hz hR h hv 64 (Nat.le_refl 64)
