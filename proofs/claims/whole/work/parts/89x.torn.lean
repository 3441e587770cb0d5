/-! ===== torn vectors: class and model ===== -/
theorem fRoom_all : ∀ s : Fin 2, ∀ b : Fin 33, 2 ≤ b.1 → fRoom (nI s.1) (nI b.1) = nI (vo s.1 b.1) := by decide +kernel
theorem sFv_e {s : Nat} {B : Nat → Nat} {g : Nat → Int32} {b : Nat} (hs : s ≤ 1) (hB : ∀ j, j < b → 2 ≤ B j ∧ B j ≤ 32) (hg : ∀ j, j < b → g j = nI (B j)) : ∀ j, j ≤ b → sFv (nI s) g j = nI (rmN s B j)
  | 0, _ => rfl
  | j + 1, hj => by
    have h := hB j (by omega)
    rw [sFv, rmN, sFv_e hs hB hg j (by omega), hg j (by omega), fRoom_all ⟨s, by omega⟩ ⟨B j, by omega⟩ h.1, nI_add]
theorem room_e {m : Mm} {c s b z : Nat} {B : Nat → Nat} (h : RCol m c s b z B) : mI m (8 + 6 * c) 3 = nI (rmN s B b) := by
  obtain ⟨⟨a1, a2, a3, a4, a5, a6, a7, -⟩, -, -, -, h5, -, h7, h8, -⟩ := h
  rw [h8.2, h5]
  exact sFv_e a2 a7 h7 b (Nat.le_refl b)
theorem tb_mk {p : Nat → Bool} {v : Nat} (hv : v < 64) : tbI (mkm p 64) (nI v) = 0 ↔ p v = false := by
  have h := tb_N (X := mkN p 64) (v := v) (mkN_lt p 64) hv (nI v) rfl
  unfold ush at h
  unfold tbI
  rw [mkm_N 64 (by omega), h, mkN_bit, decide_eq_true hv, Bool.true_and]
  cases p v with
  | true => exact ⟨fun z => absurd z (by decide), fun z => by cases z⟩
  | false => exact ⟨fun _ => rfl, fun _ => rfl⟩
theorem mk_or {p p' : Nat → Bool} {v : Nat} (hv : v < 64) (h : ∀ i, i < 64 → p' i = (p i || decide (i = v))) : mkm p 64 ||| ((1 : Int64) <<< ((nI v).toInt64 &&& 63)) = mkm p' 64 := by
  rw [mkm_N 64 (by omega), mkm_N 64 (by omega), show (1 : Int64) = lN 1 from rfl, on_shl hv, Nat.one_mul, fb_orL]
  congr 1
  apply Nat.eq_of_testBit_eq
  intro i
  rw [Nat.testBit_or, mkN_bit, mkN_bit, Nat.testBit_two_pow]
  by_cases hi : i < 64
  · rw [decide_eq_true hi, Bool.true_and, Bool.true_and, h i hi]
    congr 1
    by_cases e : i = v
    · subst e; simp
    · rw [decide_eq_false e, decide_eq_false (fun z => e z.symm)]
  · rw [decide_eq_false hi, Bool.false_and, Bool.false_and, Bool.false_or, decide_eq_false (by omega)]
theorem mk_0 {p : Nat → Bool} (h : ∀ i, i < 64 → p i = false) : mkm p 64 = 0 := by
  rw [mkm_N 64 (by omega)]
  have : mkN p 64 = 0 := by
    apply Nat.eq_of_testBit_eq
    intro i
    rw [mkN_bit, Nat.zero_testBit]
    by_cases hi : i < 64
    · rw [h i hi, Bool.and_false]
    · rw [decide_eq_false hi, Bool.false_and]
  rw [this]; rfl
theorem RCol.g {m m' : Mm} {c s b z : Nat} {B : Nat → Nat} (h : RCol m c s b z B) (eI : ∀ j, j < 4 → mI m' (8 + 6 * c) j = mI m (8 + 6 * c) j) (e9 : mA m' (9 + 6 * c) = mA m (9 + 6 * c)) (e11 : mA m' (11 + 6 * c) = mA m (11 + 6 * c)) (e12 : mA m' (12 + 6 * c) = mA m (12 + 6 * c)) (e13 : mL m' (13 + 6 * c) = mL m (13 + 6 * c)) (e41 : mA m' 41 = mA m 41) (e50 : mA m' 50 = mA m 50) (e51 : mA m' 51 = mA m 51) (e52 : mA m' 52 = mA m 52) (eT : mT m' (8 + 6 * c) = mkm (trB m' c) 64) (hr : ∀ v, v < 64 → rmN s B b ≤ v → trB m' c v = false) (hb : ∀ j, bl01 (mA m' 53 j)) : RCol m' c s b z B := by
  obtain ⟨⟨a1, a2, a3, a4, a5, a6, a7, g50, g52, g41, g51⟩, h2, h3, h4, h5, h6, h7, h8, h9, h10, h11, h12⟩ := h
  refine ⟨⟨a1, a2, a3, a4, a5, a6, a7, by rw [e50]; exact g50, by rw [e52]; exact g52, by rw [e41]; exact g41, fun j hj => by rw [e51]; exact g51 j hj⟩, h2, h3, by rw [eI 0 (by omega)]; exact h4, by rw [eI 1 (by omega)]; exact h5, by rw [eI 2 (by omega)]; exact h6, by rw [e9]; exact h7, ?_, fun v hv => ?_, eT, hr, hb⟩
  · unfold Stl; rw [eI 1 (by omega), eI 3 (by omega), e9, e11, e12]; exact h8
  · rw [e13, cSl_cong (m := m) (m' := m') (eI 1 (by omega)) e9 e11 e12]; exact h9 v hv
/-- tear -/
theorem q_tear {m m1 m2 : Mm} {c s b z : Nat} {B : Nat → Nat} {x r r' : Int32} (h : RCol m c s b z B) (hc : rTear m c x r m1) (hm : rMtear m1 c (rmN s B b) x r' m2) : r = r' ∧ RCol m2 c s b z B := by
  have hrm := room_e h
  have h64 : rmN s B b ≤ 64 := h.2.1
  have hT : mT m (8 + 6 * c) = mkm (trB m c) 64 := h.2.2.2.2.2.2.2.2.2.1
  rcases hc with ⟨hb, rfl, rfl⟩ | ⟨h1, h2, hc⟩
  · have hv : isV x (rmN s B b) = false := by
      unfold isV
      refine decide_eq_false (fun q => ?_)
      rcases hb with q1 | q1
      · exact q.1 q1
      · rw [hrm] at q1; exact (fa_of_lt q.2).2.1 q1
    rcases hm with ⟨_, rfl, rfl⟩ | ⟨v, hv2, rfl, _⟩
    · exact ⟨rfl, h⟩
    · exfalso
      have : isV (nI v) (rmN s B b) = true := decide_eq_true ⟨by rw [nf_neg (by omega)]; exact id, nI_lt hv2 (by omega)⟩
      rw [this] at hv; cases hv
  · have hv : isV x (rmN s B b) = true := by
      unfold isV; refine decide_eq_true ⟨h1, ?_⟩
      rw [hrm] at h2; exact fa_of_nle h2
    obtain ⟨v, hv2, rfl⟩ := isV_n (by omega) hv
    have hv64 : v < 64 := by omega
    rw [hT, tb_mk hv64] at hc
    rcases hm with ⟨h3, _, _⟩ | ⟨v', hv', ev, hm⟩
    · rw [hv] at h3; cases h3
    have e : v = v' := (nI_eq (by omega) (by omega)).mp ev
    subst e
    rcases hc with ⟨ht, rfl, rfl⟩ | ⟨ht, rfl, rfl⟩
    · have ht' : trB m1 c v = true := by simpa using ht
      rcases hm with ⟨_, rfl, rfl⟩ | ⟨h3, _⟩
      · exact ⟨rfl, h⟩
      · rw [ht'] at h3; cases h3
    · rcases hm with ⟨h3, _⟩ | ⟨_, hm2, rfl⟩
      · have : trB m c v = true := h3
        rw [ht] at this; cases this
      · have hp : ∀ i, i < 64 → trB m2 c i = (trB m c i || decide (i = v)) := by
          intro i hi
          rw [hm2]
          show (!(upd (mA m 53) (64 * c + v) 1 (64 * c + i) == 0)) = _
          by_cases q : i = v
          · subst q; rw [ud_e]; simp
          · rw [ud_n (by omega), decide_eq_false q, Bool.or_false]; rfl
        have hmk := mk_or hv64 hp
        refine ⟨?_, ?_⟩
        · rw [hmk, bc_mk]
        · have hc4 : c < 4 := h.1.1
          have hb53 := h.2.2.2.2.2.2.2.2.2.2.2
          have hroom := h.2.2.2.2.2.2.2.2.2.2.1
          have ne : ∀ k, ¬ k = 53 → mA m2 k = mA m k := fun k hk => by rw [hm2]; exact va_up_ne _ _ hk
          refine h.g (fun j hj => ?_) (ne _ (by omega)) (ne _ (by omega)) (ne _ (by omega)) (by rw [hm2]; rfl) (ne _ (by decide)) (ne _ (by decide)) (ne _ (by decide)) (ne _ (by decide)) ?_ (fun i hi hir => ?_) (fun j => ?_)
          · rw [hm2]
            show va_up (mI m) (8 + 6 * c) (lI [mI m (8 + 6 * c) 0, mI m (8 + 6 * c) 1, mI m (8 + 6 * c) 2, mI m (8 + 6 * c) 3]) (8 + 6 * c) j = _
            rw [va_up_self]
            rcases (show j = 0 ∨ j = 1 ∨ j = 2 ∨ j = 3 by omega) with rfl | rfl | rfl | rfl <;> rfl
          · rw [← hmk, hm2]
            show va_up (mT m) (8 + 6 * c) _ (8 + 6 * c) = _
            rw [va_up_self]
          · rw [hp i hi, hroom i hi hir, decide_eq_false (by omega)]; rfl
          · rw [hm2]
            show bl01 (upd (mA m 53) (64 * c + v) 1 j)
            exact bl_upd hb53 (Or.inr rfl) j
