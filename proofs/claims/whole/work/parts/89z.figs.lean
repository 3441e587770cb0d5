/-! ===== figures and what is read: class and model ===== -/
theorem sStr_e {B : Nat → Nat} {g : Nat → Int32} {b : Nat} (hg : ∀ j, j < b → g j = nI (B j)) : ∀ j, j ≤ b → sStr g j = nI (pdN B j)
  | 0, _ => rfl
  | j + 1, hj => by rw [sStr, pdN, sStr_e hg j (by omega), hg j (by omega), pk_mul]
theorem fig_e {B : Nat → Nat} {v j : Nat} (hv : v < 2 ^ 31) (hp : 0 < pdN B j) (hp2 : pdN B j < 2 ^ 31) (hB : 2 ≤ B j) (hB2 : B j ≤ 32) : fFig (nI v) (nI (pdN B j)) (nI (B j)) = nI (fgN B j v) := by
  unfold fFig
  have h1 : ¬ nI (pdN B j) < 1 := (show ¬ nI (pdN B j) < nI 1 from fun z => nI_nlt hp (by omega) z)
  have h2 : ¬ nI (B j) < 2 := (show ¬ nI (B j) < nI 2 from fun z => nI_nlt hB (by omega) z)
  rw [if_neg h1, if_neg h2, pk_div hv hp hp2]
  exact pk_rem (Nat.lt_of_le_of_lt (Nat.div_le_self _ _) hv) (by omega) (by omega)
/-- a column's figures, strides and first vectors in numbers -/
theorem col_n {m : Mm} {c s b z : Nat} {B : Nat → Nat} (h : RCol m c s b z B) {j : Nat} (hj : j < b) : mI m (8 + 6 * c) 1 = nI s ∧ mA m (9 + 6 * c) j = nI (B j) ∧ mA m (11 + 6 * c) j = nI (pdN B j) ∧ mA m (12 + 6 * c) j = nI (rmN s B j) ∧ 0 < pdN B j ∧ pdN B j < 2 ^ 31 ∧ 2 ≤ B j ∧ B j ≤ 32 := by
  obtain ⟨⟨a1, a2, a3, a4, a5, a6, a7, -⟩, -, -, -, h5, -, h7, h8, -⟩ := h
  have hB := a7 j hj
  refine ⟨h5, h7 j hj, ?_, ?_, pd_pos (fun i hi => (a7 i hi).1) j (by omega), ?_, hB.1, hB.2⟩
  · rw [(h8.1 j hj).1]; exact sStr_e h7 j (by omega)
  · rw [(h8.1 j hj).2, h5]; exact sFv_e a2 a7 h7 j (by omega)
  · have := pd_b (B := B) (k := b) (j := j) a4 (fun i hi => (a7 i hi).2) (by omega); omega
theorem cFg_e {m : Mm} {c s b z : Nat} {B : Nat → Nat} (h : RCol m c s b z B) {j v : Nat} (hj : j < b) (hv : v < 2 ^ 31) : cFg m c (nI v) j = nI (fgN B j v) := by
  obtain ⟨e1, e2, e3, e4, p1, p2, p3, p4⟩ := col_n h hj
  unfold cFg
  rw [e3, e2]
  exact fig_e hv p1 p2 p3 p4
theorem cRe_e {m : Mm} {c s b z : Nat} {B : Nat → Nat} (h : RCol m c s b z B) {v : Nat} (hv : v < 2 ^ 31) : ∀ j, j ≤ b → cRe m c (nI v) j = rEM s B v j
  | 0, _ => rfl
  | j + 1, hj => by
    obtain ⟨e1, e2, e3, e4, -⟩ := col_n h (j := j) (by omega)
    rw [cRe, rEM, cRe_e h hv j (by omega), e1, e2, e4, cFg_e h (by omega) hv]
theorem cRb_e {m : Mm} {c s b z : Nat} {B : Nat → Nat} (h : RCol m c s b z B) {v : Nat} (hv : v < 2 ^ 31) : ∀ j, j ≤ b → cRb m c (nI v) j = rBM s B v j
  | 0, _ => rfl
  | j + 1, hj => by
    obtain ⟨e1, e2, e3, e4, -⟩ := col_n h (j := j) (by omega)
    rw [cRb, rBM, cRb_e h hv j (by omega), e1, e2, e4, cFg_e h (by omega) hv]
/-- of 0 nothing is read -/
theorem rBM_0 {s : Nat} {B : Nat → Nat} : ∀ j, rBM s B 0 j = 0
  | 0 => rfl
  | j + 1 => by
    rw [rBM, rBM_0 j, if_pos rfl]
    have : fgN B j 0 = 0 := by unfold fgN; rw [Nat.zero_div, Nat.zero_mod]
    rw [this, show nI 0 = 0 from rfl, fLt_0]
    show (0 : Int64) ||| ((0 : Int64) <<< _) = 0
    have hz : ∀ x : Int64, (0 : Int64) <<< x = 0 := fun x => by
      apply Int64.toBitVec_inj.1
      rw [Int64.toBitVec_shiftLeft]
      simp
    rw [hz]; decide
