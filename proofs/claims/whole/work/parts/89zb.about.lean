/-! ===== about: class and model ===== -/
theorem q_about {m : Mm} {c s b z : Nat} {B : Nat → Nat} {w : Int32} (h : RCol m c s b z B) : abI m c w = abJ m c s b z B w := by
  have e0 : mI m (8 + 6 * c) 0 = nI z := h.2.2.2.1
  have e1 : mI m (8 + 6 * c) 1 = nI s := h.2.2.2.2.1
  have e2 : mI m (8 + 6 * c) 2 = nI b := h.2.2.2.2.2.1
  have e3 := room_e h
  have e4 : bcI (mT m (8 + 6 * c)) = nI (ctN (trB m c) 64) := by rw [h.2.2.2.2.2.2.2.2.2.1, bc_mk]
  have e9 := h.2.2.2.2.2.2.1
  have hb5 := h.1.2.2.2.1
  unfold abI
  by_cases h0 : w = 0
  · subst h0; rw [if_pos rfl, e0]; rfl
  rw [if_neg h0]
  by_cases h1 : w = 1
  · subst h1; rw [if_pos rfl, e1]; rfl
  rw [if_neg h1]
  by_cases h2 : w = 2
  · subst h2; rw [if_pos rfl, e2]; rfl
  rw [if_neg h2]
  by_cases h3 : w = 3
  · subst h3; rw [if_pos rfl, e3]; rfl
  rw [if_neg h3]
  by_cases h4 : w = 4
  · subst h4; rw [if_pos rfl, e4]; rfl
  rw [if_neg h4]
  have hr := w_range h0 h1 h2 h3
  have h4' : w.toInt < 0 ∨ 4 < w.toInt := by rw [fa_eq] at h4; simp at h4; omega
  unfold abJ
  by_cases h5 : w < 10
  · rw [if_pos h5]
    by_cases n : w < 0
    · rw [if_pos n]
    · have n15 : ¬ (15 : Int32) ≤ w := by rw [fa_lt] at h5; rw [fa_le]; simp at h5 ⊢; omega
      have n4 : ¬ ¬ (4 : Int32) < w := by rw [fa_lt] at *; simp at *; omega
      rw [if_neg n, if_neg n15, if_neg n4, if_pos h5]
  rw [if_neg h5]
  by_cases h6 : (15 : Int32) ≤ w
  · have n : ¬ w < 0 := by rw [fa_le] at h6; rw [fa_lt]; simp at h6 ⊢; omega
    rw [if_pos h6, if_neg n, if_pos h6]
  rw [if_neg h6]
  obtain ⟨k, hk, hw, hs, hc⟩ := w_ten h5 h6
  have n : ¬ w < 0 := by rw [fa_lt] at *; simp at *; omega
  have n4 : ¬ ¬ (4 : Int32) < w := by rw [fa_lt] at *; simp at *; omega
  rw [if_neg n, if_neg h6, if_neg n4, if_neg h5, hc, hw, nI_clamp (by omega), e2]
  have hab : abM m c s b z B (k + 10) = if k < b then nI (B k) else -1 := by
    unfold abM
    rw [if_neg (by omega), if_neg (by omega), if_neg (by omega), if_neg (by omega), if_neg (by omega), show k + 10 - 10 = k by omega]
  rw [hab]
  unfold bsN
  rcases Nat.lt_or_ge k b with q | q
  · rw [if_neg (fun z => nI_ge q (by omega) z), if_pos q, e9 k q]
  · rw [if_pos (nI_le q (by omega)), if_neg (by omega)]
