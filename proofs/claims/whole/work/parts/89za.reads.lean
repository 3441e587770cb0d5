/-! ===== reads: class and model ===== -/
theorem rdE_e {m : Mm} {c s b z : Nat} {B : Nat → Nat} (h : RCol m c s b z B) {v : Nat} (hv : v < 2 ^ 31) : rdE m c b (nI v) = rdY s B b z false v := by
  have hZ : mI m (8 + 6 * c) 0 = nI z := h.2.2.2.1
  have hz := h.1.2.2.2.2.2.1
  unfold rdE rdY
  have n1 : ¬ nI v < 0 := by rw [nf_neg hv]; exact id
  rw [hZ]
  rcases Nat.lt_or_ge v z with q | q
  · rw [if_neg (by intro w; rcases w with w | w; exact n1 w; exact nI_ge q (by omega) w), if_neg (by omega), cRe_e h hv b (Nat.le_refl b)]; rfl
  · rw [if_pos (Or.inr (nI_le q hv)), if_pos q]
theorem rdB_e {m : Mm} {c s b z : Nat} {B : Nat → Nat} (h : RCol m c s b z B) {v : Nat} (hv : v < 2 ^ 31) : rdB m c b (nI v) = rdY s B b z true v := by
  have hZ : mI m (8 + 6 * c) 0 = nI z := h.2.2.2.1
  have hz := h.1.2.2.2.2.2.1
  unfold rdB rdY
  have n1 : ¬ nI v < 0 := by rw [nf_neg hv]; exact id
  rw [hZ]
  rcases Nat.lt_or_ge v z with q | q
  · rw [if_neg (by intro w; rcases w with w | w; exact n1 w; exact nI_ge q (by omega) w), if_neg (by omega), cRb_e h hv b (Nat.le_refl b), if_pos rfl]
    rcases Nat.eq_zero_or_pos v with w | w
    · rw [if_pos w, w, rBM_0]
    · rw [if_neg (by omega)]
  · rw [if_pos (Or.inr (nI_le q hv)), if_pos q]
/-- reads -/
theorem q_reads {m m2 : Mm} {c s b z : Nat} {B : Nat → Nat} {k x : Int32} {r' : Int64} (h : RCol m c s b z B) (hm : rMreads m c s b z B k x r' m2) : rdsI m c b k x = r' := by
  unfold rdsI
  rcases hm with ⟨hb, rfl, _⟩ | ⟨y, hy, rfl, hm, _⟩
  · by_cases h1 : x < 0
    · rw [if_pos h1]
    by_cases h2 : 99 < x
    · rw [if_neg h1, if_pos h2]
    by_cases h3 : k = 0
    · exact absurd ⟨Or.inl h3, h1, h2⟩ hb
    by_cases h4 : k = 1
    · exact absurd ⟨Or.inr h4, h1, h2⟩ hb
    · rw [if_neg h1, if_neg h2, if_neg h3, if_neg h4]
  · have n1 : ¬ nI y < 0 := by rw [nf_neg (by omega)]; exact id
    have n2 : ¬ (99 : Int32) < nI y := (show ¬ nI 99 < nI y from fun z => nI_nlt hy (by omega) z)
    rw [if_neg n1, if_neg n2]
    rcases hm with ⟨rfl, rfl⟩ | ⟨rfl, rfl⟩
    · rw [if_pos rfl, rdE_e h (by omega)]
    · rw [if_neg (by decide), if_pos rfl, rdB_e h (by omega)]
