/-! ===== blank: class and model ===== -/
theorem q_blank {m m1 m2 : Mm} {L : Nat} {r r' : Int32} (h : RPag m L) (hc : rBlank m r m1) (hm : r' = mI m1 40 26 ∧ m2 = s40 m1 26 0) : r = r' ∧ RPag m2 0 := by
  obtain ⟨h1, h2, h3, h4⟩ := h
  obtain ⟨rfl, hF, hz⟩ := hc
  obtain ⟨rfl, rfl⟩ := hm
  refine ⟨by rw [h2, (hF.1 40 (by simp)).1, h3], by omega, ?_, ?_, fun i hi => absurd hi (Nat.not_lt_zero i)⟩
  · rw [s40_In (by decide)]; exact hz
  · rw [s40_I, ud_e]; rfl
theorem vo_all {m : Mm} {s b z : Nat → Nat} {B : Nat → Nat → Nat} (h : ∀ c, c < 4 → RCol m c (s c) (b c) (z c) (B c)) : ∀ c, c ≤ 4 → voF m c = nI (vaN s b B c)
  | 0, _ => rfl
  | c + 1, hc => by rw [voF, vaN, vo_all h c (by omega), room_e (h c (by omega)), nI_add]
theorem to_all {m : Mm} {s b z : Nat → Nat} {B : Nat → Nat → Nat} (h : ∀ c, c < 4 → RCol m c (s c) (b c) (z c) (B c)) : ∀ c, c ≤ 4 → toF m c = nI (taN m c)
  | 0, _ => rfl
  | c + 1, hc => by rw [toF, taN, to_all h c (by omega), (h c (by omega)).2.2.2.2.2.2.2.2.2.1, bc_mk, nI_add]
/-- count -/
theorem q_count {m : Mm} {s b z : Nat → Nat} {B : Nat → Nat → Nat} {x k mk L u : Nat} {S : Nat → Qn} (hz : Z32 z) (h : RR m s b z B x k mk L u S) (w : Int32) : cntI m w = cnM m s b B w := by
  obtain ⟨hR, hC, hM, hCol, hP, hQ, ⟨a, e, -, -, c1, c2, c3, c4⟩, -⟩ := h
  have r0 : mI m 2 4 = mrw (mA m 43) 64 := by rw [hR.2.2.2, cn_e hz hR 64 (by omega)]
  have r1 : mI m 1 6 = mI m 40 27 := by rw [hQ.2.2.1, hQ.2.2.2.2.1]
  have r2 : mI m 32 1 = mI m 40 26 := by rw [hP.2.1, hP.2.2.1]
  have r3 : mI m 2 6 = mI m 40 3 := by rw [hC.2.2.2.1, hC.2.2.2.2.1]
  have r4 : mI m 2 7 = mI m 40 7 := by rw [hM.2.1, hM.2.2.1]
  unfold cntI cnM
  rw [r0, r1, r2, r3, r4, vo_all hCol 4 (by omega), to_all hCol 4 (by omega), c1, c2, c3, c4]
