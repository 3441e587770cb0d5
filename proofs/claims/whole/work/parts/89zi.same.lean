/-! ===== what a call that only answers leaves as it was ===== -/
def SamM (m m' : Mm) : Prop := (∀ k, k = 41 ∨ k = 42 ∨ k = 43 ∨ k = 44 ∨ k = 45 ∨ k = 46 ∨ k = 47 ∨ k = 48 ∨ k = 50 ∨ k = 51 ∨ k = 52 ∨ k = 53 ∨ k = 56 ∨ k = 57 ∨ k = 58 ∨ k = 59 → mA m' k = mA m k) ∧ mI m' 40 3 = mI m 40 3 ∧ mI m' 40 7 = mI m 40 7 ∧ mI m' 40 26 = mI m 40 26 ∧ mI m' 40 27 = mI m 40 27
def SamC (m m' : Mm) : Prop := (∀ k, k = 3 ∨ k = 4 ∨ k = 5 ∨ k = 6 ∨ k = 33 → mA m' k = mA m k) ∧ mI m' 2 = mI m 2 ∧ mI m' 1 6 = mI m 1 6 ∧ mI m' 32 1 = mI m 32 1 ∧ mI m' 34 0 = mI m 34 0 ∧ (∀ c, c < 4 → mI m' (8 + 6 * c) = mI m (8 + 6 * c) ∧ mA m' (9 + 6 * c) = mA m (9 + 6 * c) ∧ mA m' (11 + 6 * c) = mA m (11 + 6 * c) ∧ mA m' (12 + 6 * c) = mA m (12 + 6 * c) ∧ mL m' (13 + 6 * c) = mL m (13 + 6 * c) ∧ mT m' (8 + 6 * c) = mT m (8 + 6 * c)) ∧ mq m' = mq m ∧ ml m' = ml m ∧ ∀ q, q < mq m → mI m' (66 + 4 * q) = mI m (66 + 4 * q) ∧ mA m' (67 + 4 * q) = mA m (67 + 4 * q)
theorem RR.same {m m' : Mm} {s b z : Nat → Nat} {B : Nat → Nat → Nat} {x k mk L u : Nat} {S : Nat → Qn} (h : RR m s b z B x k mk L u S) (hM : SamM m m') (hC : SamC m m') (hN : RCnt m') (hL : LOk (mA m' 64)) : RR m' s b z B x k mk L u S := by
  obtain ⟨h1, h2, h3, h4, h5, h6, -, -⟩ := h
  obtain ⟨a1, a2, a3, a4, a5⟩ := hM
  obtain ⟨c1, c2, c3, c4, c5, c6, c7, c8, c9⟩ := hC
  refine ⟨h1.f (c1 3 (by simp)) (a1 43 (by simp)) (a1 42 (by simp)) (by rw [c2]), h2.f (by rw [c2]) (by rw [c2]) a2 (c1 4 (by simp)) (c1 5 (by simp)) (a1 44 (by simp)) (a1 45 (by simp)) (a1 46 (by simp)), h3.f (by rw [c2]) a3 (c1 6 (by simp)) (a1 47 (by simp)) (a1 48 (by simp)), fun c hc => ?_, h5.f c4 a4 (c1 33 (by simp)) (a1 56 (by simp)), ?_, hN, hL⟩
  · obtain ⟨d1, d2, d3, d4, d5, d6⟩ := c6 c hc
    exact (h4 c hc).f d1 d2 d3 d4 d5 d6 (a1 41 (by simp)) (a1 50 (by simp)) (a1 51 (by simp)) (a1 52 (by simp)) (a1 53 (by simp))
  · have hq := h6.2.1
    exact h6.f c7 c8 c3 c5 a5 (a1 57 (by simp)) (a1 58 (by simp)) (a1 59 (by simp)) (fun q hu => (c9 q (by rw [hq]; exact hu)).1) (fun q hu => (c9 q (by rw [hq]; exact hu)).2)
/-- a frame of the model's scratch alone -/
theorem Fr.sM {ks : List Nat} {m m' : Mm} (F : Fr ks m m') (hk : ∀ k, k ∈ ks → k = 40 ∨ k = 49 ∨ k = 54 ∨ k = 55 ∨ (60 ≤ k ∧ k ≤ 65)) (e3 : mI m' 40 3 = mI m 40 3) (e7 : mI m' 40 7 = mI m 40 7) (e26 : mI m' 40 26 = mI m 40 26) (e27 : mI m' 40 27 = mI m 40 27) : SamM m m' ∧ SamC m m' := by
  have g : ∀ k, ¬ (k = 40 ∨ k = 49 ∨ k = 54 ∨ k = 55 ∨ (60 ≤ k ∧ k ≤ 65)) → k ∉ ks := fun k q z => q (hk k z)
  refine ⟨⟨fun k q => (F.1 k (g k (by omega))).2.1, e3, e7, e26, e27⟩, fun k q => (F.1 k (g k (by omega))).2.1, (F.1 2 (g 2 (by omega))).1, by rw [(F.1 1 (g 1 (by omega))).1], by rw [(F.1 32 (g 32 (by omega))).1], by rw [(F.1 34 (g 34 (by omega))).1], fun c hc => ?_, F.2.1, F.2.2, fun q hq => ⟨(F.1 _ (g _ (by omega))).1, (F.1 _ (g _ (by omega))).2.1⟩⟩
  exact ⟨(F.1 _ (g _ (by omega))).1, (F.1 _ (g _ (by omega))).2.1, (F.1 _ (g _ (by omega))).2.1, (F.1 _ (g _ (by omega))).2.1, (F.1 _ (g _ (by omega))).2.2.1, (F.1 _ (g _ (by omega))).2.2.2⟩
/-- a frame of the class's scratch alone -/
theorem Fr.sC {ks : List Nat} {m m' : Mm} (F : Fr ks m m') (hk : ∀ k, k ∈ ks → k = 10 ∨ k = 16 ∨ k = 22 ∨ k = 28 ∨ (35 ≤ k ∧ k ≤ 39) ∨ (66 ≤ k ∧ (k % 4 = 0 ∨ k % 4 = 1))) : SamM m m' ∧ SamC m m' := by
  have g : ∀ k, ¬ (k = 10 ∨ k = 16 ∨ k = 22 ∨ k = 28 ∨ (35 ≤ k ∧ k ≤ 39) ∨ (66 ≤ k ∧ (k % 4 = 0 ∨ k % 4 = 1))) → k ∉ ks := fun k q z => q (hk k z)
  have e40 := (F.1 40 (g 40 (by omega))).1
  refine ⟨⟨fun k q => (F.1 k (g k (by omega))).2.1, by rw [e40], by rw [e40], by rw [e40], by rw [e40]⟩, fun k q => (F.1 k (g k (by omega))).2.1, (F.1 2 (g 2 (by omega))).1, by rw [(F.1 1 (g 1 (by omega))).1], by rw [(F.1 32 (g 32 (by omega))).1], by rw [(F.1 34 (g 34 (by omega))).1], fun c hc => ?_, F.2.1, F.2.2, fun q hq => ⟨(F.1 _ (g _ (by omega))).1, (F.1 _ (g _ (by omega))).2.1⟩⟩
  exact ⟨(F.1 _ (g _ (by omega))).1, (F.1 _ (g _ (by omega))).2.1, (F.1 _ (g _ (by omega))).2.1, (F.1 _ (g _ (by omega))).2.1, (F.1 _ (g _ (by omega))).2.2.1, (F.1 _ (g _ (by omega))).2.2.2⟩
