/-! ===== digest: class and model ===== -/
theorem dg_1 {m : Mm} {z : Nat → Nat} {i : Nat} {h : Int64} (hz : Z32 z) (hR : RRows m z) (hi : i < 64) : ∀ c, c ≤ 4 → dgGc m i h c = mdGc m i h c
  | 0, _ => rfl
  | c + 1, hc => by
    have n4 := nI_4 (show c < 4 by omega)
    have n64 := nI_64 hi
    rw [dgGc, mdGc, dg_1 hz hR hi c (by omega)]
    congr 1
    unfold getI
    rw [if_neg n64.1, if_neg n64.2.1, if_neg n4.1, if_neg n4.2, num_e hz hR hi (by omega)]
theorem dg_2 {m : Mm} {z : Nat → Nat} (hz : Z32 z) (hR : RRows m z) : ∀ i, i ≤ 64 → dgG m i = mdG m i
  | 0, _ => rfl
  | i + 1, hi => by rw [dgG, mdG, dg_2 hz hR i (by omega), dg_1 hz hR (show i < 64 by omega) 4 (Nat.le_refl 4)]
theorem ab_n {m : Mm} {c s b z w : Nat} {B : Nat → Nat} (h : RCol m c s b z B) (hw : w < 5 ∨ (10 ≤ w ∧ w < 15)) : abI m c (nI w) = abM m c s b z B w := by
  rw [q_about h]
  unfold abJ
  have hc : (nI w).toNatClampNeg = w := nI_clamp (by omega)
  rw [hc, if_neg (nI_pos (by omega)), if_neg (show ¬ (15 : Int32) ≤ nI w from nI_ge (b := 15) (by omega) (by omega))]
  rcases hw with q | q
  · rw [if_pos (show ¬ (4 : Int32) < nI w from nI_nlt (a := 4) (by omega) (by omega))]
  · rw [if_neg (show ¬ ¬ (4 : Int32) < nI w from fun x => x (nI_lt (a := 4) (by omega) (by omega))), if_neg (show ¬ nI w < 10 from nI_nlt (b := 10) q.1 (by omega))]
theorem dg_A {m : Mm} {c s b z : Nat} {B : Nat → Nat} {h : Int64} (hc : RCol m c s b z B) : ∀ w, w ≤ 5 → dgA m c h w = mdA m c s b z B 0 h w
  | 0, _ => rfl
  | w + 1, hw => by rw [dgA, mdA, dg_A hc w (by omega), ab_n hc (by omega), Nat.zero_add]
theorem dg_B {m : Mm} {c s b z : Nat} {B : Nat → Nat} {h : Int64} (hc : RCol m c s b z B) : ∀ w, w ≤ 5 → dgB m c h w = mdA m c s b z B 10 h w
  | 0, _ => rfl
  | w + 1, hw => by rw [dgB, mdA, dg_B hc w (by omega), ab_n hc (by omega)]
theorem dg_C {m : Mm} {s b z : Nat → Nat} {B : Nat → Nat → Nat} (hz : Z32 z) (hR : RRows m z) (h : ∀ c, c < 4 → RCol m c (s c) (b c) (z c) (B c)) : ∀ c, c ≤ 4 → dgC m c = mdC m s b z B c
  | 0, _ => dg_2 hz hR 64 (Nat.le_refl 64)
  | c + 1, hc => by
    have hcol := h c (by omega)
    rw [dgC, mdC, dg_C hz hR h c (by omega), dg_A hcol 5 (Nat.le_refl 5), dg_B hcol 5 (Nat.le_refl 5), par_e hz hR hcol 64 (Nat.le_refl 64), pr_xb]
theorem dg_Q {m : Mm} {s b z : Nat → Nat} {B : Nat → Nat → Nat} {x k mk L u : Nat} {S : Nat → Qn} (h : RR m s b z B x k mk L u S) : ∀ q, q ≤ u → dgQ m b (fun q => (S q).map enS) q = mdQ m s b z B S q
  | 0, _ => dg_C h.z h.1 h.col' 4 (Nat.le_refl 4)
  | q + 1, hq => by
    obtain ⟨o1, o2, o3⟩ := h.que (show q < u by omega)
    have hcm : mI m (66 + 4 * q) 5 = nI (cmN (S q)) := (h.2.2.2.2.2.1.2.2.2.2.2 q (by omega)).2.2.2.2.1
    have e : ∀ w, w ≤ 2 → asV m b q ((S q).map enS) w = asM m s b z B (S q) w := fun w hw => by
      unfold asV asM
      rw [vr_e h.col' o1 4 (Nat.le_refl 4), hcm, fail_e h.col' o1]
      rcases (show w = 0 ∨ w = 1 ∨ w = 2 by omega) with rfl | rfl | rfl
      · rw [if_pos rfl, if_pos rfl]
      · rw [if_neg (show ¬ 1 = 0 by decide), if_pos rfl, if_neg (show ¬ 1 = 0 by decide), if_pos rfl]
      · rw [if_neg (show ¬ 2 = 0 by decide), if_neg (show ¬ 2 = 1 by decide), if_neg (show ¬ 2 = 0 by decide), if_neg (show ¬ 2 = 1 by decide), if_pos rfl]
    have e2 : ∀ h0 w, w ≤ 3 → dgQw m b q ((S q).map enS) h0 w = mdQw m s b z B (S q) h0 w := fun h0 w => by
      induction w with
      | zero => intro _; rfl
      | succ w ih => intro hw; rw [dgQw, mdQw, ih (by omega), e w (by omega)]
    rw [dgQ, mdQ, dg_Q h q (by omega)]
    exact e2 _ 3 (Nat.le_refl 3)
theorem dg_P {m : Mm} {L : Nat} {h : Int64} (hp : ∀ i, i < L → mA m 33 i = mA m 56 i) : ∀ k, k ≤ L → dgP m h k = mdP m h k
  | 0, _ => rfl
  | k + 1, hk => by rw [dgP, mdP, dg_P hp k (by omega), hp k (by omega)]
theorem q_digest {m m2 : Mm} {s b z : Nat → Nat} {B : Nat → Nat → Nat} {x k mk L u : Nat} {S : Nat → Qn} (h : RR m s b z B x k mk L u S) (K : Kd m m2) : dgI m b (fun q => (S q).map enS) u L = mdI m s b z B S u L ∧ RM m2 := by
  refine ⟨?_, ?_⟩
  · unfold dgI mdI
    have hN : ∀ h0 k, dgN m h0 k = mdN m s b B h0 k := fun h0 k => by
      induction k with
      | zero => rfl
      | succ k ih => rw [dgN, mdN, ih, q_count h.z h]
    rw [hN, dg_Q h u (Nat.le_refl u), dg_P h.2.2.2.2.1.2.2.2 L (Nat.le_refl L)]
  · have b := K.1.sM (fun j hj => by simp at hj; omega) (K.2 3 (by omega)) (K.2 7 (by omega)) (K.2 26 (by omega)) (K.2 27 (by omega))
    exact ⟨_, _, _, _, _, _, _, _, _, _, h.same b.1 b.2 (h.2.2.2.2.2.2.1.f (by rw [(K.1.1 1 (by simp)).1]) (by rw [(K.1.1 1 (by simp)).1]) (K.2 19 (by omega)) (K.2 45 (by omega))) (by rw [(K.1.1 64 (by simp)).2.1]; exact h.2.2.2.2.2.2.2)⟩
