/-! ===== letters: class and model ===== -/
def byt (W j : Nat) : Nat := W / 2 ^ (8 * j) % 256
theorem w_lN (w : Int64) : ∃ W, W < 2 ^ 64 ∧ w = lN W := ⟨w.toBitVec.toNat, w.toBitVec.isLt, by
  apply Int64.toBitVec_inj.1
  show _ = BitVec.ofNat 64 w.toBitVec.toNat
  rw [BitVec.ofNat_toNat, BitVec.setWidth_eq]⟩
theorem k8U : ∀ j : Fin 8, ((8 * nI j.1 : Int32).toInt64.toUInt64 &&& Int64.toUInt64 63) = UInt64.ofNat (8 * j.1) := by decide +kernel
theorem cde_b {W j : Nat} (hW : W < 2 ^ 64) (hj : j < 8) : cde (lN W) j = nI (byt W j) := by
  have h : ush (lN W) (8 * nI j) = lN (W / 2 ^ (8 * j)) := on_ush (k8U ⟨j, hj⟩) hW (by omega)
  unfold ush at h
  unfold cde
  rw [h, lN_i, show (255 : Int32) = nI (2 ^ 8 - 1) from rfl, fa_mask]; rfl
theorem and255 {X : Nat} : (lN X &&& 255).toInt32 = nI (X % 256) := by
  rw [show (255 : Int64) = lN (2 ^ 8 - 1) from rfl, fb_maskL, lN_i]
theorem cb2_b {W j : Nat} (hW : W < 2 ^ 64) (hj : j < 8) : cb2 (lN W) j = nI (byt W j) := by
  have h : ush (lN W) (8 * nI j) = lN (W / 2 ^ (8 * j)) := on_ush (k8U ⟨j, hj⟩) hW (by omega)
  unfold ush at h
  unfold cb2
  rw [h, and255]; rfl
theorem luF_b {W : Nat} (hW : W < 2 ^ 64) : ∀ k, luF (lN W) k = lN (W / 2 ^ (8 * k))
  | 0 => by rw [luF, Nat.mul_zero, Nat.pow_zero, Nat.div_one]
  | k + 1 => by
    have hl : W / 2 ^ (8 * k) < 2 ^ 64 := Nat.lt_of_le_of_lt (Nat.div_le_self _ _) hW
    have h : ush (lN (W / 2 ^ (8 * k))) 8 = lN (W / 2 ^ (8 * k) / 2 ^ 8) := on_ush (k := 8) (by decide) hl (by omega)
    unfold ush at h
    rw [luF, luF_b hW k, h, Nat.div_div_eq_div_mul, ← Nat.pow_add]
    congr 3
theorem cb1_b {W j : Nat} (hW : W < 2 ^ 64) : cb1 (lN W) j = nI (byt W j) := by
  unfold cb1; rw [luF_b hW, and255]; rfl
theorem byt_l {W j : Nat} : byt W j < 256 := Nat.mod_lt _ (by omega)
/-- letters told: class and model count them alike -/
theorem lt_e {W : Nat} (hW : W < 2 ^ 64) : ∀ j, j ≤ 8 → ltk (cde (lN W)) j = if (ltM (lN W) j).2 then some ((ltM (lN W) j).1, decide ((ltM (lN W) j).1 < j)) else none
  | 0, _ => rfl
  | j + 1, hj => by
    have ih := lt_e hW j (by omega)
    have hle := ltM_le (lN W) j
    have hb := byt_l (W := W) (j := j)
    rw [ltk, ih, ltM, cde_b hW (by omega), cb1_b hW]
    generalize ltM (lN W) j = p at hle
    obtain ⟨n, g⟩ := p
    simp only at hle
    generalize byt W j = v at hb
    cases g with
    | false => rfl
    | true =>
      simp only [Bool.true_and, if_true]
      by_cases h1 : v ≤ 126
      · have a1 : ¬ (126 : Int32) < nI v := (show ¬ nI 126 < nI v from fun z => nI_nlt h1 (by omega) z)
        have a2 : nI v ≤ 126 := (show nI v ≤ nI 126 from nI_le h1 (by omega))
        rw [if_neg a1]
        rcases Nat.eq_zero_or_pos v with q | q
        · have b1 : nI v = 0 := by rw [q]; rfl
          have b2 : nI v ≤ 0 := by rw [q]; decide
          rw [if_pos b1, if_pos b2, decide_eq_true a2, decide_eq_true b1]
          simp
          omega
        · have b1 : ¬ nI v = 0 := fun z => by have := (nI_eq (a := v) (b := 0) (by omega) (by omega)).mp z; omega
          have b2 : ¬ nI v ≤ 0 := (show ¬ nI v ≤ nI 0 from nI_ge q (by omega))
          rw [if_neg b1, if_neg b2, decide_eq_true a2, decide_eq_false b1]
          by_cases q2 : n = j
          · subst q2
            simp
          · have q3 : n < j := by omega
            simp [q2, q3]
      · have a1 : (126 : Int32) < nI v := (show nI 126 < nI v from nI_lt (by omega) (by omega))
        have a2 : ¬ nI v ≤ 126 := (show ¬ nI v ≤ nI 126 from nI_ge (by omega) (by omega))
        rw [if_pos a1, decide_eq_false a2]
        simp
