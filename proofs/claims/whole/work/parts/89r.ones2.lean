/-! ===== ones of a word ===== -/
theorem on_ush {n : Nat} {k : Nat} {K : Int32} (hK : (K.toInt64.toUInt64 &&& Int64.toUInt64 63) = UInt64.ofNat k) (hn : n < 2 ^ 64) (hk : k < 64) : ush (lN n) K = lN (n / 2 ^ k) := by
  unfold ush
  rw [hK]
  apply Int64.toBitVec_inj.1
  show (BitVec.ofNat 64 n >>> ((BitVec.ofNat 64 k) % 64)) = BitVec.ofNat 64 (n / 2 ^ k)
  apply BitVec.eq_of_toNat_eq
  rw [BitVec.ushiftRight_eq', BitVec.toNat_ushiftRight, BitVec.toNat_umod, BitVec.toNat_ofNat, BitVec.toNat_ofNat, BitVec.toNat_ofNat, Nat.mod_eq_of_lt hn, Nat.mod_eq_of_lt (show k < 2 ^ 64 by omega), show BitVec.toNat (64 : BitVec 64) = 64 from rfl, Nat.mod_eq_of_lt hk, Nat.shiftRight_eq_div_pow, Nat.mod_eq_of_lt (Nat.lt_of_le_of_lt (Nat.div_le_self _ _) hn)]
theorem bc_e (w : Int64) : bcI w = nI (pcN w) := by
  have hW : w.toBitVec.toNat < 2 ^ 64 := w.toBitVec.isLt
  have ew : w = lN w.toBitVec.toNat := by
    apply Int64.toBitVec_inj.1
    show _ = BitVec.ofNat 64 w.toBitVec.toNat
    rw [BitVec.ofNat_toNat, BitVec.setWidth_eq]
  generalize hV : w.toBitVec.toNat = W at hW ew
  have hp : pcN w = pcf (8 * 8) W := by unfold pcN; rw [hV]
  rw [hp, ew]
  have s1 : ush (lN W) 1 = lN (W / 2) := on_ush (k := 1) (by decide) hW (by omega)
  have b1 : bc1 (lN W) = lN (on1 8 W) := by
    unfold bc1 on1
    rw [s1, show (6148914691236517205 : Int64) = lN (mkB 85 8) from rfl, fb_andL, lN_sub (Nat.le_trans Nat.and_le_left (Nat.div_le_self _ _))]
  have l1 : on1 8 W < 2 ^ 64 := by unfold on1; omega
  have s2 : ush (lN (on1 8 W)) 2 = lN (on1 8 W / 4) := on_ush (k := 2) (by decide) l1 (by omega)
  have b2 : bc2 (lN (on1 8 W)) = lN (on2 8 (on1 8 W)) := by
    unfold bc2
    rw [s2, show (3689348814741910323 : Int64) = lN (mkB 51 8) from rfl, fb_andL, fb_andL, lN_add]; rfl
  have l2 : on2 8 (on1 8 W) < 2 ^ 64 := by
    unfold on2
    have m1 : on1 8 W &&& mkB 51 8 ≤ mkB 51 8 := Nat.and_le_right
    have m2 : on1 8 W / 4 &&& mkB 51 8 ≤ mkB 51 8 := Nat.and_le_right
    have m3 : mkB 51 8 = 3689348814741910323 := by decide
    omega
  have s3 : ush (lN (on2 8 (on1 8 W))) 4 = lN (on2 8 (on1 8 W) / 16) := on_ush (k := 4) (by decide) l2 (by omega)
  have b3 : bc3 (lN (on2 8 (on1 8 W))) = lN (on3 8 (on2 8 (on1 8 W))) := by
    unfold bc3
    rw [s3, lN_add, show (1085102592571150095 : Int64) = lN (mkB 15 8) from rfl, fb_andL]; rfl
  have hb : ∀ i, i < 8 → W / 256 ^ i % 256 < 256 := fun i _ => Nat.mod_lt _ (by omega)
  have e3 : on3 8 (on2 8 (on1 8 W)) = sumB 8 (fun i => pcf 8 (W / 256 ^ i % 256)) := by
    rw [← on33 (b := fun i => W / 256 ^ i % 256) hb, ← on12 (b := fun i => W / 256 ^ i % 256) hb, bytes8 hW]
  have pl : ∀ i, pcf 8 (W / 256 ^ i % 256) ≤ 8 := fun i => pcf_le 8 _
  have hL := on_last (n := on3 8 (on2 8 (on1 8 W))) (pl 0) (pl 1) (pl 2) (pl 3) (pl 4) (pl 5) (pl 6) (pl 7) e3 rfl rfl rfl rfl rfl (by show 256 * (256 * 0 + _) + _ = _; rw [Nat.mul_zero, Nat.zero_add]) rfl rfl rfl
  have hpc : pcf (8 * 8) W = _ := (by rw [← pcf_b (b := fun i => W / 256 ^ i % 256) hb, bytes8 hW] : pcf (8 * 8) W = pcf 8 (W / 256 ^ 0 % 256) + (pcf 8 (W / 256 ^ 1 % 256) + (pcf 8 (W / 256 ^ 2 % 256) + (pcf 8 (W / 256 ^ 3 % 256) + (pcf 8 (W / 256 ^ 4 % 256) + (pcf 8 (W / 256 ^ 5 % 256) + (pcf 8 (W / 256 ^ 6 % 256) + (pcf 8 (W / 256 ^ 7 % 256) + 0))))))))
  have l3 : on3 8 (on2 8 (on1 8 W)) < 2 ^ 64 := by
    unfold on3
    exact Nat.lt_of_le_of_lt Nat.and_le_right (by decide)
  unfold bcI
  rw [b1, b2, b3]
  generalize on3 8 (on2 8 (on1 8 W)) = N at hL l3
  have b4 : bc4 (lN N) = lN (N + N / 256) := by
    unfold bc4; rw [on_ush (k := 8) (by decide) l3 (by omega), lN_add]
  have b5 : bc5 (lN (N + N / 256)) = lN (N + N / 256 + (N + N / 256) / 65536) := by
    unfold bc5; rw [on_ush (k := 16) (by decide) hL.2.2.2 (by omega), lN_add]
  have b6 : bc6 (lN (N + N / 256 + (N + N / 256) / 65536)) = lN (N + N / 256 + (N + N / 256) / 65536 + (N + N / 256 + (N + N / 256) / 65536) / 4294967296) := by
    unfold bc6; rw [on_ush (k := 32) (by decide) hL.2.2.1 (by omega), lN_add]
  rw [b4, b5, b6, lN_i, show (127 : Int32) = nI (2 ^ 7 - 1) from rfl, fa_mask, hpc, ← hL.1]
