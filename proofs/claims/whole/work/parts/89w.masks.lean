/-! ===== words as sets of bits ===== -/
theorem k63 : ∀ k : Fin 64, (((nI k.1).toInt64 &&& 63).toBitVec.smod 64) = BitVec.ofNat 64 k.1 := by decide +kernel
theorem on_shl {n k : Nat} (hk : k < 64) : lN n <<< ((nI k).toInt64 &&& 63) = lN (n * 2 ^ k) := by
  apply Int64.toBitVec_inj.1
  rw [Int64.toBitVec_shiftLeft, k63 ⟨k, hk⟩]
  show BitVec.ofNat 64 n <<< BitVec.ofNat 64 k = BitVec.ofNat 64 (n * 2 ^ k)
  apply BitVec.eq_of_toNat_eq
  rw [BitVec.shiftLeft_eq', BitVec.toNat_shiftLeft, BitVec.toNat_ofNat, BitVec.toNat_ofNat, BitVec.toNat_ofNat, Nat.mod_eq_of_lt (show k < 2 ^ 64 by omega), Nat.shiftLeft_eq, Nat.mod_mul_mod]
def mkN (p : Nat → Bool) : Nat → Nat
  | 0 => 0
  | n + 1 => if p n then 2 ^ n + mkN p n else mkN p n
theorem mkN_lt (p : Nat → Bool) : ∀ n, mkN p n < 2 ^ n
  | 0 => Nat.one_pos
  | n + 1 => by have := mkN_lt p n; rw [mkN, Nat.pow_succ]; split <;> omega
theorem mkm_N {p : Nat → Bool} : ∀ n, n ≤ 64 → mkm p n = lN (mkN p n)
  | 0, _ => rfl
  | n + 1, hn => by
    rw [mkm, mkN, mkm_N n (by omega)]
    by_cases h : p n
    · rw [if_pos h, if_pos h, show (1 : Int64) = lN 1 from rfl, on_shl (by omega), Nat.one_mul, fb_orL, Nat.or_comm]
      congr 1
      have := Nat.two_pow_add_eq_or_of_lt (mkN_lt p n) 1
      rw [Nat.mul_one] at this
      exact this.symm
    · rw [if_neg h, if_neg h]
theorem mkN_bit {p : Nat → Bool} : ∀ n v, (mkN p n).testBit v = (decide (v < n) && p v)
  | 0, v => by rw [mkN, Nat.zero_testBit]; simp
  | n + 1, v => by
    have hlt := mkN_lt p n
    rw [mkN]
    by_cases h : p n
    · rw [if_pos h]
      have e : 2 ^ n + mkN p n = 2 ^ n * 1 + mkN p n := by rw [Nat.mul_one]
      rw [e, Nat.testBit_two_pow_mul_add _ hlt]
      by_cases q : v < n
      · rw [if_pos q, mkN_bit n v, decide_eq_true q, decide_eq_true (show v < n + 1 by omega)]
      · rw [if_neg q]
        by_cases q2 : v = n
        · subst q2
          rw [Nat.sub_self, decide_eq_true (show v < v + 1 by omega), h]; rfl
        · rw [decide_eq_false (show ¬ v < n + 1 by omega), Bool.false_and]
          have : v - n = (v - n - 1) + 1 := by omega
          rw [this, Nat.testBit_succ]
          simp
    · rw [if_neg h, mkN_bit n v]
      by_cases q2 : v = n
      · subst q2
        have hf : p v = false := by simpa using h
        rw [hf, Bool.and_false, Bool.and_false]
      · by_cases q : v < n
        · rw [decide_eq_true q, decide_eq_true (show v < n + 1 by omega)]
        · rw [decide_eq_false q, decide_eq_false (show ¬ v < n + 1 by omega)]
/-- ones are counted -/
theorem pcf_add : ∀ t X Y, Y < 2 ^ t → pcf (t + 1) (2 ^ t * X + Y) = X % 2 + pcf t Y
  | 0, X, Y, h => by
    have : Y = 0 := by simpa using h
    subst this
    show (2 ^ 0 * X + 0) % 2 + 0 = X % 2 + 0
    rw [Nat.pow_zero, Nat.one_mul]; omega
  | t + 1, X, Y, h => by
    have u1 : ∀ a, pcf (t + 1 + 1) a = a % 2 + pcf (t + 1) (a / 2) := fun _ => rfl
    have u2 : pcf (t + 1) Y = Y % 2 + pcf t (Y / 2) := rfl
    rw [u1, u2]
    have e1 : (2 ^ (t + 1) * X + Y) % 2 = Y % 2 := by rw [Nat.pow_succ, Nat.mul_comm (2 ^ t) 2, Nat.mul_assoc]; omega
    have e2 : (2 ^ (t + 1) * X + Y) / 2 = 2 ^ t * X + Y / 2 := by rw [Nat.pow_succ, Nat.mul_comm (2 ^ t) 2, Nat.mul_assoc]; omega
    rw [e1, e2, pcf_add t X (Y / 2) (by rw [Nat.pow_succ] at h; omega)]
    omega
theorem pcf_mk {p : Nat → Bool} : ∀ n, pcf n (mkN p n) = ctN p n
  | 0 => rfl
  | n + 1 => by
    rw [mkN, ctN]
    have hlt := mkN_lt p n
    by_cases h : p n
    · rw [if_pos h, if_pos h]
      have := pcf_add n 1 (mkN p n) hlt
      rw [Nat.mul_one] at this
      rw [this, pcf_mk n]; omega
    · rw [if_neg h, if_neg h]
      have := pcf_add n 0 (mkN p n) hlt
      rw [Nat.mul_zero, Nat.zero_add] at this
      rw [this, pcf_mk n]; omega
theorem pcN_lN {X : Nat} (h : X < 2 ^ 64) : pcN (lN X) = pcf 64 X := by
  unfold pcN
  show pcf 64 (BitVec.ofNat 64 X).toNat = _
  rw [BitVec.toNat_ofNat, Nat.mod_eq_of_lt h]
theorem bc_mk {p : Nat → Bool} : bcI (mkm p 64) = nI (ctN p 64) := by
  rw [bc_e, mkm_N 64 (by omega), pcN_lN (mkN_lt p 64), pcf_mk]
/-- a bit, as the class looks at it -/
theorem tb_N {X v : Nat} (hX : X < 2 ^ 64) (hv : v < 64) (K : Int32) (hK : K = nI v) : (ush (lN X) K &&& 1) = lN (if X.testBit v then 1 else 0) := by
  subst hK
  have k6 : ∀ k : Fin 64, ((nI k.1).toInt64.toUInt64 &&& Int64.toUInt64 63) = UInt64.ofNat k.1 := by decide +kernel
  rw [on_ush (k6 ⟨v, hv⟩) hX hv, show (1 : Int64) = lN (2 ^ 1 - 1) from rfl, fb_maskL]
  congr 1
  rw [Nat.testBit, Nat.shiftRight_eq_div_pow]
  rcases Nat.mod_two_eq_zero_or_one (X / 2 ^ v) with q | q
  · rw [Nat.pow_one, q]; simp [Nat.one_and_eq_mod_two, q]
  · rw [Nat.pow_one, q]; simp [Nat.one_and_eq_mod_two, q]
