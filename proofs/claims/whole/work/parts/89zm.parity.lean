/-! ===== parity: class and model ===== -/
def xb (p : Nat → Bool) : Nat → Bool
  | 0 => false
  | v + 1 => xor (xb p v) (p v)
theorem mk_xor {p q : Nat → Bool} : mkm p 64 ^^^ mkm q 64 = mkm (fun l => xor (p l) (q l)) 64 := by
  rw [mkm_N (p := p) 64 (by omega), mkm_N (p := q) 64 (by omega), fb_xorL]
  refine mkm_ext (Nat.xor_lt_two_pow (mkN_lt p 64) (mkN_lt q 64)) (fun v hv => ?_)
  rw [Nat.testBit_xor, mkN_bit, mkN_bit, decide_eq_true hv, Bool.true_and, Bool.true_and]
theorem pr_xb {m : Mm} {c s b : Nat} {B : Nat → Nat} : ∀ R, prM m c s b B R = mkm (fun l => xb (fun v => bitM m c s b B v l) R) 64
  | 0 => (mk_0 (fun _ _ => rfl)).symm
  | R + 1 => by rw [prM, pr_xb R, mk_xor]; rfl
theorem ct_xb {p : Nat → Bool} {R : Nat} : ∀ n, decide (ctN (fun v => decide (v < R) && p v) n % 2 = 1) = xb p (min n R)
  | 0 => by rw [Nat.zero_min]; rfl
  | n + 1 => by
    have ih := ct_xb (p := p) (R := R) n
    rw [ctN]
    by_cases q : n < R
    · rw [Nat.min_eq_left (by omega)] at ih ⊢
      rw [xb, ← ih, decide_eq_true q, Bool.true_and]
      cases p n with
      | true =>
        rw [if_pos rfl]
        by_cases e : ctN (fun v => decide (v < R) && p v) n % 2 = 1
        · rw [decide_eq_true e, decide_eq_false (by omega)]; rfl
        · rw [decide_eq_false e, decide_eq_true (by omega)]; rfl
      | false =>
        rw [if_neg (by decide), Nat.add_zero]
        cases decide (ctN (fun v => decide (v < R) && p v) n % 2 = 1) <;> rfl
    · rw [Nat.min_eq_right (by omega)] at ih ⊢
      rw [← ih, decide_eq_false q, Bool.false_and, if_neg (by decide), Nat.add_zero]
theorem nI_and1 {n : Nat} (h : n < 2 ^ 31) : (nI n).toInt64 &&& 1 = if decide (n % 2 = 1) then 1 else 0 := by
  rw [nI_l h, show (1 : Int64) = lN (2 ^ 1 - 1) from rfl, fb_maskL]
  rcases (show n % 2 = 0 ∨ n % 2 = 1 by omega) with e | e
  · rw [show n % 2 ^ 1 = 0 from e]; rfl
  · rw [show n % 2 ^ 1 = 1 from e]; rfl
theorem par_e {m : Mm} {z : Nat → Nat} {c s b : Nat} {B : Nat → Nat} (hz : Z32 z) (hR : RRows m z) (h : RCol m c s b (z c) B) : ∀ l, l ≤ 64 → parF m c l = mkm (fun l => xb (fun v => bitM m c s b B v l) (rmN s B b)) l
  | 0, _ => rfl
  | l + 1, hl => by
    have h64 := h.2.1
    have hct : ctN (slP m c s b B l) 64 ≤ 64 := ctN_le
    have hx := ct_xb (p := fun v => bitM m c s b B v l) (R := rmN s B b) 64
    rw [Nat.min_eq_right h64] at hx
    rw [parF, mkm, par_e hz hR h l (by omega), slA_e hz hR h (show l < 64 by omega), bc_mk, nI_and1 (by omega), or_bit (by omega), ← hx]
    rfl
theorem q_parity {m m2 : Mm} {z : Nat → Nat} {c s b : Nat} {B : Nat → Nat} {r' : Int64} (hz : Z32 z) (hR : RRows m z) (h : RCol m c s b (z c) B) (hm : rPar m c s b B r' m2) : parF m c 64 = r' := by
  rw [hm.1, par_e hz hR h 64 (Nat.le_refl 64), pr_xb]
