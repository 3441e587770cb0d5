/-! ===== the memory: int fields I, int and boolean arrays A, long arrays L, torn vectors T, how many questions, their lengths ===== -/
abbrev Mm : Type := (Nat → Nat → Int32) × (Nat → Nat → Int32) × (Nat → Nat → Int64) × (Nat → Int64) × Nat × (Nat → Nat)
def mI (m : Mm) : Nat → Nat → Int32 := m.1
def mA (m : Mm) : Nat → Nat → Int32 := m.2.1
def mL (m : Mm) : Nat → Nat → Int64 := m.2.2.1
def mT (m : Mm) : Nat → Int64 := m.2.2.2.1
def mq (m : Mm) : Nat := m.2.2.2.2.1
def ml (m : Mm) : Nat → Nat := m.2.2.2.2.2
def lI : List Int32 → Nat → Int32
  | [], _ => 0
  | x :: _, 0 => x
  | _ :: t, i + 1 => lI t i
theorem lI_0 {x : Int32} {t : List Int32} : lI (x :: t) 0 = x := (rfl)
theorem lI_s {x : Int32} {t : List Int32} {i : Nat} : lI (x :: t) (i + 1) = lI t i := (rfl)
def sI (m : Mm) (k : Nat) (l : List Int32) : Mm := (va_up (mI m) k (lI l), mA m, mL m, mT m, mq m, ml m)
def sA (m : Mm) (k : Nat) (g : Nat → Int32) : Mm := (mI m, va_up (mA m) k g, mL m, mT m, mq m, ml m)
def sL (m : Mm) (k : Nat) (g : Nat → Int64) : Mm := (mI m, mA m, va_up (mL m) k g, mT m, mq m, ml m)
def sT (m : Mm) (k : Nat) (l : List Int32) (t : Int64) : Mm := (va_up (mI m) k (lI l), mA m, mL m, va_up (mT m) k t, mq m, ml m)
section Acc
variable {m : Mm} {k : Nat} {l : List Int32} {g : Nat → Int32} {h : Nat → Int64} {t : Int64}
theorem mI_sI : mI (sI m k l) = va_up (mI m) k (lI l) := (rfl)
theorem mA_sI : mA (sI m k l) = mA m := (rfl)
theorem mL_sI : mL (sI m k l) = mL m := (rfl)
theorem mT_sI : mT (sI m k l) = mT m := (rfl)
theorem mq_sI : mq (sI m k l) = mq m := (rfl)
theorem ml_sI : ml (sI m k l) = ml m := (rfl)
theorem mI_sA : mI (sA m k g) = mI m := (rfl)
theorem mA_sA : mA (sA m k g) = va_up (mA m) k g := (rfl)
theorem mL_sA : mL (sA m k g) = mL m := (rfl)
theorem mT_sA : mT (sA m k g) = mT m := (rfl)
theorem mq_sA : mq (sA m k g) = mq m := (rfl)
theorem ml_sA : ml (sA m k g) = ml m := (rfl)
theorem mI_sL : mI (sL m k h) = mI m := (rfl)
theorem mA_sL : mA (sL m k h) = mA m := (rfl)
theorem mL_sL : mL (sL m k h) = va_up (mL m) k h := (rfl)
theorem mT_sL : mT (sL m k h) = mT m := (rfl)
theorem mq_sL : mq (sL m k h) = mq m := (rfl)
theorem ml_sL : ml (sL m k h) = ml m := (rfl)
theorem mI_sT : mI (sT m k l t) = va_up (mI m) k (lI l) := (rfl)
theorem mA_sT : mA (sT m k l t) = mA m := (rfl)
theorem mL_sT : mL (sT m k l t) = mL m := (rfl)
theorem mT_sT : mT (sT m k l t) = va_up (mT m) k t := (rfl)
theorem mq_sT : mq (sT m k l t) = mq m := (rfl)
theorem ml_sT : ml (sT m k l t) = ml m := (rfl)
theorem up_up {α : Type} {f : Nat → α} {k : Nat} {v w : α} : va_up (va_up f k v) k w = va_up f k w := by
  funext j
  by_cases h : j = k
  · subst h; rw [va_up_self, va_up_self]
  · rw [va_up_ne _ _ h, va_up_ne _ _ h, va_up_ne _ _ h]
theorem sI_sI {l' : List Int32} : sI (sI m k l) k l' = sI m k l' := by simp only [sI, mI, mA, mL, mT, mq, ml, up_up]
theorem sA_sA {g' : Nat → Int32} : sA (sA m k g) k g' = sA m k g' := by simp only [sA, mI, mA, mL, mT, mq, ml, up_up]
theorem sL_sL {h' : Nat → Int64} : sL (sL m k h) k h' = sL m k h' := by simp only [sL, mI, mA, mL, mT, mq, ml, up_up]
theorem sT_sT {l' : List Int32} {t' : Int64} : sT (sT m k l t) k l' t' = sT m k l' t' := by simp only [sT, mI, mA, mL, mT, mq, ml, up_up]
end Acc
/-- a column's cells, and a question's -/
def vwC (m : Mm) (k j : Nat) : Ac := match j with
  | 0 => .inr (1, [.int (mI m k 0), .int (mI m k 1), .int (mI m k 2), .int (mI m k 3), .long (mT m k), .ref (k + 1), .ref (k + 2), .ref (k + 3), .ref (k + 4), .ref (k + 5)])
  | 5 => .inl (2, 32, .inr (.inl (mL m k)))
  | _ => .inl (0, 5, .inl (mA m k))
def vwQ (m : Mm) (k j q : Nat) : Ac := match j with
  | 0 => .inr (3, [.ref (k + 1), .ref (k + 2), .ref (k + 3), .int (mI m k 3), .int (mI m k 4), .int (mI m k 5)])
  | 3 => .inl (2, ml m q, .inr (.inl (mL m k)))
  | _ => .inl (0, ml m q, .inl (mA m k))
def vwL (m : Mm) (k : Nat) : Ac := match k with
  | 0 => am_scr
  | 1 => .inr (6, [.ref 2, .ref 7, .ref 32, .ref 34, .ref 35, .ref 38, .int (mI m 1 6), .int (mI m 1 7), .int (mI m 1 8)])
  | 2 => .inr (5, [.ref 3, .ref 4, .ref 5, .ref 6, .int (mI m 2 4), .int (mI m 2 5), .int (mI m 2 6), .int (mI m 2 7)])
  | 3 => .inl (0, 64, .inl (mA m 3))
  | 4 => .inl (0, 100, .inl (mA m 4))
  | 5 => .inl (0, 100, .inl (mA m 5))
  | 6 => .inl (0, 192, .inl (mA m 6))
  | 7 => .inl (3, 4, .inr (.inr (.inr (.inr (fun i => if i < 4 then some (8 + 6 * i) else none)))))
  | 32 => .inr (2, [.ref 33, .int (mI m 32 1), .int (mI m 32 2), .int (mI m 32 3)])
  | 33 => .inl (0, 60, .inl (mA m 33))
  | 34 => .inl (4, 8, .inr (.inr (.inr (.inr (fun i => if i < (mI m 34 0).toNatClampNeg then some (66 + 4 * i) else none)))))
  | 35 => .inr (4, [.int (mI m 35 0), .int (mI m 35 1), .int (mI m 35 2), .int (mI m 35 3), .int (mI m 35 4), .ref 36, .ref 37, .int (mI m 35 7), .int (mI m 35 8), .int (mI m 35 9), .int (mI m 35 10), .int (mI m 35 11), .int (mI m 35 12)])
  | 36 => .inl (0, 5, .inl (mA m 36))
  | 37 => .inl (0, 5, .inl (mA m 37))
  | 38 => .inr (0, [.ref 39, .int (mI m 38 1)])
  | 39 => .inl (0, 64, .inl (mA m 39))
  | 40 => .inr (7, [.ref 41, .ref 42, .ref 43, .int (mI m 40 3), .ref 44, .ref 45, .ref 46, .int (mI m 40 7), .ref 47, .ref 48, .ref 49, .ref 50, .ref 51, .ref 52, .ref 53, .ref 54, .int (mI m 40 16), .int (mI m 40 17), .int (mI m 40 18), .int (mI m 40 19), .int (mI m 40 20), .int (mI m 40 21), .int (mI m 40 22), .int (mI m 40 23), .ref 55, .ref 56, .int (mI m 40 26), .int (mI m 40 27), .ref 57, .ref 58, .ref 59, .int (mI m 40 31), .int (mI m 40 32), .int (mI m 40 33), .int (mI m 40 34), .int (mI m 40 35), .int (mI m 40 36), .ref 60, .ref 61, .int (mI m 40 39), .ref 62, .int (mI m 40 41), .ref 63, .ref 64, .ref 65, .int (mI m 40 45)])
  | 41 => .inl (0, 4, .inl (mA m 41))
  | 42 => .inl (0, 256, .inl (mA m 42))
  | 43 => .inl (1, 64, .inl (mA m 43))
  | 44 => .inl (0, 100, .inl (mA m 44))
  | 45 => .inl (1, 100, .inl (mA m 45))
  | 46 => .inl (0, 400, .inl (mA m 46))
  | 47 => .inl (1, 192, .inl (mA m 47))
  | 48 => .inl (0, 768, .inl (mA m 48))
  | 49 => .inl (0, 4, .inl (mA m 49))
  | 50 => .inl (0, 4, .inl (mA m 50))
  | 51 => .inl (0, 24, .inl (mA m 51))
  | 52 => .inl (0, 4, .inl (mA m 52))
  | 53 => .inl (1, 256, .inl (mA m 53))
  | 54 => .inl (0, 6, .inl (mA m 54))
  | 55 => .inl (0, 6, .inl (mA m 55))
  | 56 => .inl (0, 60, .inl (mA m 56))
  | 57 => .inl (0, 8, .inl (mA m 57))
  | 58 => .inl (0, 480, .inl (mA m 58))
  | 59 => .inl (0, 480, .inl (mA m 59))
  | 60 => .inl (0, 60, .inl (mA m 60))
  | 61 => .inl (0, 60, .inl (mA m 61))
  | 62 => .inl (0, 60, .inl (mA m 62))
  | 63 => .inl (1, 61, .inl (mA m 63))
  | 64 => .inl (0, 64, .inl (mA m 64))
  | 65 => .inl (0, 4, .inl (mA m 65))
  | _ => am_nil
def vw (m : Mm) (k : Nat) : Ac := if k < 8 then vwL m k else if k < 32 then vwC m k ((k - 8) % 6) else if k < 66 then vwL m k else if k < 66 + 4 * mq m then vwQ m k ((k - 66) % 4) ((k - 66) / 4) else am_nil
def nn (m : Mm) : Nat := 65 + 4 * mq m
section Vw
variable {m : Mm}
theorem vw_0 : vw m 0 = am_scr := (rfl)
theorem vw_1 : vw m 1 = .inr (6, [.ref 2, .ref 7, .ref 32, .ref 34, .ref 35, .ref 38, .int (mI m 1 6), .int (mI m 1 7), .int (mI m 1 8)]) := (rfl)
theorem vw_2 : vw m 2 = .inr (5, [.ref 3, .ref 4, .ref 5, .ref 6, .int (mI m 2 4), .int (mI m 2 5), .int (mI m 2 6), .int (mI m 2 7)]) := (rfl)
theorem vw_3 : vw m 3 = .inl (0, 64, .inl (mA m 3)) := (rfl)
theorem vw_4 : vw m 4 = .inl (0, 100, .inl (mA m 4)) := (rfl)
theorem vw_5 : vw m 5 = .inl (0, 100, .inl (mA m 5)) := (rfl)
theorem vw_6 : vw m 6 = .inl (0, 192, .inl (mA m 6)) := (rfl)
theorem vw_7 : vw m 7 = .inl (3, 4, .inr (.inr (.inr (.inr (fun i => if i < 4 then some (8 + 6 * i) else none))))) := (rfl)
theorem vw_32 : vw m 32 = .inr (2, [.ref 33, .int (mI m 32 1), .int (mI m 32 2), .int (mI m 32 3)]) := (rfl)
theorem vw_33 : vw m 33 = .inl (0, 60, .inl (mA m 33)) := (rfl)
theorem vw_34 : vw m 34 = .inl (4, 8, .inr (.inr (.inr (.inr (fun i => if i < (mI m 34 0).toNatClampNeg then some (66 + 4 * i) else none))))) := (rfl)
theorem vw_35 : vw m 35 = .inr (4, [.int (mI m 35 0), .int (mI m 35 1), .int (mI m 35 2), .int (mI m 35 3), .int (mI m 35 4), .ref 36, .ref 37, .int (mI m 35 7), .int (mI m 35 8), .int (mI m 35 9), .int (mI m 35 10), .int (mI m 35 11), .int (mI m 35 12)]) := (rfl)
theorem vw_36 : vw m 36 = .inl (0, 5, .inl (mA m 36)) := (rfl)
theorem vw_37 : vw m 37 = .inl (0, 5, .inl (mA m 37)) := (rfl)
theorem vw_38 : vw m 38 = .inr (0, [.ref 39, .int (mI m 38 1)]) := (rfl)
theorem vw_39 : vw m 39 = .inl (0, 64, .inl (mA m 39)) := (rfl)
theorem vw_40 : vw m 40 = .inr (7, [.ref 41, .ref 42, .ref 43, .int (mI m 40 3), .ref 44, .ref 45, .ref 46, .int (mI m 40 7), .ref 47, .ref 48, .ref 49, .ref 50, .ref 51, .ref 52, .ref 53, .ref 54, .int (mI m 40 16), .int (mI m 40 17), .int (mI m 40 18), .int (mI m 40 19), .int (mI m 40 20), .int (mI m 40 21), .int (mI m 40 22), .int (mI m 40 23), .ref 55, .ref 56, .int (mI m 40 26), .int (mI m 40 27), .ref 57, .ref 58, .ref 59, .int (mI m 40 31), .int (mI m 40 32), .int (mI m 40 33), .int (mI m 40 34), .int (mI m 40 35), .int (mI m 40 36), .ref 60, .ref 61, .int (mI m 40 39), .ref 62, .int (mI m 40 41), .ref 63, .ref 64, .ref 65, .int (mI m 40 45)]) := (rfl)
theorem vw_41 : vw m 41 = .inl (0, 4, .inl (mA m 41)) := (rfl)
theorem vw_42 : vw m 42 = .inl (0, 256, .inl (mA m 42)) := (rfl)
theorem vw_43 : vw m 43 = .inl (1, 64, .inl (mA m 43)) := (rfl)
theorem vw_44 : vw m 44 = .inl (0, 100, .inl (mA m 44)) := (rfl)
theorem vw_45 : vw m 45 = .inl (1, 100, .inl (mA m 45)) := (rfl)
theorem vw_46 : vw m 46 = .inl (0, 400, .inl (mA m 46)) := (rfl)
theorem vw_47 : vw m 47 = .inl (1, 192, .inl (mA m 47)) := (rfl)
theorem vw_48 : vw m 48 = .inl (0, 768, .inl (mA m 48)) := (rfl)
theorem vw_49 : vw m 49 = .inl (0, 4, .inl (mA m 49)) := (rfl)
theorem vw_50 : vw m 50 = .inl (0, 4, .inl (mA m 50)) := (rfl)
theorem vw_51 : vw m 51 = .inl (0, 24, .inl (mA m 51)) := (rfl)
theorem vw_52 : vw m 52 = .inl (0, 4, .inl (mA m 52)) := (rfl)
theorem vw_53 : vw m 53 = .inl (1, 256, .inl (mA m 53)) := (rfl)
theorem vw_54 : vw m 54 = .inl (0, 6, .inl (mA m 54)) := (rfl)
theorem vw_55 : vw m 55 = .inl (0, 6, .inl (mA m 55)) := (rfl)
theorem vw_56 : vw m 56 = .inl (0, 60, .inl (mA m 56)) := (rfl)
theorem vw_57 : vw m 57 = .inl (0, 8, .inl (mA m 57)) := (rfl)
theorem vw_58 : vw m 58 = .inl (0, 480, .inl (mA m 58)) := (rfl)
theorem vw_59 : vw m 59 = .inl (0, 480, .inl (mA m 59)) := (rfl)
theorem vw_60 : vw m 60 = .inl (0, 60, .inl (mA m 60)) := (rfl)
theorem vw_61 : vw m 61 = .inl (0, 60, .inl (mA m 61)) := (rfl)
theorem vw_62 : vw m 62 = .inl (0, 60, .inl (mA m 62)) := (rfl)
theorem vw_63 : vw m 63 = .inl (1, 61, .inl (mA m 63)) := (rfl)
theorem vw_64 : vw m 64 = .inl (0, 64, .inl (mA m 64)) := (rfl)
theorem vw_65 : vw m 65 = .inl (0, 4, .inl (mA m 65)) := (rfl)
theorem vw_c0 {i : Nat} (hi : i < 4) : vw m (8 + 6 * i) = .inr (1, [.int (mI m (8 + 6 * i) 0), .int (mI m (8 + 6 * i) 1), .int (mI m (8 + 6 * i) 2), .int (mI m (8 + 6 * i) 3), .long (mT m (8 + 6 * i)), .ref (9 + 6 * i), .ref (10 + 6 * i), .ref (11 + 6 * i), .ref (12 + 6 * i), .ref (13 + 6 * i)]) := by
  have e : (8 + 6 * i - 8) % 6 = 0 := by omega
  unfold vw
  rw [if_neg (by omega), if_pos (by omega), e]
  simp only [vwC]
  rw [show 8 + 6 * i + 1 = 9 + 6 * i by omega, show 8 + 6 * i + 2 = 10 + 6 * i by omega, show 8 + 6 * i + 3 = 11 + 6 * i by omega, show 8 + 6 * i + 4 = 12 + 6 * i by omega, show 8 + 6 * i + 5 = 13 + 6 * i by omega]
theorem vw_c1 {i : Nat} (hi : i < 4) : vw m (9 + 6 * i) = .inl (0, 5, .inl (mA m (9 + 6 * i))) := by
  have e : (9 + 6 * i - 8) % 6 = 1 := by omega
  unfold vw
  rw [if_neg (by omega), if_pos (by omega), e]
  simp only [vwC]
theorem vw_c2 {i : Nat} (hi : i < 4) : vw m (10 + 6 * i) = .inl (0, 5, .inl (mA m (10 + 6 * i))) := by
  have e : (10 + 6 * i - 8) % 6 = 2 := by omega
  unfold vw
  rw [if_neg (by omega), if_pos (by omega), e]
  simp only [vwC]
theorem vw_c3 {i : Nat} (hi : i < 4) : vw m (11 + 6 * i) = .inl (0, 5, .inl (mA m (11 + 6 * i))) := by
  have e : (11 + 6 * i - 8) % 6 = 3 := by omega
  unfold vw
  rw [if_neg (by omega), if_pos (by omega), e]
  simp only [vwC]
theorem vw_c4 {i : Nat} (hi : i < 4) : vw m (12 + 6 * i) = .inl (0, 5, .inl (mA m (12 + 6 * i))) := by
  have e : (12 + 6 * i - 8) % 6 = 4 := by omega
  unfold vw
  rw [if_neg (by omega), if_pos (by omega), e]
  simp only [vwC]
theorem vw_c5 {i : Nat} (hi : i < 4) : vw m (13 + 6 * i) = .inl (2, 32, .inr (.inl (mL m (13 + 6 * i)))) := by
  have e : (13 + 6 * i - 8) % 6 = 5 := by omega
  unfold vw
  rw [if_neg (by omega), if_pos (by omega), e]
  simp only [vwC]
theorem vw_q0 {q : Nat} (hq : q < mq m) : vw m (66 + 4 * q) = .inr (3, [.ref (67 + 4 * q), .ref (68 + 4 * q), .ref (69 + 4 * q), .int (mI m (66 + 4 * q) 3), .int (mI m (66 + 4 * q) 4), .int (mI m (66 + 4 * q) 5)]) := by
  have e : (66 + 4 * q - 66) % 4 = 0 := by omega
  have e2 : (66 + 4 * q - 66) / 4 = q := by omega
  unfold vw
  rw [if_neg (by omega), if_neg (by omega), if_neg (by omega), if_pos (by omega), e, e2]
  simp only [vwQ]
  rw [show 66 + 4 * q + 1 = 67 + 4 * q by omega, show 66 + 4 * q + 2 = 68 + 4 * q by omega, show 66 + 4 * q + 3 = 69 + 4 * q by omega]
theorem vw_q1 {q : Nat} (hq : q < mq m) : vw m (67 + 4 * q) = .inl (0, ml m q, .inl (mA m (67 + 4 * q))) := by
  have e : (67 + 4 * q - 66) % 4 = 1 := by omega
  have e2 : (67 + 4 * q - 66) / 4 = q := by omega
  unfold vw
  rw [if_neg (by omega), if_neg (by omega), if_neg (by omega), if_pos (by omega), e, e2]
  simp only [vwQ]
theorem vw_q2 {q : Nat} (hq : q < mq m) : vw m (68 + 4 * q) = .inl (0, ml m q, .inl (mA m (68 + 4 * q))) := by
  have e : (68 + 4 * q - 66) % 4 = 2 := by omega
  have e2 : (68 + 4 * q - 66) / 4 = q := by omega
  unfold vw
  rw [if_neg (by omega), if_neg (by omega), if_neg (by omega), if_pos (by omega), e, e2]
  simp only [vwQ]
theorem vw_q3 {q : Nat} (hq : q < mq m) : vw m (69 + 4 * q) = .inl (2, ml m q, .inr (.inl (mL m (69 + 4 * q)))) := by
  have e : (69 + 4 * q - 66) % 4 = 3 := by omega
  have e2 : (69 + 4 * q - 66) / 4 = q := by omega
  unfold vw
  rw [if_neg (by omega), if_neg (by omega), if_neg (by omega), if_pos (by omega), e, e2]
  simp only [vwQ]
theorem vw_nil {k : Nat} (h : nn m < k) : vw m k = am_nil := by
  unfold nn at h
  unfold vw
  rw [if_neg (by omega), if_neg (by omega), if_neg (by omega), if_neg (by omega)]
theorem vwC_cong {m m' : Mm} {k j : Nat} (h1 : mI m' k = mI m k) (h2 : mA m' k = mA m k) (h3 : mL m' k = mL m k) (h4 : mT m' k = mT m k) : vwC m' k j = vwC m k j := by
  unfold vwC
  rw [h1, h2, h3, h4]
theorem vwQ_cong {m m' : Mm} {k j q : Nat} (h1 : mI m' k = mI m k) (h2 : mA m' k = mA m k) (h3 : mL m' k = mL m k) (h5 : ml m' = ml m) : vwQ m' k j q = vwQ m k j q := by
  unfold vwQ
  rw [h1, h2, h3, h5]
set_option maxHeartbeats 4000000 in
theorem vwL_cong {m m' : Mm} {k : Nat} (h1 : mI m' k = mI m k) (h2 : mA m' k = mA m k) (h5 : mq m' = mq m) : vwL m' k = vwL m k := by
  unfold vwL
  split <;> simp only [h1, h2, h5]
/-- places where the memories agree have one picture -/
theorem vw_cong {m m' : Mm} {k : Nat} (h1 : mI m' k = mI m k) (h2 : mA m' k = mA m k) (h3 : mL m' k = mL m k) (h4 : mT m' k = mT m k) (h5 : mq m' = mq m) (h6 : ml m' = ml m) : vw m' k = vw m k := by
  unfold vw
  rw [vwL_cong h1 h2 h5, vwC_cong h1 h2 h3 h4, vwQ_cong h1 h2 h3 h6, h5]
/-- a picture changed at one place is the changed memory's -/
theorem vw_up {m m' : Mm} {k : Nat} {c : Ac} (hc : vw m' k = c) (h1 : ∀ j, j ≠ k → mI m' j = mI m j) (h2 : ∀ j, j ≠ k → mA m' j = mA m j) (h3 : ∀ j, j ≠ k → mL m' j = mL m j) (h4 : ∀ j, j ≠ k → mT m' j = mT m j) (h5 : mq m' = mq m) (h6 : ml m' = ml m) : va_up (vw m) k c = vw m' := by
  funext j
  by_cases hj : j = k
  · subst hj
    rw [va_up_self, hc]
  · rw [va_up_ne _ _ hj]
    exact (vw_cong (h1 j hj) (h2 j hj) (h3 j hj) (h4 j hj) h5 h6).symm
theorem vw_upI {m : Mm} {k : Nat} {l : List Int32} {c : Ac} (hc : vw (sI m k l) k = c) : va_up (vw m) k c = vw (sI m k l) :=
  vw_up hc (fun j hj => va_up_ne _ _ hj) (fun _ _ => rfl) (fun _ _ => rfl) (fun _ _ => rfl) rfl rfl
theorem vw_upA {m : Mm} {k : Nat} {g : Nat → Int32} {c : Ac} (hc : vw (sA m k g) k = c) : va_up (vw m) k c = vw (sA m k g) :=
  vw_up hc (fun _ _ => rfl) (fun j hj => va_up_ne _ _ hj) (fun _ _ => rfl) (fun _ _ => rfl) rfl rfl
theorem vw_upL {m : Mm} {k : Nat} {g : Nat → Int64} {c : Ac} (hc : vw (sL m k g) k = c) : va_up (vw m) k c = vw (sL m k g) :=
  vw_up hc (fun _ _ => rfl) (fun _ _ => rfl) (fun j hj => va_up_ne _ _ hj) (fun _ _ => rfl) rfl rfl
theorem vw_upT {m : Mm} {k : Nat} {l : List Int32} {t : Int64} {c : Ac} (hc : vw (sT m k l t) k = c) : va_up (vw m) k c = vw (sT m k l t) :=
  vw_up hc (fun j hj => va_up_ne _ _ hj) (fun _ _ => rfl) (fun _ _ => rfl) (fun j hj => va_up_ne _ _ hj) rfl rfl
end Vw
section Up
variable {m : Mm}
theorem up_1 {a6 a7 a8 : Int32} : va_up (vw m) 1 (.inr (6, [.ref 2, .ref 7, .ref 32, .ref 34, .ref 35, .ref 38, .int a6, .int a7, .int a8])) = vw (sI m 1 [0, 0, 0, 0, 0, 0, a6, a7, a8]) := vw_upI (by rw [vw_1]; simp only [mI_sI, va_up_self, lI_0, lI_s])
theorem up_2 {a4 a5 a6 a7 : Int32} : va_up (vw m) 2 (.inr (5, [.ref 3, .ref 4, .ref 5, .ref 6, .int a4, .int a5, .int a6, .int a7])) = vw (sI m 2 [0, 0, 0, 0, a4, a5, a6, a7]) := vw_upI (by rw [vw_2]; simp only [mI_sI, va_up_self, lI_0, lI_s])
theorem up_32 {a1 a2 a3 : Int32} : va_up (vw m) 32 (.inr (2, [.ref 33, .int a1, .int a2, .int a3])) = vw (sI m 32 [0, a1, a2, a3]) := vw_upI (by rw [vw_32]; simp only [mI_sI, va_up_self, lI_0, lI_s])
theorem up_35 {a0 a1 a2 a3 a4 a7 a8 a9 a10 a11 a12 : Int32} : va_up (vw m) 35 (.inr (4, [.int a0, .int a1, .int a2, .int a3, .int a4, .ref 36, .ref 37, .int a7, .int a8, .int a9, .int a10, .int a11, .int a12])) = vw (sI m 35 [a0, a1, a2, a3, a4, 0, 0, a7, a8, a9, a10, a11, a12]) := vw_upI (by rw [vw_35]; simp only [mI_sI, va_up_self, lI_0, lI_s])
theorem up_38 {a1 : Int32} : va_up (vw m) 38 (.inr (0, [.ref 39, .int a1])) = vw (sI m 38 [0, a1]) := vw_upI (by rw [vw_38]; simp only [mI_sI, va_up_self, lI_0, lI_s])
theorem up_40 {a3 a7 a16 a17 a18 a19 a20 a21 a22 a23 a26 a27 a31 a32 a33 a34 a35 a36 a39 a41 a45 : Int32} : va_up (vw m) 40 (.inr (7, [.ref 41, .ref 42, .ref 43, .int a3, .ref 44, .ref 45, .ref 46, .int a7, .ref 47, .ref 48, .ref 49, .ref 50, .ref 51, .ref 52, .ref 53, .ref 54, .int a16, .int a17, .int a18, .int a19, .int a20, .int a21, .int a22, .int a23, .ref 55, .ref 56, .int a26, .int a27, .ref 57, .ref 58, .ref 59, .int a31, .int a32, .int a33, .int a34, .int a35, .int a36, .ref 60, .ref 61, .int a39, .ref 62, .int a41, .ref 63, .ref 64, .ref 65, .int a45])) = vw (sI m 40 [0, 0, 0, a3, 0, 0, 0, a7, 0, 0, 0, 0, 0, 0, 0, 0, a16, a17, a18, a19, a20, a21, a22, a23, 0, 0, a26, a27, 0, 0, 0, a31, a32, a33, a34, a35, a36, 0, 0, a39, 0, a41, 0, 0, 0, a45]) := vw_upI (by rw [vw_40]; simp only [mI_sI, va_up_self, lI_0, lI_s])
theorem up_3 {g : Nat → Int32} : va_up (vw m) 3 (.inl (0, 64, .inl g)) = vw (sA m 3 g) := vw_upA (by rw [vw_3]; simp only [mA_sA, va_up_self])
theorem up_4 {g : Nat → Int32} : va_up (vw m) 4 (.inl (0, 100, .inl g)) = vw (sA m 4 g) := vw_upA (by rw [vw_4]; simp only [mA_sA, va_up_self])
theorem up_5 {g : Nat → Int32} : va_up (vw m) 5 (.inl (0, 100, .inl g)) = vw (sA m 5 g) := vw_upA (by rw [vw_5]; simp only [mA_sA, va_up_self])
theorem up_6 {g : Nat → Int32} : va_up (vw m) 6 (.inl (0, 192, .inl g)) = vw (sA m 6 g) := vw_upA (by rw [vw_6]; simp only [mA_sA, va_up_self])
theorem up_33 {g : Nat → Int32} : va_up (vw m) 33 (.inl (0, 60, .inl g)) = vw (sA m 33 g) := vw_upA (by rw [vw_33]; simp only [mA_sA, va_up_self])
theorem up_36 {g : Nat → Int32} : va_up (vw m) 36 (.inl (0, 5, .inl g)) = vw (sA m 36 g) := vw_upA (by rw [vw_36]; simp only [mA_sA, va_up_self])
theorem up_37 {g : Nat → Int32} : va_up (vw m) 37 (.inl (0, 5, .inl g)) = vw (sA m 37 g) := vw_upA (by rw [vw_37]; simp only [mA_sA, va_up_self])
theorem up_39 {g : Nat → Int32} : va_up (vw m) 39 (.inl (0, 64, .inl g)) = vw (sA m 39 g) := vw_upA (by rw [vw_39]; simp only [mA_sA, va_up_self])
theorem up_41 {g : Nat → Int32} : va_up (vw m) 41 (.inl (0, 4, .inl g)) = vw (sA m 41 g) := vw_upA (by rw [vw_41]; simp only [mA_sA, va_up_self])
theorem up_42 {g : Nat → Int32} : va_up (vw m) 42 (.inl (0, 256, .inl g)) = vw (sA m 42 g) := vw_upA (by rw [vw_42]; simp only [mA_sA, va_up_self])
theorem up_43 {g : Nat → Int32} : va_up (vw m) 43 (.inl (1, 64, .inl g)) = vw (sA m 43 g) := vw_upA (by rw [vw_43]; simp only [mA_sA, va_up_self])
theorem up_44 {g : Nat → Int32} : va_up (vw m) 44 (.inl (0, 100, .inl g)) = vw (sA m 44 g) := vw_upA (by rw [vw_44]; simp only [mA_sA, va_up_self])
theorem up_45 {g : Nat → Int32} : va_up (vw m) 45 (.inl (1, 100, .inl g)) = vw (sA m 45 g) := vw_upA (by rw [vw_45]; simp only [mA_sA, va_up_self])
theorem up_46 {g : Nat → Int32} : va_up (vw m) 46 (.inl (0, 400, .inl g)) = vw (sA m 46 g) := vw_upA (by rw [vw_46]; simp only [mA_sA, va_up_self])
theorem up_47 {g : Nat → Int32} : va_up (vw m) 47 (.inl (1, 192, .inl g)) = vw (sA m 47 g) := vw_upA (by rw [vw_47]; simp only [mA_sA, va_up_self])
theorem up_48 {g : Nat → Int32} : va_up (vw m) 48 (.inl (0, 768, .inl g)) = vw (sA m 48 g) := vw_upA (by rw [vw_48]; simp only [mA_sA, va_up_self])
theorem up_49 {g : Nat → Int32} : va_up (vw m) 49 (.inl (0, 4, .inl g)) = vw (sA m 49 g) := vw_upA (by rw [vw_49]; simp only [mA_sA, va_up_self])
theorem up_50 {g : Nat → Int32} : va_up (vw m) 50 (.inl (0, 4, .inl g)) = vw (sA m 50 g) := vw_upA (by rw [vw_50]; simp only [mA_sA, va_up_self])
theorem up_51 {g : Nat → Int32} : va_up (vw m) 51 (.inl (0, 24, .inl g)) = vw (sA m 51 g) := vw_upA (by rw [vw_51]; simp only [mA_sA, va_up_self])
theorem up_52 {g : Nat → Int32} : va_up (vw m) 52 (.inl (0, 4, .inl g)) = vw (sA m 52 g) := vw_upA (by rw [vw_52]; simp only [mA_sA, va_up_self])
theorem up_53 {g : Nat → Int32} : va_up (vw m) 53 (.inl (1, 256, .inl g)) = vw (sA m 53 g) := vw_upA (by rw [vw_53]; simp only [mA_sA, va_up_self])
theorem up_54 {g : Nat → Int32} : va_up (vw m) 54 (.inl (0, 6, .inl g)) = vw (sA m 54 g) := vw_upA (by rw [vw_54]; simp only [mA_sA, va_up_self])
theorem up_55 {g : Nat → Int32} : va_up (vw m) 55 (.inl (0, 6, .inl g)) = vw (sA m 55 g) := vw_upA (by rw [vw_55]; simp only [mA_sA, va_up_self])
theorem up_56 {g : Nat → Int32} : va_up (vw m) 56 (.inl (0, 60, .inl g)) = vw (sA m 56 g) := vw_upA (by rw [vw_56]; simp only [mA_sA, va_up_self])
theorem up_57 {g : Nat → Int32} : va_up (vw m) 57 (.inl (0, 8, .inl g)) = vw (sA m 57 g) := vw_upA (by rw [vw_57]; simp only [mA_sA, va_up_self])
theorem up_58 {g : Nat → Int32} : va_up (vw m) 58 (.inl (0, 480, .inl g)) = vw (sA m 58 g) := vw_upA (by rw [vw_58]; simp only [mA_sA, va_up_self])
theorem up_59 {g : Nat → Int32} : va_up (vw m) 59 (.inl (0, 480, .inl g)) = vw (sA m 59 g) := vw_upA (by rw [vw_59]; simp only [mA_sA, va_up_self])
theorem up_60 {g : Nat → Int32} : va_up (vw m) 60 (.inl (0, 60, .inl g)) = vw (sA m 60 g) := vw_upA (by rw [vw_60]; simp only [mA_sA, va_up_self])
theorem up_61 {g : Nat → Int32} : va_up (vw m) 61 (.inl (0, 60, .inl g)) = vw (sA m 61 g) := vw_upA (by rw [vw_61]; simp only [mA_sA, va_up_self])
theorem up_62 {g : Nat → Int32} : va_up (vw m) 62 (.inl (0, 60, .inl g)) = vw (sA m 62 g) := vw_upA (by rw [vw_62]; simp only [mA_sA, va_up_self])
theorem up_63 {g : Nat → Int32} : va_up (vw m) 63 (.inl (1, 61, .inl g)) = vw (sA m 63 g) := vw_upA (by rw [vw_63]; simp only [mA_sA, va_up_self])
theorem up_64 {g : Nat → Int32} : va_up (vw m) 64 (.inl (0, 64, .inl g)) = vw (sA m 64 g) := vw_upA (by rw [vw_64]; simp only [mA_sA, va_up_self])
theorem up_65 {g : Nat → Int32} : va_up (vw m) 65 (.inl (0, 4, .inl g)) = vw (sA m 65 g) := vw_upA (by rw [vw_65]; simp only [mA_sA, va_up_self])
theorem up_c0 {i : Nat} (hi : i < 4) {a0 a1 a2 a3 : Int32} {t : Int64} : va_up (vw m) (8 + 6 * i) (.inr (1, [.int a0, .int a1, .int a2, .int a3, .long t, .ref (9 + 6 * i), .ref (10 + 6 * i), .ref (11 + 6 * i), .ref (12 + 6 * i), .ref (13 + 6 * i)])) = vw (sT m (8 + 6 * i) [a0, a1, a2, a3] t) := vw_upT (by rw [vw_c0 hi]; simp only [mI_sT, mT_sT, va_up_self, lI_0, lI_s])
theorem up_c1 {i : Nat} (hi : i < 4) {g : Nat → Int32} : va_up (vw m) (9 + 6 * i) (.inl (0, 5, .inl g)) = vw (sA m (9 + 6 * i) g) := vw_upA (by rw [vw_c1 hi]; simp only [mA_sA, va_up_self])
theorem up_c2 {i : Nat} (hi : i < 4) {g : Nat → Int32} : va_up (vw m) (10 + 6 * i) (.inl (0, 5, .inl g)) = vw (sA m (10 + 6 * i) g) := vw_upA (by rw [vw_c2 hi]; simp only [mA_sA, va_up_self])
theorem up_c3 {i : Nat} (hi : i < 4) {g : Nat → Int32} : va_up (vw m) (11 + 6 * i) (.inl (0, 5, .inl g)) = vw (sA m (11 + 6 * i) g) := vw_upA (by rw [vw_c3 hi]; simp only [mA_sA, va_up_self])
theorem up_c4 {i : Nat} (hi : i < 4) {g : Nat → Int32} : va_up (vw m) (12 + 6 * i) (.inl (0, 5, .inl g)) = vw (sA m (12 + 6 * i) g) := vw_upA (by rw [vw_c4 hi]; simp only [mA_sA, va_up_self])
theorem up_c5 {i : Nat} (hi : i < 4) {g : Nat → Int64} : va_up (vw m) (13 + 6 * i) (.inl (2, 32, .inr (.inl g))) = vw (sL m (13 + 6 * i) g) := vw_upL (by rw [vw_c5 hi]; simp only [mL_sL, va_up_self])
theorem up_q0 {q : Nat} (hq : q < mq m) {a3 a4 a5 : Int32} : va_up (vw m) (66 + 4 * q) (.inr (3, [.ref (67 + 4 * q), .ref (68 + 4 * q), .ref (69 + 4 * q), .int a3, .int a4, .int a5])) = vw (sI m (66 + 4 * q) [0, 0, 0, a3, a4, a5]) := vw_upI (by rw [vw_q0 (m := sI m (66 + 4 * q) [0, 0, 0, a3, a4, a5]) hq]; simp only [mI_sI, va_up_self, lI_0, lI_s])
theorem up_q1 {q N : Nat} (hq : q < mq m) (hN : N = ml m q) {g : Nat → Int32} : va_up (vw m) (67 + 4 * q) (.inl (0, N, .inl g)) = vw (sA m (67 + 4 * q) g) := vw_upA (by rw [vw_q1 (m := sA m (67 + 4 * q) g) hq, hN]; simp only [mA_sA, ml_sA, va_up_self])
theorem up_q2 {q N : Nat} (hq : q < mq m) (hN : N = ml m q) {g : Nat → Int32} : va_up (vw m) (68 + 4 * q) (.inl (0, N, .inl g)) = vw (sA m (68 + 4 * q) g) := vw_upA (by rw [vw_q2 (m := sA m (68 + 4 * q) g) hq, hN]; simp only [mA_sA, ml_sA, va_up_self])
theorem up_q3 {q N : Nat} (hq : q < mq m) (hN : N = ml m q) {g : Nat → Int64} : va_up (vw m) (69 + 4 * q) (.inl (2, N, .inr (.inl g))) = vw (sL m (69 + 4 * q) g) := vw_upL (by rw [vw_q3 (m := sL m (69 + 4 * q) g) hq, hN]; simp only [mL_sL, ml_sL, va_up_self])
end Up
theorem nn_sI {m : Mm} {k : Nat} {l : List Int32} : nn (sI m k l) = nn m := (rfl)
theorem nn_sA {m : Mm} {k : Nat} {g : Nat → Int32} : nn (sA m k g) = nn m := (rfl)
theorem nn_sL {m : Mm} {k : Nat} {h : Nat → Int64} : nn (sL m k h) = nn m := (rfl)
theorem nn_sT {m : Mm} {k : Nat} {l : List Int32} {t : Int64} : nn (sT m k l t) = nn m := (rfl)
