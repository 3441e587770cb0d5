/-! ===== class and model tell the same: the relation ===== -/
/-- a row of the class, r, tells what the model has: whether it is there, its four numbers -/
def RowP (z : Nat → Nat) (r t : Int32) (g : Nat → Int32) : Prop := (t = 0 ∧ r = -1) ∨ (t = 1 ∧ (∀ c, c < 4 → ∃ v, v < z c ∧ g c = nI v) ∧ r = pk4 (g 0) (g 1) (g 2) (g 3))
def N32 (g : Nat → Int32) : Prop := ∀ i, ∃ v, v < 32 ∧ g i = nI v
def RRows (m : Mm) (z : Nat → Nat) : Prop := (∀ l, l < 64 → RowP z (mA m 3 l) (mA m 43 l) (fun c => mA m 42 (4 * l + c))) ∧ (∀ j, bl01 (mA m 43 j)) ∧ N32 (mA m 42) ∧ mI m 2 4 = nI (cnR (mA m 3) 64)
def RChg (m : Mm) (z : Nat → Nat) (x k : Nat) : Prop := x < 100 ∧ k ≤ 100 ∧ mI m 2 5 = nI x ∧ mI m 2 6 = nI k ∧ mI m 40 3 = nI k ∧ (∀ j, bl01 (mA m 45 j)) ∧ N32 (mA m 46) ∧ ∀ j, j < k → (∃ l, l < 64 ∧ mA m 44 j = nI l) ∧ mA m 4 ((x + 100 - k + j) % 100) = mA m 44 j ∧ RowP z (mA m 5 ((x + 100 - k + j) % 100)) (mA m 45 j) (fun c => mA m 46 (4 * j + c))
def RMrk (m : Mm) (z : Nat → Nat) (k : Nat) : Prop := k ≤ 3 ∧ mI m 2 7 = nI k ∧ mI m 40 7 = nI k ∧ (∀ j, bl01 (mA m 47 j)) ∧ N32 (mA m 48) ∧ ∀ q l, q < k → l < 64 → RowP z (mA m 6 (64 * q + l)) (mA m 47 (64 * q + l)) (fun c => mA m 48 (256 * q + 4 * l + c))
def RCol (m : Mm) (c s b z : Nat) (B : Nat → Nat) : Prop := MCl m c s b z B ∧ rmN s B b ≤ 64 ∧ dsB s B b z b = true ∧ mI m (8 + 6 * c) 0 = nI z ∧ mI m (8 + 6 * c) 1 = nI s ∧ mI m (8 + 6 * c) 2 = nI b ∧ (∀ j, j < b → mA m (9 + 6 * c) j = nI (B j)) ∧ Stl m c b ∧ (∀ v, v < z → mL m (13 + 6 * c) v = cSl m c (nI v) b) ∧ mT m (8 + 6 * c) = mkm (trB m c) 64 ∧ (∀ v, v < 64 → rmN s B b ≤ v → trB m c v = false) ∧ ∀ j, bl01 (mA m 53 j)
def RPag (m : Mm) (L : Nat) : Prop := L ≤ 60 ∧ mI m 32 1 = nI L ∧ mI m 40 26 = nI L ∧ ∀ i, i < L → mA m 33 i = mA m 56 i
/-- a step of the class out of a mark of the model -/
def enS (x : Nat × Nat) : Int32 := if x.1 < 12 then nI (x.1 / 3) ||| (nI (x.1 % 3) <<< (2 &&& 31)) ||| (nI x.2 <<< (4 &&& 31)) else if x.1 = 12 then -1 else if x.1 = 13 then -2 else -3
def RQue (m : Mm) (u : Nat) (S : Nat → Qn) : Prop := u ≤ 8 ∧ mq m = u ∧ mI m 1 6 = nI u ∧ mI m 34 0 = nI u ∧ mI m 40 27 = nI u ∧ ∀ q, q < u → Qm m q (S q) ∧ ml m q ≤ 60 ∧ (S q).length ≤ ml m q ∧ mI m (66 + 4 * q) 3 = nI (S q).length ∧ mI m (66 + 4 * q) 5 = nI (cmN (S q)) ∧ gl (mA m (67 + 4 * q)) ((S q).map enS)
def RCnt (m : Mm) : Prop := ∃ x y, x ≤ 30 ∧ y ≤ 30 ∧ mI m 1 7 = nI x ∧ mI m 40 19 = nI x ∧ mI m 1 8 = nI y ∧ mI m 40 45 = nI y
def RR (m : Mm) (s b z : Nat → Nat) (B : Nat → Nat → Nat) (x k mk L u : Nat) (S : Nat → Qn) : Prop := RRows m z ∧ RChg m z x k ∧ RMrk m z mk ∧ (∀ c, c < 4 → RCol m c (s c) (b c) (z c) (B c)) ∧ RPag m L ∧ RQue m u S ∧ RCnt m ∧ LOk (mA m 64)
def RM (m : Mm) : Prop := ∃ s b z B x k mk L u S, RR m s b z B x k mk L u S
/-! numbers packed -/
theorem alt_0 {r v : Nat} (hr : r < 2 ^ 0) (hv : v < 32) : alt (nI r) 0 (nI v) = nI (2 ^ 0 * v + r) := by
  unfold alt
  rw [show ((255 : Int32) <<< ((8 * 0) &&& 31)) ^^^ (-1) = nI 4294967040 by decide +kernel, fa_and]
  have e : r &&& 4294967040 = r := by
    have h := and_sp (a := 0) (b := r) (c := 16777215) (d := 0) (k := 8) (by omega) (by omega)
    rw [show 2 ^ 8 * 16777215 + 0 = 4294967040 by decide, Nat.mul_zero, Nat.zero_add, Nat.zero_and, Nat.mul_zero, Nat.zero_add] at h
    rw [h, show (0 : Nat) = 2 ^ 0 - 1 from rfl, Nat.and_two_pow_sub_one_eq_mod, Nat.mod_eq_of_lt hr]
  rw [e, pk_shlN _ 0 (by decide +kernel) (by omega), Int32.or_comm, Nat.mul_comm v, fa_or_sum v hr]
theorem alt_1 {r v : Nat} (hr : r < 2 ^ 8) (hv : v < 32) : alt (nI r) 1 (nI v) = nI (2 ^ 8 * v + r) := by
  unfold alt
  rw [show ((255 : Int32) <<< ((8 * 1) &&& 31)) ^^^ (-1) = nI 4294902015 by decide +kernel, fa_and]
  have e : r &&& 4294902015 = r := by
    have h := and_sp (a := 0) (b := r) (c := 65535) (d := 255) (k := 16) (by omega) (by omega)
    rw [show 2 ^ 16 * 65535 + 255 = 4294902015 by decide, Nat.mul_zero, Nat.zero_add, Nat.zero_and, Nat.mul_zero, Nat.zero_add] at h
    rw [h, show (255 : Nat) = 2 ^ 8 - 1 from rfl, Nat.and_two_pow_sub_one_eq_mod, Nat.mod_eq_of_lt hr]
  rw [e, pk_shlN _ 8 (by decide +kernel) (by omega), Int32.or_comm, Nat.mul_comm v, fa_or_sum v hr]
theorem alt_2 {r v : Nat} (hr : r < 2 ^ 16) (hv : v < 32) : alt (nI r) 2 (nI v) = nI (2 ^ 16 * v + r) := by
  unfold alt
  rw [show ((255 : Int32) <<< ((8 * 2) &&& 31)) ^^^ (-1) = nI 4278255615 by decide +kernel, fa_and]
  have e : r &&& 4278255615 = r := by
    have h := and_sp (a := 0) (b := r) (c := 255) (d := 65535) (k := 24) (by omega) (by omega)
    rw [show 2 ^ 24 * 255 + 65535 = 4278255615 by decide, Nat.mul_zero, Nat.zero_add, Nat.zero_and, Nat.mul_zero, Nat.zero_add] at h
    rw [h, show (65535 : Nat) = 2 ^ 16 - 1 from rfl, Nat.and_two_pow_sub_one_eq_mod, Nat.mod_eq_of_lt hr]
  rw [e, pk_shlN _ 16 (by decide +kernel) (by omega), Int32.or_comm, Nat.mul_comm v, fa_or_sum v hr]
theorem alt_3 {r v : Nat} (hr : r < 2 ^ 24) (hv : v < 32) : alt (nI r) 3 (nI v) = nI (2 ^ 24 * v + r) := by
  unfold alt
  rw [show ((255 : Int32) <<< ((8 * 3) &&& 31)) ^^^ (-1) = nI 16777215 by decide +kernel, fa_and]
  have e : r &&& 16777215 = r := by
    have h := and_sp (a := 0) (b := r) (c := 0) (d := 16777215) (k := 32) (by omega) (by omega)
    rw [show 2 ^ 32 * 0 + 16777215 = 16777215 by decide, Nat.mul_zero, Nat.zero_add, Nat.zero_and, Nat.mul_zero, Nat.zero_add] at h
    rw [h, show (16777215 : Nat) = 2 ^ 24 - 1 from rfl, Nat.and_two_pow_sub_one_eq_mod, Nat.mod_eq_of_lt hr]
  rw [e, pk_shlN _ 24 (by decide +kernel) (by omega), Int32.or_comm, Nat.mul_comm v, fa_or_sum v hr]
theorem pk4_n {v0 v1 v2 v3 : Nat} (h0 : v0 < 32) (h1 : v1 < 32) (h2 : v2 < 32) (h3 : v3 < 32) : pk4 (nI v0) (nI v1) (nI v2) (nI v3) = nI (16777216 * v3 + (65536 * v2 + (256 * v1 + v0))) := by
  unfold pk4
  have e0 : alt 0 0 (nI v0) = nI v0 := by
    have := alt_0 (r := 0) (v := v0) (by decide) h0
    rw [show 2 ^ 0 * v0 + 0 = v0 by omega] at this
    exact this
  rw [e0, alt_1 (by omega) h1, alt_2 (by omega) h2, alt_3 (by omega) h3]
