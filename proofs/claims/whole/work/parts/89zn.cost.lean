/-! ===== cost: class and model ===== -/
def sm (f : Nat → Nat) : Nat → Nat
  | 0 => 0
  | n + 1 => sm f n + f n
theorem sm_c {f : Nat → Nat} {a k : Nat} : ∀ r, (∀ i, i < r → f (a + i) = k) → sm f (a + r) = sm f a + r * k
  | 0, _ => by rw [Nat.zero_mul]; rfl
  | r + 1, h => by
    show sm f (a + r) + f (a + r) = _
    rw [sm_c r (fun i hi => h i (by omega)), h r (by omega), Nat.succ_mul]; omega
theorem sm_cg {f g : Nat → Nat} : ∀ n, (∀ i, i < n → f i = g i) → sm f n = sm g n
  | 0, _ => rfl
  | n + 1, h => by rw [sm, sm, sm_cg n (fun i hi => h i (by omega)), h n (by omega)]
theorem sm_add {f g : Nat → Nat} : ∀ n, sm (fun i => f i + g i) n = sm f n + sm g n
  | 0 => rfl
  | n + 1 => by rw [sm, sm, sm, sm_add n]; omega
theorem sm_z : ∀ n, sm (fun _ => 0) n = 0
  | 0 => rfl
  | n + 1 => by rw [sm, sm_z n]
theorem sm_sw {f : Nat → Nat → Nat} {z : Nat} : ∀ k, sm (fun c => sm (fun j => f j c) k) z = sm (fun j => sm (f j) z) k
  | 0 => sm_z z
  | k + 1 => by
    show sm (fun c => sm (fun j => f j c) k + f k c) z = _
    rw [sm_add, sm_sw k]; rfl
def eqC (s b v : Nat) : Nat := pcN (fEq (nI s) (nI b) (nI v))
def ltC (s b v : Nat) : Nat := pcN (fLt (nI s) (nI b) (nI v))
def leC (s b v : Nat) : Nat := pcN (fLt (nI s) (nI b) (nI v) ||| fEq (nI s) (nI b) (nI v))
def eqS (s b p c : Nat) : Nat := eqC s b (c / p % b)
def beS (s b p c : Nat) : Nat := if c % p = 0 then ltC s b (c / p % b) else leC s b (c / p % b)
theorem cst_e {s b p z : Nat} (hb : 2 ≤ b) (hb2 : b ≤ 32) (hp : 0 < p) : ∀ t q, z ≤ p * q + t → cstF (nI s) (nI b) p z t (p * q) (nI (q % b)) (nI (sm (eqS s b p) (min (p * q) z)), nI (sm (beS s b p) (min (p * q) z))) = (nI (sm (eqS s b p) z), nI (sm (beS s b p) z)) := by
  intro t
  induction t with
  | zero =>
    intro q h
    rw [cstF, Nat.min_eq_right (by omega)]
  | succ t ih =>
    intro q h
    rw [cstF]
    by_cases hq : p * q < z
    · rw [if_pos hq]
      have hq0 : q % b < b := Nat.mod_lt _ (by omega)
      have hr1 : 1 ≤ min p (z - p * q) := by omega
      have hm1 : min (p * q) z = p * q := Nat.min_eq_left (by omega)
      have hm2 : min (p * (q + 1)) z = p * q + min p (z - p * q) := by rw [Nat.mul_succ]; omega
      have hdiv : ∀ i, i < min p (z - p * q) → (p * q + i) / p = q ∧ (p * q + i) % p = i := fun i hi => by
        have hi' : i < p := by omega
        refine ⟨?_, ?_⟩
        · rw [Nat.mul_add_div hp, Nat.div_eq_of_lt hi', Nat.add_zero]
        · rw [Nat.mul_add_mod, Nat.mod_eq_of_lt hi']
      have e1 : sm (eqS s b p) (p * q + min p (z - p * q)) = sm (eqS s b p) (p * q) + min p (z - p * q) * eqC s b (q % b) := sm_c _ (fun i hi => by unfold eqS; rw [(hdiv i hi).1])
      have e2 : sm (beS s b p) (p * q + min p (z - p * q)) = sm (beS s b p) (p * q) + (ltC s b (q % b) + (min p (z - p * q) - 1) * leC s b (q % b)) := by
        have h0 : sm (beS s b p) (p * q + 1) = sm (beS s b p) (p * q) + ltC s b (q % b) := by
          show sm (beS s b p) (p * q) + beS s b p (p * q) = _
          have := hdiv 0 (by omega)
          rw [Nat.add_zero] at this
          unfold beS
          rw [if_pos this.2, this.1]
        have h1 := sm_c (f := beS s b p) (a := p * q + 1) (k := leC s b (q % b)) (min p (z - p * q) - 1) (fun i hi => by
          have := hdiv (1 + i) (by omega)
          rw [← Nat.add_assoc] at this
          unfold beS
          rw [if_neg (by omega), this.1])
        rw [show p * q + 1 + (min p (z - p * q) - 1) = p * q + min p (z - p * q) by omega] at h1
        rw [h1, h0]; omega
      have hv : (if nI b ≤ nI (q % b) + 1 then 0 else nI (q % b) + 1) = nI ((q + 1) % b) := by
        rw [nI_1]
        by_cases e : q % b + 1 = b
        · rw [e, if_pos (nI_le (Nat.le_refl b) (by omega))]
          have : (q + 1) % b = 0 := by rw [Nat.add_mod, Nat.mod_eq_of_lt (show 1 < b by omega), e, Nat.mod_self]
          rw [this]; rfl
        · rw [if_neg (nI_ge (by omega) (by omega))]
          have : (q + 1) % b = q % b + 1 := by rw [Nat.add_mod, Nat.mod_eq_of_lt (show 1 < b by omega), Nat.mod_eq_of_lt (by omega)]
          rw [this]
      have g := ih (q + 1) (by rw [Nat.mul_succ]; omega)
      rw [hm2, e1, e2] at g
      rw [hm1, hv, bc_e, bc_e, bc_e, pk_mul, nI_add, nI_p hr1, pk_mul, nI_add, nI_add]
      exact g
    · rw [if_neg hq, Nat.min_eq_right (by omega)]
theorem cstI_e {s b p z : Nat} {e l : Int32} (hb : 2 ≤ b) (hb2 : b ≤ 32) (hp : 0 < p) (hz : z ≤ 64) : cstI (nI s) (nI b) p z e l = e * nI (sm (eqS s b p) z) + l * nI (sm (beS s b p) z) := by
  have h := cst_e (s := s) (z := z) hb hb2 hp 64 0 (by omega)
  rw [Nat.mul_zero, Nat.zero_mod, Nat.zero_min] at h
  unfold cstI
  have h' : cstF (nI s) (nI b) p z 64 0 0 (0, 0) = (nI (sm (eqS s b p) z), nI (sm (beS s b p) z)) := h
  rw [h']
theorem dcF_e {m : Mm} {i s b z : Nat} {B : Nat → Nat} {e l : Int32} (h1 : mI m (8 + 6 * i) 1 = nI s) (hz : z ≤ 64) (hB : ∀ j, j < b → 2 ≤ B j ∧ B j ≤ 32) (hp : ∀ j, j < b → 0 < pdN B j) : ∀ j, j ≤ b → dcF m i B (pdN B) z e l j = e * nI (sm (fun j => sm (eqS s (B j) (pdN B j)) z) j) + l * nI (sm (fun j => sm (beS s (B j) (pdN B j)) z) j)
  | 0, _ => by
    show 0 = e * nI 0 + l * nI 0
    rw [nI_0, Int32.mul_zero, Int32.mul_zero, Int32.add_zero]
  | j + 1, hj => by
    have hBj := hB j (by omega)
    rw [dcF, dcF_e h1 hz hB hp j (by omega), h1, cstI_e hBj.1 hBj.2 (hp j (by omega)) hz, sm, sm, ← nI_add, ← nI_add, Int32.mul_add, Int32.mul_add]
    ac_rfl
theorem pcf_sp : ∀ r t W E, W < 2 ^ r → pcf (r + t) (2 ^ r * E + W) = pcf r W + pcf t E
  | 0, t, W, E, h => by
    have : W = 0 := by simpa using h
    subst this
    rw [Nat.pow_zero, Nat.one_mul, Nat.add_zero, Nat.zero_add]
    show _ = 0 + _
    rw [Nat.zero_add]
  | r + 1, t, W, E, h => by
    have h2 : W / 2 < 2 ^ r := by rw [Nat.pow_succ] at h; omega
    have ih := pcf_sp r t (W / 2) E h2
    have e1 : (2 ^ (r + 1) * E + W) % 2 = W % 2 := by rw [Nat.pow_succ, show 2 ^ r * 2 * E = 2 * (2 ^ r * E) by ac_rfl]; omega
    have e2 : (2 ^ (r + 1) * E + W) / 2 = 2 ^ r * E + W / 2 := by rw [Nat.pow_succ, show 2 ^ r * 2 * E = 2 * (2 ^ r * E) by ac_rfl]; omega
    rw [show r + 1 + t = (r + t) + 1 by omega, pcf, e1, e2, ih, pcf]; omega
theorem pcf_w {t u X : Nat} (h : X < 2 ^ t) : pcf (t + u) X = pcf t X := by
  have := pcf_sp t u X 0 h
  rwa [Nat.mul_zero, Nat.zero_add, pcf_0, Nat.add_zero] at this
/-- ones of two words that lie side by side -/
theorem pc_side {W E r : Nat} (hr : r ≤ 64) (hW : W < 2 ^ r) (hE : E < 2 ^ (64 - r)) : pcN (lN (2 ^ r * E + W)) = pcN (lN W) + pcN (lN E) := by
  have h1 : 2 ^ r * E + W < 2 ^ 64 := by
    have : 2 ^ r * (E + 1) ≤ 2 ^ r * 2 ^ (64 - r) := Nat.mul_le_mul_left _ hE
    rw [← Nat.pow_add, show r + (64 - r) = 64 by omega, Nat.mul_succ] at this
    omega
  have hW' : W < 2 ^ 64 := Nat.lt_of_lt_of_le hW (Nat.pow_le_pow_right (by omega) hr)
  have hE' : E < 2 ^ 64 := Nat.lt_of_lt_of_le hE (Nat.pow_le_pow_right (by omega) (by omega))
  rw [pcN_lN h1, pcN_lN hW', pcN_lN hE']
  have e1 := pcf_sp r (64 - r) W E hW
  have e2 := pcf_w (u := 64 - r) hW
  have e3 := pcf_w (u := r) hE
  rw [show r + (64 - r) = 64 by omega] at e1 e2
  rw [show 64 - r + r = 64 by omega] at e3
  rw [e1, e2, e3]
def fEqN (s b v : Nat) : Nat := (fEq (nI s) (nI b) (nI v)).toBitVec.toNat
def fLtN (s b v : Nat) : Nat := (fLt (nI s) (nI b) (nI v)).toBitVec.toNat
def fLeN (s b v : Nat) : Nat := (fLt (nI s) (nI b) (nI v) ||| fEq (nI s) (nI b) (nI v)).toBitVec.toNat
theorem lN_tn {n : Nat} (h : n < 2 ^ 64) : (lN n).toBitVec.toNat = n := by
  show (BitVec.ofNat 64 n).toNat = n
  rw [BitVec.toNat_ofNat, Nat.mod_eq_of_lt h]
theorem lN_of_bv (w : Int64) : lN w.toBitVec.toNat = w := by
  apply Int64.toBitVec_inj.1
  show BitVec.ofNat 64 w.toBitVec.toNat = _
  rw [BitVec.ofNat_toNat, BitVec.setWidth_eq]
set_option maxRecDepth 100000 in
theorem fig_all : ∀ s : Fin 2, ∀ b : Fin 33, ∀ v : Fin 33, 2 ≤ b.1 → v.1 < b.1 → fEqN s.1 b.1 v.1 < 2 ^ vo s.1 b.1 ∧ fLtN s.1 b.1 v.1 < 2 ^ vo s.1 b.1 ∧ fLeN s.1 b.1 v.1 < 2 ^ vo s.1 b.1 ∧ (fLtN s.1 b.1 v.1 = 0 ↔ v.1 = 0) := by decide +kernel
/-- a figure's part laid beside the lower ones -/
theorem lay_side {W E r n : Nat} (hr : r + n ≤ 64) (hn : 1 ≤ n) (hW : W < 2 ^ r) (hE : E < 2 ^ n) : lN W ||| (lN E <<< ((nI r).toInt64 &&& 63)) = lN (2 ^ r * E + W) ∧ 2 ^ r * E + W < 2 ^ (r + n) ∧ pcN (lN (2 ^ r * E + W)) = pcN (lN W) + pcN (lN E) := by
  refine ⟨?_, ?_, pc_side (by omega) hW (Nat.lt_of_lt_of_le hE (Nat.pow_le_pow_right (by omega) (by omega)))⟩
  · rw [on_shl (by omega), fb_orL, Nat.mul_comm E, Nat.or_comm, or_sum hW]
  · have : 2 ^ r * (E + 1) ≤ 2 ^ r * 2 ^ n := Nat.mul_le_mul_left _ hE
    rw [← Nat.pow_add, Nat.mul_succ] at this
    omega
def Des (s : Nat) (B : Nat → Nat) (k : Nat) : Prop := s ≤ 1 ∧ (∀ j, j < k → 2 ≤ B j ∧ B j ≤ 32) ∧ rmN s B k ≤ 64
theorem Des.s1 {s k : Nat} {B : Nat → Nat} (h : Des s B k) : s ≤ 1 := h.1
theorem Des.hB {s k : Nat} {B : Nat → Nat} (h : Des s B k) : ∀ j, j < k → 2 ≤ B j ∧ B j ≤ 32 := h.2.1
theorem Des.rm {s k : Nat} {B : Nat → Nat} (h : Des s B k) : rmN s B k ≤ 64 := h.2.2
theorem rEM_n {s k : Nat} {B : Nat → Nat} (h : Des s B k) (c : Nat) : ∀ j, j ≤ k → ∃ W, W < 2 ^ rmN s B j ∧ rEM s B c j = lN W ∧ pcN (lN W) = sm (fun j => eqS s (B j) (pdN B j) c) j
  | 0, _ => ⟨0, Nat.two_pow_pos _, rfl, by rw [show lN 0 = (0 : Int64) from rfl, pcN_0]; rfl⟩
  | j + 1, hj => by
    obtain ⟨W, h1, h2, h3⟩ := rEM_n h c j (by omega)
    have hB := h.hB j (by omega)
    have hs := h.s1
    have hr := h.rm
    have hmo := rm_mono (s := s) (B := B) hj
    have hvo := vo_p (s := s) hB.1
    have hrs : rmN s B (j + 1) = rmN s B j + vo s (B j) := rfl
    have hf : fgN B j c < B j := Nat.mod_lt _ (by omega)
    have t : fEqN s (B j) (fgN B j c) < 2 ^ vo s (B j) ∧ fLtN s (B j) (fgN B j c) < 2 ^ vo s (B j) ∧ fLeN s (B j) (fgN B j c) < 2 ^ vo s (B j) ∧ (fLtN s (B j) (fgN B j c) = 0 ↔ fgN B j c = 0) := fig_all ⟨s, by omega⟩ ⟨B j, by omega⟩ ⟨fgN B j c, by omega⟩ hB.1 hf
    obtain ⟨l1, l2, l3⟩ := lay_side (r := rmN s B j) (n := vo s (B j)) (by omega) hvo h1 t.1
    refine ⟨_, l2, ?_, ?_⟩
    · rw [rEM, h2, ← l1]; unfold fEqN; rw [lN_of_bv]
    · rw [l3, h3, sm]; unfold fEqN; rw [lN_of_bv]; rfl
theorem rBM_n {s k : Nat} {B : Nat → Nat} (h : Des s B k) (c : Nat) : ∀ j, j ≤ k → ∃ W, W < 2 ^ rmN s B j ∧ rBM s B c j = lN W ∧ (W = 0 ↔ c % pdN B j = 0) ∧ pcN (lN W) = sm (fun j => beS s (B j) (pdN B j) c) j
  | 0, _ => ⟨0, Nat.two_pow_pos _, rfl, by simp [pdN, Nat.mod_one], by rw [show lN 0 = (0 : Int64) from rfl, pcN_0]; rfl⟩
  | j + 1, hj => by
    obtain ⟨W, h1, h2, h4, h3⟩ := rBM_n h c j (by omega)
    have hB := h.hB j (by omega)
    have hs := h.s1
    have hr := h.rm
    have hmo := rm_mono (s := s) (B := B) hj
    have hvo := vo_p (s := s) hB.1
    have hrs : rmN s B (j + 1) = rmN s B j + vo s (B j) := rfl
    have hf : fgN B j c < B j := Nat.mod_lt _ (by omega)
    have t : fEqN s (B j) (fgN B j c) < 2 ^ vo s (B j) ∧ fLtN s (B j) (fgN B j c) < 2 ^ vo s (B j) ∧ fLeN s (B j) (fgN B j c) < 2 ^ vo s (B j) ∧ (fLtN s (B j) (fgN B j c) = 0 ↔ fgN B j c = 0) := fig_all ⟨s, by omega⟩ ⟨B j, by omega⟩ ⟨fgN B j c, by omega⟩ hB.1 hf
    have hW64 : W < 2 ^ 64 := Nat.lt_of_lt_of_le h1 (Nat.pow_le_pow_right (by omega) (by omega))
    have hz : rBM s B c j = 0 ↔ W = 0 := by
      rw [h2]
      constructor
      · intro e
        have := congrArg (fun w : Int64 => w.toBitVec.toNat) e
        rw [lN_tn hW64] at this
        exact this
      · intro e; rw [e]; rfl
    have hpd : c % pdN B (j + 1) = c % pdN B j + pdN B j * fgN B j c := by rw [pdN, Nat.mod_mul]; rfl
    have hpp : 0 < pdN B j := pd_pos (k := k) (fun i hi => (h.hB i hi).1) j (by omega)
    by_cases e0 : W = 0
    · have ec : c % pdN B j = 0 := h4.mp e0
      obtain ⟨l1, l2, l3⟩ := lay_side (r := rmN s B j) (n := vo s (B j)) (by omega) hvo h1 t.2.1
      refine ⟨_, l2, ?_, ?_, ?_⟩
      · rw [rBM, if_pos (hz.mpr e0), h2, ← l1]; unfold fLtN; rw [lN_of_bv]
      · rw [hpd, ec, Nat.zero_add, e0, Nat.add_zero]
        constructor
        · intro q
          rcases Nat.mul_eq_zero.mp q with q | q
          · exact absurd q (Nat.ne_of_gt (Nat.two_pow_pos _))
          · rw [t.2.2.2.mp q, Nat.mul_zero]
        · intro q
          rcases Nat.mul_eq_zero.mp q with q | q
          · omega
          · rw [t.2.2.2.mpr q, Nat.mul_zero]
      · rw [l3, h3, sm]
        unfold fLtN beS
        rw [lN_of_bv, if_pos ec]; rfl
    · have ec : ¬ c % pdN B j = 0 := fun q => e0 (h4.mpr q)
      obtain ⟨l1, l2, l3⟩ := lay_side (r := rmN s B j) (n := vo s (B j)) (by omega) hvo h1 t.2.2.1
      refine ⟨_, l2, ?_, ?_, ?_⟩
      · rw [rBM, if_neg (fun q => e0 (hz.mp q)), h2, ← l1]; unfold fLeN; rw [lN_of_bv]
      · rw [hpd]; constructor
        · intro q; omega
        · intro q; omega
      · rw [l3, h3, sm]
        unfold fLeN beS
        rw [lN_of_bv, if_neg ec]; rfl
theorem csM_e {s k z : Nat} {B : Nat → Nat} {e l : Int32} (h : Des s B k) : ∀ n, n ≤ z → csM s B k z e l n = e * nI (sm (fun c => sm (fun j => eqS s (B j) (pdN B j) c) k) n) + l * nI (sm (fun c => sm (fun j => beS s (B j) (pdN B j) c) k) n)
  | 0, _ => by
    show 0 = e * nI 0 + l * nI 0
    rw [nI_0, Int32.mul_zero, Int32.mul_zero, Int32.add_zero]
  | n + 1, hn => by
    obtain ⟨W, -, h2, h3⟩ := rEM_n h n k (Nat.le_refl k)
    obtain ⟨X, -, g2, g4, g3⟩ := rBM_n h n k (Nat.le_refl k)
    have e1 : pcN (rdY s B k z false n) = sm (fun j => eqS s (B j) (pdN B j) n) k := by
      unfold rdY
      rw [if_neg (by omega), if_neg (by decide), h2, h3]
    have e2 : pcN (rdY s B k z true n) = sm (fun j => beS s (B j) (pdN B j) n) k := by
      unfold rdY
      rw [if_neg (by omega), if_pos rfl]
      by_cases q : n = 0
      · subst q
        have : X = 0 := g4.mpr (Nat.zero_mod _)
        rw [if_pos rfl, ← g3, this]; rfl
      · rw [if_neg q, g2, g3]
    rw [csM, csM_e h n (by omega), e1, e2, sm, sm, ← nI_add, ← nI_add, Int32.mul_add, Int32.mul_add]
    ac_rfl
theorem RCol.des {m : Mm} {c s b z : Nat} {B : Nat → Nat} (h : RCol m c s b z B) : Des s B b := ⟨h.1.2.1, h.1.2.2.2.2.2.2.1, h.2.1⟩
theorem pd_ad {B : Nat → Nat} {k i : Nat} (h : ∀ j, j < k → 2 ≤ B j) : ∀ t, i + t ≤ k → pdN B i ≤ pdN B (i + t)
  | 0, _ => Nat.le_refl _
  | t + 1, ht => by
    have h1 := pd_ad (i := i) h t (by omega)
    have h2 := h (i + t) (by omega)
    have h3 : pdN B (i + t) * 1 ≤ pdN B (i + t) * B (i + t) := Nat.mul_le_mul_left _ (by omega)
    show _ ≤ pdN B (i + t) * B (i + t)
    omega
theorem pd_lt {s b z : Nat} {B : Nat → Nat} (hB : ∀ j, j < b → 2 ≤ B j ∧ B j ≤ 32) (hd : dsB s B b z b = true) {j : Nat} (hj : j < b) : 0 < pdN B j ∧ pdN B j < z := by
  have h1 := ds_j b hd j hj
  have h2 := hB j hj
  have h3 := pd_ad (B := B) (k := b) (i := j + 1) (fun i hi => (hB i hi).1) (b - (j + 1)) (by omega)
  rw [show j + 1 + (b - (j + 1)) = b by omega] at h3
  have h4 : pdN B j ≤ pdN B b / B j := (Nat.le_div_iff_mul_le (by omega)).mpr h3
  exact ⟨pd_pos (k := b) (fun i hi => (hB i hi).1) j (by omega), by omega⟩
theorem q_cost {m : Mm} {c s b z : Nat} {B : Nat → Nat} {e l : Int32} (h : RCol m c s b z B) : dcF m c B (pdN B) z e l b = csM s B b z e l z := by
  have hB := h.1.2.2.2.2.2.2.1
  have hz := h.1.2.2.2.2.2.1
  rw [dcF_e h.2.2.2.2.1 (by omega) hB (fun j hj => (pd_lt hB h.2.2.1 hj).1) b (Nat.le_refl b), csM_e h.des z (Nat.le_refl z), sm_sw (f := fun j => eqS s (B j) (pdN B j)), sm_sw (f := fun j => beS s (B j) (pdN B j))]
