/-! ===== rows: class and model ===== -/
theorem nI_nm {n : Nat} (h : n < 2 ^ 31) : ¬ nI n = -1 := fun z => nI_pos (n := n) h (by rw [z]; decide)
def Z32 (z : Nat → Nat) : Prop := ∀ c, c < 4 → 2 ≤ z c ∧ z c ≤ 32
theorem row_t {z : Nat → Nat} {r t : Int32} {g : Nat → Int32} (hz : Z32 z) (h : RowP z r t g) (ht : ¬ t = 0) : ∃ v0 v1 v2 v3, v0 < z 0 ∧ v1 < z 1 ∧ v2 < z 2 ∧ v3 < z 3 ∧ g 0 = nI v0 ∧ g 1 = nI v1 ∧ g 2 = nI v2 ∧ g 3 = nI v3 ∧ r = nI (16777216 * v3 + (65536 * v2 + (256 * v1 + v0))) := by
  rcases h with ⟨h, _⟩ | ⟨_, h, hr⟩
  · exact absurd h ht
  · obtain ⟨v0, a0, e0⟩ := h 0 (by omega)
    obtain ⟨v1, a1, e1⟩ := h 1 (by omega)
    obtain ⟨v2, a2, e2⟩ := h 2 (by omega)
    obtain ⟨v3, a3, e3⟩ := h 3 (by omega)
    have z0 := hz 0 (by omega)
    have z1 := hz 1 (by omega)
    have z2 := hz 2 (by omega)
    have z3 := hz 3 (by omega)
    refine ⟨v0, v1, v2, v3, a0, a1, a2, a3, e0, e1, e2, e3, ?_⟩
    rw [hr, e0, e1, e2, e3, pk4_n (by omega) (by omega) (by omega) (by omega)]
theorem row_e {z : Nat → Nat} {r t : Int32} {g : Nat → Int32} (hz : Z32 z) (h : RowP z r t g) : r = -1 ↔ t = 0 := by
  constructor
  · intro e
    apply Classical.byContradiction
    intro ht
    obtain ⟨v0, v1, v2, v3, a0, a1, a2, a3, -, -, -, -, er⟩ := row_t hz h ht
    have z0 := hz 0 (by omega)
    have z1 := hz 1 (by omega)
    have z2 := hz 2 (by omega)
    have z3 := hz 3 (by omega)
    rw [er] at e
    exact nI_nm (by omega) e
  · intro e
    rcases h with ⟨_, h⟩ | ⟨h, _⟩
    · exact h
    · rw [h] at e; exact absurd e (by decide)
theorem numC : ∀ c : Fin 4, (((8 * nI c.1 &&& 31) : Int32).toBitVec.smod 32).toNat = 8 * c.1 := by decide +kernel
theorem num_pk {v0 v1 v2 v3 c : Nat} (h0 : v0 < 32) (h1 : v1 < 32) (h2 : v2 < 32) (h3 : v3 < 32) (hc : c < 4) : (nI (16777216 * v3 + (65536 * v2 + (256 * v1 + v0))) >>> ((8 * nI c) &&& 31)) &&& 255 = nI (if c = 0 then v0 else if c = 1 then v1 else if c = 2 then v2 else v3) := by
  rw [pk_shrN (by omega) _ (8 * c) (numC ⟨c, hc⟩), show (255 : Int32) = nI (2 ^ 8 - 1) from rfl, fa_mask]
  rcases (show c = 0 ∨ c = 1 ∨ c = 2 ∨ c = 3 by omega) with rfl | rfl | rfl | rfl
  · congr 1; rw [if_pos rfl]; omega
  · congr 1; rw [if_neg (by decide), if_pos rfl]; omega
  · congr 1; rw [if_neg (by decide), if_neg (by decide), if_pos rfl]; omega
  · congr 1; rw [if_neg (by decide), if_neg (by decide), if_neg (by decide)]; omega
/-- a number of a line, as the class has it and as the model has it -/
theorem num_e {m : Mm} {z : Nat → Nat} {l c : Nat} (hz : Z32 z) (h : RRows m z) (hl : l < 64) (hc : c < 4) : numL m (nI l) (nI c) = gtM m l c := by
  have hr := h.1 l hl
  have n1 : ¬ nI l < 0 := by rw [nf_neg (by omega)]; exact id
  have n2 : ¬ (64 : Int32) ≤ nI l := (show ¬ nI 64 ≤ nI l by rw [nf_ge hl (by omega)]; exact id)
  unfold numL gtM
  rw [if_neg n1, if_neg n2, nI_clamp (by omega)]
  by_cases ht : mA m 43 l = 0
  · rw [if_pos ((row_e hz hr).mpr ht), if_pos ht]
  · rw [if_neg (fun e => ht ((row_e hz hr).mp e)), if_neg ht]
    obtain ⟨v0, v1, v2, v3, a0, a1, a2, a3, e0, e1, e2, e3, er⟩ := row_t hz hr ht
    have z0 := hz 0 (by omega)
    have z1 := hz 1 (by omega)
    have z2 := hz 2 (by omega)
    have z3 := hz 3 (by omega)
    unfold numI
    rw [er, num_pk (by omega) (by omega) (by omega) (by omega) hc]
    rcases (show c = 0 ∨ c = 1 ∨ c = 2 ∨ c = 3 by omega) with rfl | rfl | rfl | rfl
    · exact e0.symm
    · exact e1.symm
    · exact e2.symm
    · exact e3.symm
/-- get -/
theorem q_get {m : Mm} {z : Nat → Nat} {x c : Int32} (hz : Z32 z) (h : RRows m z) : getI m x c = mgI m x c := by
  unfold getI mgI
  by_cases h1 : x < 0
  · rw [if_pos h1, if_pos h1]
  by_cases h2 : (64 : Int32) ≤ x
  · rw [if_neg h1, if_pos h2, if_neg h1, if_pos h2]
  by_cases h3 : c < 0
  · rw [if_neg h1, if_neg h2, if_pos h3, if_neg h1, if_neg h2, if_pos h3]
  by_cases h4 : (4 : Int32) ≤ c
  · rw [if_neg h1, if_neg h2, if_neg h3, if_pos h4, if_neg h1, if_neg h2, if_neg h3, if_pos h4]
  rw [if_neg h1, if_neg h2, if_neg h3, if_neg h4, if_neg h1, if_neg h2, if_neg h3, if_neg h4]
  obtain ⟨i, hi, rfl⟩ := nI_of h1
  obtain ⟨j, hj, rfl⟩ := nI_of h3
  have hi2 : i < 64 := by rw [fa_le, nI_toInt hi] at h2; simp at h2; omega
  have hj2 : j < 4 := by rw [fa_le, nI_toInt hj] at h4; simp at h4; omega
  rw [num_e hz h hi2 hj2, nI_clamp (by omega), nI_clamp (by omega)]; rfl
/-- how many rows there are -/
theorem cn_e {m : Mm} {z : Nat → Nat} (hz : Z32 z) (h : RRows m z) : ∀ i, i ≤ 64 → mrw (mA m 43) i = nI (cnR (mA m 3) i)
  | 0, _ => rfl
  | i + 1, hi => by
    have ih := cn_e hz h i (by omega)
    have hr := row_e hz (h.1 i (by omega))
    rw [mrw, ih, cnR_s]
    by_cases q : mA m 43 i = 0
    · rw [if_pos q, if_pos (hr.mpr q), Int32.add_zero, Nat.add_zero]
    · rw [if_neg q, if_neg (fun e => q (hr.mp e)), nI_1]
