/-! ===== good: class and model ===== -/
theorem in_sub {c : Int32} {a n : Nat} (ha : a + n < 2 ^ 30) : (¬ c - nI a < 0 ∧ ¬ nI n < c - nI a) ↔ ∃ k, k ≤ n ∧ c = nI (a + k) := by
  constructor
  · rintro ⟨h1, h2⟩
    obtain ⟨k, hk, e⟩ := nI_of h1
    rw [e] at h2
    refine ⟨k, ?_, ?_⟩
    · rcases Nat.lt_or_ge n k with q | q
      · exact absurd (nI_lt q hk) h2
      · exact q
    · have : c = (c - nI a) + nI a := (Int32.sub_add_cancel c (nI a)).symm
      rw [this, e, nI_add, Nat.add_comm]
  · rintro ⟨k, hk, rfl⟩
    rw [pk_sub (by omega), Nat.add_sub_cancel_left]
    exact ⟨nI_pos (by omega), nI_nlt hk (by omega)⟩
theorem in_rng {c : Int32} {a n : Nat} (ha : a + n < 2 ^ 30) : (¬ c < nI a ∧ ¬ nI (a + n) < c) ↔ ∃ k, k ≤ n ∧ c = nI (a + k) := by
  constructor
  · rintro ⟨h1, h2⟩
    have h0 : ¬ c < 0 := fun q => h1 (fa_trans q (nI_pos' (by omega)))
    obtain ⟨k, hk, rfl⟩ := nI_of h0
    have k1 : a ≤ k := by
      rcases Nat.lt_or_ge k a with q | q
      · exact absurd (nI_lt q (by omega)) h1
      · exact q
    have k2 : k ≤ a + n := by
      rcases Nat.lt_or_ge (a + n) k with q | q
      · exact absurd (nI_lt q hk) h2
      · exact q
    exact ⟨k - a, by omega, by rw [show a + (k - a) = k by omega]⟩
  · rintro ⟨k, hk, rfl⟩
    exact ⟨nI_nlt (by omega) (by omega), nI_nlt (by omega) (by omega)⟩
/-- a column's letter, a digit -/
def isCl (c : Int32) : Prop := ∃ k, k ≤ 3 ∧ c = nI (97 + k)
def isDi (c : Int32) : Prop := ∃ k, k ≤ 9 ∧ c = nI (48 + k)
theorem cl_c (c : Int32) : (¬ c < 97 ∧ ¬ 100 < c) ↔ isCl c := in_rng (a := 97) (n := 3) (by omega)
theorem cl_m (c : Int32) : (¬ c - 97 < 0 ∧ ¬ 4 ≤ c - 97) ↔ isCl c := by
  have h := in_sub (c := c) (a := 97) (n := 3) (by omega)
  have e : (¬ 4 ≤ c - 97) ↔ ¬ nI 3 < c - 97 := by
    have h1 := fa_le 4 (c - 97)
    have h2 := fa_lt (nI 3) (c - 97)
    have h3 : (4 : Int32).toInt = 4 := rfl
    have h4 : (nI 3).toInt = 3 := rfl
    rw [h1, h2, h3, h4]; omega
  rw [e]; exact h
theorem di_c (c : Int32) : (¬ c < 48 ∧ ¬ 57 < c) ↔ isDi c := in_rng (a := 48) (n := 9) (by omega)
theorem di_m (c : Int32) : (¬ c - 48 < 0 ∧ ¬ 9 < c - 48) ↔ isDi c := in_sub (c := c) (a := 48) (n := 9) (by omega)
/-- class and model at one place -/
def Gs (k : Nat) (x : Nat × Int32) (p : Pz) : Prop := x = (p.1, nI p.2.1) ∧ p.1 ≤ 4 ∧ p.2.1 ≤ k
theorem toN {n : Nat} (h : n < 5) : (nI n).toNatClampNeg = n := nI_clamp (by omega)
def nxS (k : Nat) (c : Int32) (x : Nat × Int32) : Nat × Int32 := ((if (pGo x.1 c x.2).1 = -1 then 5 else (pGo x.1 c x.2).1.toNatClampNeg), (pGo x.1 c x.2).2)
theorem gb_x {c : Int32} {st dp : Nat} {le sg va : Int32} {en : Bool} {A N W : List Int32} : gbF c (st, dp, le, sg, va, en, A, N, W) = if c = 38 then some (0, dp, le, sg, va, false, enA le sg en A ++ mpp 13 W, enN va en N ++ zrs (mpp 13 W), 13 :: mpr 13 W) else if c = 124 then some (0, dp, le, sg, va, false, enA le sg en A ++ mpp 14 W, enN va en N ++ zrs (mpp 14 W), 14 :: mpr 14 W) else if c = 41 ∧ 0 < dp then some (4, dp - 1, le, sg, va, false, enA le sg en A ++ mpp 14 W, enN va en N ++ zrs (mpp 14 W), (mpr 14 W).tail) else none := rfl
theorem go_0 {c : Int32} {dp : Nat} {le sg va : Int32} {en : Bool} {A N W : List Int32} : goF c (0, dp, le, sg, va, en, A, N, W) = if c = 33 then (true, (0, dp, le, sg, va, en, A, N, 12 :: W)) else if c = 40 then (true, (0, dp + 1, le, sg, va, en, A, N, 15 :: W)) else (decide (¬ c - 97 < 0 ∧ ¬ 4 ≤ c - 97), (1, dp, c - 97, sg, va, en, A, N, W)) := rfl
theorem go_1 {c : Int32} {dp : Nat} {le sg va : Int32} {en : Bool} {A N W : List Int32} : goF c (1, dp, le, sg, va, en, A, N, W) = (decide (c = 60 ∨ c = 61 ∨ c = 62), (2, dp, le, (if c = 60 then 0 else if c = 61 then 1 else 2), va, en, A, N, W)) := rfl
theorem go_2 {c : Int32} {dp : Nat} {le sg va : Int32} {en : Bool} {A N W : List Int32} : goF c (2, dp, le, sg, va, en, A, N, W) = (decide (¬ c - 48 < 0 ∧ ¬ 9 < c - 48), (3, dp, le, sg, c - 48, true, A, N, W)) := rfl
theorem go_3d {c : Int32} {dp : Nat} {le sg va : Int32} {en : Bool} {A N W : List Int32} (q : ¬ c < 48 ∧ ¬ 57 < c) : goF c (3, dp, le, sg, va, en, A, N, W) = (true, (4, dp, le, sg, 10 * va + c - 48, en, A, N, W)) := by rw [goF, if_pos q]
theorem go_3 {c : Int32} {dp : Nat} {le sg va : Int32} {en : Bool} {A N W : List Int32} (q : ¬ (¬ c < 48 ∧ ¬ 57 < c)) : goF c (3, dp, le, sg, va, en, A, N, W) = (match gbF c (3, dp, le, sg, va, en, A, N, W) with | some p => (true, p) | none => (false, (3, dp, le, sg, va, en, A, N, W))) := by
  rw [goF, if_neg q]
  cases gbF c (3, dp, le, sg, va, en, A, N, W) <;> rfl
theorem go_4 {c : Int32} {dp : Nat} {le sg va : Int32} {en : Bool} {A N W : List Int32} : goF c (4, dp, le, sg, va, en, A, N, W) = (match gbF c (4, dp, le, sg, va, en, A, N, W) with | some p => (true, p) | none => (false, (4, dp, le, sg, va, en, A, N, W))) := rfl
theorem nx_x {k st : Nat} {c o : Int32} : nxS k c (st, o) = ((if (pGo st c o).1 = -1 then 5 else (pGo st c o).1.toNatClampNeg), (pGo st c o).2) := rfl
theorem pg_0 {c o : Int32} : pGo 0 c o = pStart c o := rfl
theorem pg_1 {c o : Int32} : pGo 1 c o = (if c = 60 then 2 else if c = 61 then 2 else if c = 62 then 2 else -1, o) := rfl
theorem pg_2 {c o : Int32} : pGo 2 c o = (if c < 48 then -1 else if 57 < c then -1 else 3, o) := rfl
theorem pg_3d {c o : Int32} (q : ¬ c < 48 ∧ ¬ 57 < c) : pGo 3 c o = (4, o) := by
  show (if c < 48 then pWhole c o else if 57 < c then pWhole c o else (4, o)) = _
  rw [if_neg q.1, if_neg q.2]
theorem pg_3 {c o : Int32} (q : ¬ (¬ c < 48 ∧ ¬ 57 < c)) : pGo 3 c o = pWhole c o := by
  show (if c < 48 then pWhole c o else if 57 < c then pWhole c o else (4, o)) = _
  by_cases r : c < 48
  · rw [if_pos r]
  · rw [if_neg r, if_pos (Classical.byContradiction fun e => q ⟨r, e⟩)]
theorem pg_4 {c o : Int32} : pGo 4 c o = pWhole c o := rfl
theorem sg3 {c : Int32} : (if c = 60 then (2 : Int32) else if c = 61 then 2 else if c = 62 then 2 else -1) = if c = 60 ∨ c = 61 ∨ c = 62 then 2 else -1 := by
  by_cases e1 : c = 60
  · rw [if_pos e1, if_pos (Or.inl e1)]
  · by_cases e2 : c = 61
    · rw [if_neg e1, if_pos e2, if_pos (Or.inr (Or.inl e2))]
    · by_cases e3 : c = 62
      · rw [if_neg e1, if_neg e2, if_pos e3, if_pos (Or.inr (Or.inr e3))]
      · rw [if_neg e1, if_neg e2, if_neg e3, if_neg (fun e => by rcases e with e | e | e; exact e1 e; exact e2 e; exact e3 e)]
theorem wh_e {c : Int32} {k dp st : Nat} {le sg va : Int32} {en : Bool} {A N W : List Int32} (hk : k < 2 ^ 30) (hd : dp ≤ k) : (gbF c (st, dp, le, sg, va, en, A, N, W) = none ∧ (pWhole c (nI dp)).1 = -1) ∨ ∃ p', gbF c (st, dp, le, sg, va, en, A, N, W) = some p' ∧ p'.1 ≤ 4 ∧ p'.2.1 ≤ k ∧ pWhole c (nI dp) = (nI p'.1, nI p'.2.1) := by
  rw [gb_x]
  unfold pWhole
  by_cases h1 : c = 38
  · rw [if_pos h1, if_pos h1]; exact Or.inr ⟨_, rfl, by show 0 ≤ 4; omega, hd, rfl⟩
  · by_cases h2 : c = 124
    · rw [if_neg h1, if_neg h1, if_pos h2, if_pos h2]; exact Or.inr ⟨_, rfl, by show 0 ≤ 4; omega, hd, rfl⟩
    · rw [if_neg h1, if_neg h1, if_neg h2, if_neg h2]
      by_cases h3 : c = 41
      · rw [if_pos h3]
        rcases Nat.eq_zero_or_pos dp with e | e
        · subst e
          rw [if_neg (by omega), if_pos (show nI 0 = 0 from rfl)]; exact Or.inl ⟨rfl, rfl⟩
        · rw [if_pos ⟨h3, e⟩, if_neg (nI_ne0 e (by omega))]
          refine Or.inr ⟨_, rfl, by show 4 ≤ 4; omega, by show dp - 1 ≤ k; omega, ?_⟩
          show (4, nI dp - 1) = (nI 4, nI (dp - 1))
          rw [nI_p e]; rfl
      · rw [if_neg h3, if_neg (fun e => h3 e.1)]; exact Or.inl ⟨rfl, rfl⟩
theorem go_e {c : Int32} {k : Nat} {p : Pz} {x : Nat × Int32} (hk : k < 2 ^ 30) (h : Gs k x p) : ((goF c p).1 = false ∧ (nxS k c x).1 = 5) ∨ ((goF c p).1 = true ∧ Gs (k + 1) (nxS k c x) (goF c p).2) := by
  obtain ⟨rfl, h4, hd⟩ := h
  obtain ⟨st, dp, le, sg, va, en, A, N, W⟩ := p
  have wh : ∀ st', (gbF c (st', dp, le, sg, va, en, A, N, W) = none ∧ (pWhole c (nI dp)).1 = -1) ∨ ∃ p', gbF c (st', dp, le, sg, va, en, A, N, W) = some p' ∧ p'.1 ≤ 4 ∧ p'.2.1 ≤ k ∧ pWhole c (nI dp) = (nI p'.1, nI p'.2.1) := fun st' => wh_e hk hd
  have hd' : dp ≤ k := hd
  match st, h4 with
  | 0, _ =>
    show ((goF c (0, dp, le, sg, va, en, A, N, W)).1 = false ∧ (nxS k c (0, nI dp)).1 = 5) ∨ ((goF c (0, dp, le, sg, va, en, A, N, W)).1 = true ∧ Gs (k + 1) (nxS k c (0, nI dp)) (goF c (0, dp, le, sg, va, en, A, N, W)).2)
    rw [go_0, nx_x, pg_0]
    unfold pStart
    by_cases h1 : c = 33
    · right
      rw [if_pos h1, if_pos h1]
      exact ⟨rfl, rfl, by show 0 ≤ 4; omega, by show dp ≤ k + 1; omega⟩
    · by_cases h2 : c = 40
      · right
        rw [if_neg h1, if_neg h1, if_pos h2, if_pos h2]
        refine ⟨rfl, ?_, by show 0 ≤ 4; omega, by show dp + 1 ≤ k + 1; omega⟩
        show ((if (0 : Int32) = -1 then 5 else (0 : Int32).toNatClampNeg), nI dp + 1) = (0, nI (dp + 1))
        rw [nI_1]; rfl
      · rw [if_neg h1, if_neg h1, if_neg h2, if_neg h2]
        have hm := cl_m c
        have hc := cl_c c
        by_cases q : isCl c
        · right
          have q1 := hc.mpr q
          rw [if_neg q1.1, if_neg q1.2, decide_eq_true (hm.mpr q)]
          exact ⟨rfl, rfl, by show 1 ≤ 4; omega, by show dp ≤ k + 1; omega⟩
        · left
          refine ⟨decide_eq_false (fun e => q (hm.mp e)), ?_⟩
          by_cases r : c < 97
          · rw [if_pos r]; rfl
          · rw [if_neg r, if_pos (Classical.byContradiction fun e => q (hc.mp ⟨r, e⟩))]; rfl
  | 1, _ =>
    show ((goF c (1, dp, le, sg, va, en, A, N, W)).1 = false ∧ (nxS k c (1, nI dp)).1 = 5) ∨ ((goF c (1, dp, le, sg, va, en, A, N, W)).1 = true ∧ Gs (k + 1) (nxS k c (1, nI dp)) (goF c (1, dp, le, sg, va, en, A, N, W)).2)
    rw [go_1, nx_x, pg_1, sg3]
    by_cases q : c = 60 ∨ c = 61 ∨ c = 62
    · right
      rw [if_pos q]
      exact ⟨decide_eq_true q, rfl, by show 2 ≤ 4; omega, by show dp ≤ k + 1; omega⟩
    · left
      rw [if_neg q]
      exact ⟨decide_eq_false q, rfl⟩
  | 2, _ =>
    show ((goF c (2, dp, le, sg, va, en, A, N, W)).1 = false ∧ (nxS k c (2, nI dp)).1 = 5) ∨ ((goF c (2, dp, le, sg, va, en, A, N, W)).1 = true ∧ Gs (k + 1) (nxS k c (2, nI dp)) (goF c (2, dp, le, sg, va, en, A, N, W)).2)
    rw [go_2, nx_x, pg_2]
    have hm := di_m c
    have hc := di_c c
    by_cases q : isDi c
    · right
      have q1 := hc.mpr q
      rw [if_neg q1.1, if_neg q1.2]
      exact ⟨decide_eq_true (hm.mpr q), rfl, by show 3 ≤ 4; omega, by show dp ≤ k + 1; omega⟩
    · left
      refine ⟨decide_eq_false (fun e => q (hm.mp e)), ?_⟩
      by_cases r : c < 48
      · rw [if_pos r]; rfl
      · rw [if_neg r, if_pos (Classical.byContradiction fun e => q (hc.mp ⟨r, e⟩))]; rfl
  | 3, _ =>
    show ((goF c (3, dp, le, sg, va, en, A, N, W)).1 = false ∧ (nxS k c (3, nI dp)).1 = 5) ∨ ((goF c (3, dp, le, sg, va, en, A, N, W)).1 = true ∧ Gs (k + 1) (nxS k c (3, nI dp)) (goF c (3, dp, le, sg, va, en, A, N, W)).2)
    have hc := di_c c
    by_cases q : isDi c
    · right
      have q1 := hc.mpr q
      rw [go_3d q1, nx_x, pg_3d q1]
      exact ⟨rfl, rfl, by show 4 ≤ 4; omega, by show dp ≤ k + 1; omega⟩
    · have q1 : ¬ (¬ c < 48 ∧ ¬ 57 < c) := fun e => q (hc.mp e)
      rw [go_3 q1, nx_x, pg_3 q1]
      rcases wh 3 with ⟨w1, w2⟩ | ⟨p', w1, w2, w3, w4⟩
      · left; rw [w1, if_pos w2]; exact ⟨rfl, rfl⟩
      · right
        rw [w1, w4, if_neg (nI_nm (by omega)), toN (by omega)]
        exact ⟨rfl, rfl, w2, by show p'.2.1 ≤ k + 1; omega⟩
  | 4, _ =>
    show ((goF c (4, dp, le, sg, va, en, A, N, W)).1 = false ∧ (nxS k c (4, nI dp)).1 = 5) ∨ ((goF c (4, dp, le, sg, va, en, A, N, W)).1 = true ∧ Gs (k + 1) (nxS k c (4, nI dp)) (goF c (4, dp, le, sg, va, en, A, N, W)).2)
    rw [go_4, nx_x, pg_4]
    rcases wh 4 with ⟨w1, w2⟩ | ⟨p', w1, w2, w3, w4⟩
    · left; rw [w1, if_pos w2]; exact ⟨rfl, rfl⟩
    · right
      rw [w1, w4, if_neg (nI_nm (by omega)), toN (by omega)]
      exact ⟨rfl, rfl, w2, by show p'.2.1 ≤ k + 1; omega⟩
theorem gs_e2 {g : Nat → Int32} {p0 : Pz} (h0 : p0.1 = 0 ∧ p0.2.1 = 0) : ∀ j, j < 2 ^ 20 → (∀ i, i < j → (goF (g i) (gdF p0 g i)).1 = true) → Gs j (gs g j) (gdF p0 g j)
  | 0, _, _ => by
    refine ⟨?_, ?_, ?_⟩
    · show ((0, 0) : Nat × Int32) = (p0.1, nI p0.2.1); rw [h0.1, h0.2]; rfl
    · show p0.1 ≤ 4; omega
    · show p0.2.1 ≤ 0; omega
  | j + 1, hj, h => by
    have ih := gs_e2 (g := g) h0 j (by omega) (fun i hi => h i (by omega))
    have hs : gs g (j + 1) = nxS j (g j) (gs g j) := by
      rw [gs, if_pos (by rw [ih.1]; have := ih.2.1; show (gdF p0 g j).1 < 5; omega)]; rfl
    rcases go_e (c := g j) (k := j) (by omega) ih with ⟨q, _⟩ | ⟨_, q⟩
    · rw [h j (by omega)] at q; cases q
    · rw [hs, gdF]; exact q
theorem ff_uni {p q : Nat → Bool} {L : Nat} (h : ∀ j, j < L → (∀ i, i < j → q i = false) → p j = q j) : fa_first p L = fa_first q L := by
  have hl := fa_first_le q L
  have h1 : ∀ i, i < fa_first q L → p i = false := fun i hi => by
    rw [h i (by omega) (fun i' hi' => fa_first_no q L i' (by omega))]
    exact fa_first_no q L i hi
  have hp := fa_first_le p L
  rcases Nat.lt_trichotomy (fa_first p L) (fa_first q L) with c | c | c
  · have := fa_first_yes p L (by omega)
    rw [h1 _ c] at this; cases this
  · exact c
  · have h2 := fa_first_no p L _ c
    have h3 := fa_first_yes q L (by omega)
    rw [h _ (by omega) (fun i hi => fa_first_no q L i hi), h3] at h2
    cases h2
theorem gN_e {g : Nat → Int32} {p0 : Pz} {L : Nat} (h0 : p0.1 = 0 ∧ p0.2.1 = 0) (hL : L ≤ 60) : gN g L = gdN p0 g L := by
  unfold gN gdN
  refine ff_uni (fun j hj hq => ?_)
  have hs := gs_e2 (g := g) h0 j (by omega) (fun i hi => by
    have := hq i hi
    simpa using this)
  have hn : gs g (j + 1) = nxS j (g j) (gs g j) := by
    rw [gs, if_pos (by rw [hs.1]; have := hs.2.1; show (gdF p0 g j).1 < 5; omega)]; rfl
  show ((gs g (j + 1)).1 == 5) = !(goF (g j) (gdF p0 g j)).1
  rw [hn]
  rcases go_e (c := g j) (k := j) (by omega) hs with ⟨q1, q2⟩ | ⟨q1, q2⟩
  · rw [q1, q2]; rfl
  · rw [q1, q2.1]
    have := q2.2.1
    show ((goF (g j) (gdF p0 g j)).2.1 == 5) = false
    exact beq_eq_false_iff_ne.mpr (by omega)
theorem gdF_cg {g g' : Nat → Int32} {p0 : Pz} : ∀ j, (∀ i, i < j → g i = g' i) → gdF p0 g j = gdF p0 g' j
  | 0, _ => rfl
  | j + 1, h => by rw [gdF, gdF, gdF_cg j (fun i hi => h i (by omega)), h j (by omega)]
theorem gdN_cg {g g' : Nat → Int32} {p0 : Pz} {L : Nat} (h : ∀ i, i < L → g i = g' i) : gdN p0 g L = gdN p0 g' L := by
  unfold gdN
  refine fa_first_cg L (fun j hj => ?_)
  rw [gdF_cg j (fun i hi => h i (by omega)), h j hj]
theorem RR.kp {m m1 m2 : Mm} {s b z : Nat → Nat} {B : Nat → Nat → Nat} {x k mk L u : Nat} {S : Nat → Qn} (h : RR m s b z B x k mk L u S) (F : Fr [32] m m1) (e1 : mI m1 32 1 = mI m 32 1) (K : KP m1 m2) : RM m2 := by
  have g : ∀ j, ¬ j = 32 → j ∉ [32] := fun j hj => by simp; exact hj
  have a1 : SamM m m1 := by
    have e40 := (F.1 40 (by simp)).1
    exact ⟨fun k q => (F.1 k (g k (by omega))).2.1, by rw [e40], by rw [e40], by rw [e40], by rw [e40]⟩
  have a2 : SamC m m1 := by
    refine ⟨fun k q => (F.1 k (g k (by omega))).2.1, (F.1 2 (by simp)).1, by rw [(F.1 1 (by simp)).1], e1, by rw [(F.1 34 (by simp)).1], fun c hc => ?_, F.2.1, F.2.2, fun q hq => ⟨(F.1 _ (g _ (by omega))).1, (F.1 _ (g _ (by omega))).2.1⟩⟩
    exact ⟨(F.1 _ (g _ (by omega))).1, (F.1 _ (g _ (by omega))).2.1, (F.1 _ (g _ (by omega))).2.1, (F.1 _ (g _ (by omega))).2.1, (F.1 _ (g _ (by omega))).2.2.1, (F.1 _ (g _ (by omega))).2.2.2⟩
  have h1 := h.same a1 a2 (h.2.2.2.2.2.2.1.f (by rw [(F.1 1 (by simp)).1]) (by rw [(F.1 1 (by simp)).1]) (by rw [(F.1 40 (by simp)).1]) (by rw [(F.1 40 (by simp)).1])) (by rw [(F.1 64 (by simp)).2.1]; exact h.2.2.2.2.2.2.2)
  have b := K.1.sM (fun j hj => by simp at hj; omega) (K.2 3 (by omega)) (K.2 7 (by omega)) (K.2 26 (by omega)) (K.2 27 (by omega))
  exact ⟨_, _, _, _, _, _, _, _, _, _, h1.same b.1 b.2 (h1.2.2.2.2.2.2.1.f (by rw [(K.1.1 1 (by simp)).1]) (by rw [(K.1.1 1 (by simp)).1]) (K.2 19 (by omega)) (K.2 45 (by omega))) (by rw [(K.1.1 64 (by simp)).2.1]; exact h1.2.2.2.2.2.2.2)⟩
theorem q_good {m m1 m2 : Mm} {s b z : Nat → Nat} {B : Nat → Nat → Nat} {x k mk L u : Nat} {S : Nat → Qn} {r r' : Int32} (h : RR m s b z B x k mk L u S) (hc : rGood m L r m1) (hm : rGd m1 (p0M m1) L r' m2) : r = r' ∧ RM m2 := by
  obtain ⟨F, rfl, e1, -⟩ := hc
  obtain ⟨rfl, K, -⟩ := hm
  obtain ⟨hL, -, -, hp⟩ := h.2.2.2.2.1
  refine ⟨?_, h.kp F e1 K⟩
  rw [gN_e (p0 := p0M m1) ⟨rfl, rfl⟩ hL, (F.1 56 (by simp)).2.1, gdN_cg hp]
