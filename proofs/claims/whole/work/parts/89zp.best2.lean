/-! ===== the best design: the model finds it ===== -/
theorem lx_tr {k : Nat} {B B1 B2 : Nat → Nat} (h : lx k B B1) (h2 : lx k B1 B2) : lx k B B2 := by
  obtain ⟨j, hj, a, b⟩ := h
  obtain ⟨i, hi, c, d⟩ := h2
  rcases Nat.lt_trichotomy i j with q | q | q
  · exact ⟨i, hi, fun t ht => (a t (by omega)).trans (c t ht), by rw [a i q]; exact d⟩
  · subst q; exact ⟨i, hi, fun t ht => (a t ht).trans (c t ht), by omega⟩
  · exact ⟨j, hj, fun t ht => (a t ht).trans (c t (by omega)), by rw [← c j q]; exact b⟩
theorem blt_trans {z e l s k s1 k1 s2 k2 : Nat} {B B1 B2 : Nat → Nat} (h : blt z e l s k B s1 k1 B1) (h2 : blt z e l s1 k1 B1 s2 k2 B2) : blt z e l s k B s2 k2 B2 := by
  unfold blt at h h2 ⊢
  rcases h with q | ⟨q, h⟩
  · rcases h2 with p | ⟨p, _⟩
    · exact Or.inl (by omega)
    · exact Or.inl (by omega)
  rcases h2 with p | ⟨p, h2⟩
  · exact Or.inl (by omega)
  refine Or.inr ⟨by omega, ?_⟩
  rcases h with q | ⟨q, h⟩
  · rcases h2 with p | ⟨p, _⟩
    · exact Or.inl (by omega)
    · exact Or.inl (by omega)
  rcases h2 with p | ⟨p, h2⟩
  · exact Or.inl (by omega)
  refine Or.inr ⟨by omega, ?_⟩
  rcases h with q | ⟨q, h⟩
  · rcases h2 with p | ⟨p, _⟩
    · exact Or.inl (by omega)
    · exact Or.inl (by omega)
  rcases h2 with p | ⟨p, h2⟩
  · exact Or.inl (by omega)
  refine Or.inr ⟨by omega, ?_⟩
  rcases h with q | ⟨q, h⟩
  · rcases h2 with p | ⟨p, _⟩
    · exact Or.inl (by omega)
    · exact Or.inl (by omega)
  rcases h2 with p | ⟨p, h2⟩
  · exact Or.inl (by omega)
  refine Or.inr ⟨by omega, ?_⟩
  rw [← q] at h2
  exact lx_tr h h2
theorem ear_e {k : Nat} {B B0 : Nat → Nat} {g : Nat → Int32} (hg : ∀ j, j < k → g j = nI (B0 j)) (hB : ∀ j, j < k → B j ≤ 32) (hB0 : ∀ j, j < k → B0 j ≤ 32) : earB B g k = true ↔ lx k B B0 := by
  have hp : ∀ j, j < k → ((!(nI (B j) == g j)) = false ↔ B j = B0 j) := fun j hj => by
    rw [hg j hj]
    have h1 := hB j hj
    have h2 := hB0 j hj
    have e := nI_eq (a := B j) (b := B0 j) (by omega) (by omega)
    by_cases q : B j = B0 j
    · simp [q]
    · have : ¬ nI (B j) = nI (B0 j) := fun x => q (e.mp x)
      simp [q, this]
  unfold earB
  rw [Bool.and_eq_true, decide_eq_true_eq, decide_eq_true_eq]
  constructor
  · rintro ⟨hf, hl⟩
    refine ⟨_, hf, fun i hi => (hp i (by omega)).mp (fa_first_no (fun j => !(nI (B j) == g j)) k i hi), ?_⟩
    rw [hg _ hf] at hl
    have h1 := hB _ hf
    have h2 := hB0 _ hf
    exact (nI_ltI (by omega) (by omega)).mp hl
  · rintro ⟨j, hj, ha, hb⟩
    have hle := fa_first_le (fun j => !(nI (B j) == g j)) k
    have ef : fa_first (fun j => !(nI (B j) == g j)) k = j := by
      rcases Nat.lt_trichotomy (fa_first (fun j => !(nI (B j) == g j)) k) j with q | q | q
      · have h1 := fa_first_yes (fun j => !(nI (B j) == g j)) k (by omega)
        have h2 := (hp _ (show fa_first (fun j => !(nI (B j) == g j)) k < k by omega)).mpr (ha _ q)
        rw [h2] at h1; cases h1
      · exact q
      · have h1 := (hp j hj).mp (fa_first_no (fun j => !(nI (B j) == g j)) k j q)
        omega
    rw [ef, hg j hj]
    have h1 := hB j hj
    have h2 := hB0 j hj
    exact ⟨hj, nI_lt hb (by omega)⟩
theorem bet_e {z e l s k s0 k0 : Nat} {B B0 : Nat → Nat} {b : Bst} (hz : z ≤ 32) (he : e ≤ 9) (hl : l ≤ 9) (hs : s ≤ 1) (hs0 : s0 ≤ 1) (hk : k ≤ 5) (hk0 : k0 ≤ 5) (hB : ∀ j, j < k → B j ≤ 32) (hB0 : ∀ j, j < k0 → B0 j ≤ 32) (b1 : b.1 = nI (cN z e l s0 B0 k0)) (b2 : b.2.1 = nI (rmN s0 B0 k0)) (b3 : b.2.2.1 = nI s0) (b4 : b.2.2.2.1 = nI k0) (b5 : ∀ j, j < k0 → b.2.2.2.2 j = nI (B0 j)) : betB (nI (cN z e l s B k)) (rmN s B k) s k B b = true ↔ blt z e l s k B s0 k0 B0 := by
  have c1 := cN_le (s := s) (B := B) hz he hl hk
  have c2 := cN_le (s := s0) (B := B0) hz he hl hk0
  have r1 := rm_le (s := s) hB k (Nat.le_refl k)
  have r2 := rm_le (s := s0) hB0 k0 (Nat.le_refl k0)
  unfold betB blt
  rw [b1, b2, b3, b4]
  simp only [Bool.or_eq_true, Bool.and_eq_true, decide_eq_true_eq]
  rw [nI_ltI (by omega) (by omega), nI_eq (by omega) (by omega), nI_ltI (by omega) (by omega), nI_eq (by omega) (by omega), nI_ltI (by omega) (by omega), nI_eq (by omega) (by omega), nI_ltI (by omega) (by omega), nI_eq (by omega) (by omega)]
  have hn : ¬ nI (cN z e l s0 B0 k0) = -1 := nI_nm (by omega)
  have hx : k = k0 → (earB B b.2.2.2.2 k = true ↔ lx k B B0) := fun q => by
    subst q; exact ear_e b5 hB hB0
  constructor
  · rintro (q | q | ⟨q, q1 | ⟨q1, q2 | ⟨q2, q3 | ⟨q3, q4⟩⟩⟩⟩)
    · exact absurd q hn
    · exact Or.inl q
    · exact Or.inr ⟨q, Or.inl q1⟩
    · exact Or.inr ⟨q, Or.inr ⟨q1, Or.inl q2⟩⟩
    · exact Or.inr ⟨q, Or.inr ⟨q1, Or.inr ⟨q2, Or.inl q3⟩⟩⟩
    · exact Or.inr ⟨q, Or.inr ⟨q1, Or.inr ⟨q2, Or.inr ⟨q3, (hx q3).mp q4⟩⟩⟩⟩
  · rintro (q | ⟨q, q1 | ⟨q1, q2 | ⟨q2, q3 | ⟨q3, q4⟩⟩⟩⟩)
    · exact Or.inr (Or.inl q)
    · exact Or.inr (Or.inr ⟨q, Or.inl q1⟩)
    · exact Or.inr (Or.inr ⟨q, Or.inr ⟨q1, Or.inl q2⟩⟩)
    · exact Or.inr (Or.inr ⟨q, Or.inr ⟨q1, Or.inr ⟨q2, Or.inl q3⟩⟩⟩)
    · exact Or.inr (Or.inr ⟨q, Or.inr ⟨q1, Or.inr ⟨q2, Or.inr ⟨q3, (hx q3).mpr q4⟩⟩⟩⟩)
def add1 (V : Vs) (s k : Nat) (B : Nat → Nat) : Vs := fun s' k' B' => V s' k' B' ∨ (s' = s ∧ k' = k ∧ ∀ j, j < k → B' j = B j)
theorem MI_we {z R e l s k : Nat} {B : Nat → Nat} {V : Vs} {b : Bst} (hz : z ≤ 32) (hR : R ≤ 64) (he : e ≤ 9) (hl : l ≤ 9) (hs : s ≤ 1) (hk1 : 1 ≤ k) (hk : k ≤ 5) (hB : ∀ j, j < k → 2 ≤ B j ∧ B j ≤ 32) (h : MI z R e l V b) : MI z R e l (add1 V s k B) (weS z R (nI e) (nI l) k B s b) := by
  unfold weS
  by_cases ho : rmN s B k ≤ R ∧ dsB s B k z k = true
  · have okd : okD z R s k B := ⟨hs, hk1, hk, hB, ho.1, ho.2⟩
    have hD : Des s B k := ⟨hs, hB, by omega⟩
    rw [csM_N hD]
    have new : ∀ (hV : ∀ s' k' B', okD z R s' k' B' → V s' k' B' → ¬ blt z e l s' k' B' s k B), MI z R e l (add1 V s k B) (nI (cN z e l s B k), nI (rmN s B k), nI s, nI k, cpF b.2.2.2.2 (fun j => nI (B j)) 0 0 k) := fun hV => by
      refine Or.inr ⟨s, k, B, okd, Or.inr ⟨rfl, rfl, fun _ _ => rfl⟩, rfl, rfl, rfl, rfl, fun j hj => ?_, fun s' k' B' o' v' => ?_⟩
      · show cpF b.2.2.2.2 (fun j => nI (B j)) 0 0 k j = nI (B j)
        unfold cpF
        rw [if_pos ⟨Nat.zero_le j, by omega⟩, Nat.zero_add, Nat.sub_zero]
      · rcases v' with v' | ⟨rfl, rfl, v'⟩
        · exact hV s' k' B' o' v'
        · exact blt_ir v'
    rcases h with ⟨h1, h2⟩ | ⟨s0, k0, B0, a1, a2, a3, a4, a5, a6, a7, a8⟩
    · have hb : betB (nI (cN z e l s B k)) (rmN s B k) s k B b = true := by
        unfold betB
        rw [decide_eq_true h1, Bool.true_or]
      rw [if_pos ⟨ho.1, ho.2, hb⟩]
      exact new (fun s' k' B' o' v' => absurd v' (h2 s' k' B' o'))
    · have hb := bet_e (B := B) hz he hl hs a1.1 hk a1.2.2.1 (fun j hj => (hB j hj).2) (fun j hj => (a1.2.2.2.1 j hj).2) a3 a4 a5 a6 a7
      by_cases q : blt z e l s k B s0 k0 B0
      · rw [if_pos ⟨ho.1, ho.2, hb.mpr q⟩]
        exact new (fun s' k' B' o' v' x => a8 s' k' B' o' v' (blt_trans x q))
      · rw [if_neg (fun x => q (hb.mp x.2.2))]
        refine Or.inr ⟨s0, k0, B0, a1, Or.inl a2, a3, a4, a5, a6, a7, fun s' k' B' o' v' => ?_⟩
        rcases v' with v' | ⟨rfl, rfl, v'⟩
        · exact a8 s' k' B' o' v'
        · exact fun x => q (blt_cg v' x)
  · rw [if_neg (fun x => ho ⟨x.1, x.2.1⟩)]
    refine h.sub (fun s' k' B' o' => ⟨Or.inl, fun v' => ?_⟩)
    rcases v' with v' | ⟨rfl, rfl, v'⟩
    · exact v'
    · exfalso
      apply ho
      refine ⟨?_, dsB_cg v' o'.2.2.2.2.2⟩
      rw [← rmN_cg v']; exact o'.2.2.2.2.1
theorem okD.lt {z R s k : Nat} {B : Nat → Nat} (h : okD z R s k B) {j : Nat} (hj : j < k) : pdN B j < z := (pd_lt h.2.2.2.1 h.2.2.2.2.2 hj).2
theorem okD.ge {z R s k : Nat} {B : Nat → Nat} (h : okD z R s k B) : z ≤ pdN B k := (ds_0 k h.2.2.2.2.2).2.1
def adP (V : Vs) (j x : Nat) (B : Nat → Nat) : Vs := fun s' k' B' => V s' k' B' ∨ (j < k' ∧ (∀ i, i < j → B' i = B i) ∧ x ≤ B' j)
theorem fb_inv {z R e l : Nat} (hz : z ≤ 32) (hR : R ≤ 64) (he : e ≤ 9) (hl : l ≤ 9) : ∀ (t j : Nat) (B : Nat → Nat) (b : Bst) (V : Vs), t + j = 5 → (∀ i, i < j → 2 ≤ B i ∧ B i ≤ 32) → MI z R e l V b → MI z R e l (adP V j 0 B) (fbF z R (nI e) (nI l) t j B b) := by
  intro t
  induction t with
  | zero =>
    intro j B b V hj hB h
    exact h.sub (fun s' k' B' o' => ⟨Or.inl, fun v' => by
      rcases v' with v' | ⟨v', _⟩
      · exact v'
      · have := o'.2.2.1; omega⟩)
  | succ t ih =>
    intro j B b V hj hB h
    have inner : ∀ (u x : Nat) (b : Bst) (V : Vs), u + x = 33 → 2 ≤ x → MI z R e l V b → MI z R e l (adP V j x B) (fbL z R (nI e) (nI l) (fun B' b' => fbF z R (nI e) (nI l) t (j + 1) B' b') j B u x b) := by
      intro u
      induction u with
      | zero =>
        intro x b V hx hx2 h
        exact h.sub (fun s' k' B' o' => ⟨Or.inl, fun v' => by
          rcases v' with v' | ⟨v1, _, v2⟩
          · exact v'
          · have := (o'.2.2.2.1 j v1).2; omega⟩)
      | succ u iu =>
        intro x b V hx hx2 h
        have hB1 : ∀ i, i < j + 1 → 2 ≤ uNt B j x i ∧ uNt B j x i ≤ 32 := fun i hi => by
          by_cases e : i = j
          · subst e; rw [uNt_e]; omega
          · rw [uNt_n e]; exact hB i (by omega)
        rw [fbL]
        by_cases q : z ≤ pdN (uNt B j x) (j + 1)
        · rw [if_pos q]
          have h1 := MI_we (s := 0) hz hR he hl (by omega) (by omega) (by omega) hB1 h
          have h2 := MI_we (s := 1) hz hR he hl (by omega) (by omega) (by omega) hB1 h1
          refine (iu (x + 1) _ _ (by omega) (by omega) h2).sub (fun s' k' B' o' => ⟨fun v' => ?_, fun v' => ?_⟩)
          · rcases v' with ((v' | ⟨rfl, rfl, v'⟩) | ⟨rfl, rfl, v'⟩) | ⟨v1, v2, v3⟩
            · exact Or.inl v'
            · refine Or.inr ⟨by omega, fun i hi => by rw [v' i (by omega), uNt_n (by omega)], by rw [v' j (by omega), uNt_e]; omega⟩
            · refine Or.inr ⟨by omega, fun i hi => by rw [v' i (by omega), uNt_n (by omega)], by rw [v' j (by omega), uNt_e]; omega⟩
            · exact Or.inr ⟨v1, v2, by omega⟩
          · rcases v' with v' | ⟨v1, v2, v3⟩
            · exact Or.inl (Or.inl (Or.inl v'))
            · by_cases e : B' j = x
              · have heq : ∀ i, i < j + 1 → B' i = uNt B j x i := fun i hi => by
                  by_cases e2 : i = j
                  · subst e2; rw [uNt_e]; exact e
                  · rw [uNt_n e2]; exact v2 i (by omega)
                have hk : k' = j + 1 := by
                  rcases Nat.lt_or_ge (j + 1) k' with p | p
                  · have := o'.lt p
                    rw [pd_cg heq] at this; omega
                  · omega
                have hs := o'.1
                subst hk
                rcases (show s' = 0 ∨ s' = 1 by omega) with rfl | rfl
                · exact Or.inl (Or.inl (Or.inr ⟨rfl, rfl, heq⟩))
                · exact Or.inl (Or.inr ⟨rfl, rfl, heq⟩)
              · exact Or.inr ⟨v1, v2, by omega⟩
        · rw [if_neg q]
          by_cases q5 : j + 1 < 5
          · rw [if_pos q5]
            have h1 := ih (j + 1) (uNt B j x) b V (by omega) hB1 h
            refine (iu (x + 1) _ _ (by omega) (by omega) h1).sub (fun s' k' B' o' => ⟨fun v' => ?_, fun v' => ?_⟩)
            · rcases v' with (v' | ⟨w1, w2, w3⟩) | ⟨v1, v2, v3⟩
              · exact Or.inl v'
              · exact Or.inr ⟨by omega, fun i hi => by rw [w2 i (by omega), uNt_n (by omega)], by rw [w2 j (by omega), uNt_e]; omega⟩
              · exact Or.inr ⟨v1, v2, by omega⟩
            · rcases v' with v' | ⟨v1, v2, v3⟩
              · exact Or.inl (Or.inl v')
              · by_cases e : B' j = x
                · have heq : ∀ i, i < j + 1 → B' i = uNt B j x i := fun i hi => by
                    by_cases e2 : i = j
                    · subst e2; rw [uNt_e]; exact e
                    · rw [uNt_n e2]; exact v2 i (by omega)
                  have hk : j + 1 < k' := by
                    rcases Nat.lt_or_ge (j + 1) k' with p | p
                    · exact p
                    · have : k' = j + 1 := by omega
                      subst this
                      have := o'.ge
                      rw [pd_cg heq] at this; omega
                  exact Or.inl (Or.inr ⟨hk, heq, Nat.zero_le _⟩)
                · exact Or.inr ⟨v1, v2, by omega⟩
          · rw [if_neg q5]
            refine (iu (x + 1) _ _ (by omega) (by omega) h).sub (fun s' k' B' o' => ⟨fun v' => ?_, fun v' => ?_⟩)
            · rcases v' with v' | ⟨v1, v2, v3⟩
              · exact Or.inl v'
              · exact Or.inr ⟨v1, v2, by omega⟩
            · rcases v' with v' | ⟨v1, v2, v3⟩
              · exact Or.inl v'
              · by_cases e : B' j = x
                · exfalso
                  have heq : ∀ i, i < j + 1 → B' i = uNt B j x i := fun i hi => by
                    by_cases e2 : i = j
                    · subst e2; rw [uNt_e]; exact e
                    · rw [uNt_n e2]; exact v2 i (by omega)
                  have hk : k' = j + 1 := by have := o'.2.2.1; omega
                  subst hk
                  have := o'.ge
                  rw [pd_cg heq] at this; omega
                · exact Or.inr ⟨v1, v2, by omega⟩
    refine (inner 31 2 b V (by omega) (by omega) h).sub (fun s' k' B' o' => ⟨fun v' => ?_, fun v' => ?_⟩)
    · rcases v' with v' | ⟨v1, v2, v3⟩
      · exact Or.inl v'
      · exact Or.inr ⟨v1, v2, Nat.zero_le _⟩
    · rcases v' with v' | ⟨v1, v2, v3⟩
      · exact Or.inl v'
      · exact Or.inr ⟨v1, v2, (o'.2.2.2.1 j v1).1⟩
theorem fbA_inv {z R e l : Nat} {b : Bst} (hz : z ≤ 32) (hR : R ≤ 64) (he : e ≤ 9) (hl : l ≤ 9) : MI z R e l (fun _ _ _ => True) (fbA z R (nI e) (nI l) b) := by
  have h0 : MI z R e l (fun _ _ _ => False) ((-1, b.2) : Bst) := Or.inl ⟨rfl, fun _ _ _ _ q => q⟩
  refine (fb_inv hz hR he hl 5 0 (fun _ => 0) _ _ rfl (fun i hi => absurd hi (Nat.not_lt_zero i)) h0).sub (fun s' k' B' o' => ⟨fun _ => trivial, fun _ => Or.inr ⟨o'.2.1, fun i hi => absurd hi (Nat.not_lt_zero i), Nat.zero_le _⟩⟩)
