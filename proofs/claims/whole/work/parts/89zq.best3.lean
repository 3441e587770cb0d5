/-! ===== the best design: the class finds it ===== -/
theorem fJust_e {z k : Nat} {g : Nat → Int32} {B : Nat → Nat} (hz2 : z ≤ 32) (hk : k ≤ 5) (hg : ∀ j, j < k → g j = nI (B j)) (hB : ∀ j, j < k → 2 ≤ B j ∧ B j ≤ 32) : fJust g k (nI z) ↔ z ≤ pdN B k ∧ ∀ j, j < k → pdN B k / B j < z := by
  have e2 : sStr g k = nI (pdN B k) := sStr_e hg k (Nat.le_refl k)
  have hp := pd_b hk (fun j hj => (hB j hj).2) (Nat.le_refl k)
  unfold fJust
  rw [e2]
  have d : ∀ j, j < k → (nI (pdN B k) / (if g j < 2 then 2 else g j) < nI z ↔ pdN B k / B j < z) := fun j hj => by
    have h2 := hB j hj
    have e : (if g j < 2 then 2 else g j) = nI (B j) := by rw [hg j hj]; exact if_neg (nI_nlt (b := 2) h2.1 (by omega))
    rw [e, pk_div (by omega) (by omega) (by omega)]
    have : pdN B k / B j ≤ pdN B k := Nat.div_le_self _ _
    exact nI_ltI (by omega) (by omega)
  have g2 : nI z ≤ nI (pdN B k) ↔ z ≤ pdN B k := nI_leI (by omega) (by omega)
  rw [g2]
  exact ⟨fun q => ⟨q.1, fun j hj => (d j hj).mp (q.2 j hj)⟩, fun q => ⟨q.1, fun j hj => (d j hj).mpr (q.2 j hj)⟩⟩
def bef (k : Nat) (T : Nat → Nat) (b : Nat) (B' : Nat → Nat) : Prop := ∃ j, j ≤ k ∧ (∀ i, i < j → B' i = T i) ∧ ((j < k ∧ B' j < T j) ∨ (j = k ∧ B' k < b))
def Vb (s w k : Nat) (T : Nat → Nat) (b : Nat) : Vs := fun s' k' B' => s' < s ∨ (s' = s ∧ (k' < w ∨ (k' = w ∧ bef k T b B')))
theorem bef_s {k b : Nat} {T B' : Nat → Nat} : bef k T (b + 1) B' ↔ bef k T b B' ∨ ((∀ i, i < k → B' i = T i) ∧ B' k = b) := by
  constructor
  · rintro ⟨j, hj, ha, (⟨h1, h2⟩ | ⟨rfl, h2⟩)⟩
    · exact Or.inl ⟨j, hj, ha, Or.inl ⟨h1, h2⟩⟩
    · by_cases e : B' j = b
      · exact Or.inr ⟨ha, e⟩
      · exact Or.inl ⟨j, hj, ha, Or.inr ⟨rfl, by omega⟩⟩
  · rintro (⟨j, hj, ha, (⟨h1, h2⟩ | ⟨rfl, h2⟩)⟩ | ⟨h1, h2⟩)
    · exact ⟨j, hj, ha, Or.inl ⟨h1, h2⟩⟩
    · exact ⟨j, hj, ha, Or.inr ⟨rfl, by omega⟩⟩
    · exact ⟨k, Nat.le_refl k, h1, Or.inr ⟨rfl, by omega⟩⟩
theorem eq_uNt {k b : Nat} {T B' : Nat → Nat} : (∀ i, i < k + 1 → B' i = uNt T k b i) ↔ (∀ i, i < k → B' i = T i) ∧ B' k = b := by
  constructor
  · intro h
    exact ⟨fun i hi => by rw [h i (by omega), uNt_n (by omega)], by rw [h k (by omega), uNt_e]⟩
  · rintro ⟨h1, h2⟩ i hi
    by_cases e : i = k
    · subst e; rw [uNt_e]; exact h2
    · rw [uNt_n e]; exact h1 i (by omega)
theorem bef_in {k b c : Nat} {T B' : Nat → Nat} : bef (k + 1) (uNt T k b) c B' ↔ bef k T b B' ∨ (((∀ i, i < k → B' i = T i) ∧ B' k = b) ∧ B' (k + 1) < c) := by
  constructor
  · rintro ⟨j, hj, ha, (⟨h1, h2⟩ | ⟨rfl, h2⟩)⟩
    · by_cases e : j = k
      · subst e
        rw [uNt_e] at h2
        exact Or.inl ⟨j, Nat.le_refl j, fun i hi => by rw [ha i hi, uNt_n (by omega)], Or.inr ⟨rfl, h2⟩⟩
      · rw [uNt_n e] at h2
        exact Or.inl ⟨j, by omega, fun i hi => by rw [ha i hi, uNt_n (by omega)], Or.inl ⟨by omega, h2⟩⟩
    · exact Or.inr ⟨eq_uNt.mp ha, h2⟩
  · rintro (⟨j, hj, ha, (⟨h1, h2⟩ | ⟨rfl, h2⟩)⟩ | ⟨h1, h2⟩)
    · exact ⟨j, by omega, fun i hi => by rw [ha i hi, uNt_n (by omega)], Or.inl ⟨by omega, by rw [uNt_n (by omega)]; exact h2⟩⟩
    · exact ⟨j, by omega, fun i hi => by rw [ha i hi, uNt_n (by omega)], Or.inl ⟨by omega, by rw [uNt_e]; exact h2⟩⟩
    · exact ⟨k + 1, Nat.le_refl _, eq_uNt.mpr h1, Or.inr ⟨rfl, h2⟩⟩
theorem bef_lx {k b w : Nat} {T B' : Nat → Nat} (h : bef k T b B') : ¬ lx w (uNt T k b) B' := by
  rintro ⟨i, hi, a, c⟩
  have h' : ∃ j, (∀ t, t < j → B' t = uNt T k b t) ∧ B' j < uNt T k b j := by
    obtain ⟨j, hj, ha, (⟨h1, h2⟩ | ⟨rfl, h2⟩)⟩ := h
    · exact ⟨j, fun t ht => by rw [ha t ht, uNt_n (by omega)], by rw [uNt_n (by omega)]; exact h2⟩
    · exact ⟨j, fun t ht => by rw [ha t ht, uNt_n (by omega)], by rw [uNt_e]; exact h2⟩
  obtain ⟨j, p, q⟩ := h'
  rcases Nat.lt_trichotomy i j with r | r | r
  · have := p i r; omega
  · subst r; omega
  · have := a j r; omega
theorem CI_sk {z R e l C : Nat} {V V' : Vs} {st : Sb} (hz : z ≤ 32) (he : e ≤ 9) (hl : l ≤ 9) (hC : C < 2 ^ 31) (h : CI z R e l V st) (q : ¬ st.1 = 0 ∧ st.2.1 < nI C) (h1 : ∀ s k B, V s k B → V' s k B) (h2 : ∀ s k B, okD z R s k B → V' s k B → V s k B ∨ C ≤ cN z e l s B k) : CI z R e l V' st := by
  rcases h with ⟨h0, _⟩ | ⟨h0, s0, k0, B0, a1, a2, a3, a4, a5, a6, a7, a8⟩
  · exact absurd h0 q.1
  · refine Or.inr ⟨h0, s0, k0, B0, a1, h1 _ _ _ a2, a3, a4, a5, a6, a7, fun s' k' B' o' v' => ?_⟩
    rcases h2 s' k' B' o' v' with v | v
    · exact a8 s' k' B' o' v
    · have c2 := cN_le (s := s0) (B := B0) hz he hl a1.2.2.1
      have q2 := q.2
      rw [a3, nI_ltI (by omega) hC] at q2
      rintro (x | ⟨x, _⟩)
      · omega
      · omega
theorem CI_co {z R e l s w : Nat} {T : Nat → Nat} {V : Vs} {st : Sb} (hz : z ≤ 32) (he : e ≤ 9) (hl : l ≤ 9) (h : CI z R e l V st) (ho : okD z R s w T) (hR : R ≤ 64) (hb : ∀ s0 k0 B0, okD z R s0 k0 B0 → V s0 k0 B0 → s0 < s ∨ (s0 = s ∧ (k0 < w ∨ (k0 = w ∧ ¬ lx w T B0)))) (ht : ∀ j, j < w → st.2.2.2.2.2.2 j = nI (T j)) : CI z R e l (add1 V s w T) (coF (nI s) w (nI (rmN s T w)) (nI (cN z e l s T w)) st) := by
  have c1 := cN_le (s := s) (B := T) hz he hl ho.2.2.1
  have hr := ho.2.2.2.2.1
  have new : ∀ (hV : ∀ s' k' B', okD z R s' k' B' → V s' k' B' → ¬ blt z e l s' k' B' s w T), CI z R e l (add1 V s w T) (1, nI (cN z e l s T w), nI (rmN s T w), nI s, nI w, fa_fill st.2.2.2.2.2.2 st.2.2.2.2.2.1 w, st.2.2.2.2.2.2) := fun hV => by
    refine Or.inr ⟨rfl, s, w, T, ho, Or.inr ⟨rfl, rfl, fun _ _ => rfl⟩, rfl, rfl, rfl, rfl, fun j hj => ?_, fun s' k' B' o' v' => ?_⟩
    · show fa_fill st.2.2.2.2.2.2 st.2.2.2.2.2.1 w j = nI (T j)
      rw [fa_fill_in hj, ht j hj]
    · rcases v' with v' | ⟨rfl, rfl, v'⟩
      · exact hV s' k' B' o' v'
      · exact blt_ir v'
  unfold coF
  rcases h with ⟨h0, h2⟩ | ⟨h0, s0, k0, B0, a1, a2, a3, a4, a5, a6, a7, a8⟩
  · rw [if_pos h0]
    exact new (fun s' k' B' o' v' => absurd v' (h2 s' k' B' o'))
  · have c2 := cN_le (s := s0) (B := B0) hz he hl a1.2.2.1
    have r2 := a1.2.2.2.2.1
    have keep : ¬ blt z e l s w T s0 k0 B0 → CI z R e l (add1 V s w T) st := fun q => by
      refine Or.inr ⟨h0, s0, k0, B0, a1, Or.inl a2, a3, a4, a5, a6, a7, fun s' k' B' o' v' => ?_⟩
      rcases v' with v' | ⟨rfl, rfl, v'⟩
      · exact a8 s' k' B' o' v'
      · exact fun x => q (blt_cg v' x)
    rw [if_neg (by rw [h0]; decide), a3, a4]
    by_cases q1 : cN z e l s0 B0 k0 < cN z e l s T w
    · rw [if_pos (nI_lt q1 (by omega))]
      refine keep ?_
      rintro (x | ⟨x, _⟩) <;> omega
    · rw [if_neg (nI_nlt (by omega) (by omega))]
      by_cases q2 : cN z e l s T w = cN z e l s0 B0 k0
      · rw [if_pos (by rw [q2])]
        by_cases q3 : rmN s T w < rmN s0 B0 k0
        · rw [if_pos (nI_lt q3 (by omega))]
          exact new (fun s' k' B' o' v' x => a8 s' k' B' o' v' (blt_tr x (Or.inr ⟨q2, q3⟩)))
        · rw [if_neg (nI_nlt (by omega) (by omega))]
          refine keep ?_
          have hb0 := hb s0 k0 B0 a1 a2
          rintro (x | ⟨_, (x | ⟨_, (x | ⟨x, (y | ⟨y, y2⟩)⟩)⟩)⟩)
          · omega
          · omega
          · rcases hb0 with p | ⟨p, _⟩ <;> omega
          · rcases hb0 with p | ⟨_, (p | ⟨p, _⟩)⟩ <;> omega
          · rcases hb0 with p | ⟨_, (p | ⟨_, p⟩)⟩
            · omega
            · omega
            · exact p y2
      · rw [if_neg (fun x => q2 ((nI_eq (by omega) (by omega)).mp x))]
        exact new (fun s' k' B' o' v' x => a8 s' k' B' o' v' (blt_tr x (Or.inl (by omega))))
theorem ex_inv {z R e l s w : Nat} (hz2 : 2 ≤ z) (hz : z ≤ 32) (hR : R ≤ 64) (he : e ≤ 9) (hl : l ≤ 9) (hs : s ≤ 1) (hw : w ≤ 5) : ∀ (t k : Nat) (T : Nat → Nat) (st : Sb), t + k = 5 → k < w → (∀ j, j < k → 2 ≤ T j ∧ T j ≤ 32) → pdN T k < z → (∀ j, j < k → st.2.2.2.2.2.2 j = nI (T j)) → CI z R e l (Vb s w k T 2) st → CI z R e l (Vb s w k T 33) (exF z w (nI R) (nI e) (nI l) (nI s) t k (pdN T k) (nI (rmN s T k)) (nI (cN z e l s T k)) st) ∧ ∀ j, j < k → (exF z w (nI R) (nI e) (nI l) (nI s) t k (pdN T k) (nI (rmN s T k)) (nI (cN z e l s T k)) st).2.2.2.2.2.2 j = nI (T j) := by
  intro t
  induction t with
  | zero => intro k T st hk hkw; omega
  | succ t ih =>
    intro k T st hk hkw hT hpz htr h
    have hpp : 0 < pdN T k := pd_pos (k := k) (fun i hi => (hT i hi).1) k (Nat.le_refl k)
    have inner : ∀ (u b : Nat) (st : Sb), u + b = 33 → 2 ≤ b → (∀ j, j < k → st.2.2.2.2.2.2 j = nI (T j)) → CI z R e l (Vb s w k T b) st → CI z R e l (Vb s w k T 33) (exL z w (nI R) (nI e) (nI l) (nI s) (fun p' rm' ct' s' => exF z w (nI R) (nI e) (nI l) (nI s) t (k + 1) p' rm' ct' s') k (pdN T k) (nI (rmN s T k)) (nI (cN z e l s T k)) u b st) ∧ ∀ j, j < k → (exL z w (nI R) (nI e) (nI l) (nI s) (fun p' rm' ct' s' => exF z w (nI R) (nI e) (nI l) (nI s) t (k + 1) p' rm' ct' s') k (pdN T k) (nI (rmN s T k)) (nI (cN z e l s T k)) u b st).2.2.2.2.2.2 j = nI (T j) := by
      intro u
      induction u with
      | zero =>
        intro b st hb hb2 htr h
        have : b = 33 := by omega
        subst this
        exact ⟨h, htr⟩
      | succ u iu =>
        intro b st hb hb2 htr h
        have hT1 : ∀ i, i < k + 1 → 2 ≤ uNt T k b i ∧ uNt T k b i ≤ 32 := fun i hi => by
          by_cases e : i = k
          · subst e; rw [uNt_e]; omega
          · rw [uNt_n e]; exact hT i (by omega)
        have hpre : ∀ i, i < k → uNt T k b i = T i := fun i hi => uNt_n (by omega)
        have hrm : rmN s (uNt T k b) (k + 1) = rmN s T k + vo s b := by rw [rmN, uNt_e, rmN_cg hpre]
        have hpd : pdN (uNt T k b) (k + 1) = pdN T k * b := by rw [pdN, uNt_e, pd_cg hpre]
        have hcn : cN z e l s (uNt T k b) (k + 1) = cN z e l s T k + fcN z e l s b (pdN T k) := by
          show cN z e l s (uNt T k b) k + fcN z e l s (uNt T k b k) (pdN (uNt T k b) k) = _
          rw [uNt_e, pd_cg hpre, cN_cg hpre]
        have eR : nI (rmN s T k) + fRoom (nI s) (nI b) = nI (rmN s (uNt T k b) (k + 1)) := by
          rw [fRoom_all ⟨s, by omega⟩ ⟨b, by omega⟩ hb2, nI_add, hrm]
        have eC : nI (cN z e l s T k) + cstI (nI s) (nI b) (pdN T k) z (nI e) (nI l) = nI (cN z e l s (uNt T k b) (k + 1)) := by
          rw [cst_N hb2 (by omega) hpp (by omega), nI_add, hcn]
        have cb := cN_le (s := s) (B := uNt T k b) (k := k + 1) hz he hl (by omega)
        have rb := rm_le (s := s) (fun i hi => (hT1 i hi).2) (k + 1) (Nat.le_refl _)
        have htr1 : ∀ j, j < k + 1 → upd st.2.2.2.2.2.2 k (nI b) j = nI (uNt T k b j) := fun j hj => by
          by_cases e : j = k
          · subst e; rw [ud_e, uNt_e]
          · rw [ud_n e, uNt_n e]; exact htr j (by omega)
        have htr0 : ∀ j, j < k → upd st.2.2.2.2.2.2 k (nI b) j = nI (T j) := fun j hj => by rw [ud_n (by omega)]; exact htr j hj
        have vs : ∀ s' k' B', Vb s w k T (b + 1) s' k' B' ↔ Vb s w k T b s' k' B' ∨ (s' = s ∧ k' = w ∧ (∀ i, i < k → B' i = T i) ∧ B' k = b) := fun s' k' B' => by
          unfold Vb
          rw [bef_s]
          constructor
          · rintro (q | ⟨q, (q1 | ⟨q1, (q2 | q2)⟩)⟩)
            · exact Or.inl (Or.inl q)
            · exact Or.inl (Or.inr ⟨q, Or.inl q1⟩)
            · exact Or.inl (Or.inr ⟨q, Or.inr ⟨q1, q2⟩⟩)
            · exact Or.inr ⟨q, q1, q2⟩
          · rintro ((q | ⟨q, (q1 | ⟨q1, q2⟩)⟩) | ⟨q, q1, q2⟩)
            · exact Or.inl q
            · exact Or.inr ⟨q, Or.inl q1⟩
            · exact Or.inr ⟨q, Or.inr ⟨q1, Or.inl q2⟩⟩
            · exact Or.inr ⟨q, Or.inr ⟨q1, Or.inr q2⟩⟩
        -- all that is left behind b is out
        have out : (∀ s' k' B', okD z R s' k' B' → s' = s → k' = w → (∀ i, i < k → B' i = T i) → b ≤ B' k → False) → CI z R e l (Vb s w k T 33) st := fun ho => by
          refine h.sub (fun s' k' B' o' => ?_)
          unfold Vb
          constructor
          · rintro (q | ⟨q, (q1 | ⟨q1, j, hj, ha, (h1 | ⟨h1, h2⟩)⟩)⟩)
            · exact Or.inl q
            · exact Or.inr ⟨q, Or.inl q1⟩
            · exact Or.inr ⟨q, Or.inr ⟨q1, j, hj, ha, Or.inl h1⟩⟩
            · exact Or.inr ⟨q, Or.inr ⟨q1, j, hj, ha, Or.inr ⟨h1, by omega⟩⟩⟩
          · rintro (q | ⟨q, (q1 | ⟨q1, j, hj, ha, (h1 | ⟨h1, h2⟩)⟩)⟩)
            · exact Or.inl q
            · exact Or.inr ⟨q, Or.inl q1⟩
            · exact Or.inr ⟨q, Or.inr ⟨q1, j, hj, ha, Or.inl h1⟩⟩
            · subst h1
              refine Or.inr ⟨q, Or.inr ⟨q1, j, hj, ha, Or.inr ⟨rfl, ?_⟩⟩⟩
              rcases Nat.lt_or_ge (B' j) b with p | p
              · exact p
              · exact absurd (ho s' k' B' o' q q1 ha p) id
        have skip : (∀ s' k' B', okD z R s' k' B' → s' = s → k' = w → (∀ i, i < k + 1 → B' i = uNt T k b i) → cN z e l s (uNt T k b) (k + 1) ≤ cN z e l s' B' k') → (¬ st.1 = 0 ∧ st.2.1 < nI (cN z e l s (uNt T k b) (k + 1))) → CI z R e l (Vb s w k T (b + 1)) st := fun hc q => by
          refine CI_sk hz he hl (by omega) h q (fun s' k' B' v => (vs s' k' B').mpr (Or.inl v)) (fun s' k' B' o' v => ?_)
          rcases (vs s' k' B').mp v with v | ⟨v1, v2, v3⟩
          · exact Or.inl v
          · exact Or.inr (hc s' k' B' o' v1 v2 (eq_uNt.mpr v3))
        have mono : ∀ s' k' B', okD z R s' k' B' → s' = s → k' = w → (∀ i, i < k + 1 → B' i = uNt T k b i) → cN z e l s (uNt T k b) (k + 1) ≤ cN z e l s' B' k' := fun s' k' B' o' e1 e2 e3 => by
          subst e1; subst e2
          rw [← cN_cg e3]
          have := sm_ge (f := fun j => fcN z e l s' (B' j) (pdN B' j)) (i := k + 1) (k' - (k + 1))
          rwa [show k + 1 + (k' - (k + 1)) = k' by omega] at this
        rw [exL, eR, eC]
        by_cases q1 : nI (rmN s (uNt T k b) (k + 1)) ≤ nI R
        · rw [if_pos q1]
          rw [nI_leI (by omega) (by omega)] at q1
          by_cases q2 : k + 1 = w
          · rw [if_pos q2]
            subst q2
            have hj := fJust_e (z := z) (k := k + 1) (g := upd st.2.2.2.2.2.2 k (nI b)) (B := uNt T k b) hz hw htr1 hT1
            by_cases q3 : fJust (upd st.2.2.2.2.2.2 k (nI b)) (k + 1) (nI z)
            · have q3' := hj.mp q3
              have ok1 : okD z R s (k + 1) (uNt T k b) := ⟨hs, by omega, hw, hT1, q1, ds_i ⟨by omega, q3'.1, by omega⟩ _ q3'.2⟩
              rw [if_pos q3]
              by_cases q4 : ¬ st.1 = 0 ∧ st.2.1 < nI (cN z e l s (uNt T k b) (k + 1))
              · rw [if_pos q4]
                exact iu (b + 1) _ (by omega) (by omega) htr0 (skip mono q4)
              · rw [if_neg q4]
                have hco := CI_co (st := (st.1, st.2.1, st.2.2.1, st.2.2.2.1, st.2.2.2.2.1, st.2.2.2.2.2.1, upd st.2.2.2.2.2.2 k (nI b))) hz he hl h ok1 hR (fun s0 k0 B0 o0 v0 => by
                  rcases v0 with p | ⟨p, (p1 | ⟨p1, p2⟩)⟩
                  · exact Or.inl p
                  · exact Or.inr ⟨p, Or.inl p1⟩
                  · exact Or.inr ⟨p, Or.inr ⟨p1, bef_lx p2⟩⟩) htr1
                refine iu (b + 1) _ (by omega) (by omega) (fun j hj => ?_) (hco.sub (fun s' k' B' o' => ?_))
                · unfold coF
                  split
                  · exact htr0 j hj
                  · split
                    · exact htr0 j hj
                    · split
                      · split
                        · exact htr0 j hj
                        · exact htr0 j hj
                      · exact htr0 j hj
                · rw [vs]
                  unfold add1
                  rw [eq_uNt]
            · rw [if_neg q3]
              refine iu (b + 1) _ (by omega) (by omega) htr0 (CI.sub (V := Vb s (k + 1) k T b) h (fun s' k' B' o' => ?_))
              rw [vs]
              refine ⟨Or.inl, fun v => ?_⟩
              rcases v with v | ⟨rfl, rfl, v⟩
              · exact v
              · exfalso
                apply q3
                apply hj.mpr
                have e3 := eq_uNt.mpr v
                have h0 := ds_0 _ o'.2.2.2.2.2
                rw [← pd_cg e3]
                exact ⟨h0.2.1, fun j hj => by rw [← e3 j hj]; exact ds_j _ o'.2.2.2.2.2 j hj⟩
          · rw [if_neg q2]
            by_cases q3 : z ≤ pdN T k * b
            · rw [if_pos q3]
              refine ⟨out (fun s' k' B' o' e1 e2 ha hb' => ?_), htr⟩
              subst e2
              have h1 := o'.lt (j := k + 1) (by omega)
              rw [pdN, pd_cg ha] at h1
              have := Nat.mul_le_mul_left (pdN T k) hb'
              omega
            · rw [if_neg q3]
              by_cases q4 : ¬ st.1 = 0 ∧ st.2.1 < nI (cN z e l s (uNt T k b) (k + 1))
              · rw [if_pos q4]
                exact iu (b + 1) _ (by omega) (by omega) htr0 (skip mono q4)
              · rw [if_neg q4, ← hpd]
                have h1 := ih (k + 1) (uNt T k b) (st.1, st.2.1, st.2.2.1, st.2.2.2.1, st.2.2.2.2.1, st.2.2.2.2.2.1, upd st.2.2.2.2.2.2 k (nI b)) (by omega) (by omega) hT1 (by omega) htr1 (CI.sub (V := Vb s w k T b) h (fun s' k' B' o' => by
                  unfold Vb
                  constructor
                  · rintro (q | ⟨q, (p | ⟨p, p2⟩)⟩)
                    · exact Or.inl q
                    · exact Or.inr ⟨q, Or.inl p⟩
                    · exact Or.inr ⟨q, Or.inr ⟨p, bef_in.mpr (Or.inl p2)⟩⟩
                  · rintro (q | ⟨q, (p | ⟨p, p2⟩)⟩)
                    · exact Or.inl q
                    · exact Or.inr ⟨q, Or.inl p⟩
                    · rcases bef_in.mp p2 with p2 | ⟨_, p3⟩
                      · exact Or.inr ⟨q, Or.inr ⟨p, p2⟩⟩
                      · have := (o'.2.2.2.1 (k + 1) (by omega)).1; omega))
                refine iu (b + 1) _ (by omega) (by omega) (fun j hj => by rw [h1.2 j (by omega), uNt_n (by omega)]) (h1.1.sub (fun s' k' B' o' => ?_))
                rw [vs]
                unfold Vb
                constructor
                · rintro (q | ⟨q, (p | ⟨p, p2⟩)⟩)
                  · exact Or.inl (Or.inl q)
                  · exact Or.inl (Or.inr ⟨q, Or.inl p⟩)
                  · rcases bef_in.mp p2 with p2 | ⟨p3, _⟩
                    · exact Or.inl (Or.inr ⟨q, Or.inr ⟨p, p2⟩⟩)
                    · exact Or.inr ⟨q, p, p3⟩
                · rintro ((q | ⟨q, (p | ⟨p, p2⟩)⟩) | ⟨q, p, p3⟩)
                  · exact Or.inl q
                  · exact Or.inr ⟨q, Or.inl p⟩
                  · exact Or.inr ⟨q, Or.inr ⟨p, bef_in.mpr (Or.inl p2)⟩⟩
                  · refine Or.inr ⟨q, Or.inr ⟨p, bef_in.mpr (Or.inr ⟨p3, ?_⟩)⟩⟩
                    have := (o'.2.2.2.1 (k + 1) (by omega)).2; omega
        · rw [if_neg q1]
          rw [nI_leI (by omega) (by omega)] at q1
          refine ⟨out (fun s' k' B' o' e1 e2 ha hb' => ?_), htr⟩
          subst e1; subst e2
          have h1 := o'.2.2.2.2.1
          have h2 := rm_mono (s := s') (B := B') (show k + 1 ≤ k' by omega)
          rw [rmN, rmN_cg ha] at h2
          have h3 : vo s' b ≤ vo s' (B' k) := by
            unfold vo
            split
            · omega
            · split
              · split
                · omega
                · omega
              · split
                · omega
                · omega
          omega
    rw [exF]
    exact inner 31 2 st (by omega) (by omega) htr h
