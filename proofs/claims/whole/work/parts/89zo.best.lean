/-! ===== the best design: what it is ===== -/
def fcN (z e l s b p : Nat) : Nat := e * sm (eqS s b p) z + l * sm (beS s b p) z
def cN (z e l s : Nat) (B : Nat → Nat) (k : Nat) : Nat := sm (fun j => fcN z e l s (B j) (pdN B j)) k
theorem sm_mul {f : Nat → Nat} {a : Nat} : ∀ n, a * sm f n = sm (fun i => a * f i) n
  | 0 => Nat.mul_zero a
  | n + 1 => by rw [sm, sm, Nat.mul_add, sm_mul n]
theorem sm_le {f : Nat → Nat} {a : Nat} (h : ∀ i, f i ≤ a) : ∀ n, sm f n ≤ n * a
  | 0 => Nat.zero_le _
  | n + 1 => by
    have := sm_le h n
    have := h n
    rw [sm, Nat.succ_mul]; omega
theorem sm_ge {f : Nat → Nat} {i : Nat} : ∀ t, sm f i ≤ sm f (i + t)
  | 0 => Nat.le_refl _
  | t + 1 => Nat.le_trans (sm_ge t) (by show _ ≤ sm f (i + t) + f (i + t); omega)
theorem fcN_le {z e l s b p : Nat} (hz : z ≤ 32) (he : e ≤ 9) (hl : l ≤ 9) : fcN z e l s b p ≤ 36864 := by
  have h1 : sm (eqS s b p) z ≤ z * 64 := sm_le (fun i => pcN_le _) z
  have h2 : sm (beS s b p) z ≤ z * 64 := sm_le (fun i => by unfold beS; split <;> exact pcN_le _) z
  have h3 : e * sm (eqS s b p) z ≤ 9 * 2048 := Nat.mul_le_mul he (by omega)
  have h4 : l * sm (beS s b p) z ≤ 9 * 2048 := Nat.mul_le_mul hl (by omega)
  unfold fcN; omega
theorem cN_le {z e l s k : Nat} {B : Nat → Nat} (hz : z ≤ 32) (he : e ≤ 9) (hl : l ≤ 9) (hk : k ≤ 5) : cN z e l s B k ≤ 184320 := by
  have h1 : cN z e l s B k ≤ k * 36864 := sm_le (fun i => fcN_le hz he hl) k
  omega
theorem csM_N {z e l s k : Nat} {B : Nat → Nat} (h : Des s B k) : csM s B k z (nI e) (nI l) z = nI (cN z e l s B k) := by
  rw [csM_e h z (Nat.le_refl z), sm_sw (f := fun j => eqS s (B j) (pdN B j)), sm_sw (f := fun j => beS s (B j) (pdN B j)), pk_mul, pk_mul, nI_add, sm_mul, sm_mul, ← sm_add]
  rfl
theorem cst_N {z e l s b p : Nat} (hb : 2 ≤ b) (hb2 : b ≤ 32) (hp : 0 < p) (hz : z ≤ 64) : cstI (nI s) (nI b) p z (nI e) (nI l) = nI (fcN z e l s b p) := by
  rw [cstI_e hb hb2 hp hz, pk_mul, pk_mul, nI_add]; rfl
theorem rmN_cg {s : Nat} {B B' : Nat → Nat} : ∀ {k : Nat}, (∀ j, j < k → B j = B' j) → rmN s B k = rmN s B' k
  | 0, _ => rfl
  | k + 1, h => by rw [rmN, rmN, rmN_cg (fun j hj => h j (by omega)), h k (by omega)]
theorem cN_cg {z e l s : Nat} {B B' : Nat → Nat} {k : Nat} (h : ∀ j, j < k → B j = B' j) : cN z e l s B k = cN z e l s B' k :=
  sm_cg k (fun j hj => by rw [h j hj, pd_cg (fun i hi => h i (by omega))])
theorem dsB_cg {s z k : Nat} {B B' : Nat → Nat} (h : ∀ j, j < k → B j = B' j) (hd : dsB s B k z k = true) : dsB s B' k z k = true := by
  have h0 := ds_0 k hd
  rw [pd_cg h, rmN_cg h] at h0
  exact ds_i h0 k (fun j hj => by rw [← pd_cg h, ← h j hj]; exact ds_j k hd j hj)
def okD (z R s k : Nat) (B : Nat → Nat) : Prop := s ≤ 1 ∧ 1 ≤ k ∧ k ≤ 5 ∧ (∀ j, j < k → 2 ≤ B j ∧ B j ≤ 32) ∧ rmN s B k ≤ R ∧ dsB s B k z k = true
def lx (k : Nat) (B B' : Nat → Nat) : Prop := ∃ j, j < k ∧ (∀ i, i < j → B i = B' i) ∧ B j < B' j
def blt (z e l s k : Nat) (B : Nat → Nat) (s' k' : Nat) (B' : Nat → Nat) : Prop := cN z e l s B k < cN z e l s' B' k' ∨ (cN z e l s B k = cN z e l s' B' k' ∧ (rmN s B k < rmN s' B' k' ∨ (rmN s B k = rmN s' B' k' ∧ (s < s' ∨ (s = s' ∧ (k < k' ∨ (k = k' ∧ lx k B B')))))))
def Vs : Type := Nat → Nat → (Nat → Nat) → Prop
def CI (z R e l : Nat) (V : Vs) (st : Sb) : Prop := (st.1 = 0 ∧ ∀ s k B, okD z R s k B → ¬ V s k B) ∨ (st.1 = 1 ∧ ∃ s k B, okD z R s k B ∧ V s k B ∧ st.2.1 = nI (cN z e l s B k) ∧ st.2.2.1 = nI (rmN s B k) ∧ st.2.2.2.1 = nI s ∧ st.2.2.2.2.1 = nI k ∧ (∀ j, j < k → st.2.2.2.2.2.1 j = nI (B j)) ∧ ∀ s' k' B', okD z R s' k' B' → V s' k' B' → ¬ blt z e l s' k' B' s k B)
def MI (z R e l : Nat) (V : Vs) (b : Bst) : Prop := (b.1 = -1 ∧ ∀ s k B, okD z R s k B → ¬ V s k B) ∨ (∃ s k B, okD z R s k B ∧ V s k B ∧ b.1 = nI (cN z e l s B k) ∧ b.2.1 = nI (rmN s B k) ∧ b.2.2.1 = nI s ∧ b.2.2.2.1 = nI k ∧ (∀ j, j < k → b.2.2.2.2 j = nI (B j)) ∧ ∀ s' k' B', okD z R s' k' B' → V s' k' B' → ¬ blt z e l s' k' B' s k B)
theorem CI.sub {z R e l : Nat} {V V' : Vs} {st : Sb} (h : CI z R e l V st) (hV : ∀ s k B, okD z R s k B → (V s k B ↔ V' s k B)) : CI z R e l V' st := by
  rcases h with ⟨h1, h2⟩ | ⟨h1, s, k, B, a1, a2, a3, a4, a5, a6, a7, a8⟩
  · exact Or.inl ⟨h1, fun s k B ho hv => h2 s k B ho ((hV s k B ho).mpr hv)⟩
  · exact Or.inr ⟨h1, s, k, B, a1, (hV s k B a1).mp a2, a3, a4, a5, a6, a7, fun s' k' B' ho hv => a8 s' k' B' ho ((hV s' k' B' ho).mpr hv)⟩
theorem MI.sub {z R e l : Nat} {V V' : Vs} {st : Bst} (h : MI z R e l V st) (hV : ∀ s k B, okD z R s k B → (V s k B ↔ V' s k B)) : MI z R e l V' st := by
  rcases h with ⟨h1, h2⟩ | ⟨s, k, B, a1, a2, a3, a4, a5, a6, a7, a8⟩
  · exact Or.inl ⟨h1, fun s k B ho hv => h2 s k B ho ((hV s k B ho).mpr hv)⟩
  · exact Or.inr ⟨s, k, B, a1, (hV s k B a1).mp a2, a3, a4, a5, a6, a7, fun s' k' B' ho hv => a8 s' k' B' ho ((hV s' k' B' ho).mpr hv)⟩
theorem lx_ir {k : Nat} {B B' : Nat → Nat} (h : ∀ j, j < k → B j = B' j) : ¬ lx k B B' := fun ⟨j, hj, _, q⟩ => by rw [h j hj] at q; omega
theorem lx_tot {B B' : Nat → Nat} : ∀ k, ¬ lx k B B' → ¬ lx k B' B → ∀ j, j < k → B j = B' j
  | 0, _, _, j, hj => absurd hj (Nat.not_lt_zero j)
  | k + 1, h1, h2, j, hj => by
    have ih := lx_tot k (fun ⟨i, hi, q⟩ => h1 ⟨i, by omega, q⟩) (fun ⟨i, hi, q⟩ => h2 ⟨i, by omega, q⟩)
    by_cases e : j = k
    · subst e
      rcases Nat.lt_trichotomy (B j) (B' j) with q | q | q
      · exact absurd ⟨j, by omega, ih, q⟩ h1
      · exact q
      · exact absurd ⟨j, by omega, fun i hi => (ih i hi).symm, q⟩ h2
    · exact ih j (by omega)
theorem blt_an {z e l s k s' k' : Nat} {B B' : Nat → Nat} (h1 : ¬ blt z e l s k B s' k' B') (h2 : ¬ blt z e l s' k' B' s k B) : cN z e l s B k = cN z e l s' B' k' ∧ rmN s B k = rmN s' B' k' ∧ s = s' ∧ k = k' ∧ ∀ j, j < k → B j = B' j := by
  unfold blt at h1 h2
  have e1 : cN z e l s B k = cN z e l s' B' k' := by
    rcases Nat.lt_trichotomy (cN z e l s B k) (cN z e l s' B' k') with q | q | q
    · exact absurd (Or.inl q) h1
    · exact q
    · exact absurd (Or.inl q) h2
  have g1 := fun q => h1 (Or.inr ⟨e1, q⟩)
  have g2 := fun q => h2 (Or.inr ⟨e1.symm, q⟩)
  have e2 : rmN s B k = rmN s' B' k' := by
    rcases Nat.lt_trichotomy (rmN s B k) (rmN s' B' k') with q | q | q
    · exact absurd (Or.inl q) g1
    · exact q
    · exact absurd (Or.inl q) g2
  have k1 := fun q => g1 (Or.inr ⟨e2, q⟩)
  have k2 := fun q => g2 (Or.inr ⟨e2.symm, q⟩)
  have e3 : s = s' := by
    rcases Nat.lt_trichotomy s s' with q | q | q
    · exact absurd (Or.inl q) k1
    · exact q
    · exact absurd (Or.inl q) k2
  have j1 := fun q => k1 (Or.inr ⟨e3, q⟩)
  have j2 := fun q => k2 (Or.inr ⟨e3.symm, q⟩)
  have e4 : k = k' := by
    rcases Nat.lt_trichotomy k k' with q | q | q
    · exact absurd (Or.inl q) j1
    · exact q
    · exact absurd (Or.inl q) j2
  refine ⟨e1, e2, e3, e4, ?_⟩
  refine lx_tot k (fun q => j1 (Or.inr ⟨e4, q⟩)) (fun q => j2 (Or.inr ⟨e4.symm, ?_⟩))
  rw [← e4]; exact q
theorem blt_tr {z e l s k s1 k1 s2 k2 : Nat} {B B1 B2 : Nat → Nat} (h : blt z e l s k B s1 k1 B1) (h2 : cN z e l s1 B1 k1 < cN z e l s2 B2 k2 ∨ (cN z e l s1 B1 k1 = cN z e l s2 B2 k2 ∧ rmN s1 B1 k1 < rmN s2 B2 k2)) : blt z e l s k B s2 k2 B2 := by
  unfold blt at h ⊢
  rcases h with q | ⟨q, q1⟩
  · exact Or.inl (by rcases h2 with p | ⟨p, _⟩ <;> omega)
  · rcases h2 with p | ⟨p, p2⟩
    · exact Or.inl (by omega)
    · refine Or.inr ⟨by omega, Or.inl ?_⟩
      rcases q1 with q1 | ⟨q1, _⟩ <;> omega
theorem blt_cg {z e l s k s' k' : Nat} {B B1 B' : Nat → Nat} (h : ∀ j, j < k → B j = B1 j) : blt z e l s k B s' k' B' → blt z e l s k B1 s' k' B' := by
  unfold blt
  rw [cN_cg h, rmN_cg h]
  rintro (q | ⟨q, (q1 | ⟨q1, (q2 | ⟨q2, (q3 | ⟨q3, j, hj, a, b⟩)⟩)⟩)⟩)
  · exact Or.inl q
  · exact Or.inr ⟨q, Or.inl q1⟩
  · exact Or.inr ⟨q, Or.inr ⟨q1, Or.inl q2⟩⟩
  · exact Or.inr ⟨q, Or.inr ⟨q1, Or.inr ⟨q2, Or.inl q3⟩⟩⟩
  · exact Or.inr ⟨q, Or.inr ⟨q1, Or.inr ⟨q2, Or.inr ⟨q3, j, hj, fun i hi => by rw [← h i (by omega)]; exact a i hi, by rw [← h j hj]; exact b⟩⟩⟩⟩
theorem blt_ir {z e l s k : Nat} {B B' : Nat → Nat} (h : ∀ j, j < k → B j = B' j) : ¬ blt z e l s k B s k B' := by
  unfold blt
  rw [cN_cg h, rmN_cg h]
  rintro (q | ⟨_, (q | ⟨_, (q | ⟨_, (q | ⟨_, q⟩)⟩)⟩)⟩)
  · omega
  · omega
  · omega
  · omega
  · exact lx_ir h q
