/-! ===== the first memory keeps the relation ===== -/
theorem mkm_0 : ∀ n, mkm (fun _ => false) n = 0
  | 0 => rfl
  | n + 1 => by rw [mkm, if_neg (by decide), mkm_0 n]
theorem m0_T (k : Nat) : mT m0M k = 0 := rfl
theorem m0_A3 : mA m0M 3 = rwF 64 := rfl
theorem m0_z {k : Nat} (h : ¬ k = 3) (h2 : 32 ≤ k) (h3 : ¬ k = 41) (h4 : ¬ k = 51) (h5 : ¬ k = 52) : mA m0M k = fun _ => 0 := by
  show a0M k = _
  unfold a0M
  rw [if_neg h, if_neg (by omega), if_neg (by omega), if_neg (by omega), if_neg h3, if_neg h4, if_neg h5]
theorem N32_0 : N32 (fun _ => 0) := fun _ => ⟨0, by decide, rfl⟩
theorem ct_rw : ∀ n, n ≤ 64 → fb_ct (fun j => !(rwF 64 j == -1)) n = 0 := by
  intro n
  induction n with
  | zero => intro _; rfl
  | succ n ih =>
    intro h
    have e : (!(rwF 64 n == -1)) = false := by unfold rwF; rw [if_pos (by omega)]; rfl
    rw [fb_ct_succ, ih (by omega), e]; rfl
theorem col_m0 {c : Nat} (hc : c < 4) : RCol m0M c 0 1 16 (fun _ => 16) := by
  have h4 : c = 0 ∨ c = 1 ∨ c = 2 ∨ c = 3 := by omega
  have h53 : mA m0M 53 = fun _ => 0 := m0_z (by omega) (by omega) (by omega) (by omega) (by omega)
  have ht : trB m0M c = fun _ => false := by
    funext v
    unfold trB
    rw [h53]; rfl
  have hB : mA m0M (9 + 6 * c) = cB0 := by rcases h4 with rfl | rfl | rfl | rfl <;> rfl
  have hS : mA m0M (11 + 6 * c) = cS0 := by rcases h4 with rfl | rfl | rfl | rfl <;> rfl
  have hF : mA m0M (12 + 6 * c) = cF0 := by rcases h4 with rfl | rfl | rfl | rfl <;> rfl
  have hL : mL m0M (13 + 6 * c) = cL0 := by rcases h4 with rfl | rfl | rfl | rfl <;> rfl
  have h0 : mI m0M (8 + 6 * c) 0 = 16 := by rcases h4 with rfl | rfl | rfl | rfl <;> rfl
  have h1 : mI m0M (8 + 6 * c) 1 = 0 := by rcases h4 with rfl | rfl | rfl | rfl <;> rfl
  have h2 : mI m0M (8 + 6 * c) 2 = 1 := by rcases h4 with rfl | rfl | rfl | rfl <;> rfl
  have h3 : mI m0M (8 + 6 * c) 3 = 16 := by rcases h4 with rfl | rfl | rfl | rfl <;> rfl
  refine ⟨⟨hc, by omega, by omega, by omega, by omega, by omega, fun _ _ => ⟨(show 2 ≤ 16 by omega), (show 16 ≤ 32 by omega)⟩, ?_, ?_, ?_, fun j hj => ?_⟩, by decide, by decide, h0, h1, h2, fun j hj => ?_, ⟨fun j hj => ?_, ?_⟩, fun v hv => ?_, ?_, fun v _ _ => by rw [ht], fun j => Or.inl (by rw [h53])⟩
  · rw [m0_z (by omega) (by omega) (by omega) (by omega) (by omega)]; rfl
  · rcases h4 with rfl | rfl | rfl | rfl <;> rfl
  · rcases h4 with rfl | rfl | rfl | rfl <;> rfl
  · have : j = 0 := by omega
    subst this
    rcases h4 with rfl | rfl | rfl | rfl <;> rfl
  · have : j = 0 := by omega
    subst this
    rw [hB]; rfl
  · have : j = 0 := by omega
    subst this
    rw [hB, hS, hF, h1]
    exact ⟨rfl, rfl⟩
  · rw [hB, h1, h3]
    decide +kernel
  · rw [hL]
    show slF 0 cB0 cS0 cF0 (fun _ => 0) 16 v = _
    unfold cSl cSl
    rw [hB, hS, hF, h1]
    unfold slF
    rw [if_pos hv]
    rfl
  · rw [ht, mkm_0]; rfl
theorem rm_m0 : RM m0M := by
  refine ⟨fun _ => 0, fun _ => 1, fun _ => 16, fun _ _ => 16, 0, 0, 0, 0, 0, fun _ => [], ⟨?_, ?_, ?_, ?_⟩, ⟨by omega, by omega, rfl, rfl, rfl, ?_, ?_, fun j hj => absurd hj (by omega)⟩, ⟨by omega, rfl, rfl, ?_, ?_, fun q l hq => absurd hq (by omega)⟩, fun c hc => col_m0 hc, ⟨by omega, rfl, rfl, fun i hi => absurd hi (by omega)⟩, ⟨by omega, rfl, rfl, rfl, rfl, fun q hq => absurd hq (by omega)⟩, ⟨0, 0, by omega, by omega, rfl, rfl, rfl, rfl⟩, ?_⟩
  · intro l hl
    refine Or.inl ⟨?_, ?_⟩
    · rw [m0_z (by omega) (by omega) (by omega) (by omega) (by omega)]
    · rw [m0_A3]; unfold rwF; rw [if_pos hl]
  · intro j
    rw [m0_z (by omega) (by omega) (by omega) (by omega) (by omega)]; exact Or.inl rfl
  · rw [m0_z (by omega) (by omega) (by omega) (by omega) (by omega)]; exact N32_0
  · rw [m0_A3]
    unfold cnR
    rw [ct_rw 64 (by omega)]; rfl
  · intro j
    rw [m0_z (by omega) (by omega) (by omega) (by omega) (by omega)]; exact Or.inl rfl
  · rw [m0_z (by omega) (by omega) (by omega) (by omega) (by omega)]; exact N32_0
  · intro j
    rw [m0_z (by omega) (by omega) (by omega) (by omega) (by omega)]; exact Or.inl rfl
  · rw [m0_z (by omega) (by omega) (by omega) (by omega) (by omega)]; exact N32_0
  · intro i hi
    rw [m0_z (by omega) (by omega) (by omega) (by omega) (by omega)]; exact ⟨0, by omega, rfl⟩
