/-! ===== mend: class and model ===== -/
theorem bt_mk {p : Nat → Bool} {v : Nat} (hv : v < 64) : btI (mkm p 64) v = 0 ↔ p v = false := tb_mk hv
theorem bat_e {p : Nat → Bool} (hf : fa_first p 64 < 64) : ∀ t i, t + i = 64 → (∀ j, j < i → p j = false) → batF (mkm p 64) 0 t i 0 = nI (fa_first p 64)
  | 0, i, ht, h => by
    exfalso
    have := fa_first_yes p 64 hf
    rw [h _ (by omega)] at this; cases this
  | t + 1, i, ht, h => by
    rw [batF]
    cases hp : p i with
    | false =>
      rw [if_pos ((bt_mk (by omega)).mpr hp)]
      refine bat_e hf t (i + 1) (by omega) (fun j hj => ?_)
      rcases Nat.lt_or_ge j i with q | q
      · exact h j q
      · rw [show j = i by omega]; exact hp
    | true =>
      rw [if_neg (fun z => by rw [bt_mk (by omega)] at z; rw [hp] at z; cases z), if_pos rfl, fa_first_eq (i := i) (by omega) h hp]
theorem ctN_zero {p : Nat → Bool} : ∀ {n : Nat}, ctN p n = 0 → ∀ i, i < n → p i = false
  | 0, _, i, hi => absurd hi (Nat.not_lt_zero i)
  | n + 1, h, i, hi => by
    rw [ctN] at h
    have hn : p n = false := by
      cases q : p n with
      | false => rfl
      | true => rw [q, if_pos rfl] at h; omega
    rcases Nat.lt_or_ge i n with q | q
    · exact ctN_zero (n := n) (by omega) i q
    · rw [show i = n by omega]; exact hn
theorem ctN_one {p : Nat → Bool} : ∀ {n : Nat}, ctN p n = 1 → ∀ i j, i < n → j < n → p i = true → p j = true → i = j
  | 0, _, i, _, hi, _, _, _ => absurd hi (Nat.not_lt_zero i)
  | n + 1, h, i, j, hi, hj, pi, pj => by
    rw [ctN] at h
    cases q : p n with
    | true =>
      rw [q, if_pos rfl] at h
      have hz := ctN_zero (p := p) (n := n) (by omega)
      have a : i = n := by
        rcases Nat.lt_or_ge i n with w | w
        · rw [hz i w] at pi; cases pi
        · omega
      have b : j = n := by
        rcases Nat.lt_or_ge j n with w | w
        · rw [hz j w] at pj; cases pj
        · omega
      omega
    | false =>
      rw [q, if_neg (by decide)] at h
      have a : i < n := by
        rcases Nat.lt_or_ge i n with w | w
        · exact w
        · rw [show i = n by omega, q] at pi; cases pi
      have b : j < n := by
        rcases Nat.lt_or_ge j n with w | w
        · exact w
        · rw [show j = n by omega, q] at pj; cases pj
      exact ctN_one (n := n) (by omega) i j a b pi pj
theorem q_mend {m m1 m2 : Mm} {c s b z : Nat} {B : Nat → Nat} {r r' : Int32} (h : RCol m c s b z B) (hc : rMend m c r m1) (hm : rMmend m1 c r' m2) : r = r' ∧ RCol m2 c s b z B := by
  have hT : mT m (8 + 6 * c) = mkm (trB m c) 64 := h.2.2.2.2.2.2.2.2.2.1
  have hle := ctN_le (p := trB m c) (n := 64)
  have h1 : bcI (mT m (8 + 6 * c)) = 1 ↔ ctN (trB m c) 64 = 1 := by
    rw [hT, bc_mk]
    exact ⟨fun q => (nI_eq (a := ctN (trB m c) 64) (b := 1) (by omega) (by omega)).mp q, fun q => by rw [q]; rfl⟩
  rcases hc with ⟨q, rfl, rfl⟩ | ⟨q, rfl, hm1⟩
  · rcases hm with ⟨_, rfl, rfl⟩ | ⟨q2, _⟩
    · exact ⟨rfl, h⟩
    · exact absurd (h1.mpr q2) q
  · have ht : trB m1 c = trB m c := by rw [hm1]; rfl
    rw [h1] at q
    rcases hm with ⟨q2, _, _⟩ | ⟨_, hf, rfl, hm2⟩
    · rw [ht] at q2; exact absurd q q2
    · rw [ht] at hf hm2 ⊢
      refine ⟨by rw [hT]; exact bat_e hf 64 0 (by omega) (fun j hj => absurd hj (Nat.not_lt_zero j)), ?_⟩
      have hc4 : c < 4 := h.1.1
      have hb53 := h.2.2.2.2.2.2.2.2.2.2.2
      have hp : ∀ i, i < 64 → trB m2 c i = false := by
        intro i hi
        rw [hm2, hm1]
        show (!(upd (mA m 53) (64 * c + fa_first (trB m c) 64) 0 (64 * c + i) == 0)) = _
        by_cases e : i = fa_first (trB m c) 64
        · rw [e, ud_e]; rfl
        · rw [ud_n (by omega)]
          show trB m c i = false
          cases hi2 : trB m c i with
          | false => rfl
          | true => exact absurd (ctN_one q i _ hi hf hi2 (fa_first_yes _ _ hf)) e
      have ne : ∀ k, ¬ k = 53 → mA m2 k = mA m k := fun k hk => by rw [hm2, hm1]; exact va_up_ne _ _ hk
      refine h.g (fun j hj => ?_) (ne _ (by omega)) (ne _ (by omega)) (ne _ (by omega)) (by rw [hm2, hm1]; rfl) (ne _ (by decide)) (ne _ (by decide)) (ne _ (by decide)) (ne _ (by decide)) ?_ (fun i hi _ => hp i hi) (fun j => ?_)
      · rw [hm2, hm1]
        show va_up (mI m) (8 + 6 * c) (lI [mI m (8 + 6 * c) 0, mI m (8 + 6 * c) 1, mI m (8 + 6 * c) 2, mI m (8 + 6 * c) 3]) (8 + 6 * c) j = _
        rw [va_up_self]
        rcases (show j = 0 ∨ j = 1 ∨ j = 2 ∨ j = 3 by omega) with rfl | rfl | rfl | rfl <;> rfl
      · rw [mk_0 hp, hm2, hm1]
        show va_up (mT m) (8 + 6 * c) 0 (8 + 6 * c) = _
        rw [va_up_self]
      · rw [hm2, hm1]
        show bl01 (upd (mA m 53) (64 * c + fa_first (trB m c) 64) 0 j)
        exact bl_upd hb53 (Or.inl rfl) j
