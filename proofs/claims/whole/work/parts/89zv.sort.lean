/-! ===== runs sorted: class and model ===== -/
theorem ins_sp {P : Int32 → Bool} {x : Int32} {a : Nat} : ∀ (t : Nat) (g : Nat → Int32), ∃ p, p ≤ t ∧ (∀ i, p ≤ i → i < t → P (g (a + i)) = true) ∧ (∀ j, j < a + p → insF P x a t g j = g j) ∧ insF P x a t g (a + p) = x ∧ (∀ j, a + p < j → j ≤ a + t → insF P x a t g j = g (j - 1)) ∧ ∀ j, a + t < j → insF P x a t g j = g j
  | 0, g => ⟨0, Nat.le_refl 0, fun i h1 h2 => by omega, fun j hj => by rw [insF, ud_n (by omega)], by rw [insF]; exact ud_e, fun j h1 h2 => by omega, fun j hj => by rw [insF, ud_n (by omega)]⟩
  | t + 1, g => by
    by_cases h : P (g (a + t)) = true
    · obtain ⟨p, h1, h2, h3, h4, h5, h6⟩ := ins_sp (P := P) (x := x) (a := a) t (upd g (a + t + 1) (g (a + t)))
      have e : insF P x a (t + 1) g = insF P x a t (upd g (a + t + 1) (g (a + t))) := by rw [insF, if_pos h]
      rw [e]
      refine ⟨p, by omega, fun i i1 i2 => ?_, fun j hj => ?_, h4, fun j j1 j2 => ?_, fun j hj => ?_⟩
      · by_cases q : i = t
        · rw [q]; exact h
        · have := h2 i i1 (by omega)
          rwa [ud_n (by omega)] at this
      · rw [h3 j hj, ud_n (by omega)]
      · by_cases q : j ≤ a + t
        · rw [h5 j j1 q, ud_n (by omega)]
        · have : j = a + t + 1 := by omega
          subst this
          rw [h6 _ (by omega), ud_e]; rfl
      · rw [h6 j (by omega), ud_n (by omega)]
    · have e : insF P x a (t + 1) g = upd g (a + t + 1) x := by rw [insF, if_neg h]
      rw [e]
      exact ⟨t + 1, Nat.le_refl _, fun i h1 h2 => by omega, fun j hj => by rw [ud_n (by omega)], ud_e, fun j h1 h2 => by omega, fun j hj => by rw [ud_n (by omega)]⟩
theorem srt_out {B : Int32 → Int32 → Bool} {a : Nat} : ∀ (k : Nat) (g : Nat → Int32) (j : Nat), j < a ∨ a + k < j → srtF B a k g j = g j
  | 0, g, j, _ => rfl
  | k + 1, g, j, hj => by
    have ih := srt_out (B := B) (a := a) k g
    obtain ⟨p, h1, h2, h3, h4, h5, h6⟩ := ins_sp (P := B (srtF B a k g (a + k + 1))) (x := srtF B a k g (a + k + 1)) (a := a) (k + 1) (srtF B a k g)
    rw [srtF]
    rcases hj with q | q
    · rw [h3 j (by omega), ih j (by omega)]
    · rw [h6 j (by omega), ih j (by omega)]
theorem srt_mem {B : Int32 → Int32 → Bool} {a : Nat} : ∀ (k : Nat) (g : Nat → Int32) (i : Nat), i ≤ k → ∃ i', i' ≤ k ∧ srtF B a k g (a + i) = g (a + i')
  | 0, g, i, hi => ⟨i, hi, rfl⟩
  | k + 1, g, i, hi => by
    have ih := srt_mem (B := B) (a := a) k g
    have io := srt_out (B := B) (a := a) k g
    obtain ⟨p, h1, h2, h3, h4, h5, h6⟩ := ins_sp (P := B (srtF B a k g (a + k + 1))) (x := srtF B a k g (a + k + 1)) (a := a) (k + 1) (srtF B a k g)
    rw [srtF]
    rcases Nat.lt_trichotomy i p with q | q | q
    · obtain ⟨i', g1, g2⟩ := ih i (by omega)
      exact ⟨i', by omega, by rw [h3 _ (by omega)]; exact g2⟩
    · subst q
      exact ⟨k + 1, Nat.le_refl _, by rw [h4, io _ (by omega)]; rfl⟩
    · obtain ⟨i', g1, g2⟩ := ih (i - 1) (by omega)
      refine ⟨i', by omega, ?_⟩
      rw [h5 _ (by omega) (by omega), show a + i - 1 = a + (i - 1) by omega]; exact g2
/-- what has one key keeps its order -/
theorem srt_st {B : Int32 → Int32 → Bool} {a : Nat} {E : Int32 → Int32 → Prop} {le : Int32 → Int32 → Prop} : ∀ (k : Nat) (g : Nat → Int32), (∀ i j, i < j → j ≤ k → B (g (a + j)) (g (a + i)) = true → ¬ E (g (a + j)) (g (a + i)) ∧ ¬ E (g (a + i)) (g (a + j))) → (∀ i j, i < j → j ≤ k → E (g (a + i)) (g (a + j)) → le (g (a + i)) (g (a + j))) → ∀ i j, i < j → j ≤ k → E (srtF B a k g (a + i)) (srtF B a k g (a + j)) → le (srtF B a k g (a + i)) (srtF B a k g (a + j))
  | 0, g, _, _, i, j, h1, h2 => by omega
  | k + 1, g, hB, hle, i, j, hij, hj => by
    have ih := srt_st (B := B) (a := a) (E := E) (le := le) k g (fun i j h1 h2 => hB i j h1 (by omega)) (fun i j h1 h2 => hle i j h1 (by omega))
    have io := srt_out (B := B) (a := a) k g
    have im := srt_mem (B := B) (a := a) k g
    obtain ⟨p, h1, h2, h3, h4, h5, h6⟩ := ins_sp (P := B (srtF B a k g (a + k + 1))) (x := srtF B a k g (a + k + 1)) (a := a) (k + 1) (srtF B a k g)
    rw [srtF]
    have ex : srtF B a k g (a + k + 1) = g (a + (k + 1)) := io _ (by omega)
    rcases Nat.lt_trichotomy j p with q | q | q
    · rw [h3 _ (by omega), h3 _ (by omega)]; exact ih i j hij (by omega)
    · subst q
      rw [h4, h3 _ (by omega), ex]
      obtain ⟨i', g1, g2⟩ := im i (by omega)
      rw [g2]
      exact hle i' (k + 1) (by omega) (Nat.le_refl _)
    · have ej : insF (B (srtF B a k g (a + k + 1))) (srtF B a k g (a + k + 1)) a (k + 1) (srtF B a k g) (a + j) = srtF B a k g (a + (j - 1)) := by
        rw [h5 _ (by omega) (by omega), show a + j - 1 = a + (j - 1) by omega]
      rw [ej]
      rcases Nat.lt_trichotomy i p with r | r | r
      · rw [h3 _ (by omega)]; exact ih i (j - 1) (by omega) (by omega)
      · subst r
        rw [h4, ex]
        intro he
        exfalso
        have hb := h2 (j - 1) (by omega) (by omega)
        obtain ⟨i', g1, g2⟩ := im (j - 1) (by omega)
        rw [ex, g2] at hb
        rw [g2] at he
        exact (hB i' (k + 1) (by omega) (Nat.le_refl _) hb).1 he
      · rw [h5 _ (by omega) (by omega), show a + i - 1 = a + (i - 1) by omega]
        exact ih (i - 1) (j - 1) (by omega) (by omega)
theorem ins_cg {P P' : Int32 → Bool} {x : Int32} {a : Nat} : ∀ (t : Nat) (g g' : Nat → Int32), a + t < 64 → (∀ j, j < 64 → g j = g' j) → (∀ i, i < t → P (g (a + i)) = P' (g (a + i))) → ∀ j, j < 64 → insF P x a t g j = insF P' x a t g' j
  | 0, g, g', ht, hg, hP, j, hj => by
    rw [insF, insF]
    by_cases q : j = a
    · subst q; rw [ud_e, ud_e]
    · rw [ud_n q, ud_n q]; exact hg j hj
  | t + 1, g, g', ht, hg, hP, j, hj => by
    rw [insF, insF, ← hg (a + t) (by omega), ← hP t (by omega)]
    by_cases h : P (g (a + t)) = true
    · rw [if_pos h, if_pos h]
      refine ins_cg t _ _ (by omega) (fun i hi => ?_) (fun i hi => ?_) j hj
      · by_cases q : i = a + t + 1
        · subst q; rw [ud_e, ud_e]
        · rw [ud_n q, ud_n q]; exact hg i hi
      · rw [ud_n (by omega)]; exact hP i (by omega)
    · rw [if_neg h, if_neg h]
      by_cases q : j = a + t + 1
      · subst q; rw [ud_e, ud_e]
      · rw [ud_n q, ud_n q]; exact hg j hj
theorem srt_cg {B B' : Int32 → Int32 → Bool} {a : Nat} : ∀ (k : Nat) (g g' : Nat → Int32), a + k < 64 → (∀ j, j < 64 → g j = g' j) → (∀ i j, i < j → j ≤ k → B (g (a + j)) (g (a + i)) = B' (g (a + j)) (g (a + i))) → ∀ j, j < 64 → srtF B a k g j = srtF B' a k g' j
  | 0, g, g', hk, hg, hB, j, hj => hg j hj
  | k + 1, g, g', hk, hg, hB, j, hj => by
    have ih := srt_cg (B := B) (B' := B') (a := a) k g g' (by omega) hg (fun i j h1 h2 => hB i j h1 (by omega))
    have io := srt_out (B := B) (a := a) k g
    have im := srt_mem (B := B) (a := a) k g
    have ex : srtF B a k g (a + k + 1) = g (a + (k + 1)) := io _ (by omega)
    rw [srtF, srtF, ← ih (a + k + 1) (by omega)]
    refine ins_cg (k + 1) _ _ (by omega) ih (fun i hi => ?_) j hj
    obtain ⟨i', g1, g2⟩ := im i (by omega)
    rw [ex, g2]
    exact hB i' (k + 1) (by omega) (Nat.le_refl _)
