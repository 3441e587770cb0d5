/-! ===== one change: class and model ===== -/
theorem sA_e {m : Mm} {k : Nat} {g : Nat → Int32} : mA (sA m k g) k = g := by rw [mA_sA, va_up_self]
theorem sA_n {m : Mm} {k j : Nat} {g : Nat → Int32} (h : ¬ j = k) : mA (sA m k g) j = mA m j := by rw [mA_sA, va_up_ne _ _ h]
theorem RowP.cg {z : Nat → Nat} {r t : Int32} {g g' : Nat → Int32} (h : RowP z r t g) (e : ∀ c, c < 4 → g' c = g c) : RowP z r t g' := by
  rcases h with h | ⟨h1, h2, h3⟩
  · exact Or.inl h
  · refine Or.inr ⟨h1, fun c hc => ?_, ?_⟩
    · obtain ⟨v, hv, q⟩ := h2 c hc
      exact ⟨v, hv, (e c hc).trans q⟩
    · rw [e 0 (by omega), e 1 (by omega), e 2 (by omega), e 3 (by omega)]; exact h3
theorem RowP.bl {z : Nat → Nat} {r t : Int32} {g : Nat → Int32} (h : RowP z r t g) : bl01 t := by
  rcases h with ⟨q, _⟩ | ⟨q, _⟩
  · exact Or.inl q
  · exact Or.inr q
theorem N32.cp {g h : Nat → Int32} {b a n : Nat} (hg : N32 g) (hh : N32 h) : N32 (cpF g h b a n) := fun j => by
  unfold cpF
  split
  · exact hh _
  · exact hg j
theorem N32.sh {g : Nat → Int32} {s N k : Nat} (hg : N32 g) : N32 (shk g s N k) := fun j => by
  unfold shk
  split
  · unfold shF
    split
    · exact hg _
    · exact hg j
  · exact hg j
theorem N32.up {g : Nat → Int32} {j v : Nat} (hg : N32 g) (hv : v < 32) : N32 (upd g j (nI v)) := fun i => by
  by_cases e : i = j
  · subst e; rw [ud_e]; exact ⟨v, hv, rfl⟩
  · rw [ud_n e]; exact hg i
theorem keep_o {m m' : Mm} {i k j : Nat} (h : rKeep m i k m') (hk : k ≤ 100) (hj : j < kp k) : mA m' 44 j = mA m 44 (j + (k - kp k)) ∧ mA m' 45 j = mA m 45 (j + (k - kp k)) ∧ ∀ c, c < 4 → mA m' 46 (4 * j + c) = mA m 46 (4 * (j + (k - kp k)) + c) := by
  obtain ⟨-, -, b44, b45, b46⟩ := h
  by_cases e : k = 100
  · subst e
    have e1 : kp 100 = 99 := rfl
    rw [e1] at hj b44 b45 b46 ⊢
    refine ⟨?_, ?_, fun c hc => ?_⟩
    · rw [b44, ud_n (by omega)]; unfold shk shF; rw [if_pos rfl, if_pos (by omega)]
    · rw [b45, ud_n (by omega)]; unfold shk shF; rw [if_pos rfl, if_pos (by omega)]
    · rw [b46]; unfold cpF shk shF; rw [if_neg (by omega), if_pos rfl, if_pos (by omega)]; congr 1; omega
  · have e1 : kp k = k := if_neg e
    rw [e1] at hj b44 b45 b46 ⊢
    rw [Nat.sub_self, Nat.add_zero]
    refine ⟨?_, ?_, fun c hc => ?_⟩
    · rw [b44, ud_n (by omega)]; unfold shk; rw [if_neg e]
    · rw [b45, ud_n (by omega)]; unfold shk; rw [if_neg e]
    · rw [b46]; unfold cpF shk; rw [if_neg (by omega), if_neg e]
theorem keep_n {m m' : Mm} {i k : Nat} (h : rKeep m i k m') : mA m' 44 (kp k) = nI i ∧ mA m' 45 (kp k) = mA m 43 i ∧ ∀ c, c < 4 → mA m' 46 (4 * kp k + c) = mA m 42 (4 * i + c) := by
  obtain ⟨-, -, b44, b45, b46⟩ := h
  refine ⟨by rw [b44, ud_e], by rw [b45, ud_e], fun c hc => ?_⟩
  rw [b46]; unfold cpF; rw [if_pos (by omega)]; congr 1; omega
theorem q_chg {m m1 m2 m3 : Mm} {z : Nat → Nat} {x k i : Nat} {v t : Int32} (h : RRows m z) (hC : RChg m z x k) (hi : i < 64) (hc : rChange m i v m1) (hk : rKeep m1 i k m2) (F : Fr [42, 43] m2 m3) (e43 : mA m3 43 = upd (mA m2 43) i t) (e42 : ∀ j, ¬ j / 4 = i → mA m3 42 j = mA m2 42 j) (h32 : N32 (mA m3 42)) (hp : RowP z v t (fun c => mA m3 42 (4 * i + c))) : RRows m3 z ∧ RChg m3 z ((x + 1) % 100) (kp k + 1) := by
  obtain ⟨r1, r2, r3, r4⟩ := h
  obtain ⟨c1, c2, c3, c4, c5, c6, c7, c8⟩ := hC
  have hko := fun j hj => keep_o (j := j) hk c2 hj
  have hkn := keep_n hk
  obtain ⟨f1, a3, a24, a25, a26, a27, a4, a5⟩ := hc
  obtain ⟨f2, b40, b44, b45, b46⟩ := hk
  have x42 : mA m2 42 = mA m 42 := ((f2.1 42 (by simp)).2.1).trans ((f1.1 42 (by simp)).2.1)
  have x43 : mA m2 43 = mA m 43 := ((f2.1 43 (by simp)).2.1).trans ((f1.1 43 (by simp)).2.1)
  have x3 : mA m3 3 = upd (mA m 3) i v := ((F.1 3 (by simp)).2.1).trans (((f2.1 3 (by simp)).2.1).trans a3)
  have x2 : mI m3 2 = mI m1 2 := ((F.1 2 (by simp)).1).trans ((f2.1 2 (by simp)).1)
  have x44 : mA m3 44 = mA m2 44 := (F.1 44 (by simp)).2.1
  have x45 : mA m3 45 = mA m2 45 := (F.1 45 (by simp)).2.1
  have x46 : mA m3 46 = mA m2 46 := (F.1 46 (by simp)).2.1
  have y44 : mA m1 44 = mA m 44 := (f1.1 44 (by simp)).2.1
  have y45 : mA m1 45 = mA m 45 := (f1.1 45 (by simp)).2.1
  have y46 : mA m1 46 = mA m 46 := (f1.1 46 (by simp)).2.1
  have y43 : mA m1 43 = mA m 43 := (f1.1 43 (by simp)).2.1
  have y42 : mA m1 42 = mA m 42 := (f1.1 42 (by simp)).2.1
  have z4 : mA m3 4 = upd (mA m 4) x (nI i) := by
    rw [(F.1 4 (by simp)).2.1, (f2.1 4 (by simp)).2.1, a4, c3, nI_clamp (by omega)]
  have z5 : mA m3 5 = upd (mA m 5) x (mA m 3 i) := by
    rw [(F.1 5 (by simp)).2.1, (f2.1 5 (by simp)).2.1, a5, c3, nI_clamp (by omega)]
  have ht := hp.bl
  have hkp : kp k ≤ 99 ∧ kp k ≤ k ∧ k - kp k ≤ 1 ∧ (kp k = k ∨ k = 100 ∧ kp k = 99) := by
    unfold kp
    by_cases e : k = 100
    · rw [if_pos e]; omega
    · rw [if_neg e]; omega
  refine ⟨⟨fun l hl => ?_, ?_, h32, ?_⟩, by omega, by omega, ?_, ?_, ?_, ?_, ?_, fun j hj => ?_⟩
  · by_cases e : l = i
    · subst e; rw [x3, ud_e, e43, ud_e]; exact hp
    · rw [x3, ud_n e, e43, ud_n e, x43]
      refine (r1 l hl).cg (fun c hc => ?_)
      show mA m3 42 (4 * l + c) = mA m 42 (4 * l + c)
      rw [e42 _ (by omega), x42]
  · rw [e43, x43]; exact bl_upd r2 ht
  · rw [x2, x3, cnR_upd hi, ← r4]; exact a24
  · rw [x2, a25, c3, nI_1]
    by_cases e : x = 99
    · subst e; rfl
    · rw [if_neg (by show ¬ nI 100 ≤ nI (x + 1); rw [nf_ge (by omega) (by omega)]; exact id), Nat.mod_eq_of_lt (by omega)]
  · rw [x2, a26, c4, nI_1]
    by_cases e : k = 100
    · subst e; rfl
    · rw [if_neg (by show ¬ nI 100 < nI (k + 1); rw [nf_nlt (by omega) (by omega)]; exact id)]
      unfold kp; rw [if_neg e]
  · rw [(F.1 40 (by simp)).1, b40, ud_e]
  · rw [x45, b45]
    refine bl_upd (fun j => ?_) (by rw [y43]; exact r2 i)
    unfold shk
    split
    · unfold shF
      split
      · rw [y45]; exact c6 _
      · rw [y45]; exact c6 _
    · rw [y45]; exact c6 _
  · rw [x46, b46, y46, y42]; exact c7.sh.cp r3
  · rw [x44, x45, x46, z4, z5]
    by_cases e : j = kp k
    · subst e
      have ep : ((x + 1) % 100 + 100 - (kp k + 1) + kp k) % 100 = x := by omega
      rw [ep, ud_e, ud_e, hkn.1, hkn.2.1, y43]
      refine ⟨⟨i, hi, rfl⟩, rfl, (r1 i hi).cg (fun c hc => ?_)⟩
      show mA m2 46 (4 * kp k + c) = mA m 42 (4 * i + c)
      rw [hkn.2.2 c hc, y42]
    · have hj' : j < kp k := by omega
      obtain ⟨g1, g2, g3⟩ := hko j hj'
      have ep : ((x + 1) % 100 + 100 - (kp k + 1) + j) % 100 = (x + 100 - k + (j + (k - kp k))) % 100 := by omega
      have en : ¬ (x + 100 - k + (j + (k - kp k))) % 100 = x := by omega
      obtain ⟨d1, d2, d3⟩ := c8 (j + (k - kp k)) (by omega)
      rw [ep, ud_n en, ud_n en, g1, g2, y44, y45]
      refine ⟨d1, d2, d3.cg (fun c hc => ?_)⟩
      show mA m2 46 (4 * j + c) = mA m 46 (4 * (j + (k - kp k)) + c)
      rw [g3 c hc, y46]
