/-! ===== set, drop: class and model ===== -/
theorem or_sp {a b c d k : Nat} (hb : b < 2 ^ k) (hd : d < 2 ^ k) : (2 ^ k * a + b) ||| (2 ^ k * c + d) = 2 ^ k * (a ||| c) + (b ||| d) := by
  apply Nat.eq_of_testBit_eq
  intro i
  rw [Nat.testBit_or, Nat.testBit_two_pow_mul_add _ hb, Nat.testBit_two_pow_mul_add _ hd, Nat.testBit_two_pow_mul_add _ (Nat.or_lt_two_pow hb hd)]
  by_cases h : i < k
  · rw [if_pos h, if_pos h, if_pos h, Nat.testBit_or]
  · rw [if_neg h, if_neg h, if_neg h, Nat.testBit_or]
theorem or_sum {a b k : Nat} (h : b < 2 ^ k) : (2 ^ k * a) ||| b = 2 ^ k * a + b := (Nat.two_pow_add_eq_or_of_lt h a).symm
theorem and_low {a k : Nat} (h : a < 2 ^ k) : a &&& (2 ^ k - 1) = a := by rw [Nat.and_two_pow_sub_one_eq_mod, Nat.mod_eq_of_lt h]
theorem al_0 {v0 v1 v2 v3 w : Nat} (h0 : v0 < 32) (h1 : v1 < 32) (h2 : v2 < 32) (h3 : v3 < 32) (hw : w < 32) : alt (nI (16777216 * v3 + (65536 * v2 + (256 * v1 + v0)))) 0 (nI w) = nI (16777216 * v3 + (65536 * v2 + (256 * v1 + w))) := by
  unfold alt
  rw [show ((255 : Int32) <<< ((8 * 0) &&& 31)) ^^^ (-1) = nI (2 ^ 8 * (2 ^ 24 - 1) + 0) by decide +kernel, fa_and, show 16777216 * v3 + (65536 * v2 + (256 * v1 + v0)) = 2 ^ 8 * (65536 * v3 + 256 * v2 + v1) + v0 by omega, and_sp (by omega) (by omega), Nat.and_zero, and_low (by omega), pk_shlN _ 0 (by decide +kernel) (by omega), Nat.add_zero, Nat.pow_zero, Nat.mul_one, fa_or_sum _ (by omega)]
  congr 1; omega
theorem al_1 {v0 v1 v2 v3 w : Nat} (h0 : v0 < 32) (h1 : v1 < 32) (h2 : v2 < 32) (h3 : v3 < 32) (hw : w < 32) : alt (nI (16777216 * v3 + (65536 * v2 + (256 * v1 + v0)))) 1 (nI w) = nI (16777216 * v3 + (65536 * v2 + (256 * w + v0))) := by
  unfold alt
  rw [show ((255 : Int32) <<< ((8 * 1) &&& 31)) ^^^ (-1) = nI (2 ^ 16 * (2 ^ 16 - 1) + (2 ^ 8 - 1)) by decide +kernel, fa_and, show 16777216 * v3 + (65536 * v2 + (256 * v1 + v0)) = 2 ^ 16 * (256 * v3 + v2) + (256 * v1 + v0) by omega, and_sp (by omega) (by omega), and_low (by omega), Nat.and_two_pow_sub_one_eq_mod, show (256 * v1 + v0) % 2 ^ 8 = v0 by omega, pk_shlN _ 8 (by decide +kernel) (by omega), fa_or, show 2 ^ 16 * (256 * v3 + v2) + v0 = 2 ^ 8 * (2 ^ 8 * (256 * v3 + v2)) + v0 by omega, show w * 2 ^ 8 = 2 ^ 8 * w + 0 by omega, or_sp (by omega) (by omega), or_sum (by omega), Nat.or_zero]
  congr 1; omega
theorem al_2 {v0 v1 v2 v3 w : Nat} (h0 : v0 < 32) (h1 : v1 < 32) (h2 : v2 < 32) (h3 : v3 < 32) (hw : w < 32) : alt (nI (16777216 * v3 + (65536 * v2 + (256 * v1 + v0)))) 2 (nI w) = nI (16777216 * v3 + (65536 * w + (256 * v1 + v0))) := by
  unfold alt
  rw [show ((255 : Int32) <<< ((8 * 2) &&& 31)) ^^^ (-1) = nI (2 ^ 24 * (2 ^ 8 - 1) + (2 ^ 16 - 1)) by decide +kernel, fa_and, show 16777216 * v3 + (65536 * v2 + (256 * v1 + v0)) = 2 ^ 24 * v3 + (65536 * v2 + (256 * v1 + v0)) by omega, and_sp (by omega) (by omega), and_low (by omega), Nat.and_two_pow_sub_one_eq_mod, show (65536 * v2 + (256 * v1 + v0)) % 2 ^ 16 = 256 * v1 + v0 by omega, pk_shlN _ 16 (by decide +kernel) (by omega), fa_or, show 2 ^ 24 * v3 + (256 * v1 + v0) = 2 ^ 16 * (2 ^ 8 * v3) + (256 * v1 + v0) by omega, show w * 2 ^ 16 = 2 ^ 16 * w + 0 by omega, or_sp (by omega) (by omega), or_sum (by omega), Nat.or_zero]
  congr 1; omega
theorem al_3 {v0 v1 v2 v3 w : Nat} (h0 : v0 < 32) (h1 : v1 < 32) (h2 : v2 < 32) (h3 : v3 < 32) (hw : w < 32) : alt (nI (16777216 * v3 + (65536 * v2 + (256 * v1 + v0)))) 3 (nI w) = nI (16777216 * w + (65536 * v2 + (256 * v1 + v0))) := by
  unfold alt
  rw [show ((255 : Int32) <<< ((8 * 3) &&& 31)) ^^^ (-1) = nI (2 ^ 24 - 1) by decide +kernel, fa_mask, show (16777216 * v3 + (65536 * v2 + (256 * v1 + v0))) % 2 ^ 24 = 65536 * v2 + (256 * v1 + v0) by omega, pk_shlN _ 24 (by decide +kernel) (by omega), Int32.or_comm, Nat.mul_comm w, fa_or_sum w (by omega)]
/-- a row with one number altered -/
theorem row_alt {z : Nat → Nat} {r t : Int32} {g : Nat → Int32} {i j w : Nat} (hz : Z32 z) (h : RowP z r t (fun c => g (4 * i + c))) (ht : ¬ t = 0) (hj : j < 4) (hw : w < z j) : RowP z (alt r (nI j) (nI w)) t (fun c => upd g (4 * i + j) (nI w) (4 * i + c)) := by
  obtain ⟨v0, v1, v2, v3, a0, a1, a2, a3, e0, e1, e2, e3, er⟩ := row_t hz h ht
  have z0 := hz 0 (by omega)
  have z1 := hz 1 (by omega)
  have z2 := hz 2 (by omega)
  have z3 := hz 3 (by omega)
  have zj := hz j hj
  have ht1 : t = 1 := by
    rcases h with ⟨q, _⟩ | ⟨q, _⟩
    · exact absurd q ht
    · exact q
  refine Or.inr ⟨ht1, fun c hc => ?_, ?_⟩
  · by_cases e : c = j
    · subst e; exact ⟨w, hw, ud_e⟩
    · show ∃ v, v < z c ∧ upd g (4 * i + j) (nI w) (4 * i + c) = nI v
      rw [ud_n (by omega)]
      rcases (show c = 0 ∨ c = 1 ∨ c = 2 ∨ c = 3 by omega) with rfl | rfl | rfl | rfl
      · exact ⟨v0, a0, e0⟩
      · exact ⟨v1, a1, e1⟩
      · exact ⟨v2, a2, e2⟩
      · exact ⟨v3, a3, e3⟩
  · rw [er]
    show _ = pk4 (upd g (4 * i + j) (nI w) (4 * i + 0)) (upd g (4 * i + j) (nI w) (4 * i + 1)) (upd g (4 * i + j) (nI w) (4 * i + 2)) (upd g (4 * i + j) (nI w) (4 * i + 3))
    have f0 : g (4 * i + 0) = nI v0 := e0
    have f1 : g (4 * i + 1) = nI v1 := e1
    have f2 : g (4 * i + 2) = nI v2 := e2
    have f3 : g (4 * i + 3) = nI v3 := e3
    rcases (show j = 0 ∨ j = 1 ∨ j = 2 ∨ j = 3 by omega) with rfl | rfl | rfl | rfl
    · rw [ud_e, ud_n (by omega), ud_n (by omega), ud_n (by omega), f1, f2, f3, pk4_n (by omega) (by omega) (by omega) (by omega)]
      exact al_0 (by omega) (by omega) (by omega) (by omega) (by omega)
    · rw [ud_e, ud_n (by omega), ud_n (by omega), ud_n (by omega), f0, f2, f3, pk4_n (by omega) (by omega) (by omega) (by omega)]
      exact al_1 (by omega) (by omega) (by omega) (by omega) (by omega)
    · rw [ud_e, ud_n (by omega), ud_n (by omega), ud_n (by omega), f0, f1, f3, pk4_n (by omega) (by omega) (by omega) (by omega)]
      exact al_2 (by omega) (by omega) (by omega) (by omega) (by omega)
    · rw [ud_e, ud_n (by omega), ud_n (by omega), ud_n (by omega), f0, f1, f2, pk4_n (by omega) (by omega) (by omega) (by omega)]
      exact al_3 (by omega) (by omega) (by omega) (by omega) (by omega)
theorem nI_64 {i : Nat} (hi : i < 64) : ¬ nI i < 0 ∧ ¬ (64 : Int32) ≤ nI i ∧ (nI i).toNatClampNeg = i := ⟨nI_pos (by omega), nI_ge (b := 64) hi (by omega), nI_clamp (by omega)⟩
theorem nI_4 {i : Nat} (hi : i < 4) : ¬ nI i < 0 ∧ ¬ (4 : Int32) ≤ nI i := ⟨nI_pos (by omega), nI_ge (b := 4) hi (by omega)⟩
theorem q_set {m m1 m2 : Mm} {s b z : Nat → Nat} {B : Nat → Nat → Nat} {x k mk L u : Nat} {S : Nat → Qn} {l c v r r' : Int32} (h : RR m s b z B x k mk L u S) (hc : rSet m l c v r m1) (hm : rMset m1 k l c v r' m2) : r = r' ∧ RM m2 := by
  have hz := h.z
  have hs := h.sz
  have hR := h.1
  have hC := h.2.1
  rcases hc with ⟨q, rfl, rfl⟩ | ⟨i, j, hi, rfl, hx, hj, rfl, hc⟩
  · rcases hm with ⟨_, rfl, rfl⟩ | ⟨i, j, hi, rfl, hx, hj, rfl, _⟩
    · exact ⟨rfl, _, _, _, _, _, _, _, _, _, _, h⟩
    · have n1 := nI_64 hi
      have n2 := nI_4 hj
      rw [n1.2.2] at q
      rcases q with q | q | q | q | q
      · exact absurd q n1.1
      · exact absurd q n1.2.1
      · exact absurd ((row_e hz (hR.1 i hi)).mp q) hx
      · exact absurd q n2.1
      · exact absurd q n2.2
  · have zj := hz j hj
    have n1 := nI_64 hi
    have n2 := nI_4 hj
    have bC := hasC_e (v := v) (hs j hj).1 zj.2
    have ht : ¬ mA m 43 i = 0 := fun e => hx ((row_e hz (hR.1 i hi)).mpr e)
    rcases hc with ⟨q, rfl, rfl⟩ | ⟨q1, q2, rfl, hc⟩
    · have q' : ¬ hasC m1 j v := fun e => by
        rcases q with q | q
        · exact e.1 q
        · exact e.2 q
      rcases hm with ⟨q3, _⟩ | ⟨i', j', hi', ei, _, hj', ej, hm⟩
      · rw [n1.2.2] at q3
        rcases q3 with q | q | q | q | q
        · exact absurd q n1.1
        · exact absurd q n1.2.1
        · exact absurd q ht
        · exact absurd q n2.1
        · exact absurd q n2.2
      · have e := (nI_eq (by omega) (by omega)).mp ej
        subst e
        rcases hm with ⟨_, rfl, rfl⟩ | ⟨q3, _⟩
        · exact ⟨rfl, _, _, _, _, _, _, _, _, _, _, h⟩
        · rw [hasM_e (hs j hj).2 (by omega) zj.2, ← bC] at q3
          exact absurd q3 q'
    · have e41 : mA m1 41 = mA m 41 := (hc.1.1 41 (by simp)).2.1
      have e42 : mA m1 42 = mA m 42 := (hc.1.1 42 (by simp)).2.1
      have e43 : mA m1 43 = mA m 43 := (hc.1.1 43 (by simp)).2.1
      rcases hm with ⟨q3, _⟩ | ⟨i', j', hi', ei, _, hj', ej, hm⟩
      · rw [n1.2.2, e43] at q3
        rcases q3 with q | q | q | q | q
        · exact absurd q n1.1
        · exact absurd q n1.2.1
        · exact absurd q ht
        · exact absurd q n2.1
        · exact absurd q n2.2
      · have e := (nI_eq (by omega) (by omega)).mp ei
        subst e
        have e := (nI_eq (by omega) (by omega)).mp ej
        subst e
        have hv := bC.mp ⟨q1, q2⟩
        have bM := hasM_e (m := m1) (c := j) (v := v) (by rw [e41]; exact (hs j hj).2) (by omega) zj.2
        rcases hm with ⟨q3, _⟩ | ⟨_, rfl, m', hk, rfl⟩
        · exact absurd (bM.mpr hv) q3
        · obtain ⟨w, hw, rfl⟩ := hv
          refine ⟨?_, ?_⟩
          · rw [num_e hz hR hi hj, e42]
            unfold gtM
            rw [if_neg ht]
          · have F : Fr [42, 43] m' (sA m' 42 (upd (mA m' 42) (4 * i + j) (nI w))) := Fr.sA Fr.rf (by simp)
            have f42 : mA m' 42 = mA m 42 := ((hk.1.1 42 (by simp)).2.1).trans e42
            have f43 : mA m' 43 = mA m 43 := ((hk.1.1 43 (by simp)).2.1).trans e43
            have g42 : mA (sA m' 42 (upd (mA m' 42) (4 * i + j) (nI w))) 42 = upd (mA m' 42) (4 * i + j) (nI w) := sA_e
            have g43 : mA (sA m' 42 (upd (mA m' 42) (4 * i + j) (nI w))) 43 = mA m' 43 := sA_n (by decide)
            have q := q_chg (t := mA m 43 i) hR hC hi hc hk F (by rw [g43, f43, ud_id]) (fun a ha => by rw [g42, ud_n (by omega)]) (by rw [g42, f42]; exact hR.2.2.1.up (by omega)) (by rw [g42, f42]; exact row_alt hz (hR.1 i hi) ht hj hw)
            exact ⟨_, _, _, _, _, _, _, _, _, _, h.chg q.1 q.2 (KR_of hc hk F)⟩
theorem q_drop {m m1 m2 : Mm} {s b z : Nat → Nat} {B : Nat → Nat → Nat} {x k mk L u : Nat} {S : Nat → Qn} {l r r' : Int32} (h : RR m s b z B x k mk L u S) (hc : rDrop m l r m1) (hm : rMdrop m1 k l r' m2) : r = r' ∧ RM m2 := by
  have hz := h.z
  have hR := h.1
  have hC := h.2.1
  rcases hc with ⟨q, rfl, rfl⟩ | ⟨i, hi, rfl, hx, hc, rfl⟩
  · rcases hm with ⟨_, rfl, rfl⟩ | ⟨i, hi, rfl, hx, _⟩
    · exact ⟨rfl, _, _, _, _, _, _, _, _, _, _, h⟩
    · have n1 := nI_64 hi
      rw [n1.2.2] at q
      rcases q with q | q | q
      · exact absurd q n1.1
      · exact absurd q n1.2.1
      · exact absurd ((row_e hz (hR.1 i hi)).mp q) hx
  · have n1 := nI_64 hi
    have ht : ¬ mA m 43 i = 0 := fun e => hx ((row_e hz (hR.1 i hi)).mpr e)
    have e42 : mA m1 42 = mA m 42 := (hc.1.1 42 (by simp)).2.1
    have e43 : mA m1 43 = mA m 43 := (hc.1.1 43 (by simp)).2.1
    rcases hm with ⟨q, _⟩ | ⟨i', hi', ei, _, rfl, m', hk, rfl⟩
    · rw [n1.2.2, e43] at q
      rcases q with q | q | q
      · exact absurd q n1.1
      · exact absurd q n1.2.1
      · exact absurd q ht
    · have e := (nI_eq (by omega) (by omega)).mp ei
      subst e
      have F : Fr [42, 43] m' (sA m' 43 (upd (mA m' 43) i 0)) := Fr.sA Fr.rf (by simp)
      have f42 : mA m' 42 = mA m 42 := ((hk.1.1 42 (by simp)).2.1).trans e42
      have g42 : mA (sA m' 43 (upd (mA m' 43) i 0)) 42 = mA m' 42 := sA_n (by decide)
      have g43 : mA (sA m' 43 (upd (mA m' 43) i 0)) 43 = upd (mA m' 43) i 0 := sA_e
      have q := q_chg (t := 0) hR hC hi hc hk F g43 (fun a ha => by rw [g42]) (by rw [g42, f42]; exact hR.2.2.1) (Or.inl ⟨rfl, rfl⟩)
      refine ⟨?_, _, _, _, _, _, _, _, _, _, _, h.chg q.1 q.2 (KR_of hc hk F)⟩
      rw [cn_e hz q.1 64 (by omega), ← q.1.2.2.2, (F.1 2 (by simp)).1, (hk.1.1 2 (by simp)).1]
