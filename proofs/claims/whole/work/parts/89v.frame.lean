/-! ===== what keeps the parts of the relation ===== -/
theorem RRows.f {m m' : Mm} {z : Nat → Nat} (h : RRows m z) (e3 : mA m' 3 = mA m 3) (e43 : mA m' 43 = mA m 43) (e42 : mA m' 42 = mA m 42) (e2 : mI m' 2 4 = mI m 2 4) : RRows m' z := by
  unfold RRows; rw [e3, e43, e42, e2]; exact h
theorem RChg.f {m m' : Mm} {z : Nat → Nat} {x k : Nat} (h : RChg m z x k) (e25 : mI m' 2 5 = mI m 2 5) (e26 : mI m' 2 6 = mI m 2 6) (e40 : mI m' 40 3 = mI m 40 3) (e4 : mA m' 4 = mA m 4) (e5 : mA m' 5 = mA m 5) (e44 : mA m' 44 = mA m 44) (e45 : mA m' 45 = mA m 45) (e46 : mA m' 46 = mA m 46) : RChg m' z x k := by
  unfold RChg; rw [e25, e26, e40, e4, e5, e44, e45, e46]; exact h
theorem RMrk.f {m m' : Mm} {z : Nat → Nat} {k : Nat} (h : RMrk m z k) (e27 : mI m' 2 7 = mI m 2 7) (e40 : mI m' 40 7 = mI m 40 7) (e6 : mA m' 6 = mA m 6) (e47 : mA m' 47 = mA m 47) (e48 : mA m' 48 = mA m 48) : RMrk m' z k := by
  unfold RMrk; rw [e27, e40, e6, e47, e48]; exact h
theorem RPag.f {m m' : Mm} {L : Nat} (h : RPag m L) (e32 : mI m' 32 1 = mI m 32 1) (e40 : mI m' 40 26 = mI m 40 26) (e33 : mA m' 33 = mA m 33) (e56 : mA m' 56 = mA m 56) : RPag m' L := by
  unfold RPag; rw [e32, e40, e33, e56]; exact h
theorem RCnt.f {m m' : Mm} (h : RCnt m) (e7 : mI m' 1 7 = mI m 1 7) (e8 : mI m' 1 8 = mI m 1 8) (e19 : mI m' 40 19 = mI m 40 19) (e45 : mI m' 40 45 = mI m 40 45) : RCnt m' := by
  unfold RCnt; rw [e7, e8, e19, e45]; exact h
theorem RCol.f {m m' : Mm} {c s b z : Nat} {B : Nat → Nat} (h : RCol m c s b z B) (eI : mI m' (8 + 6 * c) = mI m (8 + 6 * c)) (e9 : mA m' (9 + 6 * c) = mA m (9 + 6 * c)) (e11 : mA m' (11 + 6 * c) = mA m (11 + 6 * c)) (e12 : mA m' (12 + 6 * c) = mA m (12 + 6 * c)) (e13 : mL m' (13 + 6 * c) = mL m (13 + 6 * c)) (eT : mT m' (8 + 6 * c) = mT m (8 + 6 * c)) (e41 : mA m' 41 = mA m 41) (e50 : mA m' 50 = mA m 50) (e51 : mA m' 51 = mA m 51) (e52 : mA m' 52 = mA m 52) (e53 : mA m' 53 = mA m 53) : RCol m' c s b z B := by
  have ht : trB m' c = trB m c := by funext v; unfold trB; rw [e53]
  obtain ⟨⟨a1, a2, a3, a4, a5, a6, a7, g50, g52, g41, g51⟩, h2, h3, h4, h5, h6, h7, h8, h9, h10, h11, h12⟩ := h
  refine ⟨⟨a1, a2, a3, a4, a5, a6, a7, by rw [e50]; exact g50, by rw [e52]; exact g52, by rw [e41]; exact g41, fun j hj => by rw [e51]; exact g51 j hj⟩, h2, h3, by rw [eI]; exact h4, by rw [eI]; exact h5, by rw [eI]; exact h6, by rw [e9]; exact h7, ?_, fun v hv => ?_, by rw [eT, ht]; exact h10, by rw [ht]; exact h11, by rw [e53]; exact h12⟩
  · unfold Stl; rw [eI, e9, e11, e12]; exact h8
  · rw [e13, cSl_cong (m := m) (m' := m') (by rw [eI]) e9 e11 e12]; exact h9 v hv
theorem RQue.f {m m' : Mm} {u : Nat} {S : Nat → Qn} (h : RQue m u S) (eq : mq m' = mq m) (el : ml m' = ml m) (e16 : mI m' 1 6 = mI m 1 6) (e34 : mI m' 34 0 = mI m 34 0) (e27 : mI m' 40 27 = mI m 40 27) (e57 : mA m' 57 = mA m 57) (e58 : mA m' 58 = mA m 58) (e59 : mA m' 59 = mA m 59) (eI : ∀ q, q < u → mI m' (66 + 4 * q) = mI m (66 + 4 * q)) (eA : ∀ q, q < u → mA m' (67 + 4 * q) = mA m (67 + 4 * q)) : RQue m' u S := by
  obtain ⟨a1, a2, a3, a4, a5, a6⟩ := h
  refine ⟨a1, eq.trans a2, e16.trans a3, e34.trans a4, e27.trans a5, fun q hq => ?_⟩
  obtain ⟨⟨b1, b2, b3, b4, b5, b6⟩, c2, c3, c4, c5, c6⟩ := a6 q hq
  exact ⟨⟨b1, by rw [e57]; exact b2, b3, b4, b5, Qr_c e58 e59 (S q) 0 b6⟩, by rw [el]; exact c2, by rw [el]; exact c3, by rw [eI q hq]; exact c4, by rw [eI q hq]; exact c5, by rw [eA q hq]; exact c6⟩
/-- page told: class and model -/
theorem q_letters {m m1 m2 : Mm} {w : Int64} {L : Nat} {r r' : Int32} (h : RPag m L) (hc : rLetters m w L r m1) (hm : rMlet m1 w L r' m2) : r = r' ∧ ∃ L', RPag m2 L' := by
  obtain ⟨W, hW, rfl⟩ := w_lN w
  have e := lt_e hW 8 (by omega)
  have hle := ltM_le (lN W) 8
  cases hg : (ltM (lN W) 8).2 with
  | false =>
    rw [hg, if_neg (by decide)] at e
    rcases hc with ⟨_, rfl, rfl⟩ | ⟨k, e', he, _⟩
    · rcases hm with ⟨_, rfl, rfl⟩ | ⟨h2, _⟩
      · exact ⟨rfl, L, h⟩
      · rw [hg] at h2; cases h2
    · rw [he] at e; cases e
  | true =>
    rw [hg, if_pos rfl] at e
    rcases hc with ⟨he, _, _⟩ | ⟨k, e', he, hc⟩
    · rw [he] at e; cases e
    · rw [he] at e
      injection e with e
      injection e with e1 e2
      rcases hm with ⟨h2, _, _⟩ | ⟨_, hm⟩
      · rw [hg] at h2; cases h2
      · rw [← e1] at hm
        have hk8 : k ≤ 8 := by rw [e1]; exact hle
        rcases hc with ⟨q, rfl, rfl⟩ | ⟨q, rfl, hc⟩
        · rcases hm with ⟨_, rfl, rfl⟩ | ⟨q', _⟩
          · exact ⟨rfl, L, h⟩
          · omega
        · rcases hm with ⟨q', _⟩ | ⟨_, rfl, hm⟩
          · omega
          · refine ⟨rfl, L + k, q, ?_, ?_, fun i hi => ?_⟩
            · rw [(hm.1.1 32 (by simp)).1, hc.2.1, Nat.min_eq_left q]
            · rw [hm.2.1, ud_e]
            · rw [(hm.1.1 33 (by simp)).2.1, hc.2.2.2.2 i, hm.2.2, Nat.min_eq_left q]
              unfold cpF
              by_cases q3 : L ≤ i
              · rw [if_pos ⟨q3, hi⟩, if_pos ⟨q3, hi⟩, Nat.zero_add, cde_b hW (by omega), cb2_b hW (by omega)]
              · rw [if_neg (by omega), if_neg (by omega), h.2.2.2 i (by omega), (hc.1.1 56 (by simp)).2.1]
