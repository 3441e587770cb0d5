/-! ===== row, set, drop: class and model ===== -/
theorem fa_first_cg {p q : Nat → Bool} : ∀ n, (∀ k, k < n → p k = q k) → fa_first p n = fa_first q n
  | 0, _ => rfl
  | n + 1, h => by
    have ih := fa_first_cg n (fun k hk => h k (by omega))
    unfold fa_first
    rw [ih, h n (by omega)]
theorem hasC_e {m : Mm} {c y : Nat} {v : Int32} (hI : mI m (8 + 6 * c) 0 = nI y) (hy : y ≤ 32) : hasC m c v ↔ ∃ n, n < y ∧ v = nI n := by
  unfold hasC
  rw [hI]
  constructor
  · rintro ⟨h1, h2⟩
    obtain ⟨n, hn, rfl⟩ := nI_of h1
    refine ⟨n, ?_, rfl⟩
    rcases Nat.lt_or_ge n y with q | q
    · exact q
    · exact absurd (nI_le q hn) h2
  · rintro ⟨n, hn, rfl⟩
    exact ⟨nI_pos (by omega), nI_ge hn (by omega)⟩
theorem hasM_e {m : Mm} {c y : Nat} {v : Int32} (hI : mA m 41 c = nI y) (h1 : 1 ≤ y) (hy : y ≤ 32) : hasM m c v ↔ ∃ n, n < y ∧ v = nI n := by
  unfold hasM
  rw [hI, nI_p h1]
  constructor
  · rintro ⟨h1, h2⟩
    obtain ⟨n, hn, rfl⟩ := nI_of h1
    refine ⟨n, ?_, rfl⟩
    rcases Nat.lt_or_ge (y - 1) n with q | q
    · exact absurd (nI_lt q hn) h2
    · omega
  · rintro ⟨n, hn, rfl⟩
    exact ⟨nI_pos (by omega), nI_nlt (by omega) (by omega)⟩
def KR (m m' : Mm) : Prop := Fr [2, 3, 4, 5, 40, 42, 43, 44, 45, 46, 49] m m' ∧ mI m' 2 7 = mI m 2 7 ∧ ∀ j, ¬ j = 3 → mI m' 40 j = mI m 40 j
theorem RR.z {m : Mm} {s b z : Nat → Nat} {B : Nat → Nat → Nat} {x k mk L u : Nat} {S : Nat → Qn} (h : RR m s b z B x k mk L u S) : Z32 z := fun c hc => by
  have := h.2.2.2.1 c hc
  exact ⟨this.1.2.2.2.2.1, this.1.2.2.2.2.2.1⟩
theorem RR.chg {m m' : Mm} {s b z : Nat → Nat} {B : Nat → Nat → Nat} {x k mk L u x' k' : Nat} {S : Nat → Qn} (h : RR m s b z B x k mk L u S) (hR : RRows m' z) (hC : RChg m' z x' k') (K : KR m m') : RR m' s b z B x' k' mk L u S := by
  obtain ⟨-, -, h3, h4, h5, h6, h7, h8⟩ := h
  obtain ⟨F, e27, e40⟩ := K
  have fI : ∀ j, j ∉ [2, 3, 4, 5, 40, 42, 43, 44, 45, 46, 49] → mI m' j = mI m j := fun j hj => (F.1 j hj).1
  have fA : ∀ j, j ∉ [2, 3, 4, 5, 40, 42, 43, 44, 45, 46, 49] → mA m' j = mA m j := fun j hj => (F.1 j hj).2.1
  refine ⟨hR, hC, h3.f e27 (e40 7 (by decide)) (fA 6 (by simp)) (fA 47 (by simp)) (fA 48 (by simp)), fun c hc => ?_, h5.f (by rw [fI 32 (by simp)]) (e40 26 (by decide)) (fA 33 (by simp)) (fA 56 (by simp)), ?_, ?_, ?_⟩
  · exact (h4 c hc).f (fI _ (by simp; omega)) (fA _ (by simp; omega)) (fA _ (by simp; omega)) (fA _ (by simp; omega)) ((F.1 _ (by simp; omega)).2.2.1) ((F.1 _ (by simp; omega)).2.2.2) (fA 41 (by simp)) (fA 50 (by simp)) (fA 51 (by simp)) (fA 52 (by simp)) (fA 53 (by simp))
  · exact h6.f F.2.1 F.2.2 (by rw [fI 1 (by simp)]) (by rw [fI 34 (by simp)]) (e40 27 (by decide)) (fA 57 (by simp)) (fA 58 (by simp)) (fA 59 (by simp)) (fun q hq => fI _ (by simp; omega)) (fun q hq => fA _ (by simp; omega))
  · exact h7.f (by rw [fI 1 (by simp)]) (by rw [fI 1 (by simp)]) (e40 19 (by decide)) (e40 45 (by decide))
  · rw [fA 64 (by simp)]; exact h8
theorem em_e {m : Mm} {z : Nat → Nat} (hz : Z32 z) (h : RRows m z) : emL (mA m 43) = fa_first (fun j => mA m 3 j == -1) 64 := by
  unfold emL
  refine fa_first_cg 64 (fun j hj => ?_)
  have := row_e hz (h.1 j hj)
  by_cases q : mA m 43 j = 0
  · have q' := this.mpr q
    show (mA m 43 j == 0) = (mA m 3 j == -1)
    rw [q, q']; rfl
  · have q' : ¬ mA m 3 j = -1 := fun e => q (this.mp e)
    show (mA m 43 j == 0) = (mA m 3 j == -1)
    rw [beq_eq_false_iff_ne.mpr q, beq_eq_false_iff_ne.mpr q']
/-- keep behind a change, then numbers written: what is kept -/
theorem KR_of {m m1 m2 m3 : Mm} {i k : Nat} {v : Int32} (hc : rChange m i v m1) (hk : rKeep m1 i k m2) (F : Fr [42, 43] m2 m3) : KR m m3 := by
  refine ⟨((hc.1.wd (ks' := [2, 3, 4, 5, 40, 42, 43, 44, 45, 46, 49]) (fun j hj => by simp at hj ⊢; omega)).tr (hk.1.wd (fun j hj => by simp at hj ⊢; omega))).tr (F.wd (fun j hj => by simp at hj ⊢; omega)), ?_, fun j hj => ?_⟩
  · rw [(F.1 2 (by simp)).1, (hk.1.1 2 (by simp)).1, hc.2.2.2.2.2.1]
  · rw [(F.1 40 (by simp)).1, hk.2.1, ud_n hj, (hc.1.1 40 (by simp)).1]
theorem row_nw {z : Nat → Nat} {g : Nat → Int32} {a b c e : Nat} (ha : a < z 0) (hb : b < z 1) (hc : c < z 2) (he : e < z 3) (e0 : g 0 = nI a) (e1 : g 1 = nI b) (e2 : g 2 = nI c) (e3 : g 3 = nI e) : RowP z (pk4 (nI a) (nI b) (nI c) (nI e)) 1 g := by
  refine Or.inr ⟨rfl, fun j hj => ?_, ?_⟩
  · rcases (show j = 0 ∨ j = 1 ∨ j = 2 ∨ j = 3 by omega) with rfl | rfl | rfl | rfl
    · exact ⟨a, ha, e0⟩
    · exact ⟨b, hb, e1⟩
    · exact ⟨c, hc, e2⟩
    · exact ⟨e, he, e3⟩
  · rw [e0, e1, e2, e3]
theorem row_new {z : Nat → Nat} {g : Nat → Int32} {i a b c e : Nat} (ha : a < z 0) (hb : b < z 1) (hc : c < z 2) (he : e < z 3) : RowP z (pk4 (nI a) (nI b) (nI c) (nI e)) 1 (fun j => upd (upd (upd (upd g (4 * i) (nI a)) (4 * i + 1) (nI b)) (4 * i + 2) (nI c)) (4 * i + 3) (nI e) (4 * i + j)) := by
  have e0 : upd (upd (upd (upd g (4 * i) (nI a)) (4 * i + 1) (nI b)) (4 * i + 2) (nI c)) (4 * i + 3) (nI e) (4 * i + 0) = nI a := by
    rw [ud_n (by omega), ud_n (by omega), ud_n (by omega), Nat.add_zero, ud_e]
  have e1 : upd (upd (upd (upd g (4 * i) (nI a)) (4 * i + 1) (nI b)) (4 * i + 2) (nI c)) (4 * i + 3) (nI e) (4 * i + 1) = nI b := by
    rw [ud_n (by omega), ud_n (by omega), ud_e]
  have e2 : upd (upd (upd (upd g (4 * i) (nI a)) (4 * i + 1) (nI b)) (4 * i + 2) (nI c)) (4 * i + 3) (nI e) (4 * i + 2) = nI c := by
    rw [ud_n (by omega), ud_e]
  have e3 : upd (upd (upd (upd g (4 * i) (nI a)) (4 * i + 1) (nI b)) (4 * i + 2) (nI c)) (4 * i + 3) (nI e) (4 * i + 3) = nI e := ud_e
  exact row_nw ha hb hc he e0 e1 e2 e3
/-- a row comes -/
theorem q_come {m m1 m2 : Mm} {z : Nat → Nat} {x k i a b c e : Nat} (hz : Z32 z) (h : RRows m z) (hC : RChg m z x k) (hi : i < 64) (ha : a < z 0) (hb : b < z 1) (hc : c < z 2) (he : e < z 3) (h1 : rChange m i (pk4 (nI a) (nI b) (nI c) (nI e)) m1) (h2 : rCome m1 i k (nI a) (nI b) (nI c) (nI e) m2) : RRows m2 z ∧ RChg m2 z ((x + 1) % 100) (kp k + 1) ∧ KR m m2 := by
  obtain ⟨m', hk, rfl⟩ := h2
  have z0 := hz 0 (by omega)
  have z1 := hz 1 (by omega)
  have z2 := hz 2 (by omega)
  have z3 := hz 3 (by omega)
  have F : Fr [42, 43] m' (sA (sA m' 43 (upd (mA m' 43) i 1)) 42 (upd (upd (upd (upd (mA m' 42) (4 * i) (nI a)) (4 * i + 1) (nI b)) (4 * i + 2) (nI c)) (4 * i + 3) (nI e))) := Fr.sA (Fr.sA Fr.rf (by simp)) (by simp)
  have h42 : N32 (mA m' 42) := by rw [(hk.1.1 42 (by simp)).2.1, (h1.1.1 42 (by simp)).2.1]; exact h.2.2.1
  have e42 : mA (sA (sA m' 43 (upd (mA m' 43) i 1)) 42 (upd (upd (upd (upd (mA m' 42) (4 * i) (nI a)) (4 * i + 1) (nI b)) (4 * i + 2) (nI c)) (4 * i + 3) (nI e))) 42 = upd (upd (upd (upd (mA m' 42) (4 * i) (nI a)) (4 * i + 1) (nI b)) (4 * i + 2) (nI c)) (4 * i + 3) (nI e) := sA_e
  have e43 : mA (sA (sA m' 43 (upd (mA m' 43) i 1)) 42 (upd (upd (upd (upd (mA m' 42) (4 * i) (nI a)) (4 * i + 1) (nI b)) (4 * i + 2) (nI c)) (4 * i + 3) (nI e))) 43 = upd (mA m' 43) i 1 := by rw [sA_n (by decide), sA_e]
  have q := q_chg (t := 1) h hC hi h1 hk F e43 (fun j hj => by rw [e42, ud_n (by omega), ud_n (by omega), ud_n (by omega), ud_n (by omega)]) (by rw [e42]; exact (((h42.up (by omega)).up (by omega)).up (by omega)).up (by omega)) (by rw [e42]; exact row_new ha hb hc he)
  exact ⟨q.1, q.2, KR_of h1 hk F⟩
def SzE (m : Mm) (z : Nat → Nat) : Prop := ∀ c, c < 4 → mI m (8 + 6 * c) 0 = nI (z c) ∧ mA m 41 c = nI (z c)
theorem RR.sz {m : Mm} {s b z : Nat → Nat} {B : Nat → Nat → Nat} {x k mk L u : Nat} {S : Nat → Qn} (h : RR m s b z B x k mk L u S) : SzE m z := fun c hc => by
  have := h.2.2.2.1 c hc
  exact ⟨this.2.2.2.1, this.1.2.2.2.2.2.2.2.2.2.1⟩
theorem q_row {m m1 m2 : Mm} {s b z : Nat → Nat} {B : Nat → Nat → Nat} {x k mk L u : Nat} {S : Nat → Qn} {a0 a1 a2 a3 r r' : Int32} (h : RR m s b z B x k mk L u S) (hc : rRow m a0 a1 a2 a3 r m1) (hm : rMrow m1 k a0 a1 a2 a3 r' m2) : r = r' ∧ RM m2 := by
  have hz := h.z
  have hs := h.sz
  have hR := h.1
  have hC := h.2.1
  have z0 := hz 0 (by omega)
  have z1 := hz 1 (by omega)
  have z2 := hz 2 (by omega)
  have z3 := hz 3 (by omega)
  have b0 := hasC_e (v := a0) (hs 0 (by omega)).1 z0.2
  have b1 := hasC_e (v := a1) (hs 1 (by omega)).1 z1.2
  have b2 := hasC_e (v := a2) (hs 2 (by omega)).1 z2.2
  have b3 := hasC_e (v := a3) (hs 3 (by omega)).1 z3.2
  have key : ∀ m', mA m' 41 = mA m 41 → ((hasM m' 0 a0 ∧ hasM m' 1 a1 ∧ hasM m' 2 a2 ∧ hasM m' 3 a3) ↔ (hasC m 0 a0 ∧ hasC m 1 a1 ∧ hasC m 2 a2 ∧ hasC m 3 a3)) := fun m' e => by
    rw [b0, b1, b2, b3, hasM_e (v := a0) (by rw [e]; exact (hs 0 (by omega)).2) (by omega) z0.2, hasM_e (v := a1) (by rw [e]; exact (hs 1 (by omega)).2) (by omega) z1.2, hasM_e (v := a2) (by rw [e]; exact (hs 2 (by omega)).2) (by omega) z2.2, hasM_e (v := a3) (by rw [e]; exact (hs 3 (by omega)).2) (by omega) z3.2]
  have he := em_e hz hR
  rcases hc with ⟨q, rfl, rfl⟩ | ⟨q, hc⟩
  · rcases hm with ⟨_, rfl, rfl⟩ | ⟨q', _⟩
    · exact ⟨rfl, _, _, _, _, _, _, _, _, _, _, h⟩
    · exact absurd ((key _ rfl).mp q') q
  · rcases hc with ⟨e, rfl, rfl⟩ | ⟨e, rfl, hc⟩
    · rcases hm with ⟨q', _⟩ | ⟨_, hm⟩
      · exact absurd ((key _ rfl).mpr q) q'
      · rcases hm with ⟨_, rfl, rfl⟩ | ⟨e', _⟩
        · exact ⟨rfl, _, _, _, _, _, _, _, _, _, _, h⟩
        · rw [he] at e'; omega
    · have e41 : mA m1 41 = mA m 41 := (hc.1.1 41 (by simp)).2.1
      have e43 : mA m1 43 = mA m 43 := (hc.1.1 43 (by simp)).2.1
      rcases hm with ⟨q', _⟩ | ⟨_, hm⟩
      · exact absurd ((key _ e41).mpr q) q'
      · rw [e43, he] at hm
        rcases hm with ⟨e', _⟩ | ⟨_, rfl, hm⟩
        · omega
        · rw [b0, b1, b2, b3] at q
          obtain ⟨⟨v0, l0, rfl⟩, ⟨v1, l1, rfl⟩, ⟨v2, l2, rfl⟩, ⟨v3, l3, rfl⟩⟩ := q
          have q := q_come hz hR hC e l0 l1 l2 l3 hc hm
          exact ⟨rfl, _, _, _, _, _, _, _, _, _, _, h.chg q.1 q.2.1 q.2.2⟩
