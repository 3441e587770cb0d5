/-! ===== fill: class and model ===== -/
def mg (a c : Mm) : Mm := (fun k => if k < 40 then mI a k else mI c k, fun k => if k < 40 then mA a k else mA c k, mL a, mT a, mq a, ml a)
theorem mg_Il {a c : Mm} {k : Nat} (h : k < 40) : mI (mg a c) k = mI a k := if_pos h
theorem mg_Ih {a c : Mm} {k : Nat} (h : ¬ k < 40) : mI (mg a c) k = mI c k := if_neg h
theorem mg_Al {a c : Mm} {k : Nat} (h : k < 40) : mA (mg a c) k = mA a k := if_pos h
theorem mg_Ah {a c : Mm} {k : Nat} (h : ¬ k < 40) : mA (mg a c) k = mA c k := if_neg h
theorem mg_chg {a a' c : Mm} {i : Nat} {v : Int32} (h : rChange a i v a') : rChange (mg a c) i v (mg a' c) := by
  obtain ⟨f1, a3, a24, a25, a26, a27, a4, a5⟩ := h
  refine ⟨⟨fun k hk => ⟨?_, ?_, (f1.1 k hk).2.2.1, (f1.1 k hk).2.2.2⟩, f1.2.1, f1.2.2⟩, ?_⟩
  · by_cases q : k < 40
    · rw [mg_Il q, mg_Il q]; exact (f1.1 k hk).1
    · rw [mg_Ih q, mg_Ih q]
  · by_cases q : k < 40
    · rw [mg_Al q, mg_Al q]; exact (f1.1 k hk).2.1
    · rw [mg_Ah q, mg_Ah q]
  · rw [mg_Al (by decide), mg_Al (by decide), mg_Al (by decide), mg_Al (by decide), mg_Al (by decide), mg_Al (by decide), mg_Il (by decide), mg_Il (by decide)]
    exact ⟨a3, a24, a25, a26, a27, a4, a5⟩
theorem mg_keep {a c c' : Mm} {i k : Nat} (h : rKeep c i k c') : rKeep (mg a c) i k (mg a c') := by
  obtain ⟨f2, b40, b44, b45, b46⟩ := h
  refine ⟨⟨fun j hj => ⟨?_, ?_, rfl, rfl⟩, rfl, rfl⟩, ?_⟩
  · by_cases q : j < 40
    · rw [mg_Il q, mg_Il q]
    · rw [mg_Ih q, mg_Ih q]; exact (f2.1 j hj).1
  · by_cases q : j < 40
    · rw [mg_Al q, mg_Al q]
    · rw [mg_Ah q, mg_Ah q]; exact (f2.1 j hj).2.1
  · rw [mg_Ih (by decide), mg_Ih (by decide), mg_Ah (by decide), mg_Ah (by decide), mg_Ah (by decide), mg_Ah (by decide), mg_Ah (by decide), mg_Ah (by decide), mg_Ah (by decide), mg_Ah (by decide)]
    exact ⟨b40, b44, b45, b46⟩
theorem mg_sA {a c : Mm} {k : Nat} {f : Nat → Int32} (h : ¬ k < 40) : mg a (sA c k f) = sA (mg a c) k f := by
  have e : (fun j => if j < 40 then mA a j else mA (sA c k f) j) = va_up (fun j => if j < 40 then mA a j else mA c j) k f := by
    funext j
    by_cases q : j = k
    · subst q; rw [va_up_self, if_neg h, sA_e]
    · rw [va_up_ne _ _ q, sA_n q]
  show (_, (fun j => if j < 40 then mA a j else mA (sA c k f) j), _, _, _, _) = ((_, va_up (fun j => if j < 40 then mA a j else mA c j) k f, _, _, _, _) : Mm)
  rw [e]; rfl
theorem mg_come {a c c' : Mm} {i k : Nat} {v0 v1 v2 v3 : Int32} (h : rCome c i k v0 v1 v2 v3 c') : rCome (mg a c) i k v0 v1 v2 v3 (mg a c') := by
  obtain ⟨m1, hk, rfl⟩ := h
  refine ⟨mg a m1, mg_keep hk, ?_⟩
  rw [mg_sA (by decide), mg_sA (by decide), mg_Ah (by decide), mg_Ah (by decide)]
def sd (n : Nat) : Nat → Nat
  | 0 => n
  | i + 1 => (1103515245 * sd n i + 12345) % 2147483648
theorem sd_lt {n : Nat} (h : n < 2147483648) : ∀ i, sd n i < 2147483648
  | 0 => h
  | i + 1 => Nat.mod_lt _ (by decide)
theorem drS_e {n : Nat} : ∀ i, drS (nI n) i = nI (sd n i)
  | 0 => rfl
  | i + 1 => by
    rw [drS, drS_e i, sd, lcg, show (1103515245 : Int32) = nI 1103515245 from rfl, show (12345 : Int32) = nI 12345 from rfl, show (2147483647 : Int32) = nI (2 ^ 31 - 1) from rfl, pk_mul, nI_add, fa_mask]
theorem mdS_e {n : Nat} : ∀ i, mdS (lN n) i = lN (sd n i)
  | 0 => rfl
  | i + 1 => by
    rw [mdS, mdS_e i, sd, show (1103515245 : Int64) = lN 1103515245 from rfl, show (12345 : Int64) = lN 12345 from rfl, show (2147483647 : Int64) = lN (2 ^ 31 - 1) from rfl, lN_mul, lN_add, fb_maskL]
def dw (z : Nat → Nat) (n i : Nat) : Nat := sd n (i + 1) / 65536 % z i
theorem mdV_e {m : Mm} {z : Nat → Nat} {n i : Nat} (hz : Z32 z) (hi : i < 4) (h : mA m 41 i = nI (z i)) (hn : n < 2147483648) : mdV m (lN n) i = nI (dw z n i) := by
  have zi := hz i hi
  have hs := sd_lt hn (i + 1)
  unfold mdV dw
  rw [mdS_e, h, nI_l (by omega), show (65536 : Int64) = lN 65536 from rfl, pk_lDiv (by omega) (by omega) (by omega), pk_lRem (by omega) (by omega) (by omega), lN_i]
theorem nmF_e {y a : Nat} (hy : 2 ≤ y) (hy2 : y ≤ 32) (ha : a < 2147483648) : nmF (nI y) (nI a >>> (16 &&& 31)) = nI (a / 65536 % y) := by
  unfold nmF
  rw [pk_shrN (by omega) _ 16 (by decide +kernel), if_neg (show ¬ nI y < 2 from nI_nlt (b := 2) hy (by omega)), pk_rem (by omega) (by omega) (by omega)]
theorem drR_e {m : Mm} {z : Nat → Nat} {n : Nat} (hz : Z32 z) (h : ∀ c, c < 4 → mI m (8 + 6 * c) 0 = nI (z c)) (hn : n < 2147483648) : drR m (nI n) 4 = pk4 (nI (dw z n 0)) (nI (dw z n 1)) (nI (dw z n 2)) (nI (dw z n 3)) := by
  have d : ∀ i, i < 4 → nmF (mI m (8 + 6 * i) 0) (drS (nI n) (i + 1) >>> (16 &&& 31)) = nI (dw z n i) := fun i hi => by
    have zi := hz i hi
    unfold dw
    rw [h i hi, drS_e (i + 1)]
    exact nmF_e zi.1 zi.2 (sd_lt hn (i + 1))
  have s1 : ∀ i, i < 4 → drR m (nI n) (i + 1) = alt (drR m (nI n) i) (nI i) (nI (dw z n i)) := fun i hi => by rw [drR, d i hi]
  rw [s1 3 (by omega), s1 2 (by omega), s1 1 (by omega), s1 0 (by omega)]
  rfl
theorem q_fl {z : Nat → Nat} (hz : Z32 z) : ∀ (t : Nat) (a c : Mm) (n x k : Nat) (w r r' : Int32) (a' c' : Mm), n < 2147483648 → RRows (mg a c) z → RChg (mg a c) z x k → (∀ i, i < 4 → mI a (8 + 6 * i) 0 = nI (z i)) → (∀ i, i < 4 → mA c 41 i = nI (z i)) → rFl (nI n) w t a r a' → rMfl (lN n) w k t c r' c' → r = r' ∧ ∃ x' k', RRows (mg a' c') z ∧ RChg (mg a' c') z x' k' ∧ Fr [2, 3, 4, 5] a a' ∧ mI a' 2 7 = mI a 2 7 ∧ Fr [40, 42, 43, 44, 45, 46, 49] c c' ∧ ∀ j, ¬ j = 3 → mI c' 40 j = mI c 40 j := by
  intro t
  induction t with
  | zero =>
    intro a c n x k w r r' a' c' hn hR hC ha hc h1 h2
    obtain ⟨rfl, rfl⟩ := h1
    obtain ⟨rfl, rfl⟩ := h2
    exact ⟨rfl, x, k, hR, hC, Fr.rf, rfl, Fr.rf, fun _ _ => rfl⟩
  | succ t ih =>
    intro a c n x k w r r' a' c' hn hR hC ha hc h1 h2
    have he := em_e hz hR
    rw [mg_Ah (by decide), mg_Al (by decide)] at he
    rcases h1 with ⟨q, rfl, rfl⟩ | ⟨q, a1, g1, h1⟩
    · rcases h2 with ⟨_, rfl, rfl⟩ | ⟨q', _⟩
      · exact ⟨rfl, x, k, hR, hC, Fr.rf, rfl, Fr.rf, fun _ _ => rfl⟩
      · rw [he] at q'; omega
    · rcases h2 with ⟨q', _⟩ | ⟨_, c0, c1, F0, g2, h2⟩
      · rw [he] at q'; omega
      · rw [he] at g2
        rw [mdV_e hz (by omega) (hc 0 (by omega)) hn, mdV_e hz (by omega) (hc 1 (by omega)) hn, mdV_e hz (by omega) (hc 2 (by omega)) hn, mdV_e hz (by omega) (hc 3 (by omega)) hn] at g2
        rw [drR_e hz ha hn] at g1
        have dl : ∀ i, i < 4 → dw z n i < z i := fun i hi => Nat.mod_lt _ (by have := hz i hi; omega)
        have e : ∀ j, ¬ j = 49 → mA (mg a c0) j = mA (mg a c) j := fun j hj => by
          by_cases q : j < 40
          · rw [mg_Al q, mg_Al q]
          · rw [mg_Ah q, mg_Ah q]; exact (F0.1 j (by simp; omega)).2.1
        have e' : ∀ j, ¬ j = 49 → mI (mg a c0) j = mI (mg a c) j := fun j hj => by
          by_cases q : j < 40
          · rw [mg_Il q, mg_Il q]
          · rw [mg_Ih q, mg_Ih q]; exact (F0.1 j (by simp; omega)).1
        have hR0 : RRows (mg a c0) z := hR.f (e 3 (by decide)) (e 43 (by decide)) (e 42 (by decide)) (by rw [e' 2 (by decide)])
        have hC0 : RChg (mg a c0) z x k := hC.f (by rw [e' 2 (by decide)]) (by rw [e' 2 (by decide)]) (by rw [e' 40 (by decide)]) (e 4 (by decide)) (e 5 (by decide)) (e 44 (by decide)) (e 45 (by decide)) (e 46 (by decide))
        have q3 := q_come hz hR0 hC0 q (dl 0 (by omega)) (dl 1 (by omega)) (dl 2 (by omega)) (dl 3 (by omega)) (mg_chg g1) (mg_come g2)
        have F2 := come_q g2
        rw [drS_e] at h1
        rw [mdS_e] at h2
        have q4 := ih a1 c1 (sd n 4) _ _ _ r r' a' c' (sd_lt hn 4) q3.1 q3.2.1 (fun i hi => by rw [(g1.1.1 _ (by simp; omega)).1]; exact ha i hi) (fun i hi => by rw [(F2.1 41 (by simp)).2.1, (F0.1 41 (by simp)).2.1]; exact hc i hi) h1 h2
        obtain ⟨q5, x', k', i1, i2, i3, i4, i5, i6⟩ := q4
        refine ⟨q5, x', k', i1, i2, g1.1.tr i3, i4.trans g1.2.2.2.2.2.1, ((F0.wd (fun j hj => by simp at hj ⊢; omega)).tr (F2.wd (fun j hj => by simp at hj ⊢; omega))).tr i5, fun j hj => ?_⟩
        rw [i6 j hj]
        obtain ⟨ck, hk, rfl⟩ := g2
        show mI ck 40 j = _
        rw [hk.2.1, ud_n hj, (F0.1 40 (by simp)).1]
theorem mg_self {m : Mm} : mg m m = m := by
  have e1 : (fun k => if k < 40 then mI m k else mI m k) = mI m := by funext k; split <;> rfl
  have e2 : (fun k => if k < 40 then mA m k else mA m k) = mA m := by funext k; split <;> rfl
  show ((fun k => if k < 40 then mI m k else mI m k), (fun k => if k < 40 then mA m k else mA m k), _, _, _, _) = m
  rw [e1, e2]; rfl
theorem q_fill {m m1 m2 : Mm} {s b z : Nat → Nat} {B : Nat → Nat → Nat} {x k mk L u : Nat} {S : Nat → Qn} {x0 n r r' : Int32} (h : RR m s b z B x k mk L u S) (hc : rFill m x0 n r m1) (hm : rMfill m1 k x0 n r' m2) : r = r' ∧ RM m2 := by
  have hz := h.z
  have hs := h.sz
  rcases hc with ⟨q, rfl, rfl⟩ | ⟨N, q0, n1, n2, rfl, hc, hq⟩
  · rcases hm with ⟨_, rfl, rfl⟩ | ⟨N, q0, n1, n2, rfl, _⟩
    · exact ⟨rfl, _, _, _, _, _, _, _, _, _, _, h⟩
    · exfalso
      rcases q with q | q | q
      · exact q0 q
      · exact nI_nlt (b := 1) n1 (by omega) q
      · exact nI_nlt (a := 64) n2 (by omega) q
  · rcases hm with ⟨q, _⟩ | ⟨N', _, _, _, eN, hm, hq'⟩
    · exfalso
      rcases q with q | q | q
      · exact q0 q
      · exact nI_nlt (b := 1) n1 (by omega) q
      · exact nI_nlt (a := 64) n2 (by omega) q
    · have e := (nI_eq (by omega) (by omega)).mp eN
      subst e
      obtain ⟨X, hX, rfl⟩ := nI_of q0
      rw [nI_l hX] at hm
      have F1 : Fr [2, 3, 4, 5] m m1 := by
        clear hm hq' hq
        revert hc
        generalize hw : (0 : Int32) = w
        clear hw
        revert w
        have key : ∀ (t : Nat) (a : Mm) (sd w r : Int32) (a' : Mm), rFl sd w t a r a' → Fr [2, 3, 4, 5] a a' := by
          intro t
          induction t with
          | zero => intro a sd w r a' h; obtain ⟨_, rfl⟩ := h; exact Fr.rf
          | succ t ih =>
            intro a sd w r a' h
            rcases h with ⟨_, _, rfl⟩ | ⟨_, a1, g1, h1⟩
            · exact Fr.rf
            · exact g1.1.tr (ih _ _ _ _ _ h1)
        exact fun w hc => key _ _ _ _ _ _ hc
      have hRm : RRows (mg m m1) z := by
        refine h.1.f (mg_Al (by decide)) ?_ ?_ (by rw [mg_Il (by decide)])
        · rw [mg_Ah (by decide)]; exact (F1.1 43 (by simp)).2.1
        · rw [mg_Ah (by decide)]; exact (F1.1 42 (by simp)).2.1
      have hCm : RChg (mg m m1) z x k := by
        refine h.2.1.f (by rw [mg_Il (by decide)]) (by rw [mg_Il (by decide)]) (by rw [mg_Ih (by decide), (F1.1 40 (by simp)).1]) (mg_Al (by decide)) (mg_Al (by decide)) ?_ ?_ ?_
        · rw [mg_Ah (by decide)]; exact (F1.1 44 (by simp)).2.1
        · rw [mg_Ah (by decide)]; exact (F1.1 45 (by simp)).2.1
        · rw [mg_Ah (by decide)]; exact (F1.1 46 (by simp)).2.1
      obtain ⟨q5, x', k', i1, i2, i3, i4, i5, i6⟩ := q_fl hz N m m1 X x k 0 r r' m1 m2 hX hRm hCm (fun i hi => (hs i hi).1) (fun i hi => by rw [(F1.1 41 (by simp)).2.1]; exact (hs i hi).2) hc hm
      have eA : ∀ j, j < 40 → mA m2 j = mA (mg m1 m2) j := fun j hj => by rw [mg_Al hj]; exact (i5.1 j (by simp; omega)).2.1
      have eI : ∀ j, j < 40 → mI m2 j = mI (mg m1 m2) j := fun j hj => by rw [mg_Il hj]; exact (i5.1 j (by simp; omega)).1
      have eB : ∀ j, ¬ j < 40 → mA m2 j = mA (mg m1 m2) j := fun j hj => (mg_Ah hj).symm
      have eJ : ∀ j, ¬ j < 40 → mI m2 j = mI (mg m1 m2) j := fun j hj => (mg_Ih hj).symm
      have hR2 : RRows m2 z := i1.f (eA 3 (by decide)) (eB 43 (by decide)) (eB 42 (by decide)) (by rw [eI 2 (by decide)])
      have hC2 : RChg m2 z x' k' := i2.f (by rw [eI 2 (by decide)]) (by rw [eI 2 (by decide)]) (by rw [eJ 40 (by decide)]) (eA 4 (by decide)) (eA 5 (by decide)) (eB 44 (by decide)) (eB 45 (by decide)) (eB 46 (by decide))
      refine ⟨q5, _, _, _, _, _, _, _, _, _, _, h.chg hR2 hC2 ⟨(i3.wd (fun j hj => by simp at hj ⊢; omega)).tr (i5.wd (fun j hj => by simp at hj ⊢; omega)), ?_, fun j hj => ?_⟩⟩
      · rw [(i5.1 2 (by simp)).1, i4]
      · rw [i6 j hj, (F1.1 40 (by simp)).1]
