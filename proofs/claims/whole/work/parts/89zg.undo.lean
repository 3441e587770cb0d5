/-! ===== undo, mark, back: class and model ===== -/
theorem q_undo {m m1 m2 : Mm} {s b z : Nat → Nat} {B : Nat → Nat → Nat} {x k mk L u i : Nat} {S : Nat → Qn} {r r' : Int32} (h : RR m s b z B x (k + 1) mk L u S) (hi : i < 64) (hl : mA m 44 k = nI i) (hc : rUndoF m r m1) (hm : rMundo m1 i k r' m2) : r = r' ∧ RM m2 := by
  have hz := h.z
  obtain ⟨r1, r2, r3, r4⟩ := h.1
  obtain ⟨c1, c2, c3, c4, c5, c6, c7, c8⟩ := h.2.1
  obtain ⟨⟨f1, j, j1, j2, a25, a26, a27, a3, a24⟩, rfl⟩ := hc
  obtain ⟨rfl, f2, b40, b43, b42⟩ := hm
  have ej : j = (x + 99) % 100 := by
    rw [j2, c3]
    rcases Nat.eq_zero_or_pos x with q | q
    · subst q; rfl
    · rw [if_pos (show (0 : Int32) < nI x from nI_lt (a := 0) q (by omega)), nI_p q, nI_clamp (by omega)]; omega
  obtain ⟨d1, d2, d3⟩ := c8 k (by omega)
  have ep : (x + 100 - (k + 1) + k) % 100 = j := by omega
  rw [ep] at d2 d3
  rw [d2, hl, nI_clamp (by omega)] at a3 a24
  have e42 : mA m1 42 = mA m 42 := (f1.1 42 (by simp)).2.1
  have e43 : mA m1 43 = mA m 43 := (f1.1 43 (by simp)).2.1
  have e45 : mA m1 45 = mA m 45 := (f1.1 45 (by simp)).2.1
  have e46 : mA m1 46 = mA m 46 := (f1.1 46 (by simp)).2.1
  have x2 : mI m2 2 = mI m1 2 := (f2.1 2 (by simp)).1
  have x3 : mA m2 3 = upd (mA m 3) i (mA m 5 j) := ((f2.1 3 (by simp)).2.1).trans a3
  have x43 : mA m2 43 = upd (mA m 43) i (mA m 45 k) := by rw [b43, e43, e45]
  have x42 : mA m2 42 = cpF (mA m 42) (mA m 46) (4 * i) (4 * k) 4 := by rw [b42, e42, e46]
  have x45 : mA m2 45 = mA m 45 := ((f2.1 45 (by simp)).2.1).trans e45
  have x46 : mA m2 46 = mA m 46 := ((f2.1 46 (by simp)).2.1).trans e46
  have x44 : mA m2 44 = mA m 44 := ((f2.1 44 (by simp)).2.1).trans (f1.1 44 (by simp)).2.1
  have x4 : mA m2 4 = mA m 4 := ((f2.1 4 (by simp)).2.1).trans (f1.1 4 (by simp)).2.1
  have x5 : mA m2 5 = mA m 5 := ((f2.1 5 (by simp)).2.1).trans (f1.1 5 (by simp)).2.1
  have e26 : mI m1 2 6 = nI k := by rw [a26, c4, nI_m1]
  have hR : RRows m2 z := by
    refine ⟨fun l hl => ?_, ?_, ?_, ?_⟩
    · rw [x3, x43, x42]
      by_cases e : l = i
      · subst e
        rw [ud_e, ud_e]
        refine d3.cg (fun c hc => ?_)
        show cpF (mA m 42) (mA m 46) (4 * l) (4 * k) 4 (4 * l + c) = mA m 46 (4 * k + c)
        unfold cpF; rw [if_pos (by omega)]; congr 1; omega
      · rw [ud_n e, ud_n e]
        refine (r1 l hl).cg (fun c hc => ?_)
        show cpF (mA m 42) (mA m 46) (4 * i) (4 * k) 4 (4 * l + c) = mA m 42 (4 * l + c)
        unfold cpF; rw [if_neg (by omega)]
    · rw [x43]; exact bl_upd r2 (c6 k)
    · rw [x42]; exact r3.cp c7
    · rw [x2, x3, cnR_upd hi, ← r4]; exact a24
  have hC : RChg m2 z j k := by
    refine ⟨j1, by omega, by rw [x2]; exact a25, by rw [x2]; exact e26, by rw [b40, ud_e], by rw [x45]; exact c6, by rw [x46]; exact c7, fun a ha => ?_⟩
    rw [x44, x45, x46, x4, x5, show (j + 100 - k + a) % 100 = (x + 100 - (k + 1) + a) % 100 by omega]
    exact c8 a (by omega)
  refine ⟨e26, _, _, _, _, _, _, _, _, _, _, h.chg hR hC ⟨(f1.wd (fun j hj => by simp at hj ⊢; omega)).tr (f2.wd (fun j hj => by simp at hj ⊢; omega)), by rw [x2]; exact a27, fun a ha => ?_⟩⟩
  rw [b40, ud_n ha, (f1.1 40 (by simp)).1]
theorem RR.mrk {m m' : Mm} {s b z : Nat → Nat} {B : Nat → Nat → Nat} {x k mk L u x' k' mk' : Nat} {S : Nat → Qn} (h : RR m s b z B x k mk L u S) (hR : RRows m' z) (hC : RChg m' z x' k') (hM : RMrk m' z mk') (F : Fr [2, 3, 6, 40, 42, 43, 47, 48] m m') (e40 : ∀ j, ¬ j = 3 → ¬ j = 7 → mI m' 40 j = mI m 40 j) : RR m' s b z B x' k' mk' L u S := by
  obtain ⟨-, -, -, h4, h5, h6, h7, h8⟩ := h
  have fI : ∀ j, j ∉ [2, 3, 6, 40, 42, 43, 47, 48] → mI m' j = mI m j := fun j hj => (F.1 j hj).1
  have fA : ∀ j, j ∉ [2, 3, 6, 40, 42, 43, 47, 48] → mA m' j = mA m j := fun j hj => (F.1 j hj).2.1
  refine ⟨hR, hC, hM, fun c hc => ?_, h5.f (by rw [fI 32 (by simp)]) (e40 26 (by decide) (by decide)) (fA 33 (by simp)) (fA 56 (by simp)), ?_, ?_, ?_⟩
  · exact (h4 c hc).f (fI _ (by simp; omega)) (fA _ (by simp; omega)) (fA _ (by simp; omega)) (fA _ (by simp; omega)) ((F.1 _ (by simp; omega)).2.2.1) ((F.1 _ (by simp; omega)).2.2.2) (fA 41 (by simp)) (fA 50 (by simp)) (fA 51 (by simp)) (fA 52 (by simp)) (fA 53 (by simp))
  · exact h6.f F.2.1 F.2.2 (by rw [fI 1 (by simp)]) (by rw [fI 34 (by simp)]) (e40 27 (by decide) (by decide)) (fA 57 (by simp)) (fA 58 (by simp)) (fA 59 (by simp)) (fun q hq => fI _ (by simp; omega)) (fun q hq => fA _ (by simp; omega))
  · exact h7.f (by rw [fI 1 (by simp)]) (by rw [fI 1 (by simp)]) (e40 19 (by decide) (by decide)) (e40 45 (by decide) (by decide))
  · rw [fA 64 (by simp)]; exact h8
theorem bl_cp {g h : Nat → Int32} {b a n : Nat} (hg : ∀ j, bl01 (g j)) (hh : ∀ j, bl01 (h j)) : ∀ j, bl01 (cpF g h b a n j) := fun j => by
  unfold cpF
  split
  · exact hh _
  · exact hg j
theorem q_mark {m m1 m2 : Mm} {s b z : Nat → Nat} {B : Nat → Nat → Nat} {x k mk L u : Nat} {S : Nat → Qn} {r r' : Int32} (h : RR m s b z B x k mk L u S) (hk : mk < 3) (hc : rMarkF m mk r m1) (hm : rMmark m1 mk r' m2) : r = r' ∧ RM m2 := by
  obtain ⟨r1, r2, r3, r4⟩ := h.1
  obtain ⟨k1, k2, k3, k4, k5, k6⟩ := h.2.2.1
  obtain ⟨⟨f1, a24, a25, a26, a27, a6⟩, rfl⟩ := hc
  obtain ⟨rfl, f2, b40, b47, b48⟩ := hm
  have x2 : mI m2 2 = mI m1 2 := (f2.1 2 (by simp)).1
  have fA : ∀ j, ¬ j = 6 → ¬ j = 2 → ¬ j = 40 → ¬ j = 47 → ¬ j = 48 → mA m2 j = mA m j := fun j q1 q2 q3 q4 q5 => ((f2.1 j (by simp; omega)).2.1).trans ((f1.1 j (by simp; omega)).2.1)
  have x6 : mA m2 6 = fb_put (mA m 6) (mA m 3) (64 * mk) 64 := ((f2.1 6 (by simp)).2.1).trans a6
  have x47 : mA m2 47 = cpF (mA m 47) (mA m 43) (64 * mk) 0 64 := by rw [b47, (f1.1 47 (by simp)).2.1, (f1.1 43 (by simp)).2.1]
  have x48 : mA m2 48 = cpF (mA m 48) (mA m 42) (256 * mk) 0 256 := by rw [b48, (f1.1 48 (by simp)).2.1, (f1.1 42 (by simp)).2.1]
  have e40 : ∀ j, ¬ j = 7 → mI m2 40 j = mI m 40 j := fun j hj => by rw [b40, ud_n hj, (f1.1 40 (by simp)).1]
  have hR : RRows m2 z := h.1.f (fA 3 (by decide) (by decide) (by decide) (by decide) (by decide)) (fA 43 (by decide) (by decide) (by decide) (by decide) (by decide)) (fA 42 (by decide) (by decide) (by decide) (by decide) (by decide)) (by rw [x2, a24])
  have hC : RChg m2 z x k := h.2.1.f (by rw [x2, a25]) (by rw [x2, a26]) (e40 3 (by decide)) (fA 4 (by decide) (by decide) (by decide) (by decide) (by decide)) (fA 5 (by decide) (by decide) (by decide) (by decide) (by decide)) (fA 44 (by decide) (by decide) (by decide) (by decide) (by decide)) (fA 45 (by decide) (by decide) (by decide) (by decide) (by decide)) (fA 46 (by decide) (by decide) (by decide) (by decide) (by decide))
  have hM : RMrk m2 z (mk + 1) := by
    refine ⟨by omega, by rw [x2]; exact a27, by rw [b40, ud_e], by rw [x47]; exact bl_cp k4 r2, by rw [x48]; exact k5.cp r3, fun q l hq hl => ?_⟩
    rw [x6, x47, x48]
    by_cases e : q = mk
    · subst e
      rw [fb_put_in (by omega) (by omega), Nat.add_sub_cancel_left]
      have e47 : cpF (mA m 47) (mA m 43) (64 * q) 0 64 (64 * q + l) = mA m 43 l := by unfold cpF; rw [if_pos (by omega)]; congr 1; omega
      rw [e47]
      refine (r1 l hl).cg (fun c hc => ?_)
      show cpF (mA m 48) (mA m 42) (256 * q) 0 256 (256 * q + 4 * l + c) = mA m 42 (4 * l + c)
      unfold cpF; rw [if_pos (by omega)]; congr 1; omega
    · rw [fb_put_out (by omega)]
      have e47 : cpF (mA m 47) (mA m 43) (64 * mk) 0 64 (64 * q + l) = mA m 47 (64 * q + l) := by unfold cpF; rw [if_neg (by omega)]
      rw [e47]
      refine (k6 q l (by omega) hl).cg (fun c hc => ?_)
      show cpF (mA m 48) (mA m 42) (256 * mk) 0 256 (256 * q + 4 * l + c) = mA m 48 (256 * q + 4 * l + c)
      unfold cpF; rw [if_neg (by omega)]
  exact ⟨a27, _, _, _, _, _, _, _, _, _, _, h.mrk hR hC hM ((f1.wd (fun j hj => by simp at hj ⊢; omega)).tr (f2.wd (fun j hj => by simp at hj ⊢; omega))) (fun j _ hj => e40 j hj)⟩
theorem q_back {m m1 m2 : Mm} {s b z : Nat → Nat} {B : Nat → Nat → Nat} {x k mk L u i : Nat} {S : Nat → Qn} {r r' : Int32} (h : RR m s b z B x k mk L u S) (hi : i < mk) (hc : rBackF m i r m1) (hm : rMback m1 i r' m2) : r = r' ∧ RM m2 := by
  have hz := h.z
  obtain ⟨r1, r2, r3, r4⟩ := h.1
  obtain ⟨c1, c2, c3, c4, c5, c6, c7, c8⟩ := h.2.1
  obtain ⟨k1, k2, k3, k4, k5, k6⟩ := h.2.2.1
  obtain ⟨⟨f1, a3, a24, a25, a26, a27⟩, rfl⟩ := hc
  obtain ⟨rfl, f2, b40, b43, b42⟩ := hm
  have x2 : mI m2 2 = mI m1 2 := (f2.1 2 (by simp)).1
  have x3 : mA m2 3 = mA m1 3 := (f2.1 3 (by simp)).2.1
  have fA : ∀ j, ¬ j = 3 → ¬ j = 2 → ¬ j = 40 → ¬ j = 42 → ¬ j = 43 → mA m2 j = mA m j := fun j q1 q2 q3 q4 q5 => ((f2.1 j (by simp; omega)).2.1).trans ((f1.1 j (by simp; omega)).2.1)
  have x43 : mA m2 43 = cpF (mA m 43) (mA m 47) 0 (64 * i) 64 := by rw [b43, (f1.1 47 (by simp)).2.1, (f1.1 43 (by simp)).2.1]
  have x42 : mA m2 42 = cpF (mA m 42) (mA m 48) 0 (256 * i) 256 := by rw [b42, (f1.1 48 (by simp)).2.1, (f1.1 42 (by simp)).2.1]
  have hR : RRows m2 z := by
    refine ⟨fun l hl => ?_, by rw [x43]; exact bl_cp r2 k4, by rw [x42]; exact r3.cp k5, by rw [x2, x3]; exact a24⟩
    rw [x3, a3 l hl, x43, x42]
    have e43 : cpF (mA m 43) (mA m 47) 0 (64 * i) 64 l = mA m 47 (64 * i + l) := by unfold cpF; rw [if_pos (by omega)]; congr 1
    rw [e43]
    refine (k6 i l hi hl).cg (fun c hc => ?_)
    show cpF (mA m 42) (mA m 48) 0 (256 * i) 256 (4 * l + c) = mA m 48 (256 * i + 4 * l + c)
    unfold cpF; rw [if_pos (by omega)]; congr 1; omega
  have hC : RChg m2 z x 0 := by
    refine ⟨c1, by omega, by rw [x2, a25]; exact c3, by rw [x2, a26]; rfl, by rw [b40, ud_e]; rfl, ?_, ?_, fun j hj => absurd hj (Nat.not_lt_zero j)⟩
    · rw [fA 45 (by decide) (by decide) (by decide) (by decide) (by decide)]; exact c6
    · rw [fA 46 (by decide) (by decide) (by decide) (by decide) (by decide)]; exact c7
  have hM : RMrk m2 z (i + 1) := by
    refine ⟨by omega, by rw [x2]; exact a27, by rw [b40, ud_n (by decide), ud_e], ?_, ?_, fun q l hq hl => ?_⟩
    · rw [fA 47 (by decide) (by decide) (by decide) (by decide) (by decide)]; exact k4
    · rw [fA 48 (by decide) (by decide) (by decide) (by decide) (by decide)]; exact k5
    · rw [fA 6 (by decide) (by decide) (by decide) (by decide) (by decide), fA 47 (by decide) (by decide) (by decide) (by decide) (by decide), fA 48 (by decide) (by decide) (by decide) (by decide) (by decide)]
      exact k6 q l (by omega) hl
  refine ⟨?_, _, _, _, _, _, _, _, _, _, _, h.mrk hR hC hM ((f1.wd (fun j hj => by simp at hj ⊢; omega)).tr (f2.wd (fun j hj => by simp at hj ⊢; omega))) (fun j h3 h7 => ?_)⟩
  · rw [cn_e hz hR 64 (by omega), ← hR.2.2.2, x2]
  · rw [b40, ud_n h3, ud_n h7, (f1.1 40 (by simp)).1]
