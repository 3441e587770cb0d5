/-! ===== each call on both: the class's contract, then the model's ===== -/
def ScI (MB' : Mt) (as : List Value) (m1 : Mm) (v : Int32) : Prop := ∃ QB : Po, Ct MB' 99 (.ref 40 :: as) (nn m1) (vw m1) QB ∧ ∀ r n f, QB r n f → ∃ m2 : Mm, r = some (.int v) ∧ n = nn m2 ∧ f = vw m2 ∧ RM m2
def ScL (MB' : Mt) (as : List Value) (m1 : Mm) (v : Int64) : Prop := ∃ QB : Po, Ct MB' 99 (.ref 40 :: as) (nn m1) (vw m1) QB ∧ ∀ r n f, QB r n f → ∃ m2 : Mm, r = some (.long v) ∧ n = nn m2 ∧ f = vw m2 ∧ RM m2
def TwI (MA MB' : Mt) (as : List Value) (m : Mm) : Prop := ∃ QA : Po, Ct MA 99 (.ref 1 :: as) (nn m) (vw m) QA ∧ ∀ r n f, QA r n f → ∃ (v : Int32) (m1 : Mm), r = some (.int v) ∧ n = nn m1 ∧ f = vw m1 ∧ ScI MB' as m1 v
def TwL (MA MB' : Mt) (as : List Value) (m : Mm) : Prop := ∃ QA : Po, Ct MA 99 (.ref 1 :: as) (nn m) (vw m) QA ∧ ∀ r n f, QA r n f → ∃ (v : Int64) (m1 : Mm), r = some (.long v) ∧ n = nn m1 ∧ f = vw m1 ∧ ScL MB' as m1 v
theorem sc_pI {M : Mt} {as : List Value} {m1 : Mm} {v v' : Int32} (h : Ct M 99 (.ref 40 :: as) (nn m1) (vw m1) (pI v' (nn m1) (vw m1))) (e : v = v') (hm : RM m1) : ScI M as m1 v := ⟨_, h, fun r n f q => ⟨m1, by rw [e]; exact q.1, q.2.1, q.2.2, hm⟩⟩
theorem sc_eI {M : Mt} {as : List Value} {m1 : Mm} {v : Int32} {R : Int32 → Mm → Prop} (h : Ct M 99 (.ref 40 :: as) (nn m1) (vw m1) (eI R)) (hr : ∀ v' m2, R v' m2 → v = v' ∧ RM m2) : ScI M as m1 v := ⟨_, h, fun r n f q => by
  obtain ⟨v', m2, q1, q2, q3, q4⟩ := q
  obtain ⟨e, hm⟩ := hr v' m2 q4
  exact ⟨m2, by rw [e]; exact q1, q2, q3, hm⟩⟩
theorem sc_pL {M : Mt} {as : List Value} {m1 : Mm} {v v' : Int64} (h : Ct M 99 (.ref 40 :: as) (nn m1) (vw m1) (pL v' (nn m1) (vw m1))) (e : v = v') (hm : RM m1) : ScL M as m1 v := ⟨_, h, fun r n f q => ⟨m1, by rw [e]; exact q.1, q.2.1, q.2.2, hm⟩⟩
theorem sc_eL {M : Mt} {as : List Value} {m1 : Mm} {v : Int64} {R : Int64 → Mm → Prop} (h : Ct M 99 (.ref 40 :: as) (nn m1) (vw m1) (eL R)) (hr : ∀ v' m2, R v' m2 → v = v' ∧ RM m2) : ScL M as m1 v := ⟨_, h, fun r n f q => by
  obtain ⟨v', m2, q1, q2, q3, q4⟩ := q
  obtain ⟨e, hm⟩ := hr v' m2 q4
  exact ⟨m2, by rw [e]; exact q1, q2, q3, hm⟩⟩
theorem tw_pI {MA MB' : Mt} {as : List Value} {m : Mm} {v : Int32} (h : Ct MA 99 (.ref 1 :: as) (nn m) (vw m) (pI v (nn m) (vw m))) (hs : ScI MB' as m v) : TwI MA MB' as m := ⟨_, h, fun r n f q => ⟨v, m, q.1, q.2.1, q.2.2, hs⟩⟩
theorem tw_eI {MA MB' : Mt} {as : List Value} {m : Mm} {R : Int32 → Mm → Prop} (h : Ct MA 99 (.ref 1 :: as) (nn m) (vw m) (eI R)) (hs : ∀ v m1, R v m1 → ScI MB' as m1 v) : TwI MA MB' as m := ⟨_, h, fun r n f q => by
  obtain ⟨v, m1, q1, q2, q3, q4⟩ := q
  exact ⟨v, m1, q1, q2, q3, hs v m1 q4⟩⟩
theorem tw_pL {MA MB' : Mt} {as : List Value} {m : Mm} {v : Int64} (h : Ct MA 99 (.ref 1 :: as) (nn m) (vw m) (pL v (nn m) (vw m))) (hs : ScL MB' as m v) : TwL MA MB' as m := ⟨_, h, fun r n f q => ⟨v, m, q.1, q.2.1, q.2.2, hs⟩⟩
theorem tw_eL {MA MB' : Mt} {as : List Value} {m : Mm} {R : Int64 → Mm → Prop} (h : Ct MA 99 (.ref 1 :: as) (nn m) (vw m) (eL R)) (hs : ∀ v m1, R v m1 → ScL MB' as m1 v) : TwL MA MB' as m := ⟨_, h, fun r n f q => by
  obtain ⟨v, m1, q1, q2, q3, q4⟩ := q
  exact ⟨v, m1, q1, q2, q3, hs v m1 q4⟩⟩
/-! what the model's contracts ask for -/
def MdE (m m1 : Mm) : Prop := ∀ k, 40 ≤ k → k < 66 → mI m1 k = mI m k ∧ mA m1 k = mA m k
theorem MdE.rf {m : Mm} : MdE m m := fun _ _ _ => ⟨rfl, rfl⟩
theorem MdE.of {ks : List Nat} {m m1 : Mm} (F : Fr ks m m1) (h : ∀ k, k ∈ ks → ¬ (40 ≤ k ∧ k < 66)) : MdE m m1 := fun k h1 h2 => ⟨(F.1 k (fun q => h k q ⟨h1, h2⟩)).1, (F.1 k (fun q => h k q ⟨h1, h2⟩)).2.1⟩
theorem MdE.A {m m1 : Mm} (h : MdE m m1) {k : Nat} (h1 : 40 ≤ k) (h2 : k < 66) : mA m1 k = mA m k := (h k h1 h2).2
theorem RR.mb {m m1 : Mm} {s b z : Nat → Nat} {B : Nat → Nat → Nat} {x k mk L u : Nat} {S : Nat → Qn} (h : RR m s b z B x k mk L u S) (E : MdE m m1) : MB m1 k := ⟨by rw [E.A (by omega) (by omega)]; exact h.1.2.1, by rw [E.A (by omega) (by omega)]; exact h.2.1.2.2.2.2.2.1, h.2.1.2.1, by rw [(E 40 (by omega) (by omega)).1]; exact h.2.1.2.2.2.2.1⟩
theorem RR.mc {m m1 : Mm} {s b z : Nat → Nat} {B : Nat → Nat → Nat} {x k mk L u : Nat} {S : Nat → Qn} (h : RR m s b z B x k mk L u S) (E : MdE m m1) : MCs m1 s b z B := fun c hc => by
  obtain ⟨a1, a2, a3, a4, a5, a6, a7, g50, g52, g41, g51⟩ := (h.2.2.2.1 c hc).1
  exact ⟨a1, a2, a3, a4, a5, a6, a7, by rw [E.A (by omega) (by omega)]; exact g50, by rw [E.A (by omega) (by omega)]; exact g52, by rw [E.A (by omega) (by omega)]; exact g41, fun j hj => by rw [E.A (by omega) (by omega)]; exact g51 j hj⟩
theorem RR.no {m m1 : Mm} {s b z : Nat → Nat} {B : Nat → Nat → Nat} {x k mk L u : Nat} {S : Nat → Qn} (h : RR m s b z B x k mk L u S) (E : MdE m m1) : NOk m1 := fun i _ => by rw [E.A (by omega) (by omega)]; exact h.1.2.2.1 i
theorem RR.lo {m m1 : Mm} {s b z : Nat → Nat} {B : Nat → Nat → Nat} {x k mk L u : Nat} {S : Nat → Qn} (h : RR m s b z B x k mk L u S) (E : MdE m m1) : LOk (mA m1 64) := by rw [E.A (by omega) (by omega)]; exact h.2.2.2.2.2.2.2
theorem RR.qx {m m1 : Mm} {s b z : Nat → Nat} {B : Nat → Nat → Nat} {x k mk L u q : Nat} {S : Nat → Qn} (h : RR m s b z B x k mk L u S) (E : MdE m m1) (hq : q < u) : Qx m1 q u (S q) s b z B := by
  obtain ⟨hu8, hmq, h16, h34, h27, hque⟩ := h.2.2.2.2.2.1
  obtain ⟨⟨d1, d2, d3, d4, d5, d6⟩, -⟩ := hque q hq
  exact ⟨hq, hu8, by rw [(E 40 (by omega) (by omega)).1]; exact h27, ⟨d1, by rw [E.A (by omega) (by omega)]; exact d2, d3, d4, d5, Qr_c (E.A (by omega) (by omega)) (E.A (by omega) (by omega)) (S q) 0 d6⟩, h.mc E, h.no E⟩
theorem RR.rm {m : Mm} {s b z : Nat → Nat} {B : Nat → Nat → Nat} {x k mk L u : Nat} {S : Nat → Qn} (h : RR m s b z B x k mk L u S) : RM m := ⟨_, _, _, _, _, _, _, _, _, _, h⟩
theorem RR.x5 {m : Mm} {s b z : Nat → Nat} {B : Nat → Nat → Nat} {x k mk L u : Nat} {S : Nat → Qn} (h : RR m s b z B x k mk L u S) : x < 100 ∧ mI m 2 5 = nI x := ⟨h.2.1.1, h.2.1.2.2.1⟩
theorem col4 (x : Int32) : (x < 0 ∨ 4 ≤ x) ∨ ∃ c, c < 4 ∧ x = nI c := by
  rcases pk_ix x (n := 4) (by omega) with h | h | h
  · exact Or.inl (Or.inl h)
  · exact Or.inl (Or.inr h)
  · exact Or.inr h
theorem nc4 {c : Nat} (hc : c < 4) : ¬ (nI c < 0 ∨ 4 ≤ nI c) := fun q => by
  rcases q with q | q
  · exact (nI_4 hc).1 q
  · exact (nI_4 hc).2 q
/-- one column changed, its room as it was -/
theorem RR.c1 {m m2 : Mm} {s b z : Nat → Nat} {B : Nat → Nat → Nat} {x k mk L u c : Nat} {S : Nat → Qn} (h : RR m s b z B x k mk L u S) (hc : c < 4) (F : Fr [8 + 6 * c, 53] m m2) (h53 : ∀ j, ¬ j / 64 = c → mA m2 53 j = mA m 53 j) (e : mA m2 (8 + 6 * c) = mA m (8 + 6 * c)) (hcol : RCol m2 c (s c) (b c) (z c) (B c)) : RM m2 := by
  have fA : ∀ j, ¬ j = 8 + 6 * c → ¬ j = 53 → mA m2 j = mA m j := fun j h1 h2 => (F.1 j (by simp; omega)).2.1
  have fI : ∀ j, ¬ j = 8 + 6 * c → ¬ j = 53 → mI m2 j = mI m j := fun j h1 h2 => (F.1 j (by simp; omega)).1
  have f2 : mI m2 2 = mI m 2 := fI 2 (by omega) (by omega)
  have f40 : mI m2 40 = mI m 40 := fI 40 (by omega) (by omega)
  refine RR.rm (s := s) (b := b) (z := z) (B := B) (x := x) (k := k) (mk := mk) (L := L) (u := u) (S := S) ⟨h.1.f (fA 3 (by omega) (by omega)) (fA 43 (by omega) (by omega)) (fA 42 (by omega) (by omega)) (by rw [f2]), h.2.1.f (by rw [f2]) (by rw [f2]) (by rw [f40]) (fA 4 (by omega) (by omega)) (fA 5 (by omega) (by omega)) (fA 44 (by omega) (by omega)) (fA 45 (by omega) (by omega)) (fA 46 (by omega) (by omega)), h.2.2.1.f (by rw [f2]) (by rw [f40]) (fA 6 (by omega) (by omega)) (fA 47 (by omega) (by omega)) (fA 48 (by omega) (by omega)), fun j hj => ?_, h.2.2.2.2.1.f (by rw [fI 32 (by omega) (by omega)]) (by rw [f40]) (fA 33 (by omega) (by omega)) (fA 56 (by omega) (by omega)), h.2.2.2.2.2.1.f F.2.1 F.2.2 (by rw [fI 1 (by omega) (by omega)]) (by rw [fI 34 (by omega) (by omega)]) (by rw [f40]) (fA 57 (by omega) (by omega)) (fA 58 (by omega) (by omega)) (fA 59 (by omega) (by omega)) (fun q _ => fI _ (by omega) (by omega)) (fun q _ => fA _ (by omega) (by omega)), h.2.2.2.2.2.2.1.f (by rw [fI 1 (by omega) (by omega)]) (by rw [fI 1 (by omega) (by omega)]) (by rw [f40]) (by rw [f40]), by rw [fA 64 (by omega) (by omega)]; exact h.2.2.2.2.2.2.2⟩
  by_cases q : j = c
  · subst q; exact hcol
  · exact (h.2.2.2.1 j hj).p (fI _ (by omega) (by omega)) (fA _ (by omega) (by omega)) (fA _ (by omega) (by omega)) (fA _ (by omega) (by omega)) ((F.1 _ (by simp; omega)).2.2.1) ((F.1 _ (by simp; omega)).2.2.2) (by rw [fA 41 (by omega) (by omega)]) (by rw [fA 50 (by omega) (by omega)]) (fun a _ => by rw [fA 51 (by omega) (by omega)]) (by rw [fA 52 (by omega) (by omega)]) (fun v hv => h53 _ (by omega)) hcol.2.2.2.2.2.2.2.2.2.2.2
/-- only the model's trial bases differ -/
theorem RR.tk {m m2 : Mm} {s b z : Nat → Nat} {B : Nat → Nat → Nat} {x k mk L u c n : Nat} {S : Nat → Qn} (h : RR m s b z B x k mk L u S) (T : rTake m c n m2) : RM m2 := by
  obtain ⟨F, e, -⟩ := T
  have q := F.sM (fun k hk => by simp at hk; omega) (by rw [e, ud_n (by decide)]) (by rw [e, ud_n (by decide)]) (by rw [e, ud_n (by decide)]) (by rw [e, ud_n (by decide)])
  exact RR.rm (h.same q.1 q.2 (h.2.2.2.2.2.2.1.f (by rw [(F.1 1 (by simp)).1]) (by rw [(F.1 1 (by simp)).1]) (by rw [e, ud_n (by decide)]) (by rw [e, ud_n (by decide)])) (by rw [(F.1 64 (by simp)).2.1]; exact h.2.2.2.2.2.2.2))
theorem RR.fv {m m2 : Mm} {s b z : Nat → Nat} {B : Nat → Nat → Nat} {x k mk L u : Nat} {S : Nat → Qn} (h : RR m s b z B x k mk L u S) (T : rFvs m m2) : RM m2 := by
  rcases T with rfl | ⟨j, p, rfl⟩
  · exact h.rm
  · have F : Fr [40] m (fvM m j p) := by unfold fvM; exact Fr.s40 (Fr.s40 Fr.rf (by simp)) (by simp)
    have e : ∀ i, ¬ i = 17 → ¬ i = 18 → mI (fvM m j p) 40 i = mI m 40 i := fun i h1 h2 => by
      unfold fvM
      rw [s40_I, ud_n h2, s40_I, ud_n h1]
    have q := F.sM (fun k hk => by simp at hk; omega) (e 3 (by decide) (by decide)) (e 7 (by decide) (by decide)) (e 26 (by decide) (by decide)) (e 27 (by decide) (by decide))
    exact RR.rm (h.same q.1 q.2 (h.2.2.2.2.2.2.1.f (by rw [(F.1 1 (by simp)).1]) (by rw [(F.1 1 (by simp)).1]) (e 19 (by decide) (by decide)) (e 45 (by decide) (by decide))) (by rw [(F.1 64 (by simp)).2.1]; exact h.2.2.2.2.2.2.2))
