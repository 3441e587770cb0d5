/-! ===== each call, on class and model ===== -/
theorem Fr.md {ks : List Nat} {m m1 : Mm} (F : Fr ks m m1) (h : ∀ k, k ∈ ks → ¬ (40 ≤ k ∧ k < 66)) : MdE m m1 := MdE.of F h
theorem rChange.md {m m1 : Mm} {i : Nat} {v : Int32} (h : rChange m i v m1) : MdE m m1 := h.1.md (fun k hk => by simp at hk; omega)
theorem t_size {m : Mm} {x v : Int32} (h : RM m) : TwI MX7_size MX8_size [.int x, .int v] m := by
  obtain ⟨s, b, z, B, x0, k, mk, L, u, S, h⟩ := h
  refine tw_eI (c_size rfl) (fun r m1 hc => ?_)
  rcases col4 x with hx | ⟨c, hc4, rfl⟩
  · have : r = -101 ∧ m1 = m := by
      rcases hc with ⟨_, q1, q2⟩ | ⟨i, hi, rfl, _⟩
      · exact ⟨q1, q2⟩
      · exact absurd hx (nc4 hi)
    obtain ⟨rfl, rfl⟩ := this
    exact sc_pI (cm_size0 hx) rfl h.rm
  · exact sc_eI (cm_size hc4 rfl) (fun r' m2 hm => q_size h hc4 hc hm)
theorem t_row {m : Mm} {a0 a1 a2 a3 : Int32} (h : RM m) : TwI MX7_row MX8_row [.int a0, .int a1, .int a2, .int a3] m := by
  obtain ⟨s, b, z, B, x0, k, mk, L, u, S, h⟩ := h
  refine tw_eI (c_row h.x5.1 h.x5.2 rfl) (fun r m1 hc => ?_)
  have E : MdE m m1 := by
    rcases hc with ⟨_, _, rfl⟩ | ⟨_, ⟨_, _, rfl⟩ | ⟨_, _, q⟩⟩
    · exact MdE.rf
    · exact MdE.rf
    · exact q.md
  exact sc_eI (cm_row (h.mb E) rfl) (fun r' m2 hm => q_row h hc hm)
theorem rFl_F : ∀ (t : Nat) (a : Mm) (sd w r : Int32) (a' : Mm), rFl sd w t a r a' → Fr [2, 3, 4, 5] a a' := by
  intro t
  induction t with
  | zero => intro a sd w r a' h; obtain ⟨_, rfl⟩ := h; exact Fr.rf
  | succ t ih =>
    intro a sd w r a' h
    rcases h with ⟨_, _, rfl⟩ | ⟨_, a1, g1, h1⟩
    · exact Fr.rf
    · exact g1.1.tr (ih _ _ _ _ _ h1)
theorem t_fill {m : Mm} {x n : Int32} (h : RM m) : TwI MX7_fill MX8_fill [.int x, .int n] m := by
  obtain ⟨s, b, z, B, x0, k, mk, L, u, S, h⟩ := h
  refine tw_eI (c_fill h.x5.1 h.x5.2 rfl) (fun r m1 hc => ?_)
  have E : MdE m m1 := by
    rcases hc with ⟨_, _, rfl⟩ | ⟨N, _, _, _, _, q, _⟩
    · exact MdE.rf
    · exact (rFl_F _ _ _ _ _ _ q).md (fun k hk => by simp at hk; omega)
  refine sc_eI (cm_fill (h.mb E) (fun i hi => ?_) rfl) (fun r' m2 hm => q_fill h hc hm)
  have zi := h.z i hi
  rw [E.A (by omega) (by omega), (h.sz i hi).2, nI_l (by omega)]
  intro e
  have := (pk_lEQ (a := z i) (b := 0) (by omega) (by omega)).mp e
  omega
theorem tt_set {m : Mm} {x c v : Int32} (h : RM m) : TwI MX7_set MX8_set [.int x, .int c, .int v] m := by
  obtain ⟨s, b, z, B, x0, k, mk, L, u, S, h⟩ := h
  refine tw_eI (c_set h.x5.1 h.x5.2 rfl) (fun r m1 hc => ?_)
  have E : MdE m m1 := by
    rcases hc with ⟨_, _, rfl⟩ | ⟨i, j, _, _, _, _, _, ⟨_, _, rfl⟩ | ⟨_, _, _, q⟩⟩
    · exact MdE.rf
    · exact MdE.rf
    · exact q.md
  exact sc_eI (cm_set (h.mb E) rfl) (fun r' m2 hm => q_set h hc hm)
theorem t_drop {m : Mm} {x : Int32} (h : RM m) : TwI MX7_drop MX8_drop [.int x] m := by
  obtain ⟨s, b, z, B, x0, k, mk, L, u, S, h⟩ := h
  refine tw_eI (c_drop h.x5.1 h.x5.2 rfl) (fun r m1 hc => ?_)
  have E : MdE m m1 := by
    rcases hc with ⟨_, _, rfl⟩ | ⟨i, _, _, _, q, _⟩
    · exact MdE.rf
    · exact q.md
  exact sc_eI (cm_drop (h.mb E) rfl) (fun r' m2 hm => q_drop h hc hm)
theorem t_get {m : Mm} {x c : Int32} (h : RM m) : TwI MX7_get MX8_get [.int x, .int c] m := by
  obtain ⟨s, b, z, B, x0, k, mk, L, u, S, h⟩ := h
  exact tw_pI c_get (sc_pI cm_get (q_get h.z h.1) h.rm)
theorem t_design {m : Mm} {x so : Int32} {t : Int64} (h : RM m) : TwI MX7_design MX8_design [.int x, .int so, .long t] m := by
  obtain ⟨s, b, z, B, x0, k, mk, L, u, S, h⟩ := h
  rcases col4 x with hx | ⟨c, hc4, rfl⟩
  · exact tw_pI (c_design0 hx) (sc_pI (cm_design0 hx) rfl h.rm)
  · have zc := h.z c hc4
    refine tw_eI (c_design hc4 zc.2 (h.sz c hc4).1 rfl) (fun r m1 hc => ?_)
    have E : MdE m m1 := by
      rcases hc with ⟨_, _, rfl⟩ | ⟨_, T, _, _, _, w, hd, _⟩
      · exact MdE.rf
      · rcases hd with ⟨k0, _, _, _, q⟩ | ⟨_, _, q⟩
        · exact q.1.md (fun k hk => by simp at hk; omega)
        · exact q.md (fun k hk => by simp at hk; omega)
    exact sc_eI (cm_design hc4 zc.1 zc.2 (by rw [E.A (by omega) (by omega)]; exact (h.sz c hc4).2) rfl) (fun r' m2 hm => q_design h hc4 hc hm)
theorem t_about {m : Mm} {x w : Int32} (h : RM m) : TwI MX7_about MX8_about [.int x, .int w] m := by
  obtain ⟨s, b, z, B, x0, k, mk, L, u, S, h⟩ := h
  rcases col4 x with hx | ⟨c, hc4, rfl⟩
  · exact tw_pI (c_about0 hx) (sc_pI (cm_about0 hx) rfl h.rm)
  · exact tw_pI (c_about hc4) (sc_pI (cm_about (h.mc MdE.rf c hc4)) (q_about (h.col' c hc4)) h.rm)
theorem t_vector {m : Mm} {x v : Int32} (h : RM m) : TwL MX7_vector MX8_vector [.int x, .int v] m := by
  obtain ⟨s, b, z, B, x0, k, mk, L, u, S, h⟩ := h
  rcases col4 x with hx | ⟨c, hc4, rfl⟩
  · exact tw_pL (c_vector0 hx) (sc_pL (cm_vector0 hx) rfl h.rm)
  · have hcol := h.col' c hc4
    refine tw_pL (c_vector hc4 (h.z c hc4).2 (h.sz c hc4).1) (sc_eL (cm_vector (h.mc MdE.rf c hc4) hcol.2.1 (h.no MdE.rf) rfl) (fun r' m2 hm => ⟨q_vector h.z h.1 hcol hm, ?_⟩))
    rcases hm with ⟨_, _, rfl⟩ | ⟨w, _, _, ⟨_, _, rfl⟩ | ⟨_, _, q⟩⟩
    · exact h.rm
    · exact h.rm
    · exact h.fv (Or.inr ⟨_, _, q⟩)
theorem t_reads {m : Mm} {x w c0 : Int32} (h : RM m) : TwL MX7_reads MX8_reads [.int x, .int w, .int c0] m := by
  obtain ⟨s, b, z, B, x0, k, mk, L, u, S, h⟩ := h
  rcases col4 x with hx | ⟨c, hc4, rfl⟩
  · exact tw_pL (c_reads0 hx) (sc_pL (cm_reads0 hx) rfl h.rm)
  · have hcol := h.col' c hc4
    refine tw_pL (c_reads hc4 hcol.1.2.2.2.1 hcol.2.2.2.2.2.1) (sc_eL (cm_reads (h.mc MdE.rf c hc4) rfl) (fun r' m2 hm => ⟨q_reads hcol hm, ?_⟩))
    rcases hm with ⟨_, _, rfl⟩ | ⟨y, _, _, _, q⟩
    · exact h.rm
    · exact h.tk q
theorem t_cost {m : Mm} {x e l : Int32} (h : RM m) : TwI MX7_cost MX8_cost [.int x, .int e, .int l] m := by
  obtain ⟨s, b, z, B, x0, k, mk, L, u, S, h⟩ := h
  rcases col4 x with hx | ⟨c, hc4, rfl⟩
  · exact tw_pI (c_cost0 hx) (sc_pI (cm_cost0 hx) rfl h.rm)
  · by_cases hw : wgt e ∧ wgt l
    · have hcol := h.col' c hc4
      have hB := hcol.1.2.2.2.2.2.2.1
      have zc := h.z c hc4
      refine tw_pI (c_cost (B := B c) (S := pdN (B c)) hw.1 hw.2 hc4 hcol.1.2.2.2.1 hcol.2.2.2.2.2.1 zc.2 (h.sz c hc4).1 hcol.2.2.2.2.2.2.1 (fun j hj => ?_)) (sc_eI (cm_cost (h.mc MdE.rf c hc4) hw.1 hw.2 rfl) (fun r' m2 hm => ⟨?_, h.tk hm.2⟩))
      · have p := pd_lt hB hcol.2.2.1 hj
        exact ⟨(col_n hcol hj).2.2.1, p.1, by omega⟩
      · rw [hm.1]; exact q_cost hcol
    · exact tw_pI (c_cost1 hc4 hw) (sc_pI (cm_cost1 hc4 hw) rfl h.rm)
theorem t_best {m : Mm} {x R e l w : Int32} (h : RM m) : TwI MX7_best MX8_best [.int x, .int R, .int e, .int l, .int w] m := by
  obtain ⟨s, b, z, B, x0, k, mk, L, u, S, h⟩ := h
  rcases col4 x with hx | ⟨c, hc4, rfl⟩
  · exact tw_pI (c_best0 hx) (sc_pI (cm_best0 hx) rfl h.rm)
  · by_cases hw : okB R e l w
    · have zc := h.z c hc4
      refine tw_eI (c_best hc4 hw zc.2 (h.sz c hc4).1 rfl) (fun r m1 hc => ?_)
      have E : MdE m m1 := by
        rcases hc with ⟨_, _, rfl⟩ | ⟨_, ⟨F, _⟩, _⟩
        · exact MdE.rf
        · refine fun k h1 h2 => ⟨?_, ?_⟩
          · rw [(F.1 k (by simp; omega)).1, mI_sI, va_up_ne _ _ (by omega)]
          · rw [(F.1 k (by simp; omega)).2.1, mA_sI]
      exact sc_eI (cm_best hc4 hw zc.2 (by rw [E.A (by omega) (by omega)]; exact (h.sz c hc4).2) rfl) (fun r' m2 hm => q_best h hc4 hw hc hm)
    · exact tw_pI (c_best1 hc4 hw) (sc_pI (cm_best1 hc4 hw) rfl h.rm)
theorem RR.pg {m m2 : Mm} {s b z : Nat → Nat} {B : Nat → Nat → Nat} {x k mk L L' u : Nat} {S : Nat → Qn} (h : RR m s b z B x k mk L u S) (hP : RPag m2 L') (F : Fr [32, 33, 40, 56] m m2) (e40 : ∀ j, ¬ j = 26 → mI m2 40 j = mI m 40 j) : RM m2 := by
  have fA : ∀ j, ¬ j = 32 → ¬ j = 33 → ¬ j = 40 → ¬ j = 56 → mA m2 j = mA m j := fun j h1 h2 h3 h4 => (F.1 j (by simp; omega)).2.1
  have fI : ∀ j, ¬ j = 32 → ¬ j = 33 → ¬ j = 40 → ¬ j = 56 → mI m2 j = mI m j := fun j h1 h2 h3 h4 => (F.1 j (by simp; omega)).1
  have f2 : mI m2 2 = mI m 2 := fI 2 (by omega) (by omega) (by omega) (by omega)
  have f1 : mI m2 1 = mI m 1 := fI 1 (by omega) (by omega) (by omega) (by omega)
  refine RR.rm (s := s) (b := b) (z := z) (B := B) (x := x) (k := k) (mk := mk) (L := L') (u := u) (S := S) ⟨h.1.f (fA 3 (by omega) (by omega) (by omega) (by omega)) (fA 43 (by omega) (by omega) (by omega) (by omega)) (fA 42 (by omega) (by omega) (by omega) (by omega)) (by rw [f2]), h.2.1.f (by rw [f2]) (by rw [f2]) (e40 3 (by omega)) (fA 4 (by omega) (by omega) (by omega) (by omega)) (fA 5 (by omega) (by omega) (by omega) (by omega)) (fA 44 (by omega) (by omega) (by omega) (by omega)) (fA 45 (by omega) (by omega) (by omega) (by omega)) (fA 46 (by omega) (by omega) (by omega) (by omega)), h.2.2.1.f (by rw [f2]) (e40 7 (by omega)) (fA 6 (by omega) (by omega) (by omega) (by omega)) (fA 47 (by omega) (by omega) (by omega) (by omega)) (fA 48 (by omega) (by omega) (by omega) (by omega)), fun c hc => ?_, hP, h.2.2.2.2.2.1.f F.2.1 F.2.2 (by rw [f1]) (by rw [fI 34 (by omega) (by omega) (by omega) (by omega)]) (e40 27 (by omega)) (fA 57 (by omega) (by omega) (by omega) (by omega)) (fA 58 (by omega) (by omega) (by omega) (by omega)) (fA 59 (by omega) (by omega) (by omega) (by omega)) (fun q _ => fI _ (by omega) (by omega) (by omega) (by omega)) (fun q _ => fA _ (by omega) (by omega) (by omega) (by omega)), h.2.2.2.2.2.2.1.f (by rw [f1]) (by rw [f1]) (e40 19 (by omega)) (e40 45 (by omega)), by rw [fA 64 (by omega) (by omega) (by omega) (by omega)]; exact h.2.2.2.2.2.2.2⟩
  exact (h.2.2.2.1 c hc).f (fI _ (by omega) (by omega) (by omega) (by omega)) (fA _ (by omega) (by omega) (by omega) (by omega)) (fA _ (by omega) (by omega) (by omega) (by omega)) (fA _ (by omega) (by omega) (by omega) (by omega)) ((F.1 _ (by simp; omega)).2.2.1) ((F.1 _ (by simp; omega)).2.2.2) (fA 41 (by omega) (by omega) (by omega) (by omega)) (fA 50 (by omega) (by omega) (by omega) (by omega)) (fA 51 (by omega) (by omega) (by omega) (by omega)) (fA 52 (by omega) (by omega) (by omega) (by omega)) (fA 53 (by omega) (by omega) (by omega) (by omega))
theorem t_letters {m : Mm} {w : Int64} (h : RM m) : TwI MX7_letters MX8_letters [.long w] m := by
  obtain ⟨s, b, z, B, x0, k, mk, L, u, S, h⟩ := h
  obtain ⟨hL, hl32, hl40, hpg⟩ := h.2.2.2.2.1
  refine tw_eI (c_letters hL hl32 rfl) (fun r m1 hc => ?_)
  have F1 : Fr [32, 33] m m1 := by
    rcases hc with ⟨_, _, rfl⟩ | ⟨n, e, _, ⟨_, _, rfl⟩ | ⟨_, _, q⟩⟩
    · exact Fr.rf
    · exact Fr.rf
    · exact q.1
  refine sc_eI (cm_letters hL (by rw [(F1.1 40 (by simp)).1]; exact hl40) rfl) (fun r' m2 hm => ?_)
  obtain ⟨e, L', hP⟩ := q_letters h.2.2.2.2.1 hc hm
  refine ⟨e, ?_⟩
  have F2 : Fr [40, 56] m1 m2 ∧ ∀ j, ¬ j = 26 → mI m2 40 j = mI m1 40 j := by
    rcases hm with ⟨_, _, rfl⟩ | ⟨_, ⟨_, _, rfl⟩ | ⟨_, _, q⟩⟩
    · exact ⟨Fr.rf, fun _ _ => rfl⟩
    · exact ⟨Fr.rf, fun _ _ => rfl⟩
    · exact ⟨q.1, fun j hj => by rw [q.2.1, ud_n hj]⟩
  exact h.pg hP ((F1.wd (fun j hj => by simp at hj ⊢; omega)).tr (F2.1.wd (fun j hj => by simp at hj ⊢; omega))) (fun j hj => by rw [F2.2 j hj, (F1.1 40 (by simp)).1])
theorem t_blank {m : Mm} (h : RM m) : TwI MX7_blank MX8_blank [] m := by
  obtain ⟨s, b, z, B, x0, k, mk, L, u, S, h⟩ := h
  refine tw_eI (c_blank rfl) (fun r m1 hc => sc_eI (cm_blank rfl) (fun r' m2 hm => ?_))
  obtain ⟨e, hP⟩ := q_blank h.2.2.2.2.1 hc hm
  refine ⟨e, ?_⟩
  obtain ⟨-, F1, -⟩ := hc
  obtain ⟨-, rfl⟩ := hm
  exact h.pg hP ((F1.wd (fun j hj => by simp at hj ⊢; omega)).s40 (by simp)) (fun j hj => by rw [s40_I, ud_n hj, (F1.1 40 (by simp)).1])
theorem t_good {m : Mm} (h : RM m) : TwI MX7_good MX8_good [] m := by
  obtain ⟨s, b, z, B, x0, k, mk, L, u, S, h⟩ := h
  obtain ⟨hL, hl32, hl40, hpg⟩ := h.2.2.2.2.1
  refine tw_eI (c_good hL hl32 rfl) (fun r m1 hc => ?_)
  exact sc_eI (cm_good hL (by rw [(hc.1.1 40 (by simp)).1]; exact hl40) rfl) (fun r' m2 hm => q_good h hc hm)
theorem t_ask {m : Mm} (h : RM m) : TwI MX7_ask MX8_ask [] m := by
  obtain ⟨s, b, z, B, x0, k, mk, L, u, S, h⟩ := h
  obtain ⟨hL, hl32, hl40, hpg⟩ := h.2.2.2.2.1
  obtain ⟨hu8, hmq, h16, h34, h27, hque⟩ := h.2.2.2.2.2.1
  refine tw_eI (c_ask hL hl32 (by omega) (by rw [hmq]; exact h16) (by rw [hmq]; exact h34) rfl) (fun r m1 hc => ?_)
  have E : mI m1 40 = mI m 40 := by
    obtain ⟨ma, F, _, ⟨_, _, rfl⟩ | ⟨_, _, _, rfl⟩ | ⟨_, _, _, mb, hn, rfl⟩⟩ := hc
    · exact (F.1 40 (by simp)).1
    · exact (F.1 40 (by simp)).1
    · unfold askM
      rw [mI_sI, va_up_ne _ _ (by decide), mI_sI, va_up_ne _ _ (by decide), mI_sI, va_up_ne _ _ (by decide), (hn.1.1 40 (by simp; omega)).1]
      show va_up (mI ma) (66 + 4 * mq ma) (fun _ => 0) 40 = _
      rw [va_up_ne _ _ (by omega), (F.1 40 (by simp)).1]
  exact sc_eI (cm_ask hL (by rw [E]; exact hl40) hu8 (by rw [E]; exact h27) rfl) (fun r' m2 hm => q_ask h hc hm)
theorem que_c (x : Int32) {u : Nat} (hu : u ≤ 8) : ((x < 0 ∨ nI u ≤ x) ∧ isV x u = false) ∨ ∃ q, q < u ∧ x = nI q := by
  rcases pk_ix x (n := u) (by omega) with h | h | h
  · exact Or.inl ⟨Or.inl h, by unfold isV; exact decide_eq_false (fun e => e.1 h)⟩
  · exact Or.inl ⟨Or.inr h, by unfold isV; exact decide_eq_false (fun e => (fa_of_lt e.2).2.1 h)⟩
  · exact Or.inr h
theorem RR.bss {m : Mm} {s b z : Nat → Nat} {B : Nat → Nat → Nat} {x k mk L u : Nat} {S : Nat → Qn} (h : RR m s b z B x k mk L u S) : Bss m b := fun c hc => ⟨(h.col' c hc).1.2.2.2.1, (h.col' c hc).2.2.2.2.2.1⟩
theorem RR.zss {m : Mm} {s b z : Nat → Nat} {B : Nat → Nat → Nat} {x k mk L u : Nat} {S : Nat → Qn} (h : RR m s b z B x k mk L u S) : Zss m z := fun c hc => ⟨(h.z c hc).2, (h.sz c hc).1⟩
theorem RR.cq {m : Mm} {s b z : Nat → Nat} {B : Nat → Nat → Nat} {x k mk L u q : Nat} {S : Nat → Qn} (h : RR m s b z B x k mk L u S) (hq : q < u) : q < mq m ∧ mI m 1 6 = nI u ∧ u ≤ 8 ∧ q < (mI m 34 0).toNatClampNeg ∧ ml m q ≤ 60 ∧ ((S q).map enS).length ≤ ml m q ∧ mI m (66 + 4 * q) 3 = nI ((S q).map enS).length ∧ gl (mA m (67 + 4 * q)) ((S q).map enS) := by
  obtain ⟨hu8, hmq, h16, h34, h27, hque⟩ := h.2.2.2.2.2.1
  obtain ⟨-, d7, d8, d9, d10, d11⟩ := hque q hq
  refine ⟨by omega, h16, hu8, ?_, d7, ?_, ?_, d11⟩
  · rw [h34, nI_clamp (by omega)]; exact hq
  · rw [List.length_map]; exact d8
  · rw [List.length_map]; exact d9
theorem Pc.md {q : Nat} {m m1 : Mm} (h : Fr [69 + 4 * q] m m1) : MdE m m1 := h.md (fun k hk => by simp at hk; omega)
theorem t_leaves {m : Mm} {x : Int32} (h : RM m) : TwL MX7_leaves MX8_leaves [.int x] m := by
  obtain ⟨s, b, z, B, x0, k, mk, L, u, S, h⟩ := h
  obtain ⟨hu8, hmq, h16, h34, h27, hque⟩ := h.2.2.2.2.2.1
  rcases que_c x hu8 with ⟨hx, hv⟩ | ⟨q, hq, rfl⟩
  · exact tw_pL (c_leaves0 h16 hx) (sc_pL (cm_leaves0 hu8 h27 hv) rfl h.rm)
  · obtain ⟨a1, a2, a3, a4, a5, a6, a7, a8⟩ := h.cq hq
    refine tw_eL (c_leaves h.bss a1 a2 hq a3 a4 a5 a6 a7 a8 rfl) (fun r m1 hc => ?_)
    have E : MdE m m1 := by
      rcases hc with ⟨_, _, rfl⟩ | ⟨_, F, _⟩
      · exact MdE.rf
      · exact Pc.md F
    exact sc_eL (cm_leaves (h.qx E hq) rfl) (fun r' m2 hm => q_leaves h hq hc hm)
theorem t_asked {m : Mm} {x w : Int32} (h : RM m) : TwI MX7_asked MX8_asked [.int x, .int w] m := by
  obtain ⟨s, b, z, B, x0, k, mk, L, u, S, h⟩ := h
  obtain ⟨hu8, hmq, h16, h34, h27, hque⟩ := h.2.2.2.2.2.1
  rcases que_c x hu8 with ⟨hx, hv⟩ | ⟨q, hq, rfl⟩
  · exact tw_pI (c_asked0 h16 hx) (sc_pI (cm_asked0 hu8 h27 hv) rfl h.rm)
  · obtain ⟨a1, a2, a3, a4, a5, a6, a7, a8⟩ := h.cq hq
    refine tw_eI (c_asked h.bss a1 a2 hq a3 a4 a5 a6 a7 a8 rfl) (fun r m1 hc => ?_)
    have E : MdE m m1 := by
      rcases hc with ⟨_, rfl, _⟩ | ⟨_, _, F, _⟩
      · exact MdE.rf
      · exact Pc.md F
    exact sc_eI (cm_asked (h.qx E hq) rfl) (fun r' m2 hm => q_asked h hq hc hm)
theorem t_sum {m : Mm} {x y : Int32} (h : RM m) : TwI MX7_sum MX8_sum [.int x, .int y] m := by
  obtain ⟨s, b, z, B, x0, k, mk, L, u, S, h⟩ := h
  obtain ⟨hu8, hmq, h16, h34, h27, hque⟩ := h.2.2.2.2.2.1
  rcases que_c x hu8 with ⟨hx, hv⟩ | ⟨q, hq, rfl⟩
  · exact tw_pI (c_sum0 h16 hx) (sc_pI (cm_sum0 hu8 h27 (Or.inl hv)) rfl h.rm)
  · obtain ⟨a1, a2, a3, a4, a5, a6, a7, a8⟩ := h.cq hq
    rcases col4 y with hy | ⟨c, hc4, rfl⟩
    · exact tw_pI (c_sumC hy a1 a2 hq a3 a4) (sc_pI (cm_sum0 hu8 h27 (Or.inr hy)) rfl h.rm)
    · refine tw_eI (c_sum hc4 h.bss a1 a2 hq a3 a4 a5 a6 a7 a8 rfl) (fun r m1 hc => ?_)
      have E : MdE m m1 := by
        rcases hc with ⟨_, _, rfl⟩ | ⟨_, F, _⟩
        · exact MdE.rf
        · exact Pc.md F
      exact sc_eI (cm_sum hc4 (h.qx E hq) rfl) (fun r' m2 hm => q_sum h hq hc4 hc hm)
theorem t_least {m : Mm} {x y w : Int32} (h : RM m) : TwI MX7_least MX8_least [.int x, .int y, .int w] m := by
  obtain ⟨s, b, z, B, x0, k, mk, L, u, S, h⟩ := h
  obtain ⟨hu8, hmq, h16, h34, h27, hque⟩ := h.2.2.2.2.2.1
  rcases que_c x hu8 with ⟨hx, hv⟩ | ⟨q, hq, rfl⟩
  · exact tw_pI (c_least0 h16 hx) (sc_pI (cm_least0 hu8 h27 (Or.inl hv)) rfl h.rm)
  · obtain ⟨a1, a2, a3, a4, a5, a6, a7, a8⟩ := h.cq hq
    rcases col4 y with hy | ⟨c, hc4, rfl⟩
    · exact tw_pI (c_leastC hy a1 a2 hq a3 a4) (sc_pI (cm_least0 hu8 h27 (Or.inr hy)) rfl h.rm)
    · refine tw_eI (c_least hc4 (h.z c hc4).2 (h.sz c hc4).1 h.bss a1 a2 hq a3 a4 a5 a6 a7 a8 rfl) (fun r m1 hc => ?_)
      have E : MdE m m1 := by
        rcases hc with ⟨_, _, rfl⟩ | ⟨_, ⟨_, _, rfl⟩ | ⟨_, F, _⟩⟩
        · exact MdE.rf
        · exact MdE.rf
        · exact Pc.md F
      exact sc_eI (cm_least hc4 (h.qx E hq) rfl) (fun r' m2 hm => q_least h hq hc4 hc hm)
theorem t_group {m : Mm} {x y w : Int32} (h : RM m) : TwI MX7_group MX8_group [.int x, .int y, .int w] m := by
  obtain ⟨s, b, z, B, x0, k, mk, L, u, S, h⟩ := h
  obtain ⟨hu8, hmq, h16, h34, h27, hque⟩ := h.2.2.2.2.2.1
  rcases que_c x hu8 with ⟨hx, hv⟩ | ⟨q, hq, rfl⟩
  · exact tw_pI (c_group0 h16 hx) (sc_pI (cm_group0 hu8 h27 (Or.inl hv)) rfl h.rm)
  · obtain ⟨a1, a2, a3, a4, a5, a6, a7, a8⟩ := h.cq hq
    rcases col4 y with hy | ⟨c, hc4, rfl⟩
    · exact tw_pI (c_groupC hy a1 a2 hq a3 a4) (sc_pI (cm_group0 hu8 h27 (Or.inr hy)) rfl h.rm)
    · refine tw_eI (c_group hc4 h.bss a1 a2 hq a3 a4 a5 a6 a7 a8 rfl) (fun r m1 hc => ?_)
      have E : MdE m m1 := by
        rcases hc with ⟨_, _, rfl⟩ | ⟨_, ⟨_, _, rfl⟩ | ⟨_, F, _⟩⟩
        · exact MdE.rf
        · exact MdE.rf
        · exact Pc.md F
      exact sc_eI (cm_group hc4 (h.qx E hq) rfl) (fun r' m2 hm => q_group h hq hc4 hc hm)
theorem t_tear {m : Mm} {x v : Int32} (h : RM m) : TwI MX7_tear MX8_tear [.int x, .int v] m := by
  obtain ⟨s, b, z, B, x0, k, mk, L, u, S, h⟩ := h
  rcases col4 x with hx | ⟨c, hc4, rfl⟩
  · exact tw_pI (c_tear0 hx) (sc_pI (cm_tear0 hx) rfl h.rm)
  · have hcol := h.col' c hc4
    refine tw_eI (c_tear hc4 rfl) (fun r m1 hc => ?_)
    have F1 : Fr [8 + 6 * c] m m1 ∧ mA m1 = mA m := by
      rcases hc with ⟨_, _, rfl⟩ | ⟨_, _, ⟨_, _, rfl⟩ | ⟨_, rfl, _⟩⟩
      · exact ⟨Fr.rf, rfl⟩
      · exact ⟨Fr.rf, rfl⟩
      · exact ⟨Fr.sT Fr.rf (by simp), rfl⟩
    have E : MdE m m1 := F1.1.md (fun k hk => by simp at hk; omega)
    refine sc_eI (cm_tear (h.mc E c hc4) hcol.2.1 rfl) (fun r' m2 hm => ?_)
    obtain ⟨e, hcol2⟩ := q_tear hcol hc hm
    refine ⟨e, ?_⟩
    have F2 : Fr [53] m1 m2 ∧ ∀ j, ¬ j / 64 = c → mA m2 53 j = mA m1 53 j := by
      rcases hm with ⟨_, _, rfl⟩ | ⟨w, hw, _, ⟨_, _, rfl⟩ | ⟨_, rfl, _⟩⟩
      · exact ⟨Fr.rf, fun _ _ => rfl⟩
      · exact ⟨Fr.rf, fun _ _ => rfl⟩
      · have h64 := hcol.2.1
        exact ⟨Fr.sA Fr.rf (by simp), fun j hj => by rw [sA_e, ud_n (by omega)]⟩
    exact h.c1 hc4 ((F1.1.wd (fun j hj => by simp at hj ⊢; omega)).tr (F2.1.wd (fun j hj => by simp at hj ⊢; omega))) (fun j hj => by rw [F2.2 j hj, F1.2]) (by rw [(F2.1.1 _ (by simp; omega)).2.1, F1.2]) hcol2
theorem t_mend {m : Mm} {x : Int32} (h : RM m) : TwI MX7_mend MX8_mend [.int x] m := by
  obtain ⟨s, b, z, B, x0, k, mk, L, u, S, h⟩ := h
  rcases col4 x with hx | ⟨c, hc4, rfl⟩
  · exact tw_pI (c_mend0 hx) (sc_pI (cm_mend0 hx) rfl h.rm)
  · have hcol := h.col' c hc4
    refine tw_eI (c_mend hc4 rfl) (fun r m1 hc => ?_)
    have F1 : Fr [8 + 6 * c] m m1 ∧ mA m1 = mA m := by
      rcases hc with ⟨_, _, rfl⟩ | ⟨_, _, rfl⟩
      · exact ⟨Fr.rf, rfl⟩
      · exact ⟨Fr.sT Fr.rf (by simp), rfl⟩
    refine sc_eI (cm_mend hc4 rfl) (fun r' m2 hm => ?_)
    obtain ⟨e, hcol2⟩ := q_mend hcol hc hm
    refine ⟨e, ?_⟩
    have F2 : Fr [53] m1 m2 ∧ ∀ j, ¬ j / 64 = c → mA m2 53 j = mA m1 53 j := by
      rcases hm with ⟨_, _, rfl⟩ | ⟨_, hw, _, rfl⟩
      · exact ⟨Fr.rf, fun _ _ => rfl⟩
      · exact ⟨Fr.sA Fr.rf (by simp), fun j hj => by rw [sA_e, ud_n (by omega)]⟩
    exact h.c1 hc4 ((F1.1.wd (fun j hj => by simp at hj ⊢; omega)).tr (F2.1.wd (fun j hj => by simp at hj ⊢; omega))) (fun j hj => by rw [F2.2 j hj, F1.2]) (by rw [(F2.1.1 _ (by simp; omega)).2.1, F1.2]) hcol2
theorem t_parity {m : Mm} {x : Int32} (h : RM m) : TwL MX7_parity MX8_parity [.int x] m := by
  obtain ⟨s, b, z, B, x0, k, mk, L, u, S, h⟩ := h
  rcases col4 x with hx | ⟨c, hc4, rfl⟩
  · exact tw_pL (c_parity0 hx) (sc_pL (cm_parity0 hx) rfl h.rm)
  · exact tw_pL (c_parity hc4 (h.z c hc4).2 (h.sz c hc4).1) (sc_eL (cm_parity (h.mc MdE.rf c hc4) (h.no MdE.rf) rfl) (fun r' m2 hm => ⟨q_parity h.z h.1 (h.col' c hc4) hm, h.fv hm.2⟩))
theorem rArr.md {m m1 : Mm} {o tn : Int32} (h : rArr m o tn m1) : MdE m m1 := h.1.md (fun k hk => by simp at hk; omega)
theorem t_words {m : Mm} {x v o : Int32} {tb : Bool} (h : RM m) : TwI MX7_words MX8_words [.int x, .int v, .int o, .int (b2i tb)] m := by
  obtain ⟨s, b, z, B, x0, k, mk, L, u, S, h⟩ := h
  rcases col4 x with hx | ⟨c, hc4, rfl⟩
  · exact tw_pI (c_words0 hx) (sc_pI (cm_words0 hx) rfl h.rm)
  · refine tw_eI (c_words hc4 (h.z c hc4).2 (h.sz c hc4).1 h.1.2.2.2 rfl) (fun r m1 hc => ?_)
    have E : MdE m m1 := by
      rcases hc with ⟨_, _, rfl⟩ | ⟨_, _, ⟨_, _, rfl⟩ | ⟨_, q, _⟩⟩
      · exact MdE.rf
      · exact MdE.rf
      · exact q.md
    exact sc_eI (cm_words (h.mc E c hc4) (h.no E) (h.lo E) rfl) (fun r' m2 hm => q_words h hc4 hc hm)
theorem t_all {m : Mm} {o : Int32} {tb : Bool} (h : RM m) : TwI MX7_all MX8_all [.int o, .int (b2i tb)] m := by
  obtain ⟨s, b, z, B, x0, k, mk, L, u, S, h⟩ := h
  refine tw_eI (c_all h.zss h.1.2.2.2 rfl) (fun r m1 hc => ?_)
  have E : MdE m m1 := by
    rcases hc with ⟨_, _, rfl⟩ | ⟨_, q, _⟩
    · exact MdE.rf
    · exact q.md
  exact sc_eI (cm_all (h.mc E) (h.no E) (h.lo E) rfl) (fun r' m2 hm => q_all h hc hm)
theorem t_placed {m : Mm} {o i : Int32} {tb : Bool} (h : RM m) : TwI MX7_placed MX8_placed [.int o, .int (b2i tb), .int i] m := by
  obtain ⟨s, b, z, B, x0, k, mk, L, u, S, h⟩ := h
  refine tw_eI (c_placed h.1.2.2.2 rfl) (fun r m1 hc => ?_)
  have E : MdE m m1 := by
    rcases hc with ⟨_, _, rfl⟩ | ⟨_, n, _, _, q, _⟩
    · exact MdE.rf
    · exact q.md
  exact sc_eI (cm_placed (h.lo E) rfl) (fun r' m2 hm => q_placed h hc hm)
theorem t_order {m : Mm} {w : Int32} (h : RM m) : TwI MX7_order MX8_order [.int w] m := by
  obtain ⟨s, b, z, B, x0, k, mk, L, u, S, h⟩ := h
  refine tw_eI (c_order h.zss h.1.2.2.2 rfl) (fun r m1 hc => ?_)
  have E : MdE m m1 := by
    rcases hc with ⟨_, _, rfl⟩ | ⟨_, _, ⟨_, _, rfl⟩ | ⟨_, _, F⟩⟩
    · exact MdE.rf
    · exact MdE.rf
    · refine fun k h1 h2 => ⟨?_, ?_⟩
      · rw [(F.1 k (by simp; omega)).1, mI_sI, va_up_ne _ _ (by omega)]
      · rw [(F.1 k (by simp; omega)).2.1, mA_sI]
  exact sc_eI (cm_order (h.mc E) (h.no E) (h.lo E) rfl) (fun r' m2 hm => q_order h hc hm)
theorem t_undo {m : Mm} (h : RM m) : TwI MX7_undo MX8_undo [] m := by
  obtain ⟨s, b, z, B, x0, k, mk, L, u, S, h⟩ := h
  obtain ⟨c1, c2, c3, c4, c5, c6, c7, c8⟩ := h.2.1
  match k, h, c2, c4, c5, c8 with
  | 0, h, c2, c4, c5, c8 => exact tw_pI (c_undoF0 c4 rfl) (sc_pI (cm_undo0 c5) rfl h.rm)
  | k + 1, h, c2, c4, c5, c8 =>
    obtain ⟨⟨i, hi, hl⟩, d2, d3⟩ := c8 k (by omega)
    have hj : (x0 + 100 - (k + 1) + k) % 100 = if 0 < x0 then x0 - 1 else 99 := by
      split <;> omega
    have h0 : ¬ mI m 2 6 = 0 := by rw [c4]; exact nI_ne0 (by omega) (by omega)
    refine tw_eI (c_undoF1 h0 c1 c3 rfl hi (by rw [← hj, d2]; exact hl) rfl) (fun r m1 hc => ?_)
    have E : MdE m m1 := hc.1.1.md (fun k hk => by simp at hk; omega)
    exact sc_eI (cm_undo (j := k) hi (by omega) (by rw [(E 40 (by omega) (by omega)).1]; exact c5) (by rw [E.A (by omega) (by omega)]; exact hl) (by rw [E.A (by omega) (by omega)]; exact c6 k) rfl) (fun r' m2 hm => q_undo h hi hl hc hm)
theorem t_mark {m : Mm} (h : RM m) : TwI MX7_mark MX8_mark [] m := by
  obtain ⟨s, b, z, B, x0, k, mk, L, u, S, h⟩ := h
  obtain ⟨k1, k2, k3, k4, k5, k6⟩ := h.2.2.1
  by_cases e : mk = 3
  · subst e
    exact tw_pI (c_markF0 k2 rfl) (sc_pI (cm_mark0 k3) rfl h.rm)
  · refine tw_eI (c_markF1 (k := mk) (by omega) k2 rfl) (fun r m1 hc => ?_)
    have E : MdE m m1 := hc.1.1.md (fun k hk => by simp at hk; omega)
    exact sc_eI (cm_mark (k := mk) (by omega) (by rw [(E 40 (by omega) (by omega)).1]; exact k3) (by rw [E.A (by omega) (by omega)]; exact h.1.2.1) rfl) (fun r' m2 hm => q_mark h (by omega) hc hm)
theorem t_back {m : Mm} {x : Int32} (h : RM m) : TwI MX7_back MX8_back [.int x] m := by
  obtain ⟨s, b, z, B, x0, k, mk, L, u, S, h⟩ := h
  obtain ⟨k1, k2, k3, k4, k5, k6⟩ := h.2.2.1
  rcases pk_ix x (n := mk) (by omega) with hx | hx | ⟨i, hi, rfl⟩
  · exact tw_pI (c_backF0 k2 (Or.inl hx) rfl) (sc_pI (cm_back0 (Or.inl hx)) rfl h.rm)
  · refine tw_pI (c_backF0 k2 (Or.inr hx) rfl) (sc_pI (cm_back0 ?_) rfl h.rm)
    by_cases h0 : x < 0
    · exact Or.inl h0
    · right
      rw [k3]
      obtain ⟨j, hj, rfl⟩ := nI_of h0
      have hj2 : mk ≤ j := (nI_leI (by omega) hj).mp hx
      rcases Nat.eq_zero_or_pos mk with e | e
      · subst e
        rw [fa_lt]
        have e1 : (nI 0 - 1).toInt = -1 := by decide
        rw [e1, nI_toInt hj]; omega
      · rw [nI_p e]; exact nI_lt (by omega) hj
  · refine tw_eI (c_backF1 k1 k2 hi h.1.2.2.2 rfl) (fun r m1 hc => ?_)
    have E : MdE m m1 := hc.1.1.md (fun k hk => by simp at hk; omega)
    exact sc_eI (cm_back (b := i) (by omega) (by rw [(E 40 (by omega) (by omega)).1, k3, nI_p (by omega)]; exact nI_nlt (by omega) (by omega)) (by rw [E.A (by omega) (by omega)]; exact k4) rfl) (fun r' m2 hm => q_back h hi hc hm)
theorem t_count {m : Mm} {w : Int32} (h : RM m) : TwI MX7_count MX8_count [.int w] m := by
  obtain ⟨s, b, z, B, x0, k, mk, L, u, S, h⟩ := h
  exact tw_pI c_count (sc_pI (cm_count (h.mc MdE.rf)) (q_count h.z h w) h.rm)
theorem t_digest {m : Mm} (h : RM m) : TwL MX7_digest MX8_digest [] m := by
  obtain ⟨s, b, z, B, x0, k, mk, L, u, S, h⟩ := h
  obtain ⟨hL, hl32, hl40, hpg⟩ := h.2.2.2.2.1
  obtain ⟨hu8, hmq, h16, h34, h27, hque⟩ := h.2.2.2.2.2.1
  refine tw_pL (c_digest (S := fun q => (S q).map enS) h.zss h.bss h16 hu8 (fun q hq => ?_) hL hl32 rfl) (sc_eL (cm_digest (h.mc MdE.rf) (h.no MdE.rf) hu8 h27 (fun q hq => h.qx MdE.rf hq) hL hl40 rfl) (fun r' m2 hm => ?_))
  · obtain ⟨a1, a2, a3, a4, a5, a6, a7, a8⟩ := h.cq hq
    exact ⟨a1, a4, a5, a6, a7, a8⟩
  · obtain ⟨e, hr⟩ := q_digest h hm.2
    exact ⟨e.trans hm.1.symm, hr⟩
