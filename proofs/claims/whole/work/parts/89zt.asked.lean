/-! ===== leaves, asked, sum, least, group: class and model ===== -/
theorem rdF_e {m : Mm} {i s b z : Nat} {B : Nat → Nat} (h : RCol m i s b z B) : ∀ (S : Qn) (w : Int64), okM S → rdF m i b (S.map enS) w = rbF s b z B i S w
  | [], w, _ => rfl
  | x :: S, w, hM => by
    obtain ⟨m1, m2, m3⟩ := hM
    have hi := h.1.1
    rw [List.map_cons, rdF, rbF, rdF_e h S _ m3]
    congr 1
    unfold rdS
    by_cases q1 : x.1 < 12
    · obtain ⟨⟨d1, d2⟩, d3, d4⟩ := enS_d ⟨x.1, q1⟩ ⟨x.2, by omega⟩
      have d1' : enS x &&& 3 = nI (x.1 / 3) := d1
      have d2' : (enS x >>> ((2 : Int32) &&& 31)) &&& 3 = nI (x.1 % 3) := d2
      have d3' : enS x >>> ((4 : Int32) &&& 31) = nI x.2 := d3
      have d4' : ¬ enS x < 0 := d4
      rw [if_neg d4', d1', d2', d3']
      by_cases q2 : x.1 / 3 = i
      · rw [if_pos (show nI (x.1 / 3) = nI i by rw [q2]), if_pos (show x.1 < 12 ∧ x.1 / 3 = i from ⟨q1, q2⟩)]
        rcases (show x.1 % 3 = 0 ∨ x.1 % 3 = 1 ∨ x.1 % 3 = 2 by omega) with e | e | e
        · rw [e, if_neg (by decide), if_pos (by decide), if_neg (by decide), decide_eq_true (by decide), rdB_e h (by omega)]
        · rw [e, if_pos (by decide), if_neg (by decide), decide_eq_false (by decide), rdE_e h (by omega)]
        · rw [e, if_neg (by decide), if_neg (by decide), if_pos rfl, decide_eq_true (by decide), nI_1, rdB_e h (by omega)]
      · rw [if_neg (fun e => q2 ((nI_eq (by omega) (by omega)).mp e)), if_neg (fun e => q2 e.2), or0]
    · have en : enS x < 0 := by
        unfold enS
        rw [if_neg q1]
        split
        · decide
        · split <;> decide
      rw [if_pos en, if_neg (fun e => q1 e.1), or0]
theorem and1_iff (x : Int64) : x &&& 1 = 1 ↔ x.toBitVec.getLsbD 0 = true := by
  constructor
  · intro h
    have := congrArg (fun w : Int64 => w.toBitVec.getLsbD 0) h
    simpa using this
  · intro h
    apply Int64.toBitVec_inj.1
    apply BitVec.eq_of_getLsbD_eq
    intro i hi
    show (x.toBitVec &&& (1 : Int64).toBitVec).getLsbD i = (1 : Int64).toBitVec.getLsbD i
    rw [BitVec.getLsbD_and]
    by_cases e : i = 0
    · subst e; rw [h, Bool.true_and]
    · have : (1 : Int64).toBitVec.getLsbD i = false := by
        have : ∀ j : Fin 64, ¬ j.1 = 0 → (1 : Int64).toBitVec.getLsbD j.1 = false := by decide +kernel
        exact this ⟨i, hi⟩ e
      rw [this, Bool.and_false]
theorem bitR_e {X v : Nat} (hX : X < 2 ^ 64) (hv : v < 64) : bitR (lN X) v = X.testBit v := by
  have h1 : ((lN X) >>> ((nI v).toInt64 &&& 63)).toBitVec.getLsbD 0 = X.testBit v := by
    show ((lN X).toBitVec.sshiftRight' (((nI v).toInt64 &&& 63).toBitVec.smod 64)).getLsbD 0 = _
    rw [show (((nI v).toInt64 &&& 63).toBitVec.smod 64) = BitVec.ofNat 64 v from k63 ⟨v, hv⟩]
    show ((lN X).toBitVec.sshiftRight (BitVec.ofNat 64 v).toNat).getLsbD 0 = _
    rw [BitVec.toNat_ofNat, Nat.mod_eq_of_lt (by omega), BitVec.getLsbD_sshiftRight]
    have : (lN X).toBitVec.getLsbD v = X.testBit v := by
      show (BitVec.ofNat 64 X).getLsbD v = _
      rw [BitVec.getLsbD_ofNat, decide_eq_true hv, Bool.true_and]
    rw [Nat.add_zero, if_pos hv, this]; rfl
  unfold bitR
  have := and1_iff ((lN X) >>> ((nI v).toInt64 &&& 63))
  rw [h1] at this
  cases hb : X.testBit v with
  | true => rw [hb] at this; exact decide_eq_true (this.mpr rfl)
  | false => rw [hb] at this; exact decide_eq_false (fun q => by have := this.mp q; cases this)
def anyB (p : Nat → Bool) : Nat → Bool
  | 0 => false
  | n + 1 => anyB p n || p n
theorem any_f {p : Nat → Bool} : ∀ n, anyB p n = false → ∀ i, i < n → p i = false
  | 0, _, i, hi => absurd hi (Nat.not_lt_zero i)
  | n + 1, h, i, hi => by
    rw [anyB, Bool.or_eq_false_iff] at h
    by_cases e : i = n
    · subst e; exact h.2
    · exact any_f n h.1 i (by omega)
theorem any_i {p : Nat → Bool} : ∀ n, (∀ i, i < n → p i = false) → anyB p n = false
  | 0, _ => rfl
  | n + 1, h => by rw [anyB, any_i n (fun i hi => h i (by omega)), h n (by omega)]; rfl
theorem flC_any {m : Mm} {c : Nat} {w : Int64} {f : Bool} : ∀ n, flC m c w n f = (f || anyB (fun v => trB m c v && bitR w v) n)
  | 0 => by rw [flC, anyB, Bool.or_false]
  | n + 1 => by rw [flC, flC_any n, anyB, Bool.or_assoc]
theorem ff_any {p : Nat → Bool} : ∀ n, decide (fa_first p n < n) = anyB p n
  | 0 => rfl
  | n + 1 => by
    have ih := ff_any (p := p) n
    rw [anyB, ← ih, fa_first]
    by_cases q : fa_first p n < n
    · rw [if_pos q, decide_eq_true q, decide_eq_true (by omega)]; rfl
    · rw [if_neg q, decide_eq_false q]
      cases hp : p n with
      | true => rw [if_pos rfl, decide_eq_true (by omega)]; rfl
      | false => rw [if_neg (by decide), decide_eq_false (by omega)]; rfl
theorem mk_nz {p : Nat → Bool} : (mkm p 64 == 0) = !(anyB p 64) := by
  cases ha : anyB p 64 with
  | false => rw [mk_0 (any_f 64 ha)]; rfl
  | true =>
    apply beq_eq_false_iff_ne.mpr
    intro e
    have : anyB p 64 = false := any_i 64 (fun v hv => by
      have := tb_mk (p := p) hv
      rw [e] at this
      refine this.mp ?_
      have t := tb_N (X := 0) (v := v) (by decide) hv (nI v) rfl
      unfold ush at t
      unfold tbI
      rw [show (0 : Int64) = lN 0 from rfl, t, Nat.zero_testBit]; rfl)
    rw [this] at ha; cases ha
theorem torn_e {m : Mm} {s b z : Nat → Nat} {B : Nat → Nat → Nat} {S : Qn} {i : Nat} (h : RCol m i (s i) (b i) (z i) (B i)) (hM : okM S) : tornR m b (S.map enS) i = anyB (fun v => trB m i v && bitR (rbF (s i) (b i) (z i) (B i) i S 0) v) 64 := by
  unfold tornR
  rw [rdF_e h S 0 hM, h.2.2.2.2.2.2.2.2.2.1]
  obtain ⟨X, hX, e⟩ := w_lN (rbF (s i) (b i) (z i) (B i) i S 0)
  rw [e]
  have eX : lN X = mkm (fun v => X.testBit v) 64 := mkm_ext hX (fun v hv => rfl)
  have e1 : lN X &&& mkm (trB m i) 64 = mkm (fun v => trB m i v && bitR (lN X) v) 64 := by
    rw [eX, mk_and]
    refine mk_cg 64 (fun v hv => ?_)
    rw [← eX, bitR_e hX hv, Bool.and_comm]
  rw [e1, mk_nz, Bool.not_not]
theorem fail_e {m : Mm} {s b z : Nat → Nat} {B : Nat → Nat → Nat} {S : Qn} (h : ∀ c, c < 4 → RCol m c (s c) (b c) (z c) (B c)) (hM : okM S) : failB m b (S.map enS) = flM m s b z B S 4 := by
  have key : ∀ n, n ≤ 4 → anyB (tornR m b (S.map enS)) n = flM m s b z B S n := fun n => by
    induction n with
    | zero => intro _; rfl
    | succ n ih =>
      intro hn
      rw [anyB, flM, ih (by omega), flC_any, torn_e (h n (by omega)) hM]
  unfold failB
  rw [ff_any]
  exact key 4 (Nat.le_refl 4)
theorem RR.col' {m : Mm} {s b z : Nat → Nat} {B : Nat → Nat → Nat} {x k mk L u : Nat} {S : Nat → Qn} (h : RR m s b z B x k mk L u S) : ∀ c, c < 4 → RCol m c (s c) (b c) (z c) (B c) := h.2.2.2.1
theorem RR.que {m : Mm} {s b z : Nat → Nat} {B : Nat → Nat → Nat} {x k mk L u q : Nat} {S : Nat → Qn} (h : RR m s b z B x k mk L u S) (hq : q < u) : okM (S q) ∧ okE (S q) 0 ∧ (S q).length ≤ ml m q := by
  have := h.2.2.2.2.2.1.2.2.2.2.2 q hq
  exact ⟨this.1.2.2.2.1, this.1.2.2.2.2.1, this.2.2.1⟩
/-- the class's pile changes, then the model's scratch -/
theorem RR.kl {m m1 m2 : Mm} {s b z : Nat → Nat} {B : Nat → Nat → Nat} {x k mk L u q : Nat} {S : Nat → Qn} (h : RR m s b z B x k mk L u S) (F : Fr [69 + 4 * q] m m1) (K : Kl m1 m2) : RM m2 := by
  have a := F.sC (fun j hj => by simp at hj; omega)
  have h1 := h.same a.1 a.2 (h.2.2.2.2.2.2.1.f (by rw [(F.1 1 (by simp; omega)).1]) (by rw [(F.1 1 (by simp; omega)).1]) (by rw [(F.1 40 (by simp; omega)).1]) (by rw [(F.1 40 (by simp; omega)).1])) (by rw [(F.1 64 (by simp; omega)).2.1]; exact h.2.2.2.2.2.2.2)
  have b := K.1.sM (fun j hj => by simp at hj; omega) (K.2 3 (by decide)) (K.2 7 (by decide)) (K.2 26 (by decide)) (K.2 27 (by decide))
  exact ⟨_, _, _, _, _, _, _, _, _, _, h1.same b.1 b.2 (h1.2.2.2.2.2.2.1.f (by rw [(K.1.1 1 (by simp)).1]) (by rw [(K.1.1 1 (by simp)).1]) (K.2 19 (by decide)) (K.2 45 (by decide))) (by rw [(K.1.1 64 (by simp)).2.1]; exact h1.2.2.2.2.2.2.2)⟩
def Pc (q : Nat) (m m1 : Mm) : Prop := Fr [69 + 4 * q] m m1
theorem Pc.A {q : Nat} {m m1 : Mm} (h : Pc q m m1) {j : Nat} (hj : j < 66) : mA m1 j = mA m j := (h.1 j (by simp; omega)).2.1
theorem lfB_p {q : Nat} {m m1 : Mm} (h : Pc q m m1) (S : Qn) : lfB m1 S = lfB m S := by
  funext l
  unfold lfB thB
  rw [hdM_c (h.A (by decide)), h.A (j := 43) (by decide)]
theorem flM_p {q : Nat} {m m1 : Mm} (h : Pc q m m1) (s b z : Nat → Nat) (B : Nat → Nat → Nat) (S : Qn) (c : Nat) : flM m1 s b z B S c = flM m s b z B S c := flM_c (h.A (by decide)) s b z B S c
theorem gpB_p {q : Nat} {m m1 : Mm} (h : Pc q m m1) (S : Qn) (c : Nat) (v : Int32) : gpB m1 S c v = gpB m S c v := by
  funext l
  unfold gpB
  rw [lfB_p h, h.A (j := 42) (by decide)]
theorem Pc.rf {q : Nat} {m : Mm} : Pc q m m := Fr.rf
theorem q_leaves {m m1 m2 : Mm} {s b z : Nat → Nat} {B : Nat → Nat → Nat} {x k mk L u q : Nat} {S : Nat → Qn} {r r' : Int64} (h : RR m s b z B x k mk L u S) (hq : q < u) (hc : rLeaves m q b ((S q).map enS) r m1) (hm : rRb m1 (lvM m1 s b z B (S q)) r' m2) : r = r' ∧ RM m2 := by
  obtain ⟨o1, o2, o3⟩ := h.que hq
  have hf := fail_e h.col' o1
  have hl := left_e (N := ml m q) h.z h.1 o1 o2 o3
  have key : r = lvM m s b z B (S q) ∧ Pc q m m1 := by
    unfold lvM
    rcases hc with ⟨f, rfl, rfl⟩ | ⟨f, F, rfl⟩
    · rw [hf] at f; rw [f]; exact ⟨(if_pos rfl).symm, Pc.rf⟩
    · rw [hf] at f; rw [f, hl]; exact ⟨(if_neg (by decide)).symm, F⟩
  refine ⟨?_, h.kl key.2 hm.2⟩
  rw [hm.1, key.1]
  unfold lvM
  rw [flM_p key.2, lfB_p key.2]
theorem gp_mask {m : Mm} {z : Nat → Nat} {c n : Nat} {S : Qn} (hz : Z32 z) (hR : RRows m z) (hc : c < 4) (hn : n < 2 ^ 31) : mkm (lfB m S) 64 &&& hldE m (nI c) (nI n) = mkm (gpB m S c (nI n)) 64 := by
  rw [hldE_e hz hR hc hn, mk_and]
  refine mk_cg 64 (fun l hl => ?_)
  unfold gpB lfB
  cases ht : thB m l with
  | false => rfl
  | true =>
    have zc := hz c hc
    have := num_th hz hR hl hc ht
    rw [this.2.2, Bool.true_and, Bool.true_and]
    congr 1
    exact decide_eq_decide.mpr (nI_eq (by omega) hn).symm
theorem q_group {m m1 m2 : Mm} {s b z : Nat → Nat} {B : Nat → Nat → Nat} {x k mk L u q c : Nat} {S : Nat → Qn} {v r r' : Int32} (h : RR m s b z B x k mk L u S) (hq : q < u) (hc4 : c < 4) (hc : rGroup m q c b ((S q).map enS) v r m1) (hm : rMgrp m1 s b z B (S q) c v r' m2) : r = r' ∧ RM m2 := by
  obtain ⟨o1, o2, o3⟩ := h.que hq
  have hf := fail_e h.col' o1
  have hl := left_e (N := ml m q) h.z h.1 o1 o2 o3
  have zc := h.z c hc4
  have bC := hasC_e (v := v) (h.sz c hc4).1 zc.2
  rcases hc with ⟨p, rfl, rfl⟩ | ⟨hh, hc⟩
  · have np : ¬ hasC m1 c v := fun e => by
      rcases p with p | p
      · exact e.1 p
      · exact e.2 p
    rcases hm with ⟨_, rfl, rfl⟩ | ⟨hh, _⟩
    · exact ⟨rfl, _, _, _, _, _, _, _, _, _, _, h⟩
    · rw [hasM_e (h.sz c hc4).2 (by omega) zc.2, ← bC] at hh
      exact absurd hh np
  · obtain ⟨n, hn, rfl⟩ := bC.mp hh
    have key : r = (if flM m s b z B (S q) 4 then -103 else nI (ctN (gpB m (S q) c (nI n)) 64)) ∧ Pc q m m1 := by
      rcases hc with ⟨f, rfl, rfl⟩ | ⟨f, F, rfl⟩
      · rw [hf] at f; rw [f]; exact ⟨(if_pos rfl).symm, Pc.rf⟩
      · rw [hf] at f
        rw [f, hl, gp_mask h.z h.1 hc4 (by omega), bc_mk]; exact ⟨(if_neg (by decide)).symm, F⟩
    have bM := hasM_e (m := m1) (c := c) (v := nI n) (by rw [key.2.A (by decide)]; exact (h.sz c hc4).2) (by omega) zc.2
    unfold rMgrp at hm
    rw [flM_p key.2, gpB_p key.2] at hm
    rcases hm with ⟨p, _⟩ | ⟨_, K, hr⟩
    · exact absurd (bM.mpr ⟨n, hn, rfl⟩) p
    · exact ⟨key.1.trans hr.symm, h.kl key.2 K⟩
theorem bt_mkz {p : Nat → Bool} {v : Nat} (hv : v < 64) : btI (mkm p 64) v = 0 ↔ p v = false := tb_mk hv
theorem sm_e {m : Mm} {z : Nat → Nat} {c : Nat} {S : Qn} (hz : Z32 z) (hR : RRows m z) (hc : c < 4) : ∀ l, l ≤ 64 → smF m (mkm (lfB m S) 64) (nI c) l = smM m S c l
  | 0, _ => rfl
  | l + 1, hl => by
    have hb := bt_mkz (p := lfB m S) (v := l) (by omega)
    rw [smF, smM, sm_e hz hR hc l (by omega)]
    cases hp : lfB m S l with
    | false => rw [if_pos (hb.mpr hp), if_neg (by decide)]
    | true =>
      have ht : thB m l = true := by
        unfold lfB at hp
        cases hq : thB m l with
        | true => rfl
        | false => rw [hq] at hp; cases hp
      have h43 : ¬ mA m 43 l = 0 := fun e => by unfold thB at ht; rw [e] at ht; cases ht
      rw [if_neg (fun q => by rw [hb.mp q] at hp; cases hp), if_pos rfl, num_e hz hR (by omega) hc]
      unfold gtM
      rw [if_neg h43]
theorem smM_p {q : Nat} {m m1 : Mm} (h : Pc q m m1) (S : Qn) (c : Nat) : ∀ l, smM m1 S c l = smM m S c l
  | 0 => rfl
  | l + 1 => by rw [smM, smM, smM_p h S c l, lfB_p h, h.A (j := 42) (by decide)]
theorem q_sum {m m1 m2 : Mm} {s b z : Nat → Nat} {B : Nat → Nat → Nat} {x k mk L u q c : Nat} {S : Nat → Qn} {r r' : Int32} (h : RR m s b z B x k mk L u S) (hq : q < u) (hc4 : c < 4) (hc : rSum m q c b ((S q).map enS) r m1) (hm : rIk m1 (smJ m1 s b z B (S q) c) r' m2) : r = r' ∧ RM m2 := by
  obtain ⟨o1, o2, o3⟩ := h.que hq
  have hf := fail_e h.col' o1
  have hl := left_e (N := ml m q) h.z h.1 o1 o2 o3
  have key : r = smJ m s b z B (S q) c ∧ Pc q m m1 := by
    unfold smJ
    rcases hc with ⟨f, rfl, rfl⟩ | ⟨f, F, rfl⟩
    · rw [hf] at f; rw [f]; exact ⟨(if_pos rfl).symm, Pc.rf⟩
    · rw [hf] at f; rw [f, hl, sm_e h.z h.1 hc4 64 (Nat.le_refl 64)]; exact ⟨(if_neg (by decide)).symm, F⟩
  refine ⟨?_, h.kl key.2 hm.2⟩
  rw [hm.1, key.1]
  unfold smJ
  rw [flM_p key.2, smM_p key.2]
theorem vr_e {m : Mm} {s b z : Nat → Nat} {B : Nat → Nat → Nat} {S : Qn} (h : ∀ c, c < 4 → RCol m c (s c) (b c) (z c) (B c)) (hM : okM S) : ∀ n, n ≤ 4 → vrF m b (S.map enS) n = nI (arN s b z B S n)
  | 0, _ => rfl
  | n + 1, hn => by rw [vrF, arN, vr_e h hM n (by omega), rdF_e (h n (by omega)) S 0 hM, bc_e, nI_add]
theorem q_asked {m m1 m2 : Mm} {s b z : Nat → Nat} {B : Nat → Nat → Nat} {x k mk L u q : Nat} {S : Nat → Qn} {w r r' : Int32} (h : RR m s b z B x k mk L u S) (hq : q < u) (hc : rAsked m q b ((S q).map enS) w r m1) (hm : rMasked m1 s b z B (S q) w r' m2) : r = r' ∧ RM m2 := by
  obtain ⟨o1, o2, o3⟩ := h.que hq
  have hf := fail_e h.col' o1
  have hl := left_e (N := ml m q) h.z h.1 o1 o2 o3
  have hcm : mI m (66 + 4 * q) 5 = nI (cmN (S q)) := (h.2.2.2.2.2.1.2.2.2.2.2 q hq).2.2.2.2.1
  have key : Pc q m m1 ∧ r = (if w = 0 then nI (arN s b z B (S q) 4) else if w = 1 then nI (cmN (S q)) else if w = 2 then b2i (flM m s b z B (S q) 4) else if w = 3 then (if flM m s b z B (S q) 4 then -103 else nI (ctN (lfB m (S q)) 64)) else -102) := by
    unfold rAsked at hc
    rw [hf, hl, vr_e h.col' o1 4 (Nat.le_refl 4), hcm] at hc
    rcases hc with ⟨p, rfl, rfl⟩ | ⟨rfl, f, F, rfl⟩
    · refine ⟨Pc.rf, ?_⟩
      by_cases q0 : w = 0
      · rw [if_pos q0, if_pos q0]
      by_cases q1 : w = 1
      · rw [if_neg q0, if_neg q0, if_pos q1, if_pos q1]
      by_cases q2 : w = 2
      · rw [if_neg q0, if_neg q0, if_neg q1, if_neg q1, if_pos q2, if_pos q2]
      by_cases q3 : w = 3
      · have ft : flM m1 s b z B (S q) 4 = true := by
          cases hx : flM m1 s b z B (S q) 4 with
          | true => rfl
          | false => exact absurd ⟨q3, hx⟩ p
        rw [if_neg q0, if_neg q0, if_neg q1, if_neg q1, if_neg q2, if_neg q2, if_pos q3, if_pos q3, ft, if_pos rfl]
      · rw [if_neg q0, if_neg q0, if_neg q1, if_neg q1, if_neg q2, if_neg q2, if_neg q3, if_neg q3]
    · refine ⟨F, ?_⟩
      rw [f, bc_mk, if_neg (by decide), if_neg (by decide), if_neg (by decide), if_pos rfl, if_neg (by decide)]
  obtain ⟨P, rfl⟩ := key
  rcases hm with ⟨p, rfl, rfl⟩ | ⟨n, hn, rfl, rfl, K⟩
  · refine ⟨?_, h.kl P Kl.rf⟩
    have e : ¬ w = 0 ∧ ¬ w = 1 ∧ ¬ w = 2 ∧ ¬ w = 3 := by
      refine ⟨?_, ?_, ?_, ?_⟩ <;> intro e <;> subst e <;> revert p <;> decide
    rw [if_neg e.1, if_neg e.2.1, if_neg e.2.2.1, if_neg e.2.2.2]
  · refine ⟨?_, h.kl P K⟩
    unfold asM
    rw [flM_p P, lfB_p P]
    rcases (show n = 0 ∨ n = 1 ∨ n = 2 ∨ n = 3 by omega) with rfl | rfl | rfl | rfl
    · rw [if_pos (by decide), if_pos rfl]
    · rw [if_neg (by decide), if_pos (by decide), if_neg (by decide), if_pos rfl]
    · rw [if_neg (by decide), if_neg (by decide), if_pos (by decide), if_neg (by decide), if_neg (by decide), if_pos rfl]
    · rw [if_neg (by decide), if_neg (by decide), if_neg (by decide), if_pos (by decide), if_neg (show ¬ 3 = 0 by decide), if_neg (show ¬ 3 = 1 by decide), if_neg (show ¬ 3 = 2 by decide)]
