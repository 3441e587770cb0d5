/-! ===== what a question leaves: class and model ===== -/
set_option maxRecDepth 100000 in
theorem enS_d : ∀ k : Fin 12, ∀ n : Fin 100, (enS (k.1, n.1) &&& 3 = nI (k.1 / 3) ∧ (enS (k.1, n.1) >>> ((2 : Int32) &&& 31)) &&& 3 = nI (k.1 % 3)) ∧ enS (k.1, n.1) >>> ((4 : Int32) &&& 31) = nI n.1 ∧ ¬ enS (k.1, n.1) < 0 := by decide +kernel
theorem mk_cg {p q : Nat → Bool} : ∀ n, (∀ i, i < n → p i = q i) → mkm p n = mkm q n
  | 0, _ => rfl
  | n + 1, h => by rw [mkm, mkm, mk_cg n (fun i hi => h i (by omega)), h n (by omega)]
theorem mk_and {p q : Nat → Bool} : mkm p 64 &&& mkm q 64 = mkm (fun l => p l && q l) 64 := by
  rw [mkm_N (p := p) 64 (by omega), mkm_N (p := q) 64 (by omega), fb_andL]
  refine mkm_ext (Nat.and_lt_two_pow _ (mkN_lt q 64)) (fun v hv => ?_)
  rw [Nat.testBit_and, mkN_bit, mkN_bit, decide_eq_true hv, Bool.true_and, Bool.true_and]
theorem mk_orr {p q : Nat → Bool} : mkm p 64 ||| mkm q 64 = mkm (fun l => p l || q l) 64 := by
  rw [mkm_N (p := p) 64 (by omega), mkm_N (p := q) 64 (by omega), fb_orL]
  refine mkm_ext (Nat.or_lt_two_pow (mkN_lt p 64) (mkN_lt q 64)) (fun v hv => ?_)
  rw [Nat.testBit_or, mkN_bit, mkN_bit, decide_eq_true hv, Bool.true_and, Bool.true_and]
theorem m1_lN : (-1 : Int64) = lN (2 ^ 64 - 1) := by decide +kernel
theorem mk_not {p : Nat → Bool} : mkm p 64 ^^^ (-1) = mkm (fun l => !p l) 64 := by
  rw [m1_lN, mkm_N (p := p) 64 (by omega), fb_xorL]
  refine mkm_ext (Nat.xor_lt_two_pow (mkN_lt p 64) (by omega)) (fun v hv => ?_)
  rw [Nat.testBit_xor, mkN_bit, Nat.testBit_two_pow_sub_one, decide_eq_true hv, Bool.true_and, Bool.xor_true]
theorem row_th {m : Mm} {z : Nat → Nat} {l : Nat} (hz : Z32 z) (hR : RRows m z) (hl : l < 64) : rowAt m l = thB m l := by
  have := row_e hz (hR.1 l hl)
  unfold rowAt thB
  by_cases q : mA m 43 l = 0
  · rw [q, this.mpr q]; rfl
  · rw [beq_eq_false_iff_ne.mpr q, beq_eq_false_iff_ne.mpr (fun e => q (this.mp e))]
/-- the number of a line that is there -/
theorem num_th {m : Mm} {z : Nat → Nat} {l c : Nat} (hz : Z32 z) (hR : RRows m z) (hl : l < 64) (hc : c < 4) (h : thB m l = true) : numI m l (nI c) = nI (nmN m l c) ∧ nmN m l c < z c ∧ mA m 42 (4 * l + c) = nI (nmN m l c) := by
  have ht : ¬ mA m 43 l = 0 := fun e => by unfold thB at h; rw [e] at h; cases h
  have zc := hz c hc
  have e := num_e hz hR hl hc
  have n64 := nI_64 hl
  have hr : ¬ mA m 3 l = -1 := fun q => ht ((row_e hz (hR.1 l hl)).mp q)
  unfold numL gtM at e
  rw [if_neg n64.1, if_neg n64.2.1, n64.2.2, if_neg hr, if_neg ht] at e
  obtain ⟨v0, v1, v2, v3, a0, a1, a2, a3, e0, e1, e2, e3, -⟩ := row_t hz (hR.1 l hl) ht
  obtain ⟨x, hx, ex⟩ : ∃ x, x < z c ∧ mA m 42 (4 * l + c) = nI x := by
    rcases (show c = 0 ∨ c = 1 ∨ c = 2 ∨ c = 3 by omega) with rfl | rfl | rfl | rfl
    · exact ⟨v0, a0, e0⟩
    · exact ⟨v1, a1, e1⟩
    · exact ⟨v2, a2, e2⟩
    · exact ⟨v3, a3, e3⟩
  have hn : nmN m l c = x := by unfold nmN; rw [ex, nI_clamp (by omega)]
  rw [hn]
  exact ⟨e.trans ex, hx, ex⟩
theorem hldB_e {m : Mm} {z : Nat → Nat} {c n : Nat} (hz : Z32 z) (hR : RRows m z) (hc : c < 4) (hn : n < 2 ^ 31) : hldB m (nI c) (nI n) = mkm (fun l => thB m l && decide (nmN m l c < n)) 64 := by
  unfold hldB
  refine mk_cg 64 (fun l hl => ?_)
  rw [row_th hz hR hl]
  cases ht : thB m l with
  | false => rfl
  | true =>
    have zc := hz c hc
    have := num_th hz hR hl hc ht
    rw [Bool.true_and, Bool.true_and, this.1]
    exact decide_eq_decide.mpr (nI_ltI (by omega) hn)
theorem hldE_e {m : Mm} {z : Nat → Nat} {c n : Nat} (hz : Z32 z) (hR : RRows m z) (hc : c < 4) (hn : n < 2 ^ 31) : hldE m (nI c) (nI n) = mkm (fun l => thB m l && decide (nmN m l c = n)) 64 := by
  unfold hldE
  refine mk_cg 64 (fun l hl => ?_)
  rw [row_th hz hR hl]
  cases ht : thB m l with
  | false => rfl
  | true =>
    have zc := hz c hc
    have := num_th hz hR hl hc ht
    rw [Bool.true_and, Bool.true_and, this.1]
    have e := nI_eq (a := nmN m l c) (b := n) (by omega) hn
    by_cases q : nmN m l c = n
    · rw [q, decide_eq_true rfl, beq_self_eq_true]
    · rw [decide_eq_false q, beq_eq_false_iff_ne.mpr (fun x => q (e.mp x))]
theorem hld_e {m : Mm} {z : Nat → Nat} {k n : Nat} (hz : Z32 z) (hR : RRows m z) (hk : k < 12) (hn : n ≤ 99) : hld m (enS (k, n)) (pres m) = mkm (fun l => thB m l && cmM k n (nmN m l (k / 3))) 64 := by
  obtain ⟨⟨d1, d2⟩, d3, -⟩ := enS_d ⟨k, hk⟩ ⟨n, by omega⟩
  unfold hld
  have d1' : enS (k, n) &&& 3 = nI (k / 3) := d1
  have d2' : (enS (k, n) >>> ((2 : Int32) &&& 31)) &&& 3 = nI (k % 3) := d2
  have d3' : enS (k, n) >>> ((4 : Int32) &&& 31) = nI n := d3
  rw [d1', d2', d3']
  have hc : k / 3 < 4 := by omega
  unfold cmM
  rcases (show k % 3 = 0 ∨ k % 3 = 1 ∨ k % 3 = 2 by omega) with e | e | e
  · rw [e, if_pos (by decide), hldB_e hz hR hc (by omega)]
    exact mk_cg 64 (fun l hl => by rw [if_pos rfl])
  · rw [e, if_neg (by decide), if_pos (by decide), hldE_e hz hR hc (by omega)]
    exact mk_cg 64 (fun l hl => by rw [if_neg (by decide), if_pos rfl])
  · rw [e, if_neg (by decide), if_neg (by decide), nI_1, hldB_e hz hR hc (by omega), mk_not]
    unfold pres
    rw [mk_and]
    refine mk_cg 64 (fun l hl => ?_)
    rw [if_neg (by decide), if_neg (by decide), row_th hz hR hl]
    cases thB m l with
    | false => rfl
    | true =>
      rw [Bool.true_and, Bool.true_and, Bool.true_and]
      by_cases q : nmN m l (k / 3) < n + 1
      · rw [decide_eq_true q, decide_eq_false (by omega)]; rfl
      · rw [decide_eq_false q, decide_eq_true (by omega)]; rfl
def mk64 (P : Nat → Bool) : Int64 := mkm P 64
theorem ev_e {m : Mm} {z : Nat → Nat} {N : Nat} (hz : Z32 z) (hR : RRows m z) : ∀ (S : Qn) (Ps : List (Nat → Bool)) (st : Nat → List Bool), okM S → okE S Ps.length → Ps.length + S.length ≤ N → (∀ l, l < 64 → Ps.map (fun P => P l) = (st l).map (fun a => thB m l && a)) → ∃ P, evF m N (pres m) (S.map enS) (Ps.map mk64) = [mk64 P] ∧ ∀ l, l < 64 → ∃ a, evL m l S (st l) = [a] ∧ P l = (thB m l && a)
  | [], Ps, st, _, hE, _, h => by
    have hE' : Ps.length = 1 := hE
    match Ps, hE', h with
    | [P], _, h =>
      refine ⟨P, rfl, fun l hl => ?_⟩
      have := h l hl
      match hs : st l, this with
      | [a], this =>
        rw [List.map_cons, List.map_cons] at this
        injection this with q _
        exact ⟨a, rfl, q⟩
      | [], this => exact absurd (congrArg List.length this) (by simp)
      | _ :: _ :: _, this => exact absurd (congrArg List.length this) (by simp)
  | x :: S, Ps, st, hM, hE, hL, h => by
    obtain ⟨m1, m2, m3⟩ := hM
    rw [List.length_cons] at hL
    by_cases q1 : x.1 < 12
    · have e1 : evS m N (pres m) (enS x) (Ps.map mk64) = ((fun l => thB m l && cmM x.1 x.2 (nmN m l (x.1 / 3))) :: Ps).map mk64 := by
        obtain ⟨-, -, d4⟩ := enS_d ⟨x.1, q1⟩ ⟨x.2, by omega⟩
        have hh := hld_e (k := x.1) (n := x.2) hz hR q1 m2
        unfold evS
        rw [if_pos ⟨d4, by rw [List.length_map]; omega⟩]
        show hld m (enS (x.1, x.2)) (pres m) :: _ = _
        rw [hh]; rfl
      have hE' : okE S (Ps.length + 1) := by
        have := hE
        rw [okE, if_pos q1] at this
        exact this
      have := ev_e (N := N) hz hR S ((fun l => thB m l && cmM x.1 x.2 (nmN m l (x.1 / 3))) :: Ps) (fun l => evS1 m l x (st l)) m3 hE' (by rw [List.length_cons]; omega) (fun l hl => by
        unfold evS1
        rw [if_pos q1, List.map_cons, List.map_cons, h l hl])
      obtain ⟨P, p1, p2⟩ := this
      refine ⟨P, ?_, p2⟩
      rw [List.map_cons, evF, e1]; exact p1
    · by_cases q2 : x.1 = 12
      · have en : enS x = -1 := by unfold enS; rw [if_neg q1, if_pos q2]
        have hE' : 1 ≤ Ps.length ∧ okE S Ps.length := by
          have := hE
          rw [okE, if_neg q1, if_pos q2] at this
          exact this
        match Ps, hE', h, hL with
        | P :: Pr, hE', h, hL =>
          have e1 : evS m N (pres m) (enS x) ((P :: Pr).map mk64) = ((fun l => rowAt m l && !(P l)) :: Pr).map mk64 := by
            rw [en]
            have hx : pres m &&& (mk64 P ^^^ (-1)) = mk64 (fun l => rowAt m l && !(P l)) := by
              unfold mk64 pres
              rw [mk_not, mk_and]
            unfold evS
            rw [if_neg (fun q => q.1 (by decide))]
            match Pr with
            | [] =>
              show (if (-1 : Int32) = -1 then [pres m &&& (mk64 P ^^^ (-1))] else [mk64 P]) = _
              rw [if_pos rfl, hx]; rfl
            | Q :: r =>
              show (if (-1 : Int32) = -1 then (pres m &&& (mk64 P ^^^ (-1))) :: mk64 Q :: r.map mk64 else _) = _
              rw [if_pos rfl, hx]; rfl
          have := ev_e (N := N) hz hR S ((fun l => rowAt m l && !(P l)) :: Pr) (fun l => evS1 m l x (st l)) m3 hE'.2 (by rw [List.length_cons] at hL ⊢; omega) (fun l hl => by
            have hl1 := h l hl
            unfold evS1
            rw [if_neg q1, if_pos q2]
            match hs : st l, hl1 with
            | a :: R, hl1 =>
              rw [List.map_cons, List.map_cons] at hl1
              injection hl1 with i1 i2
              rw [List.map_cons, i2]
              show (rowAt m l && !(P l)) :: _ = (thB m l && !a) :: _
              rw [i1, row_th hz hR hl]
              cases thB m l <;> rfl
            | [], hl1 => exact absurd (congrArg List.length hl1) (by simp))
          obtain ⟨P', p1, p2⟩ := this
          refine ⟨P', ?_, p2⟩
          rw [List.map_cons, evF, e1]; exact p1
      · have hE' : 2 ≤ Ps.length ∧ okE S (Ps.length - 1) := by
          have := hE
          rw [okE, if_neg q1, if_neg q2] at this
          exact this
        match Ps, hE', h, hL with
        | P :: Q :: Pr, hE', h, hL =>
          have e1 : evS m N (pres m) (enS x) ((P :: Q :: Pr).map mk64) = ((fun l => if x.1 = 13 then Q l && P l else Q l || P l) :: Pr).map mk64 := by
            by_cases q3 : x.1 = 13
            · have en : enS x = -2 := by unfold enS; rw [if_neg q1, if_neg q2, if_pos q3]
              rw [en]
              unfold evS
              rw [if_neg (fun q => q.1 (by decide))]
              show (if (-2 : Int32) = -1 then _ else (if (-2 : Int32) = -2 then mk64 Q &&& mk64 P else mk64 Q ||| mk64 P) :: Pr.map mk64) = _
              rw [if_neg (by decide), if_pos rfl]
              unfold mk64
              rw [mk_and, List.map_cons]
              congr 1
              exact mk_cg 64 (fun l hl => by rw [if_pos q3])
            · have en : enS x = -3 := by unfold enS; rw [if_neg q1, if_neg q2, if_neg q3]
              rw [en]
              unfold evS
              rw [if_neg (fun q => q.1 (by decide))]
              show (if (-3 : Int32) = -1 then _ else (if (-3 : Int32) = -2 then mk64 Q &&& mk64 P else mk64 Q ||| mk64 P) :: Pr.map mk64) = _
              rw [if_neg (by decide), if_neg (by decide)]
              unfold mk64
              rw [mk_orr, List.map_cons]
              congr 1
              exact mk_cg 64 (fun l hl => by rw [if_neg q3])
          have := ev_e (N := N) hz hR S ((fun l => if x.1 = 13 then Q l && P l else Q l || P l) :: Pr) (fun l => evS1 m l x (st l)) m3 (by have := hE'.2; rw [List.length_cons, List.length_cons] at this; exact this) (by rw [List.length_cons, List.length_cons] at hL; rw [List.length_cons]; omega) (fun l hl => by
            have hl1 := h l hl
            unfold evS1
            rw [if_neg q1, if_neg q2]
            match hs : st l, hl1 with
            | a :: a2 :: R, hl1 =>
              rw [List.map_cons, List.map_cons, List.map_cons, List.map_cons] at hl1
              injection hl1 with i1 i2
              injection i2 with i2 i3
              rw [List.map_cons, i3]
              show (if x.1 = 13 then Q l && P l else Q l || P l) :: _ = (thB m l && (if x.1 = 13 then a2 && a else a2 || a)) :: _
              rw [i1, i2]
              by_cases q3 : x.1 = 13
              · rw [if_pos q3, if_pos q3]; cases thB m l <;> rfl
              · rw [if_neg q3, if_neg q3]; cases thB m l <;> rfl
            | [a], hl1 => exact absurd (congrArg List.length hl1) (by simp)
            | [], hl1 => exact absurd (congrArg List.length hl1) (by simp))
          obtain ⟨P', p1, p2⟩ := this
          refine ⟨P', ?_, p2⟩
          rw [List.map_cons, evF, e1]; exact p1
theorem left_e {m : Mm} {z : Nat → Nat} {N : Nat} {S : Qn} (hz : Z32 z) (hR : RRows m z) (hM : okM S) (hE : okE S 0) (hN : S.length ≤ N) : bot (evF m N (pres m) (S.map enS) []) = mkm (lfB m S) 64 := by
  obtain ⟨P, p1, p2⟩ := ev_e (N := N) hz hR S [] (fun _ => []) hM hE (by rw [List.length_nil]; omega) (fun l hl => rfl)
  have p1' : evF m N (pres m) (S.map enS) [] = [mk64 P] := p1
  rw [p1']
  show mkm P 64 = _
  refine mk_cg 64 (fun l hl => ?_)
  obtain ⟨a, q1, q2⟩ := p2 l hl
  unfold lfB hdM
  rw [q1, q2]; rfl
