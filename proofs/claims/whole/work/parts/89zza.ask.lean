/-! ===== a question read: class and model ===== -/
def nbN : List Nat → Nat
  | [] => 0
  | x :: W => (if x = 13 ∨ x = 14 then 1 else 0) + nbN W
def c15N : List Nat → Nat
  | [] => 0
  | x :: W => (if x = 15 then 1 else 0) + c15N W
def popN (t : Nat) : List Nat → List Nat
  | [] => []
  | x :: W => if t < x then [] else x :: popN t W
def rstN (t : Nat) : List Nat → List Nat
  | [] => []
  | x :: W => if t < x then x :: W else rstN t W
def wS (x : Nat) : Int32 := 11 - nI x
def wOk (W : List Nat) : Prop := ∀ x, x ∈ W → 12 ≤ x ∧ x ≤ 15
theorem wOk_c {x : Nat} {W : List Nat} (h : wOk (x :: W)) : (12 ≤ x ∧ x ≤ 15) ∧ wOk W := ⟨h x (List.mem_cons_self ..), fun y hy => h y (List.mem_cons_of_mem _ hy)⟩
theorem wOk_i {x : Nat} {W : List Nat} (h1 : 12 ≤ x ∧ x ≤ 15) (h : wOk W) : wOk (x :: W) := fun y hy => by
  rcases List.mem_cons.mp hy with e | e
  · subst e; exact h1
  · exact h y e
theorem rst_ok {t : Nat} : ∀ {W : List Nat}, wOk W → wOk (rstN t W)
  | [], h => h
  | x :: W, h => by
    rw [rstN]
    split
    · exact h
    · exact rst_ok (wOk_c h).2
theorem mpp_n {t : Nat} (ht : t ≤ 15) : ∀ {W : List Nat}, wOk W → mpp (nI t) (W.map nI) = (popN t W).map nI
  | [], _ => rfl
  | x :: W, h => by
    have hx := (wOk_c h).1
    rw [List.map_cons, mpp, popN, mpp_n ht (wOk_c h).2]
    by_cases q : t < x
    · rw [if_pos (nI_lt q (by omega)), if_pos q]; rfl
    · rw [if_neg (nI_nlt (by omega) (by omega)), if_neg q]; rfl
theorem mpr_n {t : Nat} (ht : t ≤ 15) : ∀ {W : List Nat}, wOk W → mpr (nI t) (W.map nI) = (rstN t W).map nI
  | [], _ => rfl
  | x :: W, h => by
    have hx := (wOk_c h).1
    rw [List.map_cons, mpr, rstN, mpr_n ht (wOk_c h).2]
    by_cases q : t < x
    · rw [if_pos (nI_lt q (by omega)), if_pos q]; rfl
    · rw [if_neg (nI_nlt (by omega) (by omega)), if_neg q]
theorem wS_lt : ∀ x : Fin 16, ∀ t : Fin 16, 12 ≤ x.1 → 12 ≤ t.1 → (wS x.1 < wS t.1 ↔ t.1 < x.1) := by decide +kernel
theorem pp_n {t : Nat} (h12 : 12 ≤ t) (ht : t ≤ 15) : ∀ {W : List Nat}, wOk W → pp (wS t) (W.map wS) = (popN t W).map wS
  | [], _ => rfl
  | x :: W, h => by
    have hx := (wOk_c h).1
    have hw := wS_lt ⟨x, by omega⟩ ⟨t, by omega⟩ hx.1 h12
    rw [List.map_cons, pp, popN, pp_n h12 ht (wOk_c h).2]
    by_cases q : t < x
    · rw [if_pos (hw.mpr q), if_pos q]; rfl
    · rw [if_neg (fun e => q (hw.mp e)), if_neg q]; rfl
theorem pr_n {t : Nat} (h12 : 12 ≤ t) (ht : t ≤ 15) : ∀ {W : List Nat}, wOk W → pr (wS t) (W.map wS) = (rstN t W).map wS
  | [], _ => rfl
  | x :: W, h => by
    have hx := (wOk_c h).1
    have hw := wS_lt ⟨x, by omega⟩ ⟨t, by omega⟩ hx.1 h12
    rw [List.map_cons, pr, rstN, pr_n h12 ht (wOk_c h).2]
    by_cases q : t < x
    · rw [if_pos (hw.mpr q), if_pos q]; rfl
    · rw [if_neg (fun e => q (hw.mp e)), if_neg q]
def okH : Qn → Nat → Nat → Prop
  | [], h, h' => h = h'
  | x :: r, h, h' => if x.1 < 12 then okH r (h + 1) h' else if x.1 = 12 then 1 ≤ h ∧ okH r h h' else 2 ≤ h ∧ okH r (h - 1) h'
theorem okH_ap : ∀ {Q Q' : Qn} {h h1 h2 : Nat}, okH Q h h1 → okH Q' h1 h2 → okH (Q ++ Q') h h2
  | [], Q', h, h1, h2, e, b => by
    have e' : h = h1 := e
    subst e'; exact b
  | x :: Q, Q', h, h1, h2, a, b => by
    show okH (x :: (Q ++ Q')) h h2
    rw [okH] at a ⊢
    by_cases q : x.1 < 12
    · rw [if_pos q] at a ⊢; exact okH_ap a b
    · rw [if_neg q] at a ⊢
      by_cases q2 : x.1 = 12
      · rw [if_pos q2] at a ⊢; exact ⟨a.1, okH_ap a.2 b⟩
      · rw [if_neg q2] at a ⊢; exact ⟨a.1, okH_ap a.2 b⟩
theorem okE_H : ∀ {Q : Qn} {h : Nat}, okH Q h 1 → okE Q h
  | [], h, e => e
  | x :: Q, h, a => by
    rw [okH] at a
    rw [okE]
    by_cases q : x.1 < 12
    · rw [if_pos q] at a ⊢; exact okE_H a
    · rw [if_neg q] at a ⊢
      by_cases q2 : x.1 = 12
      · rw [if_pos q2] at a ⊢; exact ⟨a.1, okE_H a.2⟩
      · rw [if_neg q2] at a ⊢; exact ⟨a.1, okE_H a.2⟩
def qP (L : List Nat) : Qn := L.map (fun x => (x, 0))
theorem pop_H {t : Nat} (ht : t ≤ 14) : ∀ {W : List Nat}, wOk W → okH (qP (popN t W)) (nbN W + 1) (nbN (rstN t W) + 1) ∧ okM (qP (popN t W)) ∧ cmN (qP (popN t W)) = 0 ∧ (qP (popN t W)).map enS = (popN t W).map wS ∧ (qP (popN t W)).map (fun x => nI x.1) = (popN t W).map nI ∧ (qP (popN t W)).map (fun x => nI x.2) = zrs ((popN t W).map nI)
  | [], _ => ⟨rfl, trivial, rfl, rfl, rfl, rfl⟩
  | x :: W, h => by
    obtain ⟨hx, hW⟩ := wOk_c h
    rw [popN, rstN]
    by_cases q : t < x
    · rw [if_pos q, if_pos q]
      exact ⟨rfl, trivial, rfl, rfl, rfl, rfl⟩
    · rw [if_neg q, if_neg q]
      obtain ⟨i1, i2, i3, i4, i5, i6⟩ := pop_H ht hW
      refine ⟨?_, ⟨by show x ≤ 14; omega, by show 0 ≤ 99; omega, i2⟩, ?_, ?_, ?_, ?_⟩
      · show okH ((x, 0) :: qP (popN t W)) (nbN (x :: W) + 1) _
        rw [okH, if_neg (show ¬ x < 12 by omega), nbN]
        by_cases q2 : x = 12
        · rw [if_pos (show (x, 0).1 = 12 from q2), if_neg (by omega), Nat.zero_add]
          exact ⟨by omega, i1⟩
        · rw [if_neg (show ¬ (x, 0).1 = 12 from q2), if_pos (by omega)]
          refine ⟨by omega, ?_⟩
          rw [show 1 + nbN W + 1 - 1 = nbN W + 1 by omega]; exact i1
      · show (if x < 12 then 1 else 0) + cmN (qP (popN t W)) = 0
        rw [if_neg (by omega), i3]
      · show enS (x, 0) :: (qP (popN t W)).map enS = wS x :: (popN t W).map wS
        rw [i4]
        congr 1
        rcases (show x = 12 ∨ x = 13 ∨ x = 14 by omega) with rfl | rfl | rfl <;> rfl
      · show nI x :: (qP (popN t W)).map (fun x => nI x.1) = nI x :: (popN t W).map nI
        rw [i5]
      · show nI 0 :: (qP (popN t W)).map (fun x => nI x.2) = 0 :: zrs ((popN t W).map nI)
        rw [i6]; rfl
theorem okM_ap : ∀ {Q Q' : Qn}, okM Q → okM Q' → okM (Q ++ Q')
  | [], Q', _, b => b
  | x :: Q, Q', a, b => ⟨a.1, a.2.1, okM_ap a.2.2 b⟩
theorem cmN_ap : ∀ {Q Q' : Qn}, cmN (Q ++ Q') = cmN Q + cmN Q'
  | [], Q' => by show cmN Q' = 0 + cmN Q'; omega
  | x :: Q, Q' => by
    show (if x.1 < 12 then 1 else 0) + cmN (Q ++ Q') = (if x.1 < 12 then 1 else 0) + cmN Q + cmN Q'
    rw [cmN_ap]; omega
theorem rst_c15 {t : Nat} (ht : t ≤ 14) : ∀ {W : List Nat}, wOk W → c15N (rstN t W) = c15N W
  | [], _ => rfl
  | x :: W, h => by
    obtain ⟨hx, hW⟩ := wOk_c h
    rw [rstN]
    by_cases q : t < x
    · rw [if_pos q]
    · rw [if_neg q, rst_c15 ht hW, c15N, if_neg (by omega), Nat.zero_add]
theorem rst_hd : ∀ {W : List Nat}, wOk W → rstN 14 W = [] ∨ ∃ L, rstN 14 W = 15 :: L
  | [], _ => Or.inl rfl
  | x :: W, h => by
    obtain ⟨hx, hW⟩ := wOk_c h
    rw [rstN]
    by_cases q : 14 < x
    · rw [if_pos q]; exact Or.inr ⟨W, by rw [show x = 15 by omega]⟩
    · rw [if_neg q]; exact rst_hd hW
def St (g : Nat → Int32) (L j st : Nat) (en : Bool) (le sg va : Int32) (pe : List Int32) : Prop :=
  (st = 0 ∧ en = false ∧ pe = []) ∨ (st = 4 ∧ en = false ∧ pe = []) ∨ ∃ i0 l, l < 4 ∧ g i0 = nI (97 + l) ∧ le = nI l ∧ pe = [cmpAt g L i0] ∧ ((st = 1 ∧ en = false ∧ j = i0 + 1) ∨ ∃ s, s < 3 ∧ sgn (g (i0 + 1)) = nI s ∧ sg = nI s ∧ ((st = 2 ∧ en = false ∧ j = i0 + 2) ∨ ∃ v, v ≤ 9 ∧ g (i0 + 2) = nI (48 + v) ∧ en = true ∧ ((st = 3 ∧ va = nI v ∧ j = i0 + 3) ∨ ∃ w, w ≤ 9 ∧ g (i0 + 3) = nI (48 + w) ∧ st = 4 ∧ va = nI (10 * v + w) ∧ j = i0 + 4)))
def Rl (g : Nat → Int32) (L j : Nat) (p : Pz) (z : List Int32 × List Int32 × Nat) : Prop := ∃ (Q : Qn) (Wn : List Nat) (pe : List Int32), p.2.2.2.2.2.2.1 = Q.map (fun x => nI x.1) ∧ p.2.2.2.2.2.2.2.1 = Q.map (fun x => nI x.2) ∧ p.2.2.2.2.2.2.2.2 = Wn.map nI ∧ wOk Wn ∧ p.2.1 = c15N Wn ∧ okM Q ∧ okH Q 0 (nbN Wn + if p.1 = 4 ∧ p.2.2.2.2.2.1 = false then 1 else 0) ∧ z.1 = Q.map enS ++ pe ∧ z.2.1 = Wn.map wS ∧ z.2.2 = cmN Q + pe.length ∧ St g L j p.1 p.2.2.2.2.2.1 p.2.2.1 p.2.2.2.1 p.2.2.2.2.1 pe
theorem cAt_i {g : Nat → Int32} {L i : Nat} (h : i < L) : cAt g L i = g i := if_pos h
theorem nbh_1 {g : Nat → Int32} {L i v : Nat} (h2 : cAt g L (i + 2) = nI (48 + v)) (h3 : ¬ isDi (cAt g L (i + 3))) : nBh g L i = nI v := by
  unfold nBh
  rw [if_neg (fun q => h3 ((di_c _).mp ⟨fun e => (fa_of_lt e).2.1 q.1, fun e => (fa_of_lt e).2.1 q.2⟩)), h2, show (48 : Int32) = nI 48 from rfl, pk_sub (by omega), Nat.add_sub_cancel_left]
theorem nbh_2 {g : Nat → Int32} {L i v w : Nat} (hw : w ≤ 9) (h2 : cAt g L (i + 2) = nI (48 + v)) (h3 : cAt g L (i + 3) = nI (48 + w)) : nBh g L i = nI (10 * v + w) := by
  unfold nBh
  rw [h2, h3]
  have q : (48 : Int32) ≤ nI (48 + w) ∧ nI (48 + w) ≤ 57 := ⟨nI_le (a := 48) (by omega) (by omega), nI_le (b := 57) (by omega) (by omega)⟩
  rw [if_pos q, show (48 : Int32) = nI 48 from rfl, show (10 : Int32) = nI 10 from rfl, pk_sub (by omega), pk_mul, nI_add, pk_sub (by omega)]
  congr 1; omega
theorem cmp_en {g : Nat → Int32} {L i l s v : Nat} (hl : l < 4) (hs : s < 3) (h0 : cAt g L i = nI (97 + l)) (h1 : sgn (cAt g L (i + 1)) = nI s) (h2 : nBh g L i = nI v) : cmpAt g L i = enS (3 * l + s, v) := by
  unfold cmpAt enS
  rw [h0, h1, h2, show (97 : Int32) = nI 97 from rfl, pk_sub (by omega), Nat.add_sub_cancel_left, if_pos (show (3 * l + s, v).1 < 12 by show 3 * l + s < 12; omega)]
  show _ = nI ((3 * l + s) / 3) ||| (nI ((3 * l + s) % 3) <<< (2 &&& 31)) ||| (nI v <<< (4 &&& 31))
  rw [show (3 * l + s) / 3 = l by omega, show (3 * l + s) % 3 = s by omega]
theorem zero_nd : ¬ isDi 0 := fun ⟨k, hk, e⟩ => by
  have : nI 0 = nI (48 + k) := e
  have := (nI_eq (by omega) (by omega)).mp this
  omega
/-- a number that ends -/
theorem rl_end {g : Nat → Int32} {L j st dp : Nat} {le sg va : Int32} {en : Bool} {A N W : List Int32} {z : List Int32 × List Int32 × Nat} (h : Rl g L j (st, dp, le, sg, va, en, A, N, W) z) (hst : st = 3 ∨ st = 4) (hj : j ≤ L) (hn : st = 3 → j < L → ¬ isDi (g j)) : ∃ (Q : Qn) (Wn : List Nat), enA le sg en A = Q.map (fun x => nI x.1) ∧ enN va en N = Q.map (fun x => nI x.2) ∧ W = Wn.map nI ∧ wOk Wn ∧ dp = c15N Wn ∧ okM Q ∧ okH Q 0 (nbN Wn + 1) ∧ z.1 = Q.map enS ∧ z.2.1 = Wn.map wS ∧ z.2.2 = cmN Q := by
  obtain ⟨Q, Wn, pe, a1, a2, a3, a4, a5, a6, a7, a8, a9, a10, a11⟩ := h
  have key : ∀ (l s v : Nat), l < 4 → s < 3 → v ≤ 99 → le = nI l → sg = nI s → va = nI v → en = true → pe = [enS (3 * l + s, v)] → ∃ (Q : Qn) (Wn : List Nat), enA le sg en A = Q.map (fun x => nI x.1) ∧ enN va en N = Q.map (fun x => nI x.2) ∧ W = Wn.map nI ∧ wOk Wn ∧ dp = c15N Wn ∧ okM Q ∧ okH Q 0 (nbN Wn + 1) ∧ z.1 = Q.map enS ∧ z.2.1 = Wn.map wS ∧ z.2.2 = cmN Q := fun l s v hl hs hv e1 e2 e3 e4 e5 => by
    subst e1; subst e2; subst e3; subst e4; subst e5
    refine ⟨Q ++ [(3 * l + s, v)], Wn, ?_, ?_, a3, a4, a5, okM_ap a6 ⟨by show 3 * l + s ≤ 14; omega, hv, trivial⟩, ?_, ?_, a9, ?_⟩
    · rw [enA, if_pos rfl, List.map_append]
      have a1' : A = Q.map (fun x => nI x.1) := a1
      rw [a1']
      congr 1
      show [3 * nI l + nI s] = [nI (3 * l + s)]
      rw [show (3 : Int32) = nI 3 from rfl, pk_mul, nI_add]
    · rw [enN, if_pos rfl, List.map_append]
      have a2' : N = Q.map (fun x => nI x.2) := a2
      rw [a2']; rfl
    · have a7' : okH Q 0 (nbN Wn) := by
        have := a7
        rw [if_neg (fun q => by cases q.2), Nat.add_zero] at this
        exact this
      refine okH_ap a7' ?_
      rw [okH, if_pos (show (3 * l + s, v).1 < 12 by show 3 * l + s < 12; omega), okH]
    · rw [a8, List.map_append]; rfl
    · rw [a10, cmN_ap]
      show cmN Q + 1 = cmN Q + ((if 3 * l + s < 12 then 1 else 0) + 0)
      rw [if_pos (by omega)]
  rcases a11 with ⟨q, _⟩ | ⟨q1, q2, q3⟩ | ⟨i0, l, hl, g0, e1, e2, a11⟩
  · have : st = 0 := q
    omega
  · have q2' : en = false := q2
    subst q2'
    have q1' : st = 4 := q1
    refine ⟨Q, Wn, ?_, ?_, a3, a4, a5, a6, ?_, ?_, a9, ?_⟩
    · rw [enA, if_neg (by decide)]; exact a1
    · rw [enN, if_neg (by decide)]; exact a2
    · rw [if_pos (show st = 4 ∧ false = false from ⟨q1', rfl⟩)] at a7; exact a7
    · rw [a8, q3, List.append_nil]
    · rw [a10, q3]; rfl
  · rcases a11 with ⟨q, _⟩ | ⟨s, hs, gs1, e3, a11⟩
    · have : st = 1 := q
      omega
    · rcases a11 with ⟨q, _⟩ | ⟨v, hv, g2, e4, a11⟩
      · have : st = 2 := q
        omega
      · rcases a11 with ⟨q, e5, e6⟩ | ⟨w, hw, g3, q, e5, e6⟩
        · have q' : st = 3 := q
          refine key l s v hl hs (by omega) e1 e3 e5 e4 ?_
          rw [e2, cmp_en hl hs (by rw [cAt_i (by omega)]; exact g0) (by rw [cAt_i (by omega)]; exact gs1) (nbh_1 (v := v) (by rw [cAt_i (by omega)]; exact g2) ?_)]
          by_cases r : i0 + 3 < L
          · rw [cAt_i r, ← e6]; exact hn q' (by omega)
          · unfold cAt; rw [if_neg r]; exact zero_nd
        · refine key l s (10 * v + w) hl hs (by omega) e1 e3 e5 e4 ?_
          rw [e2, cmp_en hl hs (by rw [cAt_i (by omega)]; exact g0) (by rw [cAt_i (by omega)]; exact gs1) (nbh_2 hw (by rw [cAt_i (by omega)]; exact g2) (by rw [cAt_i (by omega)]; exact g3))]
theorem tk_id {g : Nat → Int32} {L j k : Nat} {z : List Int32 × List Int32 × Nat} (h : g j = nI k) (h1 : 42 ≤ k) (h2 : k < 97) : tkL g L j z = z := by
  have ne : ∀ n, n < 2 ^ 31 → ¬ k = n → ¬ g j = nI n := fun n hn q e => q ((nI_eq (by omega) hn).mp (h.symm.trans e))
  unfold tkL
  rw [if_neg (show ¬ g j = 33 from ne 33 (by omega) (by omega)), if_neg (show ¬ g j = 40 from ne 40 (by omega) (by omega)), if_neg (show ¬ g j = 38 from ne 38 (by omega) (by omega)), if_neg (show ¬ g j = 124 from ne 124 (by omega) (by omega)), if_neg (show ¬ g j = 41 from ne 41 (by omega) (by omega)), if_pos (show g j < 97 by rw [h]; exact nI_lt (b := 97) h2 (by omega))]
theorem tk_cl {g : Nat → Int32} {L j l : Nat} {z : List Int32 × List Int32 × Nat} (h : g j = nI (97 + l)) (hl : l < 4) : tkL g L j z = (z.1 ++ [cmpAt g L j], z.2.1, z.2.2 + 1) := by
  have ne : ∀ n, n < 2 ^ 31 → ¬ 97 + l = n → ¬ g j = nI n := fun n hn q e => q ((nI_eq (by omega) hn).mp (h.symm.trans e))
  unfold tkL
  rw [if_neg (show ¬ g j = 33 from ne 33 (by omega) (by omega)), if_neg (show ¬ g j = 40 from ne 40 (by omega) (by omega)), if_neg (show ¬ g j = 38 from ne 38 (by omega) (by omega)), if_neg (show ¬ g j = 124 from ne 124 (by omega) (by omega)), if_neg (show ¬ g j = 41 from ne 41 (by omega) (by omega)), if_neg (show ¬ g j < 97 by rw [h]; exact nI_nlt (b := 97) (by omega) (by omega)), if_neg (show ¬ 100 < g j by rw [h]; exact nI_nlt (a := 100) (by omega) (by omega))]
theorem rl_gb {g : Nat → Int32} {L j st dp : Nat} {le sg va : Int32} {en : Bool} {A N W : List Int32} {z : List Int32 × List Int32 × Nat} {p' : Pz} (h : Rl g L j (st, dp, le, sg, va, en, A, N, W) z) (hst : st = 3 ∨ st = 4) (hj : j < L) (hn : st = 3 → ¬ isDi (g j)) (hg : gbF (g j) (st, dp, le, sg, va, en, A, N, W) = some p') : Rl g L (j + 1) p' (tkL g L j z) := by
  obtain ⟨Q, Wn, b1, b2, b3, b4, b5, b6, b7, b8, b9, b10⟩ := rl_end h hst (by omega) (fun e _ => hn e)
  rw [gb_x] at hg
  have fin : ∀ (t st' dp' : Nat) (Wn' : List Nat) (R' : List Int32) (p' : Pz), t = 13 ∨ t = 14 → p' = (st', dp', le, sg, va, false, enA le sg en A ++ mpp (nI t) W, enN va en N ++ zrs (mpp (nI t) W), Wn'.map nI) → wOk Wn' → dp' = c15N Wn' → R' = Wn'.map wS → (st' = 0 ∨ st' = 4) → nbN Wn' + (if st' = 4 then 1 else 0) = nbN (rstN t Wn) + 1 → Rl g L (j + 1) p' (z.1 ++ pp (wS t) z.2.1, R', z.2.2) := fun t st' dp' Wn' R' p' ht ep hw hd hr hs hnb => by
    have ht14 : t ≤ 14 := by omega
    obtain ⟨i1, i2, i3, i4, i5, i6⟩ := pop_H ht14 b4
    subst ep
    refine ⟨Q ++ qP (popN t Wn), Wn', [], ?_, ?_, rfl, hw, hd, okM_ap b6 i2, ?_, ?_, hr, ?_, ?_⟩
    · show enA le sg en A ++ mpp (nI t) W = _
      rw [b1, b3, mpp_n (by omega) b4, List.map_append, i5]
    · show enN va en N ++ zrs (mpp (nI t) W) = _
      rw [b2, b3, mpp_n (by omega) b4, List.map_append, i6]
    · have e : nbN Wn' + (if st' = 4 ∧ false = false then 1 else 0) = nbN (rstN t Wn) + 1 := by
        rw [← hnb]
        congr 1
        by_cases q : st' = 4
        · rw [if_pos ⟨q, rfl⟩, if_pos q]
        · rw [if_neg (fun x => q x.1), if_neg q]
      show okH (Q ++ qP (popN t Wn)) 0 (nbN Wn' + (if st' = 4 ∧ false = false then 1 else 0))
      rw [e]
      exact okH_ap b7 i1
    · show z.1 ++ pp (wS t) z.2.1 = _
      rw [b8, b9, pp_n (by omega) (by omega) b4, List.map_append, i4, List.append_nil]
    · show z.2.2 = _
      rw [b10, cmN_ap, i3]; rfl
    · rcases hs with e | e
      · exact Or.inl ⟨e, rfl, rfl⟩
      · exact Or.inr (Or.inl ⟨e, rfl, rfl⟩)
  by_cases c1 : g j = 38
  · rw [if_pos c1] at hg
    injection hg with hg
    have et : tkL g L j z = (z.1 ++ pp (wS 13) z.2.1, wS 13 :: pr (wS 13) z.2.1, z.2.2) := by
      unfold tkL
      rw [if_neg (by rw [c1]; decide), if_neg (by rw [c1]; decide), if_pos c1]; rfl
    rw [et]
    refine fin 13 0 dp (13 :: rstN 13 Wn) _ p' (Or.inl rfl) ?_ (wOk_i (by omega) (rst_ok b4)) ?_ ?_ (Or.inl rfl) ?_
    · rw [← hg, List.map_cons, ← mpr_n (by omega) b4, ← b3]; rfl
    · rw [c15N, if_neg (by decide), rst_c15 (by omega) b4, Nat.zero_add]; exact b5
    · rw [b9, pr_n (by omega) (by omega) b4, List.map_cons]
    · rw [nbN, if_pos (by decide), if_neg (by decide)]; omega
  · rw [if_neg c1] at hg
    by_cases c2 : g j = 124
    · rw [if_pos c2] at hg
      injection hg with hg
      have et : tkL g L j z = (z.1 ++ pp (wS 14) z.2.1, wS 14 :: pr (wS 14) z.2.1, z.2.2) := by
        unfold tkL
        rw [if_neg (by rw [c2]; decide), if_neg (by rw [c2]; decide), if_neg c1, if_pos c2]; rfl
      rw [et]
      refine fin 14 0 dp (14 :: rstN 14 Wn) _ p' (Or.inr rfl) ?_ (wOk_i (by omega) (rst_ok b4)) ?_ ?_ (Or.inl rfl) ?_
      · rw [← hg, List.map_cons, ← mpr_n (by omega) b4, ← b3]; rfl
      · rw [c15N, if_neg (by decide), rst_c15 (by omega) b4, Nat.zero_add]; exact b5
      · rw [b9, pr_n (by omega) (by omega) b4, List.map_cons]
      · rw [nbN, if_pos (by decide), if_neg (by decide)]; omega
    · rw [if_neg c2] at hg
      by_cases c3 : g j = 41 ∧ 0 < dp
      · rw [if_pos c3] at hg
        injection hg with hg
        have et : tkL g L j z = (z.1 ++ pp (wS 14) z.2.1, (pr (wS 14) z.2.1).tail, z.2.2) := by
          unfold tkL
          rw [if_neg (by rw [c3.1]; decide), if_neg (by rw [c3.1]; decide), if_neg c1, if_neg c2, if_pos c3.1]; rfl
        rw [et]
        have hc := rst_c15 (t := 14) (by omega) b4
        rcases rst_hd b4 with e | ⟨Lr, e⟩
        · rw [e] at hc
          have : c15N Wn = 0 := hc.symm
          omega
        · have hok := rst_ok (t := 14) b4
          rw [e] at hok
          refine fin 14 4 (dp - 1) Lr _ p' (Or.inr rfl) ?_ (wOk_c hok).2 ?_ ?_ (Or.inr rfl) ?_
          · rw [← hg, b3, show (14 : Int32) = nI 14 from rfl, mpr_n (by omega) b4, e]; rfl
          · rw [e, c15N, if_pos rfl] at hc; omega
          · rw [b9, pr_n (by omega) (by omega) b4, e]; rfl
          · rw [e, nbN, if_pos rfl, if_neg (by decide)]; omega
      · rw [if_neg c3] at hg; cases hg
theorem rl_s {g : Nat → Int32} {L j : Nat} {p : Pz} {z : List Int32 × List Int32 × Nat} (h : Rl g L j p z) (hp : p.1 ≤ 4) (hj : j < L) (hg : (goF (g j) p).1 = true) : Rl g L (j + 1) (goF (g j) p).2 (tkL g L j z) := by
  obtain ⟨st, dp, le, sg, va, en, A, N, W⟩ := p
  have h' := h
  obtain ⟨Q, Wn, pe, a1, a2, a3, a4, a5, a6, a7, a8, a9, a10, a11⟩ := h'
  have a1 : A = Q.map (fun x => nI x.1) := a1
  have a2 : N = Q.map (fun x => nI x.2) := a2
  have a3 : W = Wn.map nI := a3
  have a5 : dp = c15N Wn := a5
  have a7 : okH Q 0 (nbN Wn + if st = 4 ∧ en = false then 1 else 0) := a7
  have a11 : St g L j st en le sg va pe := a11
  match st, hp with
  | 0, _ =>
    have a7' : okH Q 0 (nbN Wn) := by
      rw [if_neg (fun q => by have := q.1; omega), Nat.add_zero] at a7; exact a7
    have hpe : en = false ∧ pe = [] := by
      rcases a11 with ⟨_, q1, q2⟩ | ⟨q, _⟩ | ⟨i0, l, _, _, _, _, (⟨q, _⟩ | ⟨s, _, _, _, (⟨q, _⟩ | ⟨v, _, _, _, (⟨q, _⟩ | ⟨w, _, _, q, _⟩)⟩)⟩)⟩
      · exact ⟨q1, q2⟩
      · omega
      · omega
      · omega
      · omega
      · omega
    obtain ⟨e1, e2⟩ := hpe
    subst e1; subst e2
    rw [go_0] at hg ⊢
    by_cases c1 : g j = 33
    · rw [if_pos c1]
      have et : tkL g L j z = (z.1, wS 12 :: z.2.1, z.2.2) := by unfold tkL; rw [if_pos c1]; rfl
      rw [et]
      refine ⟨Q, 12 :: Wn, [], a1, a2, by rw [List.map_cons, ← a3]; rfl, wOk_i (by omega) a4, ?_, a6, ?_, a8, ?_, a10, Or.inl ⟨rfl, rfl, rfl⟩⟩
      · show dp = c15N (12 :: Wn)
        rw [c15N, if_neg (by decide), Nat.zero_add]; exact a5
      · show okH Q 0 (nbN (12 :: Wn) + if 0 = 4 ∧ false = false then 1 else 0)
        rw [nbN, if_neg (by decide), if_neg (by decide), Nat.zero_add]; exact a7'
      · show wS 12 :: z.2.1 = _
        rw [a9, List.map_cons]
    · by_cases c2 : g j = 40
      · rw [if_neg c1, if_pos c2]
        have et : tkL g L j z = (z.1, wS 15 :: z.2.1, z.2.2) := by unfold tkL; rw [if_neg c1, if_pos c2]; rfl
        rw [et]
        refine ⟨Q, 15 :: Wn, [], a1, a2, by rw [List.map_cons, ← a3]; rfl, wOk_i (by omega) a4, ?_, a6, ?_, a8, ?_, a10, Or.inl ⟨rfl, rfl, rfl⟩⟩
        · show dp + 1 = c15N (15 :: Wn)
          rw [c15N, if_pos rfl]; omega
        · show okH Q 0 (nbN (15 :: Wn) + if 0 = 4 ∧ false = false then 1 else 0)
          rw [nbN, if_neg (by decide), if_neg (by decide), Nat.zero_add]; exact a7'
        · show wS 15 :: z.2.1 = _
          rw [a9, List.map_cons]
      · rw [if_neg c1, if_neg c2] at hg ⊢
        obtain ⟨l, hl, e⟩ := (cl_m (g j)).mp (of_decide_eq_true hg)
        rw [tk_cl e (by omega)]
        refine ⟨Q, Wn, [cmpAt g L j], a1, a2, a3, a4, a5, a6, a7, ?_, a9, ?_, Or.inr (Or.inr ⟨j, l, by omega, e, ?_, rfl, Or.inl ⟨rfl, rfl, rfl⟩⟩)⟩
        · show z.1 ++ [cmpAt g L j] = _
          rw [a8, List.append_nil]
        · show z.2.2 + 1 = _
          rw [a10]; rfl
        · show g j - 97 = nI l
          rw [e, show (97 : Int32) = nI 97 from rfl, pk_sub (by omega), Nat.add_sub_cancel_left]
  | 1, _ =>
    rcases a11 with ⟨q, _⟩ | ⟨q, _⟩ | ⟨i0, l, hl, g0, e1, e2, (⟨_, e3, e4⟩ | ⟨s, _, _, _, (⟨q, _⟩ | ⟨v, _, _, _, (⟨q, _⟩ | ⟨w, _, _, q, _⟩)⟩)⟩)⟩
    · omega
    · omega
    · subst e3; subst e4
      rw [go_1] at hg ⊢
      have hc : g (i0 + 1) = 60 ∨ g (i0 + 1) = 61 ∨ g (i0 + 1) = 62 := of_decide_eq_true hg
      obtain ⟨s, hs, es, eg⟩ : ∃ s, s < 3 ∧ sgn (g (i0 + 1)) = nI s ∧ g (i0 + 1) = nI (60 + s) := by
        rcases hc with e | e | e
        · exact ⟨0, by omega, by rw [e]; rfl, e⟩
        · exact ⟨1, by omega, by rw [e]; rfl, e⟩
        · exact ⟨2, by omega, by rw [e]; rfl, e⟩
      rw [tk_id eg (by omega) (by omega)]
      exact ⟨Q, Wn, pe, a1, a2, a3, a4, a5, a6, a7, a8, a9, a10, Or.inr (Or.inr ⟨i0, l, hl, g0, e1, e2, Or.inr ⟨s, hs, es, es, Or.inl ⟨rfl, rfl, rfl⟩⟩⟩)⟩
    · omega
    · omega
    · omega
  | 2, _ =>
    rcases a11 with ⟨q, _⟩ | ⟨q, _⟩ | ⟨i0, l, hl, g0, e1, e2, (⟨q, _⟩ | ⟨s, hs, gs1, e3, (⟨_, e4, e5⟩ | ⟨v, _, _, _, (⟨q, _⟩ | ⟨w, _, _, q, _⟩)⟩)⟩)⟩
    · omega
    · omega
    · omega
    · subst e4; subst e5
      rw [go_2] at hg ⊢
      obtain ⟨v, hv, e⟩ := (di_m (g (i0 + 2))).mp (of_decide_eq_true hg)
      rw [tk_id e (by omega) (by omega)]
      refine ⟨Q, Wn, pe, a1, a2, a3, a4, a5, a6, ?_, a8, a9, a10, Or.inr (Or.inr ⟨i0, l, hl, g0, e1, e2, Or.inr ⟨s, hs, gs1, e3, Or.inr ⟨v, hv, e, rfl, Or.inl ⟨rfl, ?_, rfl⟩⟩⟩⟩)⟩
      · show okH Q 0 (nbN Wn + if 3 = 4 ∧ true = false then 1 else 0)
        rw [if_neg (by decide)]
        rw [if_neg (by decide)] at a7; exact a7
      · show g (i0 + 2) - 48 = nI v
        rw [e, show (48 : Int32) = nI 48 from rfl, pk_sub (by omega), Nat.add_sub_cancel_left]
    · omega
    · omega
  | 3, _ =>
    by_cases q : isDi (g j)
    · have q1 := (di_c (g j)).mpr q
      rw [go_3d q1]
      rcases a11 with ⟨q, _⟩ | ⟨q, _⟩ | ⟨i0, l, hl, g0, e1, e2, (⟨q, _⟩ | ⟨s, hs, gs1, e3, (⟨q, _⟩ | ⟨v, hv, g2, e4, (⟨_, e5, e6⟩ | ⟨w, _, _, q, _⟩)⟩)⟩)⟩
      · omega
      · omega
      · omega
      · omega
      · subst e4; subst e6
        obtain ⟨w, hw, e⟩ := q
        rw [tk_id e (by omega) (by omega)]
        refine ⟨Q, Wn, pe, a1, a2, a3, a4, a5, a6, ?_, a8, a9, a10, Or.inr (Or.inr ⟨i0, l, hl, g0, e1, e2, Or.inr ⟨s, hs, gs1, e3, Or.inr ⟨v, hv, g2, rfl, Or.inr ⟨w, hw, e, rfl, ?_, rfl⟩⟩⟩⟩)⟩
        · show okH Q 0 (nbN Wn + if 4 = 4 ∧ true = false then 1 else 0)
          rw [if_neg (fun x => by cases x.2)]
          rw [if_neg (fun x => by cases x.2)] at a7; exact a7
        · show 10 * va + g (i0 + 3) - 48 = nI (10 * v + w)
          rw [e5, e, show (48 : Int32) = nI 48 from rfl, show (10 : Int32) = nI 10 from rfl, pk_mul, nI_add, pk_sub (by omega)]
          congr 1; omega
      · omega
    · have q1 : ¬ (¬ g j < 48 ∧ ¬ 57 < g j) := fun e => q ((di_c (g j)).mp e)
      rw [go_3 q1] at hg ⊢
      cases hb : gbF (g j) (3, dp, le, sg, va, en, A, N, W) with
      | none => rw [hb] at hg; cases hg
      | some p' =>
        exact rl_gb h (Or.inl rfl) hj (fun _ => q) hb
  | 4, _ =>
    rw [go_4] at hg ⊢
    cases hb : gbF (g j) (4, dp, le, sg, va, en, A, N, W) with
    | none => rw [hb] at hg; cases hg
    | some p' =>
      exact rl_gb h (Or.inr rfl) hj (fun e => by omega) hb
theorem rl_all {g : Nat → Int32} {p0 : Pz} {L : Nat} (h0 : p0.1 = 0 ∧ p0.2.1 = 0) (hR : Rl g L 0 p0 ([], [], 0)) (hL : L ≤ 60) : ∀ j, j ≤ L → (∀ i, i < j → (goF (g i) (gdF p0 g i)).1 = true) → Rl g L j (gdF p0 g j) (tkA g L j)
  | 0, _, _ => hR
  | j + 1, hj, h => by
    have ih := rl_all h0 hR hL j (by omega) (fun i hi => h i (by omega))
    have hs := gs_e2 (g := g) h0 j (by omega) (fun i hi => h i (by omega))
    rw [gdF, tkA]
    exact rl_s ih hs.2.1 (by omega) (h j (by omega))
/-- a question that both read alike -/
theorem q_read {g : Nat → Int32} {p0 : Pz} {L : Nat} (hp0 : ∃ le sg va, p0 = (0, 0, le, sg, va, false, [], [], [])) (hL : L ≤ 60) (hn : gdN p0 g L = L) (hq : okQ (gdF p0 g L)) : ∃ Q : Qn, fnA (gdF p0 g L) = Q.map (fun x => nI x.1) ∧ fnN (gdF p0 g L) = Q.map (fun x => nI x.2) ∧ okM Q ∧ okE Q 0 ∧ qSt g L = Q.map enS ∧ (tkA g L L).2.2 = cmN Q := by
  obtain ⟨le0, sg0, va0, rfl⟩ := hp0
  have hgo : ∀ i, i < L → (goF (g i) (gdF (0, 0, le0, sg0, va0, false, [], [], []) g i)).1 = true := fun i hi => by
    have := fa_first_no _ L i (show i < gdN (0, 0, le0, sg0, va0, false, [], [], []) g L by rw [hn]; exact hi)
    simpa using this
  have hR : Rl g L 0 (0, 0, le0, sg0, va0, false, [], [], []) ([], [], 0) := ⟨[], [], [], rfl, rfl, rfl, (fun x hx => by cases hx), rfl, trivial, rfl, rfl, rfl, rfl, Or.inl ⟨rfl, rfl, rfl⟩⟩
  have h := rl_all (p0 := (0, 0, le0, sg0, va0, false, [], [], [])) ⟨rfl, rfl⟩ hR hL L (Nat.le_refl L) hgo
  have hs := gs_e2 (g := g) (p0 := (0, 0, le0, sg0, va0, false, [], [], [])) ⟨rfl, rfl⟩ L (by omega) hgo
  unfold okQ at hq
  generalize gdF (0, 0, le0, sg0, va0, false, [], [], []) g L = p at h hq hs ⊢
  obtain ⟨st, dp, le, sg, va, en, A, N, W⟩ := p
  have h4 : st ≤ 4 := hs.2.1
  have h3 : 3 ≤ st := hq.1
  obtain ⟨Q, Wn, b1, b2, b3, b4, b5, b6, b7, b8, b9, b10⟩ := rl_end h (by omega) (Nat.le_refl L) (fun _ e => absurd e (Nat.lt_irrefl L))
  have hd : c15N Wn = 0 := by rw [← b5]; exact hq.2
  obtain ⟨i1, i2, i3, i4, i5, i6⟩ := pop_H (t := 14) (by omega) b4
  have hr : rstN 14 Wn = [] := by
    rcases rst_hd b4 with e | ⟨Lr, e⟩
    · exact e
    · have hc := rst_c15 (t := 14) (by omega) b4
      rw [e, c15N, if_pos rfl] at hc
      omega
  rw [hr] at i1
  refine ⟨Q ++ qP (popN 14 Wn), ?_, ?_, okM_ap b6 i2, okE_H (okH_ap b7 i1), ?_, ?_⟩
  · show enA le sg en A ++ mpp (nI 14) W = _
    rw [b1, b3, mpp_n (by omega) b4, List.map_append, i5]
  · show enN va en N ++ zrs (mpp (nI 14) W) = _
    rw [b2, b3, mpp_n (by omega) b4, List.map_append, i6]
  · unfold qSt
    show (tkA g L L).1 ++ pp (wS 14) (tkA g L L).2.1 = _
    rw [b8, b9, pp_n (by omega) (by omega) b4, List.map_append, i4]
  · rw [b10, cmN_ap, i3, Nat.add_zero]
