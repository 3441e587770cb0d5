/-! ===== words: class and model ===== -/
def orV (p : Nat → Nat → Bool) (v : Nat) : Nat → Bool
  | 0 => false
  | j + 1 => orV p v j || p j v
def anV (p : Nat → Nat → Bool) (v : Nat) : Nat → Bool
  | 0 => true
  | j + 1 => anV p v j && p j v
theorem ct_or {p : Nat → Nat → Bool} {v : Nat} : ∀ n, orV p v n = !decide (ctN (fun j => p j v) n = 0)
  | 0 => rfl
  | n + 1 => by
    rw [orV, ctN, ct_or n]
    cases p n v with
    | true => rw [Bool.or_true, if_pos rfl, decide_eq_false (by omega)]; rfl
    | false => rw [Bool.or_false, if_neg (by decide), Nat.add_zero]
theorem ct_an {p : Nat → Nat → Bool} {v : Nat} : ∀ n, anV p v n = decide (ctN (fun j => p j v) n = n)
  | 0 => rfl
  | n + 1 => by
    have hle : ctN (fun j => p j v) n ≤ n := ctN_le
    rw [anV, ctN, ct_an n]
    cases p n v with
    | true =>
      rw [Bool.and_true, if_pos rfl]
      exact decide_eq_decide.mpr (by omega)
    | false => rw [Bool.and_false, if_neg (by decide), decide_eq_false (by omega)]
/-- the bits of place p in the vectors, by what lies there -/
def bP (m : Mm) (g : Nat → Int32) (c s b : Nat) (B : Nat → Nat) (p j v : Nat) : Bool := bitM m c s b B v (lnN g (p + j))
theorem slA_g {m : Mm} {z : Nat → Nat} {c s b : Nat} {B : Nat → Nat} {g : Nat → Int32} {i : Nat} (hz : Z32 z) (hR : RRows m z) (h : RCol m c s b (z c) B) (hL : LOk g) (hi : i < 64) : slA m c (g i) = mkm (slP m c s b B (lnN g i)) 64 := by
  obtain ⟨l, l1, l2⟩ := hL i hi
  have : lnN g i = l := by unfold lnN; rw [l2, nI_clamp (by omega)]
  rw [this, l2]
  exact slA_e hz hR h l1
def Vok (s b : Nat) (B : Nat → Nat) (V : Nat → Bool) : Prop := ∀ v, v < 64 → V v = true → v < rmN s B b
theorem sl_V {m : Mm} {c s b : Nat} {B : Nat → Nat} {V : Nat → Bool} {l : Nat} (hV : Vok s b B V) : mkm (slP m c s b B l) 64 &&& mkm V 64 = mkm (fun v => V v && bitM m c s b B v l) 64 := by
  rw [mk_and]
  refine mk_cg 64 (fun v hv => ?_)
  cases hp : V v with
  | false => rw [Bool.and_false]; rfl
  | true =>
    unfold slP
    rw [decide_eq_true (hV v hv hp), Bool.true_and, Bool.and_true]
theorem ge_e {m : Mm} {z : Nat → Nat} {c s b : Nat} {B : Nat → Nat} {V : Nat → Bool} {p : Nat} (hz : Z32 z) (hR : RRows m z) (h : RCol m c s b (z c) B) (hL : LOk (mA m 39)) (hV : Vok s b B V) : ∀ j, p + j ≤ 64 → geF m c (mkm V 64) p j = mkm (fun v => V v && anV (bP m (mA m 39) c s b B p) v j) 64
  | 0, _ => mk_cg 64 (fun v hv => by rw [anV, Bool.and_true])
  | j + 1, hj => by
    rw [geF, ge_e hz hR h hL hV j (by omega), slA_g hz hR h hL (show p + j < 64 by omega), sl_V hV, mk_and]
    refine mk_cg 64 (fun v hv => ?_)
    rw [anV]
    show (V v && _ && (V v && bP m (mA m 39) c s b B p j v)) = _
    cases V v <;> simp
theorem gs_e {m : Mm} {z : Nat → Nat} {c s b : Nat} {B : Nat → Nat} {V : Nat → Bool} {p : Nat} (hz : Z32 z) (hR : RRows m z) (h : RCol m c s b (z c) B) (hL : LOk (mA m 39)) (hV : Vok s b B V) : ∀ j, p + j ≤ 64 → gsF m c (mkm V 64) p j = mkm (fun v => V v && orV (bP m (mA m 39) c s b B p) v j) 64
  | 0, _ => (mk_0 (fun v hv => by rw [orV, Bool.and_false])).symm
  | j + 1, hj => by
    rw [gsF, gs_e hz hR h hL hV j (by omega), slA_g hz hR h hL (show p + j < 64 by omega), sl_V hV, mk_orr]
    refine mk_cg 64 (fun v hv => ?_)
    rw [orV]
    show ((V v && _) || (V v && bP m (mA m 39) c s b B p j v)) = _
    cases V v <;> simp
theorem ctN_sm {p : Nat → Bool} : ∀ n, ctN p n = sm (fun v => if p v then 1 else 0) n
  | 0 => rfl
  | n + 1 => by rw [ctN, sm, ctN_sm n]
/-- words that group h adds, for vector v -/
def adW (m : Mm) (g : Nat → Int32) (c s b : Nat) (B : Nat → Nat) (v h : Nat) : Nat := if nwM m g c s b B v h < 2 ∧ nwM m g c s b B v h = kdM m g c s b B v h then 0 else 1
theorem sq_e {m : Mm} {z : Nat → Nat} {c s b : Nat} {B : Nat → Nat} {V : Nat → Bool} (hz : Z32 z) (hR : RRows m z) (h : RCol m c s b (z c) B) (hL : LOk (mA m 39)) (hV : Vok s b B V) : ∀ n, n ≤ 9 → sqF m c (mkm V 64) n = nI (sm (fun v => if V v then woM m (mA m 39) c s b B v n else 0) 64)
  | 0, _ => by
    have : sm (fun v => if V v then woM m (mA m 39) c s b B v 0 else 0) 64 = 0 := by
      rw [sm_cg (g := fun _ => 0) 64 (fun v hv => by rw [woM]; split <;> rfl), sm_z]
    rw [this]; rfl
  | n + 1, hn => by
    have ih := sq_e hz hR h hL hV n (by omega)
    have eG : ∀ n, n < 9 → geF m c (mkm V 64) (7 * n) 7 = mkm (fun v => V v && decide (onM m (mA m 39) c s b B v n 7 = 7)) 64 := fun n hn => by
      rw [ge_e hz hR h hL hV 7 (by omega)]
      exact mk_cg 64 (fun v hv => by rw [ct_an]; rfl)
    have eS : ∀ n, n < 9 → gsF m c (mkm V 64) (7 * n) 7 = mkm (fun v => V v && !decide (onM m (mA m 39) c s b B v n 7 = 0)) 64 := fun n hn => by
      rw [gs_e hz hR h hL hV 7 (by omega)]
      exact mk_cg 64 (fun v hv => by rw [ct_or]; rfl)
    have eZ : ∀ n, n ≤ 9 → fzF m c (mkm V 64) n = mkm (fun v => V v && decide (kdM m (mA m 39) c s b B v n = 0)) 64 := fun n hn => by
      match n, hn with
      | 0, _ => exact (mk_0 (fun v hv => by rw [kdM, decide_eq_false (by decide), Bool.and_false])).symm
      | n + 1, hn =>
        rw [fzF, eS n (by omega), mk_not, mk_and]
        refine mk_cg 64 (fun v hv => ?_)
        rw [kdM]
        unfold nwM
        rw [if_neg (show ¬ n = 9 by omega)]
        cases V v with
        | false => rfl
        | true =>
          rw [Bool.true_and, Bool.true_and, Bool.true_and, Bool.not_not]
          by_cases q : onM m (mA m 39) c s b B v n 7 = 0
          · rw [if_pos q, decide_eq_true q]; rfl
          · rw [if_neg q, decide_eq_false q]
            split <;> rfl
    have eO : ∀ n, n ≤ 9 → foF m c (mkm V 64) n = mkm (fun v => V v && decide (kdM m (mA m 39) c s b B v n = 1)) 64 := fun n hn => by
      match n, hn with
      | 0, _ => exact (mk_0 (fun v hv => by rw [kdM, decide_eq_false (by decide), Bool.and_false])).symm
      | n + 1, hn =>
        rw [foF, eG n (by omega)]
        refine mk_cg 64 (fun v hv => ?_)
        rw [kdM]
        unfold nwM
        rw [if_neg (show ¬ n = 9 by omega)]
        congr 1
        by_cases q : onM m (mA m 39) c s b B v n 7 = 0
        · rw [if_pos q, decide_eq_false (by omega)]; rfl
        · rw [if_neg q]
          by_cases q7 : onM m (mA m 39) c s b B v n 7 = 7
          · rw [if_pos q7, decide_eq_true q7]; rfl
          · rw [if_neg q7, decide_eq_false q7]; rfl
    rw [sqF, ih, eS n (by omega), eG n (by omega), eO n (by omega), eZ (n + 1) (by omega), eZ n (by omega), mk_not, mk_not, mk_not, mk_and, mk_and, mk_and, bc_mk, bc_mk, bc_mk, nI_add, nI_add, nI_add, ctN_sm, ctN_sm, ctN_sm, ← sm_add, ← sm_add, ← sm_add]
    congr 1
    refine sm_cg 64 (fun v hv => ?_)
    rw [woM, kdM]
    unfold nwM
    rw [if_neg (show ¬ n = 9 by omega)]
    cases V v with
    | false => rfl
    | true =>
      have hkd := kd_le (m := m) (g := mA m 39) (c := c) (s := s) (b := b) (B := B) (v := v) n
      simp only [Bool.true_and, if_true]
      by_cases q : onM m (mA m 39) c s b B v n 7 = 0
      · have q7 : ¬ onM m (mA m 39) c s b B v n 7 = 7 := by omega
        simp only [q, decide_true, Bool.not_true, Bool.false_and, if_false, Bool.false_eq_true, if_true, decide_false]
        rcases (show kdM m (mA m 39) c s b B v n = 0 ∨ kdM m (mA m 39) c s b B v n = 1 ∨ kdM m (mA m 39) c s b B v n = 2 by omega) with e | e | e <;> simp [e]
      · by_cases q7 : onM m (mA m 39) c s b B v n 7 = 7
        · rcases (show kdM m (mA m 39) c s b B v n = 0 ∨ kdM m (mA m 39) c s b B v n = 1 ∨ kdM m (mA m 39) c s b B v n = 2 by omega) with e | e | e <;> simp [q7, e]
        · rcases (show kdM m (mA m 39) c s b B v n = 0 ∨ kdM m (mA m 39) c s b B v n = 1 ∨ kdM m (mA m 39) c s b B v n = 2 by omega) with e | e | e <;> simp [q, q7, e]
theorem wo_10 {m : Mm} {g : Nat → Int32} {c s b v : Nat} {B : Nat → Nat} : woM m g c s b B v 10 = woM m g c s b B v 9 + 1 := by
  rw [woM]
  unfold nwM
  rw [if_pos rfl, if_neg (fun q => by omega)]
theorem sqb_e {m : Mm} {z : Nat → Nat} {c s b : Nat} {B : Nat → Nat} {V : Nat → Bool} (hz : Z32 z) (hR : RRows m z) (h : RCol m c s b (z c) B) (hL : LOk (mA m 39)) (hV : Vok s b B V) : sqF m c (mkm V 64) 9 + bcI (mkm V 64) = nI (sm (fun v => if V v then woM m (mA m 39) c s b B v 10 else 0) 64) := by
  rw [sq_e hz hR h hL hV 9 (Nat.le_refl 9), bc_mk, nI_add, ctN_sm, ← sm_add]
  congr 1
  refine sm_cg 64 (fun v hv => ?_)
  rw [wo_10]
  cases V v <;> rfl
theorem woM_cg {m : Mm} {g g' : Nat → Int32} {c s b v : Nat} {B : Nat → Nat} (hg : ∀ j, j < 64 → g j = g' j) : ∀ h, h ≤ 10 → woM m g c s b B v h = woM m g' c s b B v h := by
  have e : ∀ h, h < 10 → nwM m g c s b B v h = nwM m g' c s b B v h := fun h hh => by
    unfold nwM
    by_cases q : h = 9
    · rw [if_pos q, if_pos q]
    · have : onM m g c s b B v h 7 = onM m g' c s b B v h 7 := by
        unfold onM
        rw [ctN_sm, ctN_sm]
        refine sm_cg 7 (fun i hi => ?_)
        have : lnN g (7 * h + i) = lnN g' (7 * h + i) := by unfold lnN; rw [hg _ (by omega)]
        rw [this]
      rw [if_neg q, if_neg q, this]
  have k : ∀ h, h ≤ 10 → kdM m g c s b B v h = kdM m g' c s b B v h := fun h hh => by
    match h, hh with
    | 0, _ => rfl
    | h + 1, hh => rw [kdM, kdM, e h (by omega)]
  intro h
  induction h with
  | zero => intro _; rfl
  | succ h ih => intro hh; rw [woM, woM, ih (by omega), e h (by omega), k h (by omega)]
theorem awV_sm {m : Mm} {g : Nat → Int32} {c s b : Nat} {B : Nat → Nat} : ∀ n, awV m g c s b B n = sm (fun v => woM m g c s b B v 10) n
  | 0 => rfl
  | n + 1 => by rw [awV, sm, awV_sm n]
theorem sm_cut {f : Nat → Nat} {R : Nat} : ∀ n, sm (fun v => if decide (v < R) then f v else 0) n = sm f (min n R)
  | 0 => by rw [Nat.zero_min]; rfl
  | n + 1 => by
    rw [sm, sm_cut n]
    by_cases q : n < R
    · rw [Nat.min_eq_left (by omega), Nat.min_eq_left (by omega), decide_eq_true q, if_pos rfl, sm]
    · rw [Nat.min_eq_right (by omega), Nat.min_eq_right (by omega), decide_eq_false q, if_neg (by decide), Nat.add_zero]
set_option maxRecDepth 100000 in
theorem low_all : ∀ n : Fin 65, fLow (nI n.1) = lN (2 ^ n.1 - 1) := by decide +kernel
theorem low_mk {R : Nat} (h : R ≤ 64) : fLow (nI R) = mkm (fun v => decide (v < R)) 64 := by
  rw [low_all ⟨R, by omega⟩]
  have h1 : 2 ^ R ≤ 2 ^ 64 := Nat.pow_le_pow_right (by omega) h
  have h2 := Nat.two_pow_pos R
  refine mkm_ext (by show 2 ^ R - 1 < 2 ^ 64; omega) (fun v hv => ?_)
  exact Nat.testBit_two_pow_sub_one R v
theorem one_mk {v : Nat} (h : v < 64) : oneB (nI v) = mkm (fun i => decide (i = v)) 64 := by
  unfold oneB
  rw [show (1 : Int64) = lN 1 from rfl, on_shl h, Nat.one_mul]
  refine mkm_ext (Nat.pow_lt_pow_right (by omega) h) (fun i hi => ?_)
  rw [Nat.testBit_two_pow]
  by_cases q : i = v
  · rw [decide_eq_true q, decide_eq_true q.symm]
  · rw [decide_eq_false q, decide_eq_false (fun e => q e.symm)]
theorem sm_one {f : Nat → Nat} {v : Nat} : ∀ n, sm (fun i => if decide (i = v) then f i else 0) n = if v < n then f v else 0
  | 0 => rfl
  | n + 1 => by
    rw [sm, sm_one n]
    by_cases q : n = v
    · subst q; rw [if_neg (by omega), decide_eq_true rfl, if_pos rfl, if_pos (by omega), Nat.zero_add]
    · rw [decide_eq_false q, if_neg (show ¬ false = true by decide), Nat.add_zero]
      by_cases p : v < n
      · rw [if_pos p, if_pos (by omega)]
      · rw [if_neg p, if_neg (by omega)]
theorem tw_e {m : Mm} {s b z : Nat → Nat} {B : Nat → Nat → Nat} (hz : Z32 z) (hR : RRows m z) (h : ∀ c, c < 4 → RCol m c (s c) (b c) (z c) (B c)) (hL : LOk (mA m 39)) : ∀ c, c ≤ 4 → twF m c = nI (awM m (mA m 39) s b B c)
  | 0, _ => rfl
  | c + 1, hc => by
    have hcol := h c (by omega)
    have h64 := hcol.2.1
    rw [twF, awM, tw_e hz hR h hL c (by omega), room_e hcol, low_mk h64, sqb_e hz hR hcol hL (fun v _ q => of_decide_eq_true q), nI_add, sm_cut, Nat.min_eq_right h64, awV_sm]
theorem wd_e {m : Mm} {z : Nat → Nat} {c s b v : Nat} {B : Nat → Nat} (hz : Z32 z) (hR : RRows m z) (h : RCol m c s b (z c) B) (hL : LOk (mA m 39)) (hv : v < rmN s B b) : sqF m c (oneB (nI v)) 9 + bcI (oneB (nI v)) = nI (woM m (mA m 39) c s b B v 10) := by
  have h64 := h.2.1
  rw [one_mk (by omega), sqb_e hz hR h hL (fun i _ q => by have := of_decide_eq_true q; omega), sm_one, if_pos (by omega)]
