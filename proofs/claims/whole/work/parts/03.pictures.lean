/-! ===== the pictures: a heap of n cells at places 1..n (place 0: the script), values with places for addresses ===== -/
abbrev Ac : Type := (Nat × vp_A) ⊕ (Nat × List Value)
abbrev Lo : Type := List (Option Value)
abbrev Po : Type := Option Value → Nat → (Nat → Ac) → Prop
abbrev Gd : Type := (Nat → ClassId) × (Nat → Nat → Nat) × (Nat → ClassId)
def am_ad (b bs : Nat) : Nat → Nat
  | 0 => b
  | k + 1 => bs + k
def am_cv (b bs : Nat) : Value → Value
  | .ref k => .ref (am_ad b bs k)
  | .int x => .int x
  | .long x => .long x
  | .float x => .float x
  | .double x => .double x
  | .null => .null
  | .retAddr x => .retAddr x
def am_cr (b bs : Nat) (x : (Nat → Int32) ⊕ (Nat → Int64) ⊕ (Nat → UInt32) ⊕ (Nat → UInt64) ⊕ (Nat → Option Nat)) : (Nat → Int32) ⊕ (Nat → Int64) ⊕ (Nat → UInt32) ⊕ (Nat → UInt64) ⊕ (Nat → Option Nat) := match x with
  | .inl g => .inl g
  | .inr (.inl g) => .inr (.inl g)
  | .inr (.inr (.inl g)) => .inr (.inr (.inl g))
  | .inr (.inr (.inr (.inl g))) => .inr (.inr (.inr (.inl g)))
  | .inr (.inr (.inr (.inr g))) => .inr (.inr (.inr (.inr (fun i => (g i).map (am_ad b bs)))))
def am_cc (b bs : Nat) (dA : Nat → ClassId) : Ac → va_E
  | .inl (t, n, x) => .inl (dA t, n, am_cr b bs x)
  | .inr (c, fs) => .inr (c, fs.map (am_cv b bs))
def am_ws (b bs : Nat) (dA : Nat → ClassId) (n : Nat) (f : Nat → Ac) : va_W := (List.range n).map (fun j => (bs + j, am_cc b bs dA (f (j + 1))))
def am_ty (dA : Nat → ClassId) : List (ClassId × FieldType) := [(dA 0, .int), (dA 1, .boolean), (dA 2, .long), (dA 3, .object RX1), (dA 4, .object RX4)]
def am_TB (G : Gd) (U : State) : Prop := va_K (G.1, G.2.1) vwCl (am_ty G.2.2) U ∧ (∀ w ∈ am_nw, va_Nw w U) ∧ va_AO RX1 U ∧ va_AO RX4 U
/-- no cell; the script -/
def am_nil : Ac := .inr (99, [])
def am_scr : Ac := .inr (98, [])
def am_HP (G : Gd) (b bs n : Nat) (f : Nat → Ac) (H : Heap) : Prop := H.size = bs + n ∧ va_P (G.1, G.2.1) vwCl (am_ws b bs G.2.2 n f) H ∧ (∀ k, n < k → f k = am_nil) ∧ f 0 = am_scr
theorem am_ws_get {b bs : Nat} {dA : Nat → ClassId} {n : Nat} {f : Nat → Ac} {k : Nat} (h : k < n) : (am_ws b bs dA n f)[k]? = some (bs + k, am_cc b bs dA (f (k + 1))) := by
  simp [am_ws, h]
theorem am_ws_set {b bs : Nat} {dA : Nat → ClassId} {n : Nat} {f : Nat → Ac} {k : Nat} (h : k < n) (c : Ac) : (am_ws b bs dA n f).set k (bs + k, am_cc b bs dA c) = am_ws b bs dA n (va_up f (k + 1) c) := by
  apply List.ext_getElem?
  intro j
  by_cases hj : j < n
  · rw [am_ws_get hj]
    by_cases hk : j = k
    · subst hk
      rw [List.getElem?_set_self (by simp [am_ws, hj])]
      simp [va_up]
    · rw [List.getElem?_set_ne (Ne.symm hk), am_ws_get hj]
      simp [va_up, hk]
  · rw [List.getElem?_eq_none (by simp [am_ws]; omega), List.getElem?_eq_none (by simp [am_ws]; omega)]
theorem am_ws_push {b bs : Nat} {dA : Nat → ClassId} {n : Nat} {f : Nat → Ac} (c : Ac) : am_ws b bs dA n f ++ [(bs + n, am_cc b bs dA c)] = am_ws b bs dA (n + 1) (va_up f (n + 1) c) := by
  apply List.ext_getElem?
  intro j
  rcases Nat.lt_trichotomy j n with hj | hj | hj
  · rw [List.getElem?_append_left (by simp [am_ws, hj]), am_ws_get hj, am_ws_get (Nat.lt_succ_of_lt hj)]
    simp [va_up, Nat.ne_of_lt hj]
  · subst hj
    rw [List.getElem?_append_right (by simp [am_ws]), am_ws_get (Nat.lt_succ_self _)]
    simp [am_ws, va_up]
  · rw [List.getElem?_eq_none (by simp [am_ws]; omega), List.getElem?_eq_none (by simp [am_ws]; omega)]
theorem am_ws_D {b bs : Nat} {dA : Nat → ClassId} {n : Nat} {f : Nat → Ac} : va_D (fun q => bs ≤ q) (am_ws b bs dA n f) := by
  have key : ∀ (k : Nat) (q : Nat × va_E), (am_ws b bs dA n f)[k]? = some q → q.1 = bs + k := by
    intro k q hq
    by_cases hk : k < n
    · rw [am_ws_get hk] at hq
      cases hq
      rfl
    · rw [List.getElem?_eq_none (by simp [am_ws]; omega)] at hq
      cases hq
  refine ⟨fun i j p q hi hj e => ?_, fun k q hq => ?_⟩
  · have := key i p hi
    have := key j q hj
    omega
  · have := key k q hq
    show bs ≤ q.1
    omega
/-- a cell's picture changes, nothing else does -/
theorem am_HP_set {G : Gd} {b bs n : Nat} {f : Nat → Ac} {H H1 : Heap} (h : am_HP G b bs n f H) {k : Nat} (hk : k < n) (c : Ac) (hc : va_at (G.1, G.2.1) vwCl (bs + k, am_cc b bs G.2.2 c) H1) (hz : H1.size = H.size) (ho : ∀ q : Nat, q ≠ bs + k → H1[q]? = H[q]?) : am_HP G b bs n (va_up f (k + 1) c) H1 := by
  refine ⟨hz.trans h.1, ?_, fun j hj => ?_, ?_⟩
  · rw [← am_ws_set hk]
    exact h.2.1.set am_ws_D (am_ws_get hk) hc ho
  · rw [va_up_ne _ _ (by omega)]
    exact h.2.2.1 j hj
  · rw [va_up_ne _ _ (by omega)]
    exact h.2.2.2
theorem am_HP_push {G : Gd} {b bs n : Nat} {f : Nat → Ac} {H H1 : Heap} (h : am_HP G b bs n f H) (c : Ac) (hc : va_at (G.1, G.2.1) vwCl (bs + n, am_cc b bs G.2.2 c) H1) (hz : H1.size = H.size + 1) (ho : ∀ q : Nat, q < H.size → H1[q]? = H[q]?) : am_HP G b bs (n + 1) (va_up f (n + 1) c) H1 := by
  refine ⟨by rw [hz, h.1]; omega, ?_, fun j hj => ?_, ?_⟩
  · rw [← am_ws_push]
    refine (h.2.1.kept (fun k q hq => ho q.1 (h.2.1 k q hq).lt)).app (fun k q hq => ?_)
    have hz : k < 1 := (List.getElem?_eq_some_iff.mp hq).1
    rw [show k = 0 by omega] at hq
    cases hq
    exact hc
  · rw [va_up_ne _ _ (by omega)]
    exact h.2.2.1 j (by omega)
  · rw [va_up_ne _ _ (by omega)]
    exact h.2.2.2
/-- a place that holds an object of a class that there is, or an array, is one of the cells -/
theorem am_HP_obj {G : Gd} {b bs n : Nat} {f : Nat → Ac} {H : Heap} (h : am_HP G b bs n f H) {k ci : Nat} {fs : List Value} (hk : f k = .inr (ci, fs)) (hc : ci < 90) : ∃ j, k = j + 1 ∧ j < n := by
  cases k with
  | zero => rw [h.2.2.2] at hk; simp only [am_scr, Sum.inr.injEq, Prod.mk.injEq] at hk; omega
  | succ j =>
    refine ⟨j, rfl, ?_⟩
    rcases Nat.lt_or_ge j n with q | q
    · exact q
    · rw [h.2.2.1 (j + 1) (by omega)] at hk
      simp only [am_nil, Sum.inr.injEq, Prod.mk.injEq] at hk
      omega
theorem am_HP_arr {G : Gd} {b bs n : Nat} {f : Nat → Ac} {H : Heap} (h : am_HP G b bs n f H) {k : Nat} {a : Nat × vp_A} (hk : f k = .inl a) : ∃ j, k = j + 1 ∧ j < n := by
  cases k with
  | zero => rw [h.2.2.2] at hk; simp [am_scr] at hk
  | succ j =>
    refine ⟨j, rfl, ?_⟩
    rcases Nat.lt_or_ge j n with q | q
    · exact q
    · rw [h.2.2.1 (j + 1) (by omega)] at hk
      simp [am_nil] at hk
theorem am_HP_scr {G : Gd} {b bs n : Nat} {f : Nat → Ac} {H : Heap} (h : am_HP G b bs n f H) {k : Nat} {fs : List Value} (hk : f k = .inr (98, fs)) : k = 0 := by
  cases k with
  | zero => rfl
  | succ j =>
    exfalso
    rcases Nat.lt_or_ge j n with q | q
    · have z : va_at (G.1, G.2.1) vwCl (bs + j, am_cc b bs G.2.2 (f (j + 1))) H := h.2.1 j _ (am_ws_get q)
      rw [hk] at z
      obtain ⟨r, h1, -⟩ := z
      simp [vwCl] at h1
    · rw [h.2.2.1 (j + 1) (by omega)] at hk
      simp [am_nil] at hk
theorem am_HP_get {G : Gd} {b bs n : Nat} {f : Nat → Ac} {H : Heap} (_ : am_HP G b bs n f H) {j : Nat} (hj : j < n) {c : Ac} (hk : f (j + 1) = c) : (am_ws b bs G.2.2 n f)[j]? = some (bs + j, am_cc b bs G.2.2 c) := by
  rw [am_ws_get hj, hk]
/-! locals: what is known of each -/
def ld : Lo → Nat → Option Value
  | [], _ => none
  | x :: _, 0 => x
  | _ :: t, i + 1 => ld t i
def kil : Option Value → Option Value
  | some (.long _) => none
  | some (.double _) => none
  | x => x
def clr : Lo → Lo
  | [] => []
  | _ :: t => none :: t
def st1 : Lo → Nat → Value → Lo
  | [], 0, v => [some v]
  | [], i + 1, v => none :: st1 [] i v
  | _ :: t, 0, v => some v :: t
  | x :: t, i + 1, v => (match i with | 0 => kil x | _ + 1 => x) :: st1 t i v
def st2 : Lo → Nat → Value → Lo
  | [], 0, v => [some v]
  | [], i + 1, v => none :: st2 [] i v
  | _ :: t, 0, v => some v :: clr t
  | x :: t, i + 1, v => (match i with | 0 => kil x | _ + 1 => x) :: st2 t i v
def am_pr (b bs : Nat) : Nat → Lo → List (Nat × Value)
  | _, [] => []
  | k, none :: t => am_pr b bs (k + 1) t
  | k, some v :: t => (k, am_cv b bs v) :: am_pr b bs (k + 1) t
theorem am_pr_mem {b bs : Nat} : ∀ (ls : Lo) (k : Nat) (q : Nat × Value), q ∈ am_pr b bs k ls ↔ ∃ i v, ld ls i = some v ∧ q = (k + i, am_cv b bs v)
  | [], k, q => by simp [am_pr, ld]
  | none :: t, k, q => by
    rw [am_pr, am_pr_mem t (k + 1) q]
    constructor
    · rintro ⟨i, v, h1, h2⟩
      exact ⟨i + 1, v, h1, by rw [h2]; congr 1; omega⟩
    · rintro ⟨i, v, h1, h2⟩
      cases i with
      | zero => simp [ld] at h1
      | succ i => exact ⟨i, v, h1, by rw [h2]; congr 1; omega⟩
  | some w :: t, k, q => by
    rw [am_pr, List.mem_cons, am_pr_mem t (k + 1) q]
    constructor
    · rintro (h | ⟨i, v, h1, h2⟩)
      · exact ⟨0, w, rfl, h⟩
      · exact ⟨i + 1, v, h1, by rw [h2]; congr 1; omega⟩
    · rintro ⟨i, v, h1, h2⟩
      cases i with
      | zero => left; simp [ld] at h1; subst h1; exact h2
      | succ i => right; exact ⟨i, v, h1, by rw [h2]; congr 1; omega⟩
def am_lh (b bs : Nat) (la : Array Slot) (n : Nat) (ls : Lo) : Prop := lv_has la n (am_pr b bs 0 ls)
theorem am_lh_at {b bs n : Nat} {la : Array Slot} {ls : Lo} (h : am_lh b bs la n ls) {i : Nat} {v : Value} (hv : ld ls i = some v) : la[i]? = some (.val (am_cv b bs v)) := by
  have := h.2.2 (i, am_cv b bs v) ((am_pr_mem ls 0 _).mpr ⟨i, v, hv, by simp⟩)
  exact this
theorem am_cv_cat (b bs : Nat) (v : Value) : (am_cv b bs v).category = v.category := by cases v <;> rfl
theorem kil_some {x : Option Value} {v : Value} (h : kil x = some v) : x = some v ∧ v.category = 1 := by
  cases x with
  | none => simp [kil] at h
  | some w => cases w <;> simp [kil] at h <;> subst h <;> exact ⟨rfl, rfl⟩
theorem ld_clr {t : Lo} {i : Nat} {v : Value} (h : ld (clr t) i = some v) : ld t i = some v ∧ i ≠ 0 := by
  cases t with
  | nil => simp [clr, ld] at h
  | cons x t =>
    cases i with
    | zero => simp [clr, ld] at h
    | succ i => exact ⟨h, by omega⟩
theorem ld_st1 : ∀ (ls : Lo) (j : Nat) (w : Value) (i : Nat) (v : Value), ld (st1 ls j w) i = some v → (i = j ∧ v = w) ∨ (i ≠ j ∧ ld ls i = some v ∧ ¬ (i + 1 = j ∧ v.category = 2))
  | [], 0, w, 0, v, h => by simp [st1, ld] at h; exact Or.inl ⟨rfl, h.symm⟩
  | [], 0, w, i + 1, v, h => by simp [st1, ld] at h
  | [], j + 1, w, 0, v, h => by simp [st1, ld] at h
  | [], j + 1, w, i + 1, v, h => by
    have h' : ld (st1 [] j w) i = some v := h
    rcases ld_st1 [] j w i v h' with ⟨h1, h2⟩ | ⟨h1, h2, h3⟩
    · exact Or.inl ⟨by omega, h2⟩
    · simp [ld] at h2
  | x :: t, 0, w, 0, v, h => by simp [st1, ld] at h; exact Or.inl ⟨rfl, h.symm⟩
  | x :: t, 0, w, i + 1, v, h => Or.inr ⟨by omega, h, by omega⟩
  | x :: t, 1, w, 0, v, h => by
    have h' : kil x = some v := h
    obtain ⟨h1, h2⟩ := kil_some h'
    exact Or.inr ⟨by omega, h1, by omega⟩
  | x :: t, j + 2, w, 0, v, h => Or.inr ⟨by omega, h, by omega⟩
  | x :: t, j + 1, w, i + 1, v, h => by
    have h' : ld (st1 t j w) i = some v := h
    rcases ld_st1 t j w i v h' with ⟨h1, h2⟩ | ⟨h1, h2, h3⟩
    · exact Or.inl ⟨by omega, h2⟩
    · exact Or.inr ⟨by omega, h2, fun q => h3 ⟨by omega, q.2⟩⟩
theorem ld_st2 : ∀ (ls : Lo) (j : Nat) (w : Value) (i : Nat) (v : Value), ld (st2 ls j w) i = some v → (i = j ∧ v = w) ∨ (i ≠ j ∧ i ≠ j + 1 ∧ ld ls i = some v ∧ ¬ (i + 1 = j ∧ v.category = 2))
  | [], 0, w, 0, v, h => by simp [st2, ld] at h; exact Or.inl ⟨rfl, h.symm⟩
  | [], 0, w, i + 1, v, h => by simp [st2, ld] at h
  | [], j + 1, w, 0, v, h => by simp [st2, ld] at h
  | [], j + 1, w, i + 1, v, h => by
    have h' : ld (st2 [] j w) i = some v := h
    rcases ld_st2 [] j w i v h' with ⟨h1, h2⟩ | ⟨h1, h2, h3, h4⟩
    · exact Or.inl ⟨by omega, h2⟩
    · simp [ld] at h3
  | x :: t, 0, w, 0, v, h => by simp [st2, ld] at h; exact Or.inl ⟨rfl, h.symm⟩
  | x :: t, 0, w, i + 1, v, h => by
    have h' : ld (clr t) i = some v := h
    obtain ⟨h1, h2⟩ := ld_clr h'
    exact Or.inr ⟨by omega, by omega, h1, by omega⟩
  | x :: t, 1, w, 0, v, h => by
    have h' : kil x = some v := h
    obtain ⟨h1, h2⟩ := kil_some h'
    exact Or.inr ⟨by omega, by omega, h1, by omega⟩
  | x :: t, j + 2, w, 0, v, h => Or.inr ⟨by omega, by omega, h, by omega⟩
  | x :: t, j + 1, w, i + 1, v, h => by
    have h' : ld (st2 t j w) i = some v := h
    rcases ld_st2 t j w i v h' with ⟨h1, h2⟩ | ⟨h1, h2, h3, h4⟩
    · exact Or.inl ⟨by omega, h2⟩
    · exact Or.inr ⟨by omega, by omega, h3, fun q => h4 ⟨by omega, q.2⟩⟩
theorem am_lh_st1 {b bs n : Nat} {la : Array Slot} {ls : Lo} {j : Nat} {w : Value} (h : lv_has la n ((j, am_cv b bs w) :: (am_pr b bs 0 ls).filter (fun q => !(q.1 == j) && !(q.1 + 1 == j && q.2.category == 2)))) : am_lh b bs la n (st1 ls j w) := by
  refine ⟨h.1, h.2.1, fun q hq => h.2.2 q ?_⟩
  obtain ⟨i, v, h1, h2⟩ := (am_pr_mem _ 0 q).mp hq
  rcases ld_st1 ls j w i v h1 with ⟨e1, e2⟩ | ⟨e1, e2, e3⟩
  · subst e1; subst e2
    rw [h2, Nat.zero_add]
    exact List.mem_cons_self
  · refine List.mem_cons_of_mem _ (List.mem_filter.mpr ⟨(am_pr_mem ls 0 q).mpr ⟨i, v, e2, h2⟩, ?_⟩)
    rw [h2, Nat.zero_add]
    simp only [am_cv_cat]
    simp only [Bool.and_eq_true, Bool.not_eq_true', beq_eq_false_iff_ne, ne_eq, Bool.and_eq_false_iff]
    refine ⟨e1, ?_⟩
    by_cases hc : v.category = 2
    · exact Or.inl (fun z => e3 ⟨z, hc⟩)
    · exact Or.inr hc
theorem am_lh_st2 {b bs n : Nat} {la : Array Slot} {ls : Lo} {j : Nat} {w : Value} (h : lv_has la n ((j, am_cv b bs w) :: (am_pr b bs 0 ls).filter (fun q => !(q.1 == j) && (!(q.1 == j + 1) && !(q.1 + 1 == j && q.2.category == 2))))) : am_lh b bs la n (st2 ls j w) := by
  refine ⟨h.1, h.2.1, fun q hq => h.2.2 q ?_⟩
  obtain ⟨i, v, h1, h2⟩ := (am_pr_mem _ 0 q).mp hq
  rcases ld_st2 ls j w i v h1 with ⟨e1, e2⟩ | ⟨e1, e2, e3, e4⟩
  · subst e1; subst e2
    rw [h2, Nat.zero_add]
    exact List.mem_cons_self
  · refine List.mem_cons_of_mem _ (List.mem_filter.mpr ⟨(am_pr_mem ls 0 q).mpr ⟨i, v, e3, h2⟩, ?_⟩)
    rw [h2, Nat.zero_add]
    simp only [am_cv_cat]
    simp only [Bool.and_eq_true, Bool.not_eq_true', beq_eq_false_iff_ne, ne_eq, Bool.and_eq_false_iff]
    refine ⟨e1, e2, ?_⟩
    by_cases hc : v.category = 2
    · exact Or.inl (fun z => e4 ⟨z, hc⟩)
    · exact Or.inr hc
/-- fewer things known of the locals -/
def lsub : Lo → Lo → Prop
  | _, [] => True
  | [], y :: u => y = none ∧ lsub [] u
  | x :: t, y :: u => (y = none ∨ x = y) ∧ lsub t u
theorem ld_lsub : ∀ (ls ls' : Lo), lsub ls ls' → ∀ i v, ld ls' i = some v → ld ls i = some v
  | _, [], _, i, v, h => by simp [ld] at h
  | [], y :: u, hs, 0, v, h => by
    have h' : y = some v := h
    rw [hs.1] at h'; cases h'
  | [], y :: u, hs, i + 1, v, h => by
    have := ld_lsub [] u hs.2 i v h
    simp [ld] at this
  | x :: t, y :: u, hs, 0, v, h => by
    have h' : y = some v := h
    rcases hs.1 with e | e
    · rw [e] at h'; cases h'
    · rw [← e] at h'; exact h'
  | x :: t, y :: u, hs, i + 1, v, h => ld_lsub t u hs.2 i v h
theorem am_lh_sub {b bs n : Nat} {la : Array Slot} {ls ls' : Lo} (h : am_lh b bs la n ls) (hs : lsub ls ls') : am_lh b bs la n ls' := by
  refine ⟨h.1, h.2.1, fun q hq => h.2.2 q ?_⟩
  obtain ⟨i, v, h1, h2⟩ := (am_pr_mem _ 0 q).mp hq
  exact (am_pr_mem ls 0 q).mpr ⟨i, v, ld_lsub ls ls' hs i v h1, h2⟩

