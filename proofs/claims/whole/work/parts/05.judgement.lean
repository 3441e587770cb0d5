/-! ===== the judgement: at pc, with locals ls, operands st, the heap's picture (n, f), cells kc and slots ks made, the method comes to an end with Q ===== -/
def am_rm (M : Mt) (d : Nat) : Room := { frames := d, cells := Mcc M, slots := Mss M, locals := 40 * d }
def Ct (M : Mt) (d : Nat) (args : List Value) (n : Nat) (f : Nat → Ac) (Q : Po) : Prop := ∀ (l : Launch) (G : Gd) (b bs : Nat),
  Met l (My M) (Cond.code (My M) (Mc M) (ML M) (Mr M) :: am_gw) (am_rm M d)
    (fun v U => v = (args.map (am_cv b bs)).toArray ∧ am_TB G U ∧ am_HP G b bs n f U.heap)
    (fun _ st oc t => (∃ (r : Option Value) (n' : Nat) (f' : Nat → Ac), oc = .returned (r.map (am_cv b bs)) ∧ Q r n' f' ∧ am_HP G b bs n' f' t.heap) ∧ va_F (fun q => bs ≤ q) st t)
    (Mcc M) (Mss M) (fun q => bs ≤ q)
def am_E (M : Mt) (d : Nat) (p : Program) (s : State) (m : MethodId) (args : Array Value) (meth : Method) (c : Code) (R : Room) (G : Gd) (b bs : Nat) : Prop :=
  p.tables.exec = Jvm.exec ∧ c.code = Mc M ∧ meth.sig.returnType = Mr M ∧ c.maxLocals = ML M ∧ s.vm.findClass (Mo M) = some m.cls ∧ (∀ w ∈ am_gw, w.before args s = true) ∧ meth.locks = false ∧ am_TB G s ∧ ((My M).name = "<init>" → meth.name = "<init>") ∧ (d ≤ R.frames ∧ 40 * d ≤ R.locals ∧ Mcc M ≤ R.cells ∧ Mss M ≤ R.slots) ∧ bs ≤ s.heap.size ∧ (∀ L xs, Msx M = some (L, xs) → va_X b L xs s s.heap ∧ b < s.heap.size ∧ b < bs)
/-- which instruction ends a method with this answer -/
def am_ro (M : Mt) (pc : Nat) : Option Value → Prop
  | none => Mr M = none ∧ decode (Mc M) pc = .ok (.return_, 1)
  | some (.int v) => (Mr M = some .int ∨ (Mr M = some .boolean ∧ (v = 0 ∨ v = 1))) ∧ decode (Mc M) pc = .ok (.ireturn, 1)
  | some (.long _) => Mr M = some .long ∧ decode (Mc M) pc = .ok (.lreturn, 1)
  | _ => False
def am_Z (M : Mt) (p : Program) (l : Launch) (e : Env) (R : Room) (s : State) (m : MethodId) (args : Array Value) (below : List Frame) (meth : Method) (c : Code) (G : Gd) (b bs : Nat) (Q : Po) (Z : State → Prop) : Prop :=
  ∀ (r : Option Value) (n : Nat) (f : Nat → Ac) (H : Heap) (locs : List Loc) (kc ks pc : Nat) (la : Array Slot), Q r n f → am_HP G b bs n f H → va_S (fun q => bs ≤ q) s.heap H locs → kc ≤ Mcc M → ks ≤ Mss M → am_ro M pc r →
    W p l e R s m args below meth c H locs kc ks Z (F0 m pc la (r.map (am_cv b bs)).toList)
def Vj (M : Mt) (d kc ks pc : Nat) (ls : Lo) (st : List Value) (n : Nat) (f : Nat → Ac) (Q : Po) : Prop :=
  ∀ (p : Program) (l : Launch) (e : Env) (R : Room) (s : State) (m : MethodId) (args : Array Value) (below : List Frame) (meth : Method) (c : Code) (G : Gd) (b bs : Nat) (Z : State → Prop) (H : Heap) (locs : List Loc) (la : Array Slot),
    am_E M d p s m args meth c R G b bs → am_Z M p l e R s m args below meth c G b bs Q Z → am_HP G b bs n f H → va_S (fun q => bs ≤ q) s.heap H locs → am_lh b bs la (ML M) ls → kc ≤ Mcc M → ks ≤ Mss M →
    W p l e R s m args below meth c H locs kc ks Z (F0 m pc la (st.map (am_cv b bs)))
/-- what is known of the locals at a method's entry -/
def am_en : List Value → Lo
  | [] => []
  | .long x :: t => some (.long x) :: none :: am_en t
  | .double x :: t => some (.double x) :: none :: am_en t
  | .int x :: t => some (.int x) :: am_en t
  | .float x :: t => some (.float x) :: am_en t
  | .ref x :: t => some (.ref x) :: am_en t
  | .null :: t => some .null :: am_en t
  | .retAddr x :: t => some (.retAddr x) :: am_en t
theorem ld_nil (i : Nat) : ld [] i = none := rfl
theorem am_en_ld {b bs : Nat} : ∀ (vs : List Value) (k i : Nat) (v : Value), ld (am_en vs) i = some v → (k + i, am_cv b bs v) ∈ lv_args k (vs.map (am_cv b bs))
  | [], k, i, v, h => by simp [am_en, ld] at h
  | a :: t, k, i, v, h => by
    have two : ∀ (a : Value), a.category = 2 → am_en (a :: t) = some a :: none :: am_en t → (ld (am_en (a :: t)) i = some v) → (k + i, am_cv b bs v) ∈ lv_args k ((a :: t).map (am_cv b bs)) := by
      intro a hc he h
      rw [he] at h
      rw [List.map_cons, lv_args, if_pos (by rw [am_cv_cat]; exact hc)]
      match i, h with
      | 0, h => simp [ld] at h; subst h; exact List.mem_cons_self
      | 1, h => simp [ld] at h
      | i + 2, h =>
        have := am_en_ld (b := b) (bs := bs) t (k + 2) i v h
        exact List.mem_cons_of_mem _ (by rw [show k + (i + 2) = k + 2 + i by omega]; exact this)
    have one : ∀ (a : Value), ¬ a.category = 2 → am_en (a :: t) = some a :: am_en t → (ld (am_en (a :: t)) i = some v) → (k + i, am_cv b bs v) ∈ lv_args k ((a :: t).map (am_cv b bs)) := by
      intro a hc he h
      rw [he] at h
      rw [List.map_cons, lv_args, if_neg (by rw [am_cv_cat]; exact hc)]
      match i, h with
      | 0, h => simp [ld] at h; subst h; exact List.mem_cons_self
      | i + 1, h =>
        have := am_en_ld (b := b) (bs := bs) t (k + 1) i v h
        exact List.mem_cons_of_mem _ (by rw [show k + (i + 1) = k + 1 + i by omega]; exact this)
    cases a with
    | long x => exact two _ rfl rfl h
    | double x => exact two _ rfl rfl h
    | int x => exact one _ (by simp [Value.category]) rfl h
    | float x => exact one _ (by simp [Value.category]) rfl h
    | ref x => exact one _ (by simp [Value.category]) rfl h
    | null => exact one _ (by simp [Value.category]) rfl h
    | retAddr x => exact one _ (by simp [Value.category]) rfl h
theorem am_sl_len (b bs : Nat) : ∀ vs : List Value, (lg_sl (vs.map (am_cv b bs))).length = (lg_sl vs).length
  | [] => rfl
  | a :: t => by
    have := am_sl_len b bs t
    simp only [lg_sl, List.map_cons, List.flatMap_cons, List.length_append] at this ⊢
    rw [this, am_cv_cat]
    by_cases h : a.category = 2 <;> simp [h]
theorem am_TB_moved {G : Gd} {u U : State} (hW : u.WarmedH U.vm) (h : am_TB G u) : am_TB G U := by
  refine ⟨va_K.moved hW.alike h.1, fun w hw => ?_, va_AO.moved hW.alike h.2.2.1, va_AO.moved hW.alike h.2.2.2⟩
  have hn := (List.mem_filter.mp hw).2
  cases w <;> simp [am_nestW] at hn
  · exact va_Nw.warmM hW (h.2.1 _ hw)
  · exact va_Nw.warmF hW (h.2.1 _ hw)
theorem am_TB_same {G : Gd} {u U : State} (hv : u.vm = U.vm) (h : am_TB G u) : am_TB G U := by
  refine ⟨va_K.moved (by rw [hv]; exact Vm.Alike.refl U.vm) h.1, fun w hw => ?_, va_AO.moved (by rw [hv]; exact Vm.Alike.refl U.vm) h.2.2.1, va_AO.moved (by rw [hv]; exact Vm.Alike.refl U.vm) h.2.2.2⟩
  have hn := (List.mem_filter.mp hw).2
  refine va_Nw.same ?_ hv (h.2.1 _ hw)
  cases w <;> simp [am_nestW] at hn <;> rfl
theorem am_cv_none {b bs : Nat} {r : Option Value} : (r.map (am_cv b bs)).toList = r.toList.map (am_cv b bs) := by cases r <;> rfl
set_option maxHeartbeats 4000000 in
/-- a contract out of the walk of its body -/
theorem Ct.of {M : Mt} {d : Nat} {args : List Value} {n : Nat} {f : Nat → Ac} {Q : Po} (hy : plainName (My M).cls = true) (ho : Mo M = (My M).cls) (hs : Msx M = none) (hl : (lg_sl args).length ≤ ML M) (h : Vj M d 0 0 0 (am_en args) [] n f Q) : Ct M d args n f Q := by
  intro l G b bs
  refine Met.ofW (cc := Mc M) (maxL := ML M) (ret := Mr M) hy rfl ?_
  intro p e s m av below meth c s₁ B hml hv
  obtain ⟨rfl, hTB, hHP⟩ := hv
  have hts := atoms_spec (ws := Cond.code (My M) (Mc M) (ML M) (Mr M) :: am_gw) B.pre
  have hown : s.vm.findClass (My M).cls = some m.cls := findClass_of_methodNamed B.named
  have hE : am_E M d p s m (args.map (am_cv b bs)).toArray meth c (headSpec (Cond.code (My M) (Mc M) (ML M) (Mr M) :: am_gw) (am_rm M d)).room G b bs :=
    ⟨B.exec, B.bytes, B.returns, hml, by rw [ho]; exact hown, fun w hw => hts w (List.mem_cons_of_mem _ hw), B.notSynchronized, hTB, fun q => (name_of_methodNamed B.named B.method).1.trans q, ⟨Nat.le_refl _, Nat.le_refl _, Nat.le_refl _, Nat.le_refl _⟩, by rw [hHP.1]; omega, fun L xs hx => by rw [hs] at hx; cases hx⟩
  rw [lg_entry_eq]
  have hls := lv_entry (args.map (am_cv b bs)) (n := ML M) (by rw [am_sl_len]; exact hl)
  refine h p l e _ s m _ below meth c G b bs _ s.heap [] _ hE ?_ hHP va_S.rf ⟨hls.1, hls.2.1, fun q hq => ?_⟩ (Nat.zero_le _) (Nat.zero_le _)
  · intro r n' f' H locs kc ks pc la hQ hP hS hc1 hc2 hro
    refine W.widen (k := Mcc M) (n := Mss M) hc1 hc2 ?_
    match r, hQ, hro with
    | none, hQ, hro => exact W.vret B.exec B.bytes (B.returns.trans hro.1) (fun t ht hW => ⟨⟨none, n', f', rfl, hQ, by rw [ht]; exact hP⟩, hS.F ht⟩) hS.2.2 hro.2 B.notSynchronized
    | some (.int v), hQ, hro =>
      obtain ⟨hr, hd⟩ := hro
      rcases hr with hr | ⟨hr, hv⟩
      · exact W.iret B.exec B.bytes (B.returns.trans hr) (fun t ht hW => ⟨⟨some (.int v), n', f', rfl, hQ, by rw [ht]; exact hP⟩, hS.F ht⟩) hS.2.2 hd B.notSynchronized
      · exact W.zret (ty := .boolean) B.exec B.bytes (B.returns.trans hr) (by rcases hv with rfl | rfl <;> decide) (fun t ht hW => ⟨⟨some (.int v), n', f', rfl, hQ, by rw [ht]; exact hP⟩, hS.F ht⟩) hS.2.2 hd B.notSynchronized
    | some (.long v), hQ, hro => exact W.lret B.exec B.bytes (B.returns.trans hro.1) (fun t ht hW => ⟨⟨some (.long v), n', f', rfl, hQ, by rw [ht]; exact hP⟩, hS.F ht⟩) hS.2.2 hro.2 B.notSynchronized
    | some (.float _), _, hro => exact absurd hro (fun z => z)
    | some (.double _), _, hro => exact absurd hro (fun z => z)
    | some (.ref _), _, hro => exact absurd hro (fun z => z)
    | some .null, _, hro => exact absurd hro (fun z => z)
    | some (.retAddr _), _, hro => exact absurd hro (fun z => z)
  · obtain ⟨i, v, h1, h2⟩ := (am_pr_mem _ 0 q).mp hq
    rw [h2]
    have := am_en_ld (b := b) (bs := bs) args 0 i v h1
    exact hls.2.2 _ this

section RowsV
variable {M : Mt} {d kc ks pc : Nat} {ls : Lo} {st : List Value} {n : Nat} {f : Nat → Ac} {Q : Po}
theorem V_iconst {v : Int} (hd : decode (Mc M) pc = .ok (.iconst v, 1))  (h : Vj M d kc ks (pc + 1) ls (.int (Int32.ofInt v) :: st) n f Q) : Vj M d kc ks pc ls (st) n f Q := by
  intro p l e R s m args below meth c G b bs Z H locs la hE hZ hH hS hl h1 h2
  exact lv_iconst hE.1 hE.2.1 hd rfl (h p l e R s m args below meth c G b bs Z H locs la hE hZ hH hS hl h1 h2)
theorem V_bipush {v : Int} (hd : decode (Mc M) pc = .ok (.bipush v, 2))  (h : Vj M d kc ks (pc + 2) ls (.int (Int8.ofInt v).toInt32 :: st) n f Q) : Vj M d kc ks pc ls (st) n f Q := by
  intro p l e R s m args below meth c G b bs Z H locs la hE hZ hH hS hl h1 h2
  exact lv_bipush hE.1 hE.2.1 hd rfl (h p l e R s m args below meth c G b bs Z H locs la hE hZ hH hS hl h1 h2)
theorem V_sipush {v : Int} (hd : decode (Mc M) pc = .ok (.sipush v, 3))  (h : Vj M d kc ks (pc + 3) ls (.int (Int16.ofInt v).toInt32 :: st) n f Q) : Vj M d kc ks pc ls (st) n f Q := by
  intro p l e R s m args below meth c G b bs Z H locs la hE hZ hH hS hl h1 h2
  exact lv_sipush hE.1 hE.2.1 hd rfl (h p l e R s m args below meth c G b bs Z H locs la hE hZ hH hS hl h1 h2)
theorem V_lconst {v : Fin 2} (hd : decode (Mc M) pc = .ok (.lconst v, 1))  (h : Vj M d kc ks (pc + 1) ls (.long (Int64.ofNat (v : Nat)) :: st) n f Q) : Vj M d kc ks pc ls (st) n f Q := by
  intro p l e R s m args below meth c G b bs Z H locs la hE hZ hH hS hl h1 h2
  exact lv_lconst hE.1 hE.2.1 hd rfl (h p l e R s m args below meth c G b bs Z H locs la hE hZ hH hS hl h1 h2)
theorem V_iadd {x y : Int32} (hd : decode (Mc M) pc = .ok (.iadd, 1))  (h : Vj M d kc ks (pc + 1) ls (.int (x + y) :: st) n f Q) : Vj M d kc ks pc ls (.int y :: .int x :: st) n f Q := by
  intro p l e R s m args below meth c G b bs Z H locs la hE hZ hH hS hl h1 h2
  exact lv_iadd hE.1 hE.2.1 hd (h p l e R s m args below meth c G b bs Z H locs la hE hZ hH hS hl h1 h2)
theorem V_isub {x y : Int32} (hd : decode (Mc M) pc = .ok (.isub, 1))  (h : Vj M d kc ks (pc + 1) ls (.int (x - y) :: st) n f Q) : Vj M d kc ks pc ls (.int y :: .int x :: st) n f Q := by
  intro p l e R s m args below meth c G b bs Z H locs la hE hZ hH hS hl h1 h2
  exact lv_isub hE.1 hE.2.1 hd (h p l e R s m args below meth c G b bs Z H locs la hE hZ hH hS hl h1 h2)
theorem V_imul {x y : Int32} (hd : decode (Mc M) pc = .ok (.imul, 1))  (h : Vj M d kc ks (pc + 1) ls (.int (x * y) :: st) n f Q) : Vj M d kc ks pc ls (.int y :: .int x :: st) n f Q := by
  intro p l e R s m args below meth c G b bs Z H locs la hE hZ hH hS hl h1 h2
  exact lv_imul hE.1 hE.2.1 hd (h p l e R s m args below meth c G b bs Z H locs la hE hZ hH hS hl h1 h2)
theorem V_iand {x y : Int32} (hd : decode (Mc M) pc = .ok (.iand, 1))  (h : Vj M d kc ks (pc + 1) ls (.int (x &&& y) :: st) n f Q) : Vj M d kc ks pc ls (.int y :: .int x :: st) n f Q := by
  intro p l e R s m args below meth c G b bs Z H locs la hE hZ hH hS hl h1 h2
  exact lv_iand hE.1 hE.2.1 hd (h p l e R s m args below meth c G b bs Z H locs la hE hZ hH hS hl h1 h2)
theorem V_ior {x y : Int32} (hd : decode (Mc M) pc = .ok (.ior, 1))  (h : Vj M d kc ks (pc + 1) ls (.int (x ||| y) :: st) n f Q) : Vj M d kc ks pc ls (.int y :: .int x :: st) n f Q := by
  intro p l e R s m args below meth c G b bs Z H locs la hE hZ hH hS hl h1 h2
  exact lv_ior hE.1 hE.2.1 hd (h p l e R s m args below meth c G b bs Z H locs la hE hZ hH hS hl h1 h2)
theorem V_ixor {x y : Int32} (hd : decode (Mc M) pc = .ok (.ixor, 1))  (h : Vj M d kc ks (pc + 1) ls (.int (x ^^^ y) :: st) n f Q) : Vj M d kc ks pc ls (.int y :: .int x :: st) n f Q := by
  intro p l e R s m args below meth c G b bs Z H locs la hE hZ hH hS hl h1 h2
  exact lv_ixor hE.1 hE.2.1 hd (h p l e R s m args below meth c G b bs Z H locs la hE hZ hH hS hl h1 h2)
theorem V_ishl {x y : Int32} (hd : decode (Mc M) pc = .ok (.ishl, 1))  (h : Vj M d kc ks (pc + 1) ls (.int (x <<< (y &&& 31)) :: st) n f Q) : Vj M d kc ks pc ls (.int y :: .int x :: st) n f Q := by
  intro p l e R s m args below meth c G b bs Z H locs la hE hZ hH hS hl h1 h2
  exact lv_ishl hE.1 hE.2.1 hd (h p l e R s m args below meth c G b bs Z H locs la hE hZ hH hS hl h1 h2)
theorem V_ishr {x y : Int32} (hd : decode (Mc M) pc = .ok (.ishr, 1))  (h : Vj M d kc ks (pc + 1) ls (.int (x >>> (y &&& 31)) :: st) n f Q) : Vj M d kc ks pc ls (.int y :: .int x :: st) n f Q := by
  intro p l e R s m args below meth c G b bs Z H locs la hE hZ hH hS hl h1 h2
  exact lv_ishr hE.1 hE.2.1 hd (h p l e R s m args below meth c G b bs Z H locs la hE hZ hH hS hl h1 h2)
theorem V_idiv {x y : Int32} (hd : decode (Mc M) pc = .ok (.idiv, 1)) (hne : ¬ y = 0) (h : Vj M d kc ks (pc + 1) ls (.int (x / y) :: st) n f Q) : Vj M d kc ks pc ls (.int y :: .int x :: st) n f Q := by
  intro p l e R s m args below meth c G b bs Z H locs la hE hZ hH hS hl h1 h2
  exact lv_idiv hE.1 hE.2.1 hd hne (h p l e R s m args below meth c G b bs Z H locs la hE hZ hH hS hl h1 h2)
theorem V_irem {x y : Int32} (hd : decode (Mc M) pc = .ok (.irem, 1)) (hne : ¬ y = 0) (h : Vj M d kc ks (pc + 1) ls (.int (x - x / y * y) :: st) n f Q) : Vj M d kc ks pc ls (.int y :: .int x :: st) n f Q := by
  intro p l e R s m args below meth c G b bs Z H locs la hE hZ hH hS hl h1 h2
  exact lv_irem hE.1 hE.2.1 hd hne (h p l e R s m args below meth c G b bs Z H locs la hE hZ hH hS hl h1 h2)
theorem V_ladd {x y : Int64} (hd : decode (Mc M) pc = .ok (.ladd, 1))  (h : Vj M d kc ks (pc + 1) ls (.long (x + y) :: st) n f Q) : Vj M d kc ks pc ls (.long y :: .long x :: st) n f Q := by
  intro p l e R s m args below meth c G b bs Z H locs la hE hZ hH hS hl h1 h2
  exact lv_ladd hE.1 hE.2.1 hd (h p l e R s m args below meth c G b bs Z H locs la hE hZ hH hS hl h1 h2)
theorem V_lsub {x y : Int64} (hd : decode (Mc M) pc = .ok (.lsub, 1))  (h : Vj M d kc ks (pc + 1) ls (.long (x - y) :: st) n f Q) : Vj M d kc ks pc ls (.long y :: .long x :: st) n f Q := by
  intro p l e R s m args below meth c G b bs Z H locs la hE hZ hH hS hl h1 h2
  exact lv_lsub hE.1 hE.2.1 hd (h p l e R s m args below meth c G b bs Z H locs la hE hZ hH hS hl h1 h2)
theorem V_lmul {x y : Int64} (hd : decode (Mc M) pc = .ok (.lmul, 1))  (h : Vj M d kc ks (pc + 1) ls (.long (x * y) :: st) n f Q) : Vj M d kc ks pc ls (.long y :: .long x :: st) n f Q := by
  intro p l e R s m args below meth c G b bs Z H locs la hE hZ hH hS hl h1 h2
  exact lv_lmul hE.1 hE.2.1 hd (h p l e R s m args below meth c G b bs Z H locs la hE hZ hH hS hl h1 h2)
theorem V_land {x y : Int64} (hd : decode (Mc M) pc = .ok (.land, 1))  (h : Vj M d kc ks (pc + 1) ls (.long (x &&& y) :: st) n f Q) : Vj M d kc ks pc ls (.long y :: .long x :: st) n f Q := by
  intro p l e R s m args below meth c G b bs Z H locs la hE hZ hH hS hl h1 h2
  exact lv_land hE.1 hE.2.1 hd (h p l e R s m args below meth c G b bs Z H locs la hE hZ hH hS hl h1 h2)
theorem V_lor {x y : Int64} (hd : decode (Mc M) pc = .ok (.lor, 1))  (h : Vj M d kc ks (pc + 1) ls (.long (x ||| y) :: st) n f Q) : Vj M d kc ks pc ls (.long y :: .long x :: st) n f Q := by
  intro p l e R s m args below meth c G b bs Z H locs la hE hZ hH hS hl h1 h2
  exact lv_lor hE.1 hE.2.1 hd (h p l e R s m args below meth c G b bs Z H locs la hE hZ hH hS hl h1 h2)
theorem V_lxor {x y : Int64} (hd : decode (Mc M) pc = .ok (.lxor, 1))  (h : Vj M d kc ks (pc + 1) ls (.long (x ^^^ y) :: st) n f Q) : Vj M d kc ks pc ls (.long y :: .long x :: st) n f Q := by
  intro p l e R s m args below meth c G b bs Z H locs la hE hZ hH hS hl h1 h2
  exact lv_lxor hE.1 hE.2.1 hd (h p l e R s m args below meth c G b bs Z H locs la hE hZ hH hS hl h1 h2)
theorem V_ldiv {x y : Int64} (hd : decode (Mc M) pc = .ok (.ldiv, 1)) (hne : ¬ y = 0) (h : Vj M d kc ks (pc + 1) ls (.long (x / y) :: st) n f Q) : Vj M d kc ks pc ls (.long y :: .long x :: st) n f Q := by
  intro p l e R s m args below meth c G b bs Z H locs la hE hZ hH hS hl h1 h2
  exact lv_ldiv hE.1 hE.2.1 hd hne (h p l e R s m args below meth c G b bs Z H locs la hE hZ hH hS hl h1 h2)
theorem V_lrem {x y : Int64} (hd : decode (Mc M) pc = .ok (.lrem, 1)) (hne : ¬ y = 0) (h : Vj M d kc ks (pc + 1) ls (.long (x - x / y * y) :: st) n f Q) : Vj M d kc ks pc ls (.long y :: .long x :: st) n f Q := by
  intro p l e R s m args below meth c G b bs Z H locs la hE hZ hH hS hl h1 h2
  exact lv_lrem hE.1 hE.2.1 hd hne (h p l e R s m args below meth c G b bs Z H locs la hE hZ hH hS hl h1 h2)
theorem V_lshl {x : Int64} {y : Int32} (hd : decode (Mc M) pc = .ok (.lshl, 1))  (h : Vj M d kc ks (pc + 1) ls (.long (x <<< (y.toInt64 &&& 63)) :: st) n f Q) : Vj M d kc ks pc ls (.int y :: .long x :: st) n f Q := by
  intro p l e R s m args below meth c G b bs Z H locs la hE hZ hH hS hl h1 h2
  exact lv_lshl hE.1 hE.2.1 hd rfl (h p l e R s m args below meth c G b bs Z H locs la hE hZ hH hS hl h1 h2)
theorem V_lshr {x : Int64} {y : Int32} (hd : decode (Mc M) pc = .ok (.lshr, 1))  (h : Vj M d kc ks (pc + 1) ls (.long (x >>> (y.toInt64 &&& 63)) :: st) n f Q) : Vj M d kc ks pc ls (.int y :: .long x :: st) n f Q := by
  intro p l e R s m args below meth c G b bs Z H locs la hE hZ hH hS hl h1 h2
  exact lv_lshr hE.1 hE.2.1 hd rfl (h p l e R s m args below meth c G b bs Z H locs la hE hZ hH hS hl h1 h2)
theorem V_lushr {x : Int64} {y : Int32} (hd : decode (Mc M) pc = .ok (.lushr, 1))  (h : Vj M d kc ks (pc + 1) ls (.long ((x.toUInt64 >>> (y.toInt64.toUInt64 &&& Int64.toUInt64 63)).toInt64) :: st) n f Q) : Vj M d kc ks pc ls (.int y :: .long x :: st) n f Q := by
  intro p l e R s m args below meth c G b bs Z H locs la hE hZ hH hS hl h1 h2
  exact lv_lushr hE.1 hE.2.1 hd rfl (h p l e R s m args below meth c G b bs Z H locs la hE hZ hH hS hl h1 h2)
theorem V_i2l {x : Int32} (hd : decode (Mc M) pc = .ok (.i2l, 1))  (h : Vj M d kc ks (pc + 1) ls (.long x.toInt64 :: st) n f Q) : Vj M d kc ks pc ls (.int x :: st) n f Q := by
  intro p l e R s m args below meth c G b bs Z H locs la hE hZ hH hS hl h1 h2
  exact lv_i2l hE.1 hE.2.1 hd rfl (h p l e R s m args below meth c G b bs Z H locs la hE hZ hH hS hl h1 h2)
theorem V_l2i {x : Int64} (hd : decode (Mc M) pc = .ok (.l2i, 1))  (h : Vj M d kc ks (pc + 1) ls (.int x.toInt32 :: st) n f Q) : Vj M d kc ks pc ls (.long x :: st) n f Q := by
  intro p l e R s m args below meth c G b bs Z H locs la hE hZ hH hS hl h1 h2
  exact lv_l2i hE.1 hE.2.1 hd rfl (h p l e R s m args below meth c G b bs Z H locs la hE hZ hH hS hl h1 h2)
theorem V_lcmp {x y : Int64} (hd : decode (Mc M) pc = .ok (.lcmp, 1))  (h : Vj M d kc ks (pc + 1) ls (.int (lg_cmp x y) :: st) n f Q) : Vj M d kc ks pc ls (.long y :: .long x :: st) n f Q := by
  intro p l e R s m args below meth c G b bs Z H locs la hE hZ hH hS hl h1 h2
  exact W.lcmp hE.1 hE.2.1 hd (h p l e R s m args below meth c G b bs Z H locs la hE hZ hH hS hl h1 h2)
theorem V_dup {v : Value} (hd : decode (Mc M) pc = .ok (.dup, 1)) (hv : v.category = 1) (h : Vj M d kc ks (pc + 1) ls (v :: v :: st) n f Q) : Vj M d kc ks pc ls (v :: st) n f Q := by
  intro p l e R s m args below meth c G b bs Z H locs la hE hZ hH hS hl h1 h2
  exact lv_dup hE.1 hE.2.1 hd (by rw [am_cv_cat]; exact hv) (h p l e R s m args below meth c G b bs Z H locs la hE hZ hH hS hl h1 h2)
theorem V_dup2 {v w : Value} (hd : decode (Mc M) pc = .ok (.dup2, 1)) (hv : v.category = 1) (hw : w.category = 1) (h : Vj M d kc ks (pc + 1) ls (v :: w :: v :: w :: st) n f Q) : Vj M d kc ks pc ls (v :: w :: st) n f Q := by
  intro p l e R s m args below meth c G b bs Z H locs la hE hZ hH hS hl h1 h2
  exact lv_dup2_11 hE.1 hE.2.1 hd (by rw [am_cv_cat]; exact hv) (by rw [am_cv_cat]; exact hw) (h p l e R s m args below meth c G b bs Z H locs la hE hZ hH hS hl h1 h2)
theorem V_pop {v : Value} (hd : decode (Mc M) pc = .ok (.pop, 1)) (hv : v.category = 1) (h : Vj M d kc ks (pc + 1) ls (st) n f Q) : Vj M d kc ks pc ls (v :: st) n f Q := by
  intro p l e R s m args below meth c G b bs Z H locs la hE hZ hH hS hl h1 h2
  exact lv_pop hE.1 hE.2.1 hd (by rw [am_cv_cat]; exact hv) (h p l e R s m args below meth c G b bs Z H locs la hE hZ hH hS hl h1 h2)
theorem V_iload {j : Nat} {x : Int32} (hd : decode (Mc M) pc = .ok (.iload j, 2)) (hx : ld ls j = some (.int x)) (h : Vj M d kc ks (pc + 2) ls (.int x :: st) n f Q) : Vj M d kc ks pc ls (st) n f Q := by
  intro p l e R s m args below meth c G b bs Z H locs la hE hZ hH hS hl h1 h2
  exact lv_iload hE.1 hE.2.1 hd (am_lh_at hl hx) (h p l e R s m args below meth c G b bs Z H locs la hE hZ hH hS hl h1 h2)
theorem V_iload_n {j : Fin 4} {x : Int32} (hd : decode (Mc M) pc = .ok (.iload_n j, 1)) (hx : ld ls j = some (.int x)) (h : Vj M d kc ks (pc + 1) ls (.int x :: st) n f Q) : Vj M d kc ks pc ls (st) n f Q := by
  intro p l e R s m args below meth c G b bs Z H locs la hE hZ hH hS hl h1 h2
  exact lv_iload_n hE.1 hE.2.1 hd rfl (am_lh_at hl hx) (h p l e R s m args below meth c G b bs Z H locs la hE hZ hH hS hl h1 h2)
theorem V_lload {j : Nat} {x : Int64} (hd : decode (Mc M) pc = .ok (.lload j, 2)) (hx : ld ls j = some (.long x)) (h : Vj M d kc ks (pc + 2) ls (.long x :: st) n f Q) : Vj M d kc ks pc ls (st) n f Q := by
  intro p l e R s m args below meth c G b bs Z H locs la hE hZ hH hS hl h1 h2
  exact lv_lload hE.1 hE.2.1 hd (am_lh_at hl hx) (h p l e R s m args below meth c G b bs Z H locs la hE hZ hH hS hl h1 h2)
theorem V_lload_n {j : Fin 4} {x : Int64} (hd : decode (Mc M) pc = .ok (.lload_n j, 1)) (hx : ld ls j = some (.long x)) (h : Vj M d kc ks (pc + 1) ls (.long x :: st) n f Q) : Vj M d kc ks pc ls (st) n f Q := by
  intro p l e R s m args below meth c G b bs Z H locs la hE hZ hH hS hl h1 h2
  exact lv_lload_n hE.1 hE.2.1 hd rfl (am_lh_at hl hx) (h p l e R s m args below meth c G b bs Z H locs la hE hZ hH hS hl h1 h2)
theorem V_aload {j : Nat} {x : Nat} (hd : decode (Mc M) pc = .ok (.aload j, 2)) (hx : ld ls j = some (.ref x)) (h : Vj M d kc ks (pc + 2) ls (.ref x :: st) n f Q) : Vj M d kc ks pc ls (st) n f Q := by
  intro p l e R s m args below meth c G b bs Z H locs la hE hZ hH hS hl h1 h2
  exact lv_aload hE.1 hE.2.1 hd (am_lh_at hl hx) (h p l e R s m args below meth c G b bs Z H locs la hE hZ hH hS hl h1 h2)
theorem V_aload_n {j : Fin 4} {x : Nat} (hd : decode (Mc M) pc = .ok (.aload_n j, 1)) (hx : ld ls j = some (.ref x)) (h : Vj M d kc ks (pc + 1) ls (.ref x :: st) n f Q) : Vj M d kc ks pc ls (st) n f Q := by
  intro p l e R s m args below meth c G b bs Z H locs la hE hZ hH hS hl h1 h2
  exact lv_aload_n hE.1 hE.2.1 hd rfl (am_lh_at hl hx) (h p l e R s m args below meth c G b bs Z H locs la hE hZ hH hS hl h1 h2)
theorem V_aloadN {j : Nat} (hd : decode (Mc M) pc = .ok (.aload j, 2)) (hx : ld ls j = some .null) (h : Vj M d kc ks (pc + 2) ls (.null :: st) n f Q) : Vj M d kc ks pc ls (st) n f Q := by
  intro p l e R s m args below meth c G b bs Z H locs la hE hZ hH hS hl h1 h2
  exact lv_aloadN hE.1 hE.2.1 hd (am_lh_at hl hx) (h p l e R s m args below meth c G b bs Z H locs la hE hZ hH hS hl h1 h2)
theorem V_aload_nN {j : Fin 4} (hd : decode (Mc M) pc = .ok (.aload_n j, 1)) (hx : ld ls j = some .null) (h : Vj M d kc ks (pc + 1) ls (.null :: st) n f Q) : Vj M d kc ks pc ls (st) n f Q := by
  intro p l e R s m args below meth c G b bs Z H locs la hE hZ hH hS hl h1 h2
  exact lv_aload_nN hE.1 hE.2.1 hd rfl (am_lh_at hl hx) (h p l e R s m args below meth c G b bs Z H locs la hE hZ hH hS hl h1 h2)
theorem V_istore {j : Nat} {x : Int32} (hd : decode (Mc M) pc = .ok (.istore j, 2)) (hj : j < ML M) (h : Vj M d kc ks (pc + 2) (st1 ls j (.int x)) (st) n f Q) : Vj M d kc ks pc ls (.int x :: st) n f Q := by
  intro p l e R s m args below meth c G b bs Z H locs la hE hZ hH hS hl h1 h2
  exact lv_istore hE.1 hE.2.1 hd hl hj rfl (fun la' hl' => h p l e R s m args below meth c G b bs Z H locs la' hE hZ hH hS (am_lh_st1 hl') h1 h2)
theorem V_istore_n {j : Fin 4} {x : Int32} (hd : decode (Mc M) pc = .ok (.istore_n j, 1)) (hj : (j : Nat) < ML M) (h : Vj M d kc ks (pc + 1) (st1 ls j (.int x)) (st) n f Q) : Vj M d kc ks pc ls (.int x :: st) n f Q := by
  intro p l e R s m args below meth c G b bs Z H locs la hE hZ hH hS hl h1 h2
  exact lv_istore_n hE.1 hE.2.1 hd rfl hl hj rfl (fun la' hl' => h p l e R s m args below meth c G b bs Z H locs la' hE hZ hH hS (am_lh_st1 hl') h1 h2)
theorem V_astore {j : Nat} {x : Nat} (hd : decode (Mc M) pc = .ok (.astore j, 2)) (hj : j < ML M) (h : Vj M d kc ks (pc + 2) (st1 ls j (.ref x)) (st) n f Q) : Vj M d kc ks pc ls (.ref x :: st) n f Q := by
  intro p l e R s m args below meth c G b bs Z H locs la hE hZ hH hS hl h1 h2
  exact lv_astore hE.1 hE.2.1 hd hl hj rfl (fun la' hl' => h p l e R s m args below meth c G b bs Z H locs la' hE hZ hH hS (am_lh_st1 hl') h1 h2)
theorem V_astore_n {j : Fin 4} {x : Nat} (hd : decode (Mc M) pc = .ok (.astore_n j, 1)) (hj : (j : Nat) < ML M) (h : Vj M d kc ks (pc + 1) (st1 ls j (.ref x)) (st) n f Q) : Vj M d kc ks pc ls (.ref x :: st) n f Q := by
  intro p l e R s m args below meth c G b bs Z H locs la hE hZ hH hS hl h1 h2
  exact lv_astore_n hE.1 hE.2.1 hd rfl hl hj rfl (fun la' hl' => h p l e R s m args below meth c G b bs Z H locs la' hE hZ hH hS (am_lh_st1 hl') h1 h2)
theorem V_lstore {j : Nat} {x : Int64} (hd : decode (Mc M) pc = .ok (.lstore j, 2)) (hj : j + 1 < ML M) (h : Vj M d kc ks (pc + 2) (st2 ls j (.long x)) (st) n f Q) : Vj M d kc ks pc ls (.long x :: st) n f Q := by
  intro p l e R s m args below meth c G b bs Z H locs la hE hZ hH hS hl h1 h2
  exact lv_lstore hE.1 hE.2.1 hd hl hj rfl (fun la' hl' => h p l e R s m args below meth c G b bs Z H locs la' hE hZ hH hS (am_lh_st2 hl') h1 h2)
theorem V_lstore_n {j : Fin 4} {x : Int64} (hd : decode (Mc M) pc = .ok (.lstore_n j, 1)) (hj : (j : Nat) + 1 < ML M) (h : Vj M d kc ks (pc + 1) (st2 ls j (.long x)) (st) n f Q) : Vj M d kc ks pc ls (.long x :: st) n f Q := by
  intro p l e R s m args below meth c G b bs Z H locs la hE hZ hH hS hl h1 h2
  exact lv_lstore_n hE.1 hE.2.1 hd rfl hl hj rfl (fun la' hl' => h p l e R s m args below meth c G b bs Z H locs la' hE hZ hH hS (am_lh_st2 hl') h1 h2)
theorem V_iinc {j : Nat} {v : Int} {x : Int32} (hd : decode (Mc M) pc = .ok (.iinc j v, 3)) (hx : ld ls j = some (.int x)) (hj : j < ML M) (h : Vj M d kc ks (pc + 3) (st1 ls j (.int (x + Int32.ofInt v))) st n f Q) : Vj M d kc ks pc ls st n f Q := by
  intro p l e R s m args below meth c G b bs Z H locs la hE hZ hH hS hl h1 h2
  have hm : (j, Value.int x) ∈ am_pr b bs 0 ls := (am_pr_mem ls 0 _).mpr ⟨j, _, hx, by rw [Nat.zero_add]; rfl⟩
  obtain ⟨k, hk⟩ := List.getElem?_of_mem hm
  exact lv_iinc hE.1 hE.2.1 hd hl hk rfl hj rfl (fun la' hl' => h p l e R s m args below meth c G b bs Z H locs la' hE hZ hH hS (am_lh_st1 hl') h1 h2)
theorem V_if_eq {x : Int32} {off : Int} {tg : Nat} (hd : decode (Mc M) pc = .ok (.ifCond .eq off, 3)) (ht : (pc : Int) + off = (tg : Int)) (h : (x = 0 → Vj M d kc ks tg ls st n f Q) ∧ (¬ x = 0 → Vj M d kc ks (pc + 3) ls st n f Q)) : Vj M d kc ks pc ls (.int x :: st) n f Q := by
  intro p l e R s m args below meth c G b bs Z H locs la hE hZ hH hS hl h1 h2
  exact lv_if_eq hE.1 hE.2.1 hd ht (fun q => h.1 q p l e R s m args below meth c G b bs Z H locs la hE hZ hH hS hl h1 h2) (fun q => h.2 q p l e R s m args below meth c G b bs Z H locs la hE hZ hH hS hl h1 h2)
theorem V_if_ne {x : Int32} {off : Int} {tg : Nat} (hd : decode (Mc M) pc = .ok (.ifCond .ne off, 3)) (ht : (pc : Int) + off = (tg : Int)) (h : (¬ x = 0 → Vj M d kc ks tg ls st n f Q) ∧ (x = 0 → Vj M d kc ks (pc + 3) ls st n f Q)) : Vj M d kc ks pc ls (.int x :: st) n f Q := by
  intro p l e R s m args below meth c G b bs Z H locs la hE hZ hH hS hl h1 h2
  exact lv_if_ne hE.1 hE.2.1 hd ht (fun q => h.1 q p l e R s m args below meth c G b bs Z H locs la hE hZ hH hS hl h1 h2) (fun q => h.2 q p l e R s m args below meth c G b bs Z H locs la hE hZ hH hS hl h1 h2)
theorem V_if_lt {x : Int32} {off : Int} {tg : Nat} (hd : decode (Mc M) pc = .ok (.ifCond .lt off, 3)) (ht : (pc : Int) + off = (tg : Int)) (h : (x < 0 → Vj M d kc ks tg ls st n f Q) ∧ (¬ x < 0 → Vj M d kc ks (pc + 3) ls st n f Q)) : Vj M d kc ks pc ls (.int x :: st) n f Q := by
  intro p l e R s m args below meth c G b bs Z H locs la hE hZ hH hS hl h1 h2
  exact lv_if_lt hE.1 hE.2.1 hd ht (fun q => h.1 q p l e R s m args below meth c G b bs Z H locs la hE hZ hH hS hl h1 h2) (fun q => h.2 q p l e R s m args below meth c G b bs Z H locs la hE hZ hH hS hl h1 h2)
theorem V_if_ge {x : Int32} {off : Int} {tg : Nat} (hd : decode (Mc M) pc = .ok (.ifCond .ge off, 3)) (ht : (pc : Int) + off = (tg : Int)) (h : (0 ≤ x → Vj M d kc ks tg ls st n f Q) ∧ (¬ 0 ≤ x → Vj M d kc ks (pc + 3) ls st n f Q)) : Vj M d kc ks pc ls (.int x :: st) n f Q := by
  intro p l e R s m args below meth c G b bs Z H locs la hE hZ hH hS hl h1 h2
  exact lv_if_ge hE.1 hE.2.1 hd ht (fun q => h.1 q p l e R s m args below meth c G b bs Z H locs la hE hZ hH hS hl h1 h2) (fun q => h.2 q p l e R s m args below meth c G b bs Z H locs la hE hZ hH hS hl h1 h2)
theorem V_if_gt {x : Int32} {off : Int} {tg : Nat} (hd : decode (Mc M) pc = .ok (.ifCond .gt off, 3)) (ht : (pc : Int) + off = (tg : Int)) (h : (0 < x → Vj M d kc ks tg ls st n f Q) ∧ (¬ 0 < x → Vj M d kc ks (pc + 3) ls st n f Q)) : Vj M d kc ks pc ls (.int x :: st) n f Q := by
  intro p l e R s m args below meth c G b bs Z H locs la hE hZ hH hS hl h1 h2
  exact lv_if_gt hE.1 hE.2.1 hd ht (fun q => h.1 q p l e R s m args below meth c G b bs Z H locs la hE hZ hH hS hl h1 h2) (fun q => h.2 q p l e R s m args below meth c G b bs Z H locs la hE hZ hH hS hl h1 h2)
theorem V_if_le {x : Int32} {off : Int} {tg : Nat} (hd : decode (Mc M) pc = .ok (.ifCond .le off, 3)) (ht : (pc : Int) + off = (tg : Int)) (h : (x ≤ 0 → Vj M d kc ks tg ls st n f Q) ∧ (¬ x ≤ 0 → Vj M d kc ks (pc + 3) ls st n f Q)) : Vj M d kc ks pc ls (.int x :: st) n f Q := by
  intro p l e R s m args below meth c G b bs Z H locs la hE hZ hH hS hl h1 h2
  exact lv_if_le hE.1 hE.2.1 hd ht (fun q => h.1 q p l e R s m args below meth c G b bs Z H locs la hE hZ hH hS hl h1 h2) (fun q => h.2 q p l e R s m args below meth c G b bs Z H locs la hE hZ hH hS hl h1 h2)
theorem V_icmp_eq {x y : Int32} {off : Int} {tg : Nat} (hd : decode (Mc M) pc = .ok (.if_icmp .eq off, 3)) (ht : (pc : Int) + off = (tg : Int)) (h : (x = y → Vj M d kc ks tg ls st n f Q) ∧ (¬ x = y → Vj M d kc ks (pc + 3) ls st n f Q)) : Vj M d kc ks pc ls (.int y :: .int x :: st) n f Q := by
  intro p l e R s m args below meth c G b bs Z H locs la hE hZ hH hS hl h1 h2
  exact lv_icmp_eq hE.1 hE.2.1 hd ht (fun q => h.1 q p l e R s m args below meth c G b bs Z H locs la hE hZ hH hS hl h1 h2) (fun q => h.2 q p l e R s m args below meth c G b bs Z H locs la hE hZ hH hS hl h1 h2)
theorem V_icmp_ne {x y : Int32} {off : Int} {tg : Nat} (hd : decode (Mc M) pc = .ok (.if_icmp .ne off, 3)) (ht : (pc : Int) + off = (tg : Int)) (h : (¬ x = y → Vj M d kc ks tg ls st n f Q) ∧ (x = y → Vj M d kc ks (pc + 3) ls st n f Q)) : Vj M d kc ks pc ls (.int y :: .int x :: st) n f Q := by
  intro p l e R s m args below meth c G b bs Z H locs la hE hZ hH hS hl h1 h2
  exact lv_icmp_ne hE.1 hE.2.1 hd ht (fun q => h.1 q p l e R s m args below meth c G b bs Z H locs la hE hZ hH hS hl h1 h2) (fun q => h.2 q p l e R s m args below meth c G b bs Z H locs la hE hZ hH hS hl h1 h2)
theorem V_icmp_lt {x y : Int32} {off : Int} {tg : Nat} (hd : decode (Mc M) pc = .ok (.if_icmp .lt off, 3)) (ht : (pc : Int) + off = (tg : Int)) (h : (x < y → Vj M d kc ks tg ls st n f Q) ∧ (¬ x < y → Vj M d kc ks (pc + 3) ls st n f Q)) : Vj M d kc ks pc ls (.int y :: .int x :: st) n f Q := by
  intro p l e R s m args below meth c G b bs Z H locs la hE hZ hH hS hl h1 h2
  exact lv_icmp_lt hE.1 hE.2.1 hd ht (fun q => h.1 q p l e R s m args below meth c G b bs Z H locs la hE hZ hH hS hl h1 h2) (fun q => h.2 q p l e R s m args below meth c G b bs Z H locs la hE hZ hH hS hl h1 h2)
theorem V_icmp_ge {x y : Int32} {off : Int} {tg : Nat} (hd : decode (Mc M) pc = .ok (.if_icmp .ge off, 3)) (ht : (pc : Int) + off = (tg : Int)) (h : (y ≤ x → Vj M d kc ks tg ls st n f Q) ∧ (¬ y ≤ x → Vj M d kc ks (pc + 3) ls st n f Q)) : Vj M d kc ks pc ls (.int y :: .int x :: st) n f Q := by
  intro p l e R s m args below meth c G b bs Z H locs la hE hZ hH hS hl h1 h2
  exact lv_icmp_ge hE.1 hE.2.1 hd ht (fun q => h.1 q p l e R s m args below meth c G b bs Z H locs la hE hZ hH hS hl h1 h2) (fun q => h.2 q p l e R s m args below meth c G b bs Z H locs la hE hZ hH hS hl h1 h2)
theorem V_icmp_gt {x y : Int32} {off : Int} {tg : Nat} (hd : decode (Mc M) pc = .ok (.if_icmp .gt off, 3)) (ht : (pc : Int) + off = (tg : Int)) (h : (y < x → Vj M d kc ks tg ls st n f Q) ∧ (¬ y < x → Vj M d kc ks (pc + 3) ls st n f Q)) : Vj M d kc ks pc ls (.int y :: .int x :: st) n f Q := by
  intro p l e R s m args below meth c G b bs Z H locs la hE hZ hH hS hl h1 h2
  exact lv_icmp_gt hE.1 hE.2.1 hd ht (fun q => h.1 q p l e R s m args below meth c G b bs Z H locs la hE hZ hH hS hl h1 h2) (fun q => h.2 q p l e R s m args below meth c G b bs Z H locs la hE hZ hH hS hl h1 h2)
theorem V_icmp_le {x y : Int32} {off : Int} {tg : Nat} (hd : decode (Mc M) pc = .ok (.if_icmp .le off, 3)) (ht : (pc : Int) + off = (tg : Int)) (h : (x ≤ y → Vj M d kc ks tg ls st n f Q) ∧ (¬ x ≤ y → Vj M d kc ks (pc + 3) ls st n f Q)) : Vj M d kc ks pc ls (.int y :: .int x :: st) n f Q := by
  intro p l e R s m args below meth c G b bs Z H locs la hE hZ hH hS hl h1 h2
  exact lv_icmp_le hE.1 hE.2.1 hd ht (fun q => h.1 q p l e R s m args below meth c G b bs Z H locs la hE hZ hH hS hl h1 h2) (fun q => h.2 q p l e R s m args below meth c G b bs Z H locs la hE hZ hH hS hl h1 h2)
theorem V_goto {off : Int} {tg : Nat} (hd : decode (Mc M) pc = .ok (.goto off, 3)) (ht : (pc : Int) + off = (tg : Int)) (h : Vj M d kc ks tg ls st n f Q) : Vj M d kc ks pc ls st n f Q := by
  intro p l e R s m args below meth c G b bs Z H locs la hE hZ hH hS hl h1 h2
  exact lv_goto hE.1 hE.2.1 hd ht (h p l e R s m args below meth c G b bs Z H locs la hE hZ hH hS hl h1 h2)
theorem V_ifnull {off : Int} {x : Nat} (hd : decode (Mc M) pc = .ok (.ifnull off, 3)) (h : Vj M d kc ks (pc + 3) ls st n f Q) : Vj M d kc ks pc ls (.ref x :: st) n f Q := by
  intro p l e R s m args below meth c G b bs Z H locs la hE hZ hH hS hl h1 h2
  exact lv_ifnull hE.1 hE.2.1 hd (h p l e R s m args below meth c G b bs Z H locs la hE hZ hH hS hl h1 h2)
theorem V_ifnullN {off : Int} {tg : Nat} (hd : decode (Mc M) pc = .ok (.ifnull off, 3)) (ht : (pc : Int) + off = (tg : Int)) (h : Vj M d kc ks tg ls st n f Q) : Vj M d kc ks pc ls (.null :: st) n f Q := by
  intro p l e R s m args below meth c G b bs Z H locs la hE hZ hH hS hl h1 h2
  exact lv_ifnullN hE.1 hE.2.1 hd ht (h p l e R s m args below meth c G b bs Z H locs la hE hZ hH hS hl h1 h2)
theorem V_tbl {df lo hi : Int} {offs : Array Int} {len : Nat} {x : Int32} (hd : decode (Mc M) pc = .ok (.tableswitch df lo hi offs, len)) (hlo : (offs.size : Int) = hi - lo + 1) (h : ∀ off tg, (offs.toList[(x.toInt - lo).toNat]? = some off ∧ lo ≤ x.toInt ∨ (x.toInt < lo ∨ hi < x.toInt) ∧ off = df) → (pc : Int) + off = (tg : Nat) → Vj M d kc ks tg ls st n f Q) (hp : ∀ off, off = df ∨ off ∈ offs.toList → 0 ≤ (pc : Int) + off) : Vj M d kc ks pc ls (.int x :: st) n f Q := by
  intro p l e R s m args below meth c G b bs Z H locs la hE hZ hH hS hl h1 h2
  by_cases hr : x.toInt < lo ∨ hi < x.toInt
  · have h0 := hp df (Or.inl rfl)
    exact lv_tableOut (tgt := ((pc : Int) + df).toNat) hE.1 hE.2.1 hd hr (by omega) (h df _ (Or.inr ⟨hr, rfl⟩) (by omega) p l e R s m args below meth c G b bs Z H locs la hE hZ hH hS hl h1 h2)
  · have hi' : (x.toInt - lo).toNat < offs.size := by omega
    have hg : offs[(x.toInt - lo).toNat]? = some offs[(x.toInt - lo).toNat] := Array.getElem?_eq_getElem hi'
    have hg' : offs.toList[(x.toInt - lo).toNat]? = some offs[(x.toInt - lo).toNat] := by rw [Array.getElem?_toList]; exact hg
    have h0 := hp _ (Or.inr (List.mem_of_getElem? hg'))
    exact lv_tableIn (off := offs[(x.toInt - lo).toNat]) (tgt := ((pc : Int) + offs[(x.toInt - lo).toNat]).toNat) hE.1 hE.2.1 hd (by omega) (by omega) hg (by omega) (h _ _ (Or.inl ⟨hg', by omega⟩) (by omega) p l e R s m args below meth c G b bs Z H locs la hE hZ hH hS hl h1 h2)
theorem V_lkp {df : Int} {ps : Array (Int × Int)} {len : Nat} {x : Int32} (hd : decode (Mc M) pc = .ok (.lookupswitch df ps, len)) (hs : (ps.toList.zip (ps.toList.drop 1)).all (fun (a, next) => a.1 < next.1) = true) (hp : 0 ≤ (pc : Int) + Op.lookupswitch.offset ps.toList df x.toInt) (h : ∀ tg : Nat, (pc : Int) + Op.lookupswitch.offset ps.toList df x.toInt = (tg : Int) → Vj M d kc ks tg ls st n f Q) : Vj M d kc ks pc ls (.int x :: st) n f Q := by
  intro p l e R s m args below meth c G b bs Z H locs la hE hZ hH hS hl h1 h2
  exact lv_lookup (tgt := ((pc : Int) + Op.lookupswitch.offset ps.toList df x.toInt).toNat) hE.1 hE.2.1 hd hs rfl (by omega) (h _ (by omega) p l e R s m args below meth c G b bs Z H locs la hE hZ hH hS hl h1 h2)
theorem V_ldc {idx : Nat} {v : Int32} (hd : decode (Mc M) pc = .ok (.ldc idx, 2)) (ho : Mo M = am_own (Mp M)) (hk : lkp (pi (Mp M)) idx = some v) (h : Vj M d kc ks (pc + 2) ls (.int v :: st) n f Q) : Vj M d kc ks pc ls st n f Q := by
  intro p l e R s m args below meth c G b bs Z H locs la hE hZ hH hS hl h1 h2
  have hw := am_pi_ok (Mp M) _ (lkp_mem hk)
  rw [← ho] at hw
  exact lv_ldc hE.1 hE.2.1 hE.2.2.2.2.1 (hE.2.2.2.2.2.1 _ hw) hd (h p l e R s m args below meth c G b bs Z H locs la hE hZ hH hS hl h1 h2)
theorem V_ldc2 {idx : Nat} {v : Int64} (hd : decode (Mc M) pc = .ok (.ldc2_w idx, 3)) (ho : Mo M = am_own (Mp M)) (hk : lkp (pl (Mp M)) idx = some v) (h : Vj M d kc ks (pc + 3) ls (.long v :: st) n f Q) : Vj M d kc ks pc ls st n f Q := by
  intro p l e R s m args below meth c G b bs Z H locs la hE hZ hH hS hl h1 h2
  have hw := am_pl_ok (Mp M) _ (lkp_mem hk)
  rw [← ho] at hw
  exact lv_ldc2 hE.1 hE.2.1 hE.2.2.2.2.1 (hE.2.2.2.2.2.1 _ hw) hd (h p l e R s m args below meth c G b bs Z H locs la hE hZ hH hS hl h1 h2)
theorem V_sub {ls' : Lo} (hs : lsub ls ls') (h : Vj M d kc ks pc ls' st n f Q) : Vj M d kc ks pc ls st n f Q := by
  intro p l e R s m args below meth c G b bs Z H locs la hE hZ hH hS hl h1 h2
  exact h p l e R s m args below meth c G b bs Z H locs la hE hZ hH hS (am_lh_sub hl hs) h1 h2
theorem V_ret {r : Option Value} (hr : am_ro M pc r) (h : Q r n f) : Vj M d kc ks pc ls r.toList n f Q := by
  intro p l e R s m args below meth c G b bs Z H locs la hE hZ hH hS hl h1 h2
  rw [← am_cv_none]
  exact hZ r n f H locs kc ks pc la h hH hS h1 h2 hr
theorem V_mono {Q' : Po} (hq : ∀ r n f, Q r n f → Q' r n f) (h : Vj M d kc ks pc ls st n f Q) : Vj M d kc ks pc ls st n f Q' := by
  intro p l e R s m args below meth c G b bs Z H locs la hE hZ hH hS hl h1 h2
  exact h p l e R s m args below meth c G b bs Z H locs la hE (fun r n f H locs kc ks pc la q => hZ r n f H locs kc ks pc la (hq r n f q)) hH hS hl h1 h2
end RowsV
