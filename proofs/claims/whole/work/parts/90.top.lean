/-! THE CLAIM OUT OF ONE WALK OF THE LAW'S BODY. Your part is whole_start (and what it stands on); all else here is the same for every law, but numbers. -/
def R_law : String := "SlicedRowsLaw"
def lw_P (b : Addr) (xs : List Int32) (args : Array Value) (s : State) : Prop := args = #[.ref b] ∧ s.IntsAt b xs ∧ xs.length ≤ 3072 ∧ (Jvm.Cond.and given_1 narrow_1).before args s = true
def lw_Q (_ : Array Value) (s : State) (o : Outcome) (t : State) : Prop := o = .returned (some (.int 1)) ∧ Framed s o t [] 600000 7302250
def lw_Z (below : List Frame) (a : Array Value) (s : State) : State → Prop := fun t => ∃ o, t.status = .running ∧ Ended t below o ∧ lw_Q a s o t
/-- the law's own end, with 1 on the stack, nothing written that was there before, its room as the claim has it -/
theorem lw_ret {p : Program} {l : Launch} {e : Env} {s : State} {m : MethodId} {below : List Frame} {meth : Method} {c : Code} {b : Nat} (hx : p.tables.exec = Jvm.exec) (hb : c.code = code) (hr : meth.sig.returnType = ret) (hlocks : meth.locks = false) {pc : Nat} {H : Heap} {ls : Array Slot} (hdg : decode code pc = .ok (.ireturn, 1)) : W p l e room_1 s m #[Value.ref b] below meth c H [] 600000 7302250 (lw_Z below #[Value.ref b] s) (F0 m pc ls [.int 1]) := by
  intro T hT X
  obtain ⟨fs, hret, hrun, hended, hW, hframe⟩ := X.leave (v := some (.int 1)) (hlocks := hlocks) (fun h => by rw [hr] at h; cases h)
  have hmeth' : T.vm.method? m = some meth := X.method'
  refine ⟨T.setFrames fs, ?_, .returned (some (.int 1)), hrun, hended, rfl, ⟨_, rfl⟩, hW, hframe⟩
  jvm_step X.here [X.here.top, hx, hb, hdg, hmeth', hr, ret, narrow_b1]
  (try refine ⟨rfl, ?_⟩); (try refine ⟨rfl, ?_⟩)
  first | (intro acts; rw [hret _ acts rfl rfl rfl]) | rw [hret _ _ rfl rfl rfl]
  exact Steps.refl _
/-- what holds at the law's entry: the machine, the code, the tables' words (any of lw_tbl by 'hts w (by decide +kernel)'), the script of L ints xs at the cell b, what the Statement gives of the start (any of its parts by flat_of_before) -/
def lw_At (p : Program) (s : State) (m : MethodId) (meth : Method) (c : Code) (b L : Nat) (xs : Nat → Int32) : Prop :=
  p.tables.exec = Jvm.exec ∧ c.code = code ∧ meth.sig.returnType = ret ∧ c.maxLocals = 4 ∧ s.vm.findClass R_law = some m.cls ∧ (∀ w ∈ lw_tbl, w.before #[Value.ref b] s = true) ∧ va_X b L xs s s.heap ∧ b < s.heap.size ∧ meth.locks = false ∧ (Jvm.Cond.and given_1 narrow_1).before #[Value.ref b] s = true
theorem am_arr {s : State} {args : Array Value} {ty : FieldType} (h : (Cond.arrayClass ty).before args s = true) (hp : ∀ C, ty ≠ .object C) : ∃ cA, ArrOfT s cA ty ∧ va_RA s cA ty := by
  obtain ⟨cA, kA, comp, h1, h2, h3⟩ := Cond.arrayClass_spec h
  refine ⟨cA, fun N z => ⟨(fun k h => by cases h), kA, h2, comp, h3⟩, ?_⟩
  cases ty with
  | object C => exact absurd rfl (hp C)
  | _ => exact h1
theorem am_arq {s : State} {args : Array Value} {C : String} (h : (Cond.arrayOver (.object C)).before args s = true) : ∃ cA, ArrOfT s cA (.object C) ∧ va_RA s cA (.object C) := by
  obtain ⟨comp, cA, kA, h1, -, h3, h4, h5⟩ := Cond.arrayOver_spec h
  exact ⟨cA, fun N z => ⟨(fun k h => by cases h), kA, h3, comp, h4⟩, kA, comp, h3, h4, h1, h5⟩
set_option maxHeartbeats 4000000 in
set_option maxRecDepth 100000 in
/-- the law from its entry, given the judgement of its body -/
theorem whole_start_of (hlaw : ∀ (L : Nat) (xs : Nat → Int32), L ≤ 3072 → ∀ f : Nat → Ac, f 0 = am_scr → (∀ k, 0 < k → f k = am_nil) → Vj (ML_law (L, xs)) 100 0 0 0 [some (.ref 0)] [] 0 f (fun r _ _ => r = some (.int 1))) {p : Program} {e : Env} {s : State} {m : MethodId} {below : List Frame} {meth : Method} {c : Code} (l : Launch) {b L : Nat} {xs : Nat → Int32} (hL : L ≤ 3072) (C0 : lw_At p s m meth c b L xs) : W p l e room_1 s m #[Value.ref b] below meth c s.heap [] 0 0 (lw_Z below #[Value.ref b] s) (entryFrame m ([Value.ref b] : List Value).toArray 4) := by
  obtain ⟨hx, hb, hr, hml, hown, hts, hX, hbl, hlocks, hgv⟩ := id C0
  have htg : ∀ w ∈ am_gw, w.before #[Value.ref b] s = true := fun w hw => hts w (List.mem_filter.mp hw).1
  obtain ⟨c0, iS0, hKn0⟩ := u_known (C := RX0) (T := TX0) (N := 2) (n := 2) htg am_in0 (htg _ (am_gw_in (by decide +kernel) rfl : Cond.instantiable RX0 2 ∈ am_gw))
  obtain ⟨c1, iS1, hKn1⟩ := u_known (C := RX1) (T := TX1) (N := 10) (n := 10) htg am_in1 (htg _ (am_gw_in (by decide +kernel) rfl : Cond.instantiable RX1 10 ∈ am_gw))
  obtain ⟨c2, iS2, hKn2⟩ := u_known (C := RX3) (T := TX3) (N := 4) (n := 4) htg am_in2 (htg _ (am_gw_in (by decide +kernel) rfl : Cond.instantiable RX3 4 ∈ am_gw))
  obtain ⟨c3, iS3, hKn3⟩ := u_known (C := RX4) (T := TX4) (N := 6) (n := 6) htg am_in3 (htg _ (am_gw_in (by decide +kernel) rfl : Cond.instantiable RX4 6 ∈ am_gw))
  obtain ⟨c4, iS4, hKn4⟩ := u_known (C := RX5) (T := TX5) (N := 13) (n := 13) htg am_in4 (htg _ (am_gw_in (by decide +kernel) rfl : Cond.instantiable RX5 13 ∈ am_gw))
  obtain ⟨c5, iS5, hKn5⟩ := u_known (C := RX6) (T := TX6) (N := 8) (n := 8) htg am_in5 (htg _ (am_gw_in (by decide +kernel) rfl : Cond.instantiable RX6 8 ∈ am_gw))
  obtain ⟨c6, iS6, hKn6⟩ := u_known (C := RX7) (T := TX7) (N := 9) (n := 9) htg am_in6 (htg _ (am_gw_in (by decide +kernel) rfl : Cond.instantiable RX7 9 ∈ am_gw))
  obtain ⟨c7, iS7, hKn7⟩ := u_known (C := RX8) (T := TX8) (N := 46) (n := 46) htg am_in7 (htg _ (am_gw_in (by decide +kernel) rfl : Cond.instantiable RX8 46 ∈ am_gw))
  obtain ⟨a0, hA0, hB0⟩ := am_arr (htg _ am_ai) (fun C q => by cases q)
  obtain ⟨a1, hA1, hB1⟩ := am_arr (htg _ am_az) (fun C q => by cases q)
  obtain ⟨a2, hA2, hB2⟩ := am_arr (htg _ am_al) (fun C q => by cases q)
  obtain ⟨a3, hA3, hB3⟩ := am_arq (hts _ am_aq1)
  obtain ⟨a4, hA4, hB4⟩ := am_arq (hts _ am_aq4)
  obtain ⟨G, hG⟩ : ∃ G : Gd, am_TB G s := by
    refine ⟨(fun k => if k = 0 then c0 else if k = 1 then c1 else if k = 2 then c2 else if k = 3 then c3 else if k = 4 then c4 else if k = 5 then c5 else if k = 6 then c6 else c7, fun k => if k = 0 then iS0 else if k = 1 then iS1 else if k = 2 then iS2 else if k = 3 then iS3 else if k = 4 then iS4 else if k = 5 then iS5 else if k = 6 then iS6 else iS7, fun k => if k = 0 then a0 else if k = 1 then a1 else if k = 2 then a2 else if k = 3 then a3 else a4), ⟨?_, ?_⟩, ?_, ?_, ?_⟩
    · intro k q hq
      match k, hq with
      | 0, hq => cases hq; exact hKn0
      | 1, hq => cases hq; exact hKn1
      | 2, hq => cases hq; exact hKn2
      | 3, hq => cases hq; exact hKn3
      | 4, hq => cases hq; exact hKn4
      | 5, hq => cases hq; exact hKn5
      | 6, hq => cases hq; exact hKn6
      | 7, hq => cases hq; exact hKn7
      | k + 8, hq => simp [vwCl] at hq
    · intro k q hq
      match k, hq with
      | 0, hq => cases hq; exact ⟨hA0, hB0⟩
      | 1, hq => cases hq; exact ⟨hA1, hB1⟩
      | 2, hq => cases hq; exact ⟨hA2, hB2⟩
      | 3, hq => cases hq; exact ⟨hA3, hB3⟩
      | 4, hq => cases hq; exact ⟨hA4, hB4⟩
      | k + 5, hq => simp [am_ty] at hq
    · intro w hw
      have hn := (List.mem_filter.mp hw).2
      refine va_Nw.of ?_ (hts w (List.mem_filter.mp hw).1)
      cases w <;> simp [am_nestW] at hn <;> rfl
    · exact va_AO.of (hts _ am_aq1)
    · exact va_AO.of (hts _ am_aq4)
  rw [lg_entry_eq]
  have hls := lv_entry ([Value.ref b]) (n := 4) (Nat.le_of_ble_eq_true rfl)
  generalize (lg_sl ([Value.ref b]) ++ List.replicate (4 - (lg_sl ([Value.ref b])).length) Slot.unset).toArray = la at hls ⊢
  have hE : am_E (ML_law (L, xs)) 100 p s m #[Value.ref b] meth c room_1 G b s.heap.size := ⟨hx, hb, hr, hml, hown, htg, hlocks, hG, fun q => absurd (show "law" = "<init>" from q) (by decide), ⟨by decide, by decide, Nat.le_refl 600000, Nat.le_refl 7302250⟩, Nat.le_refl _, fun L' xs' hq => by cases hq; exact ⟨hX, hbl, hbl⟩⟩
  refine hlaw L xs hL (fun k => if k = 0 then am_scr else am_nil) rfl (fun k hk => if_neg (by omega)) p l e room_1 s m #[Value.ref b] below meth c G b s.heap.size _ s.heap [] la hE ?_ ⟨rfl, fun k q hq => by simp [am_ws] at hq, fun k hk => if_neg (by omega), rfl⟩ va_S.rf ⟨hls.1, hls.2.1, fun q hq => ?_⟩ (Nat.zero_le _) (Nat.zero_le _)
  · intro r n f H locs kc ks pc la' hQ hH hS h1 h2 hro
    cases hQ
    refine va_forget (fun q hq => hS.2.2 q hq) ?_
    refine W.widen (k := 600000) (n := 7302250) h1 h2 ?_
    exact lw_ret hx hb hr hlocks hro.2
  · have hq' : q = (0, Value.ref b) := by simpa [am_pr, am_cv, am_ad] using hq
    rw [hq']
    exact hls.2.2 _ (by simp [lv_args])

