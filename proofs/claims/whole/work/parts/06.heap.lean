section RowsH
variable {M : Mt} {d kc ks pc : Nat} {ls : Lo} {st : List Value} {n : Nat} {f : Nat → Ac} {Q : Po}
def am_fit : Nat → Value → Prop
  | 0, .int _ => True
  | 1, .int x => x = 0 ∨ x = 1
  | 2, .long _ => True
  | 3, .ref _ => True
  | _, _ => False
theorem am_fit_ok {tc : Nat} {ty : FieldType} {v : Value} {b bs : Nat} (h : am_fit tc v) (ht : am_tcok tc ty = true) : narrow ty (am_cv b bs v) = am_cv b bs v ∧ fits ty (am_cv b bs v) = true := by
  match tc, v, h with
  | 0, .int x, _ => cases ty <;> simp [am_tcok] at ht; exact ⟨rfl, rfl⟩
  | 1, .int x, h =>
    cases ty <;> simp [am_tcok] at ht
    rcases h with rfl | rfl
    · exact ⟨show narrow .boolean (.int 0) = .int 0 by decide, show fits .boolean (.int 0) = true by decide⟩
    · exact ⟨show narrow .boolean (.int 1) = .int 1 by decide, show fits .boolean (.int 1) = true by decide⟩
  | 2, .long x, _ => cases ty <;> simp [am_tcok] at ht; exact ⟨rfl, rfl⟩
  | 3, .ref k, _ => cases ty <;> simp [am_tcok] at ht <;> exact ⟨rfl, rfl⟩
/-- the j-th field of an object -/
def gv : List Value → Nat → Option Value
  | [], _ => none
  | x :: _, 0 => some x
  | _ :: t, i + 1 => gv t i
def sv : List Value → Nat → Value → List Value
  | [], _, _ => []
  | _ :: t, 0, v => v :: t
  | x :: t, i + 1, v => x :: sv t i v
theorem gv_eq : ∀ (fs : List Value) (j : Nat), gv fs j = fs[j]?
  | [], j => by simp [gv]
  | x :: t, 0 => by simp [gv]
  | x :: t, j + 1 => by rw [gv, gv_eq t j]; simp
theorem sv_eq : ∀ (fs : List Value) (j : Nat) (v : Value), sv fs j v = fs.set j v
  | [], j, v => by simp [sv]
  | x :: t, 0, v => by simp [sv]
  | x :: t, j + 1, v => by rw [sv, sv_eq t j]; simp

theorem V_getfield {idx ci j k : Nat} {nb fin : Bool} {tc : Nat} {fs : List Value} {v : Value} (hd : decode (Mc M) pc = .ok (.getfield idx, 3)) (ho : Mo M = am_own (Mp M)) (hp : lkp (pf (Mp M)) idx = some (ci, j, nb, tc, fin)) (hk : f k = .inr (ci, fs)) (hv : gv fs j = some v) (h : Vj M d kc ks (pc + 3) ls (v :: st) n f Q) : Vj M d kc ks pc ls (.ref k :: st) n f Q := by
  intro p l e R s m args below meth c G b bs Z H locs la hE hZ hH hS hl h1 h2
  have hw := am_pf_ok (Mp M) _ (lkp_mem hp)
  rw [← ho] at hw
  obtain ⟨C, T, N, hc, hj, hC, hlk, -⟩ := hw
  dsimp only at hc hj hC hlk
  obtain ⟨hin, -, -, hci⟩ := am_cls hc
  obtain ⟨q, rfl, hq⟩ := am_HP_obj hH hk (by omega)
  have hg := am_HP_get hH hq hk
  have hv' : (fs.map (am_cv b bs))[j]? = some (am_cv b bs v) := by rw [List.getElem?_map, ← gv_eq, hv]; rfl
  cases nb with
  | false => exact va_get (ref := C) hE.1 hE.2.1 hE.2.2.2.2.2.1 hin hE.2.2.2.2.1 hE.2.2.2.2.2.2.2.1.1 hH.2.1 q hg hc j hj (hE.2.2.2.2.2.1 _ hlk) (fun x hx => by rw [← hC]; exact hx) hv' hd (h p l e R s m args below meth c G b bs Z H locs la hE hZ hH hS hl h1 h2)
  | true => exact va_getN (ref := C) hE.1 hE.2.1 hE.2.2.2.2.2.1 hin hE.2.2.2.2.1 hE.2.2.2.2.2.2.2.1.1 hH.2.1 q hg hc j hj (va_Nw.use rfl (hE.2.2.2.2.2.2.2.1.2.1 _ hlk)) (fun x hx => by rw [← hC]; exact hx) hv' hd (h p l e R s m args below meth c G b bs Z H locs la hE hZ hH hS hl h1 h2)
theorem V_putfield {idx ci j k : Nat} {nb fin : Bool} {tc : Nat} {fs : List Value} {v : Value} (hd : decode (Mc M) pc = .ok (.putfield idx, 3)) (ho : Mo M = am_own (Mp M)) (hp : lkp (pf (Mp M)) idx = some (ci, j, nb, tc, fin)) (hfi : fin = false ∨ (nb = false ∧ (My M).name = "<init>" ∧ (vwCl[ci]?).map (fun q => q.1) = some (Mo M))) (hk : f k = .inr (ci, fs)) (hv : j < fs.length) (hft : am_fit tc v) (h : Vj M d kc ks (pc + 3) ls st n (va_up f k (.inr (ci, sv fs j v))) Q) : Vj M d kc ks pc ls (v :: .ref k :: st) n f Q := by
  intro p l e R s m args below meth c G b bs Z H locs la hE hZ hH hS hl h1 h2
  have hw := am_pf_ok (Mp M) _ (lkp_mem hp)
  rw [← ho] at hw
  obtain ⟨C, T, N, hc, hj, hC, hlk, hfn, htc⟩ := hw
  dsimp only at hc hj hC hlk hfn htc
  obtain ⟨hin, hty, hnm, hci⟩ := am_cls hc
  obtain ⟨q, rfl, hq⟩ := am_HP_obj hH hk (by omega)
  have hg := am_HP_get hH hq hk
  have hts := hE.2.2.2.2.2.1
  have hown := hE.2.2.2.2.1
  have hK := hE.2.2.2.2.2.2.2.1.1
  obtain ⟨hn, hfit⟩ := am_fit_ok (b := b) (bs := bs) hft htc
  have hap := va_apart (own := Mo M) hts hin (am_tf ci) hty hnm hK hc
  obtain ⟨r, hr1, cell, q1, q2, q3, q4⟩ := hH.2.1 q _ hg
  have hr : r = (C, T, N) := Option.some.inj (hr1.symm.trans hc)
  subst hr
  obtain ⟨hSl, hfc, kC, hkC, hkind⟩ := hK.1 ci _ hc
  obtain ⟨cf, kf, fi, fd, hi, hsl⟩ := hSl j hj
  have hst := (u_facts hfc hkC (u_lays hts hin hj) hi).1
  have hsame : ∀ x, s.fieldFound? (T j).1 (T j).2.1 (T j).2.2.1 = some x → s.fieldFound? C (T j).2.1 (T j).2.2.1 = some x := fun x hx => by rw [← hC]; exact hx
  have fin_ : ∀ (H1 : Heap) (locs1 : List Loc), H1[bs + q]? = some (cell.setSlot fd.slot (am_cv b bs v)) → H1.size = H.size → (∀ x : Nat, x ≠ bs + q → H1[x]? = H[x]?) → va_S (fun q => bs ≤ q) s.heap H1 locs1 → W p l e R s m args below meth c H1 locs1 kc ks Z (F0 m (pc + 3) la (st.map (am_cv b bs))) := by
    intro H1 locs1 e1 e2 e3 hS1
    rw [hsl] at e1
    have hH1 : am_HP G b bs n (va_up f (q + 1) (.inr (ci, sv fs j v))) H1 := by
      refine am_HP_set hH hq _ ?_ e2 e3
      refine ⟨_, hc, t_OB.to (V := updV (vp_V (fs.map (am_cv b bs))) j (am_cv b bs v)) ⟨_, e1, q2, q3, t_set q4 hap hj _⟩ (fun i _ => ?_)⟩
      rw [sv_eq, List.map_set]
      exact vp_updV_set (by rw [List.length_map]; exact hv) _ i
    exact h p l e R s m args below meth c G b bs Z H1 locs1 la hE hZ hH1 hS1 hl h1 h2
  rcases hfi with hf | ⟨hnb, hname, hcl⟩
  · subst hf
    have hlay := hts _ (hin _ (u_in_lay hj))
    unfold u_lay at hlay
    rw [if_neg (by rw [hfn]; decide)] at hlay
    have h6 := u_store hfc hkC hkind hlay hi (hty j hj) hn hfit
    cases nb with
    | false => exact W.putK hE.1 hE.2.1 (f := fd) ⟨hown, hts _ hlk, ⟨_, _, _, hsame _ hi⟩, hst⟩ (by rw [q2]; exact h6) q1 q3 (by rw [hsl]; exact k2_hasslot (q4 j hj)) rfl rfl hd fun H1 e1 e2 e3 => fin_ H1 _ e1 e2 e3 (hS.put e2 e3 (by show bs ≤ bs + q; omega))
    | true => exact va_WputK hE.1 hE.2.1 (f := fd) hown (va_Nw.use rfl (hE.2.2.2.2.2.2.2.1.2.1 _ hlk)) (hsame _ hi) hst (by rw [q2]; exact h6) q1 q3 (by rw [hsl]; exact k2_hasslot (q4 j hj)) rfl rfl hd fun H1 e1 e2 e3 => fin_ H1 _ e1 e2 e3 (hS.put e2 e3 (by show bs ≤ bs + q; omega))
  · cases fin with
    | false =>
      subst hnb
      have hlay := hts _ (hin _ (u_in_lay hj))
      unfold u_lay at hlay
      rw [if_neg (by rw [hfn]; decide)] at hlay
      have h6 := u_store hfc hkC hkind hlay hi (hty j hj) hn hfit
      exact W.putK hE.1 hE.2.1 (f := fd) ⟨hown, hts _ hlk, ⟨_, _, _, hsame _ hi⟩, hst⟩ (by rw [q2]; exact h6) q1 q3 (by rw [hsl]; exact k2_hasslot (q4 j hj)) rfl rfl hd fun H1 e1 e2 e3 => fin_ H1 _ e1 e2 e3 (hS.put e2 e3 (by show bs ≤ bs + q; omega))
    | true =>
      subst hnb
      have hlay := hts _ (hin _ (u_in_lay hj))
      unfold u_lay at hlay
      rw [if_pos hfn] at hlay
      have hCM : C = Mo M := by rw [hc] at hcl; exact Option.some.inj hcl
      have hcf : m.cls = cf := by
        obtain ⟨_, _, c', _, _, _, -, -, hf', -, -, -, hown2, -⟩ := Cond.laysFinal_spec hlay
        have e1 : c' = cf := by have := hi.symm.trans hf'; simp at this; exact this.1.symm
        rw [hC, hCM] at hown2
        rw [← e1]; exact Option.some.inj (hown.symm.trans hown2)
      have h6 := u_fits hfc hkC hkind (Or.inr hlay) hi (hty j hj) hn hfit
      exact W.putFinK hE.1 hE.2.1 hown (hts _ hlk) (hsame _ hi) hst hcf (hE.2.2.2.2.2.2.2.2.1 hname) (by rw [q2]; exact h6) q1 q3 (by rw [hsl]; exact k2_hasslot (q4 j hj)) rfl rfl hd fun H1 e1 e2 e3 => fin_ H1 _ e1 e2 e3 (hS.put e2 e3 (by show bs ≤ bs + q; omega))

theorem V_iaload {k N : Nat} {g : Nat → Int32} {i : Int32} (hd : decode (Mc M) pc = .ok (.iaload, 1)) (hk : f k = .inl (0, N, .inl g)) (hi : vp_in i N) (h : Vj M d kc ks (pc + 1) ls (.int (g i.toNatClampNeg) :: st) n f Q) : Vj M d kc ks pc ls (.int i :: .ref k :: st) n f Q := by
  intro p l e R s m args below meth c G b bs Z H locs la hE hZ hH hS hl h1 h2
  obtain ⟨q, rfl, hq⟩ := am_HP_arr hH hk
  have hg := am_HP_get hH hq hk
  exact va_iald hE.1 hE.2.1 hE.2.2.2.2.2.2.2.1.1 hH.2.1 q 0 hg rfl hi hd (h p l e R s m args below meth c G b bs Z H locs la hE hZ hH hS hl h1 h2)
theorem V_baload {k N : Nat} {g : Nat → Int32} {i : Int32} (hd : decode (Mc M) pc = .ok (.baload, 1)) (hk : f k = .inl (1, N, .inl g)) (hi : vp_in i N) (h : Vj M d kc ks (pc + 1) ls (.int (g i.toNatClampNeg) :: st) n f Q) : Vj M d kc ks pc ls (.int i :: .ref k :: st) n f Q := by
  intro p l e R s m args below meth c G b bs Z H locs la hE hZ hH hS hl h1 h2
  obtain ⟨q, rfl, hq⟩ := am_HP_arr hH hk
  have hg := am_HP_get hH hq hk
  exact va_zald hE.1 hE.2.1 hE.2.2.2.2.2.2.2.1.1 hH.2.1 q 1 hg rfl hi hd (h p l e R s m args below meth c G b bs Z H locs la hE hZ hH hS hl h1 h2)
theorem V_laload {k N : Nat} {g : Nat → Int64} {i : Int32} (hd : decode (Mc M) pc = .ok (.laload, 1)) (hk : f k = .inl (2, N, .inr (.inl g))) (hi : vp_in i N) (h : Vj M d kc ks (pc + 1) ls (.long (g i.toNatClampNeg) :: st) n f Q) : Vj M d kc ks pc ls (.int i :: .ref k :: st) n f Q := by
  intro p l e R s m args below meth c G b bs Z H locs la hE hZ hH hS hl h1 h2
  obtain ⟨q, rfl, hq⟩ := am_HP_arr hH hk
  have hg := am_HP_get hH hq hk
  exact va_lald hE.1 hE.2.1 hE.2.2.2.2.2.2.2.1.1 hH.2.1 q 2 hg rfl hi hd (h p l e R s m args below meth c G b bs Z H locs la hE hZ hH hS hl h1 h2)
theorem V_aaload3 {k N : Nat} {g : Nat → Option Nat} {i : Int32} (hd : decode (Mc M) pc = .ok (.aaload, 1)) (hk : f k = .inl (3, N, .inr (.inr (.inr (.inr g))))) (hi : vp_in i N) (h : Vj M d kc ks (pc + 1) ls (va_rf (g i.toNatClampNeg) :: st) n f Q) : Vj M d kc ks pc ls (.int i :: .ref k :: st) n f Q := by
  intro p l e R s m args below meth c G b bs Z H locs la hE hZ hH hS hl h1 h2
  obtain ⟨q, rfl, hq⟩ := am_HP_arr hH hk
  have hg := am_HP_get hH hq hk
  refine va_aldq hE.1 hE.2.1 hE.2.2.2.2.2.2.2.1.1 hH.2.1 q 3 hg rfl hi hd ?_
  have hh := h p l e R s m args below meth c G b bs Z H locs la hE hZ hH hS hl h1 h2
  cases hgi : g i.toNatClampNeg with
  | none => rw [hgi] at hh; exact hh
  | some a => rw [hgi] at hh; exact hh
theorem V_aaload4 {k N : Nat} {g : Nat → Option Nat} {i : Int32} (hd : decode (Mc M) pc = .ok (.aaload, 1)) (hk : f k = .inl (4, N, .inr (.inr (.inr (.inr g))))) (hi : vp_in i N) (h : Vj M d kc ks (pc + 1) ls (va_rf (g i.toNatClampNeg) :: st) n f Q) : Vj M d kc ks pc ls (.int i :: .ref k :: st) n f Q := by
  intro p l e R s m args below meth c G b bs Z H locs la hE hZ hH hS hl h1 h2
  obtain ⟨q, rfl, hq⟩ := am_HP_arr hH hk
  have hg := am_HP_get hH hq hk
  refine va_aldq hE.1 hE.2.1 hE.2.2.2.2.2.2.2.1.1 hH.2.1 q 4 hg rfl hi hd ?_
  have hh := h p l e R s m args below meth c G b bs Z H locs la hE hZ hH hS hl h1 h2
  cases hgi : g i.toNatClampNeg with
  | none => rw [hgi] at hh; exact hh
  | some a => rw [hgi] at hh; exact hh
theorem V_iastore {k N : Nat} {g : Nat → Int32} {i : Int32} {x : Int32} (hd : decode (Mc M) pc = .ok (.iastore, 1)) (hk : f k = .inl (0, N, .inl (g))) (hi : vp_in i N) (h : Vj M d kc ks (pc + 1) ls st n (va_up f k (.inl (0, N, .inl (upd g i.toNatClampNeg x)))) Q) : Vj M d kc ks pc ls (.int x :: .int i :: .ref k :: st) n f Q := by
  intro p l e R s m args below meth c G b bs Z H locs la hE hZ hH hS hl h1 h2
  obtain ⟨q, rfl, hq⟩ := am_HP_arr hH hk
  have hg := am_HP_get hH hq hk
  refine W.iast hE.1 hE.2.1 (hH.2.1 q _ hg) ((hE.2.2.2.2.2.2.2.1.1.2 0 _ rfl).1 N (fun j => .int (g j))) (fun q => by cases q) (by show ¬ (i < 0 ∨ (arrV _ _ _).slots.size ≤ _); rw [arrV_size]; exact hi) rfl rfl hd fun H1 e1 z oq => ?_
  have hS1 := hS.put (k := i.toNatClampNeg) z oq (show (fun q => bs ≤ q) (bs + q) by show bs ≤ bs + q; omega)
  have hH1 : am_HP G b bs n (va_up f (q + 1) (.inl (0, N, .inl (upd g i.toNatClampNeg x)))) H1 := by
    refine am_HP_set hH hq _ ?_ z oq
    show H1[bs + q]? = some (vp_cell _ _)
    rw [e1]
    show some ((vp_cell _ (N, .inl (g))).setSlot _ _) = some (vp_cell _ (N, .inl (upd g i.toNatClampNeg x)))
    rw [vp_cell_i, vp_cell_i, arrV_store]
    congr 2
    funext q
    by_cases hq : q = i.toNatClampNeg
    · subst hq
      simp [updV, upd]
      try rfl
    · simp [updV, upd, hq]
  exact h p l e R s m args below meth c G b bs Z H1 _ la hE hZ hH1 hS1 hl h1 h2
theorem V_bastore {k N : Nat} {g : Nat → Int32} {i : Int32} {x : Int32} (hd : decode (Mc M) pc = .ok (.bastore, 1)) (hk : f k = .inl (1, N, .inl (g))) (hi : vp_in i N) (h : Vj M d kc ks (pc + 1) ls st n (va_up f k (.inl (1, N, .inl (upd g i.toNatClampNeg (vp_nar .boolean x))))) Q) : Vj M d kc ks pc ls (.int x :: .int i :: .ref k :: st) n f Q := by
  intro p l e R s m args below meth c G b bs Z H locs la hE hZ hH hS hl h1 h2
  obtain ⟨q, rfl, hq⟩ := am_HP_arr hH hk
  have hg := am_HP_get hH hq hk
  refine W.zast hE.1 hE.2.1 (hH.2.1 q _ hg) ((hE.2.2.2.2.2.2.2.1.1.2 1 _ rfl).1 N (fun j => .int (g j))) (fun q => by cases q) (by show ¬ (i < 0 ∨ (arrV _ _ _).slots.size ≤ _); rw [arrV_size]; exact hi) rfl rfl hd fun H1 e1 z oq => ?_
  have hS1 := hS.put (k := i.toNatClampNeg) z oq (show (fun q => bs ≤ q) (bs + q) by show bs ≤ bs + q; omega)
  have hH1 : am_HP G b bs n (va_up f (q + 1) (.inl (1, N, .inl (upd g i.toNatClampNeg (vp_nar .boolean x))))) H1 := by
    refine am_HP_set hH hq _ ?_ z oq
    show H1[bs + q]? = some (vp_cell _ _)
    rw [e1]
    show some ((vp_cell _ (N, .inl (g))).setSlot _ _) = some (vp_cell _ (N, .inl (upd g i.toNatClampNeg (vp_nar .boolean x))))
    rw [vp_cell_i, vp_cell_i, arrV_store]
    congr 2
    funext q
    by_cases hq : q = i.toNatClampNeg
    · subst hq
      simp [updV, upd, vp_nar]
      try rfl
    · simp [updV, upd, vp_nar, hq]
  exact h p l e R s m args below meth c G b bs Z H1 _ la hE hZ hH1 hS1 hl h1 h2
theorem V_lastore {k N : Nat} {g : Nat → Int64} {i : Int32} {x : Int64} (hd : decode (Mc M) pc = .ok (.lastore, 1)) (hk : f k = .inl (2, N, .inr (.inl (g)))) (hi : vp_in i N) (h : Vj M d kc ks (pc + 1) ls st n (va_up f k (.inl (2, N, .inr (.inl (vp_updL g i.toNatClampNeg x))))) Q) : Vj M d kc ks pc ls (.long x :: .int i :: .ref k :: st) n f Q := by
  intro p l e R s m args below meth c G b bs Z H locs la hE hZ hH hS hl h1 h2
  obtain ⟨q, rfl, hq⟩ := am_HP_arr hH hk
  have hg := am_HP_get hH hq hk
  refine W.last hE.1 hE.2.1 (hH.2.1 q _ hg) ((hE.2.2.2.2.2.2.2.1.1.2 2 _ rfl).1 N (fun j => .long (g j))) (fun q => by cases q) (by show ¬ (i < 0 ∨ (arrV _ _ _).slots.size ≤ _); rw [arrV_size]; exact hi) rfl rfl hd fun H1 e1 z oq => ?_
  have hS1 := hS.put (k := i.toNatClampNeg) z oq (show (fun q => bs ≤ q) (bs + q) by show bs ≤ bs + q; omega)
  have hH1 : am_HP G b bs n (va_up f (q + 1) (.inl (2, N, .inr (.inl (vp_updL g i.toNatClampNeg x))))) H1 := by
    refine am_HP_set hH hq _ ?_ z oq
    show H1[bs + q]? = some (vp_cell _ _)
    rw [e1]
    show some ((vp_cell _ (N, .inr (.inl (g)))).setSlot _ _) = some (vp_cell _ (N, .inr (.inl (vp_updL g i.toNatClampNeg x))))
    rw [vp_cell_l, vp_cell_l, arrV_store]
    congr 2
    funext q
    by_cases hq : q = i.toNatClampNeg
    · subst hq
      simp [updV, vp_updL]
      try rfl
    · simp [updV, vp_updL, hq]
  exact h p l e R s m args below meth c G b bs Z H1 _ la hE hZ hH1 hS1 hl h1 h2
theorem V_aastore3 {k N v : Nat} {g : Nat → Option Nat} {i : Int32} {vs : List Value} (hd : decode (Mc M) pc = .ok (.aastore, 1)) (hk : f k = .inl (3, N, .inr (.inr (.inr (.inr g))))) (hi : vp_in i N) (hv : f v = .inr (1, vs)) (h : Vj M d kc ks (pc + 1) ls st n (va_up f k (.inl (3, N, .inr (.inr (.inr (.inr (va_up g i.toNatClampNeg (some v)))))))) Q) : Vj M d kc ks pc ls (.ref v :: .int i :: .ref k :: st) n f Q := by
  intro p l e R s m args below meth c G b bs Z H locs la hE hZ hH hS hl h1 h2
  obtain ⟨q, rfl, hq⟩ := am_HP_arr hH hk
  obtain ⟨w, rfl, hw⟩ := am_HP_obj hH hv (by omega)
  have hg := am_HP_get hH hq hk
  have hgv := am_HP_get hH hw hv
  have hK := hE.2.2.2.2.2.2.2.1.1
  have hlt : i.toNatClampNeg < N := Nat.not_le.mp fun q => hi (Or.inr q)
  have h0 : ¬ i < 0 := fun q => hi (Or.inl q)
  obtain ⟨r', hr', cellV, g1, g2, g3, -⟩ := hH.2.1 w _ hgv
  have hcls := (hK.1 1 _ rfl).2
  obtain ⟨kA, comp, k1, k2, k3, -⟩ := (hK.2 3 _ rfl).2
  have hcomp : comp = G.1 1 := Option.some.inj (k3.symm.trans hcls.1)
  subst hcomp
  obtain ⟨kC, hkC, -⟩ := id hcls.2
  refine W.aast hE.1 hE.2.1 (hH.2.1 q _ hg) (fun q h => by cases h) (fun h => by cases h) k1 k2 rfl hkC ⟨h0, by show _ < (arrV _ _ _).slots.size; rw [arrV_size]; exact hlt⟩ g1 (fun q h => by rw [g3] at h; cases h) (by rw [g2]; exact hkC) (by rw [g2]; exact va_assign hcls) rfl rfl hd fun H1 e1 z oq => ?_
  have hS1 := hS.put (k := i.toNatClampNeg) z oq (show (fun q => bs ≤ q) (bs + q) by show bs ≤ bs + q; omega)
  have hH1 : am_HP G b bs n (va_up f (q + 1) (.inl (3, N, .inr (.inr (.inr (.inr (va_up g i.toNatClampNeg (some (w + 1))))))))) H1 := by
    refine am_HP_set hH hq _ ?_ z oq
    show H1[bs + q]? = some (vp_cell _ _)
    rw [e1]
    show some ((vp_cell _ (N, .inr (.inr (.inr (.inr (fun i => (g i).map (am_ad b bs))))))).setSlot _ _) = some (vp_cell _ (N, .inr (.inr (.inr (.inr (fun j => (va_up g i.toNatClampNeg (some (w + 1)) j).map (am_ad b bs)))))))
    rw [vp_cell_q, vp_cell_q, arrV_store]
    congr 2
    funext q
    by_cases hq : q = i.toNatClampNeg
    · subst hq
      simp [updV, va_up, va_rf, am_ad]
    · simp [updV, va_up, hq]
  exact h p l e R s m args below meth c G b bs Z H1 _ la hE hZ hH1 hS1 hl h1 h2
theorem V_aastore4 {k N v : Nat} {g : Nat → Option Nat} {i : Int32} {vs : List Value} (hd : decode (Mc M) pc = .ok (.aastore, 1)) (hk : f k = .inl (4, N, .inr (.inr (.inr (.inr g))))) (hi : vp_in i N) (hv : f v = .inr (3, vs)) (h : Vj M d kc ks (pc + 1) ls st n (va_up f k (.inl (4, N, .inr (.inr (.inr (.inr (va_up g i.toNatClampNeg (some v)))))))) Q) : Vj M d kc ks pc ls (.ref v :: .int i :: .ref k :: st) n f Q := by
  intro p l e R s m args below meth c G b bs Z H locs la hE hZ hH hS hl h1 h2
  obtain ⟨q, rfl, hq⟩ := am_HP_arr hH hk
  obtain ⟨w, rfl, hw⟩ := am_HP_obj hH hv (by omega)
  have hg := am_HP_get hH hq hk
  have hgv := am_HP_get hH hw hv
  have hK := hE.2.2.2.2.2.2.2.1.1
  have hlt : i.toNatClampNeg < N := Nat.not_le.mp fun q => hi (Or.inr q)
  have h0 : ¬ i < 0 := fun q => hi (Or.inl q)
  obtain ⟨r', hr', cellV, g1, g2, g3, -⟩ := hH.2.1 w _ hgv
  have hcls := (hK.1 3 _ rfl).2
  obtain ⟨kA, comp, k1, k2, k3, -⟩ := (hK.2 4 _ rfl).2
  have hcomp : comp = G.1 3 := Option.some.inj (k3.symm.trans hcls.1)
  subst hcomp
  obtain ⟨kC, hkC, -⟩ := id hcls.2
  refine W.aast hE.1 hE.2.1 (hH.2.1 q _ hg) (fun q h => by cases h) (fun h => by cases h) k1 k2 rfl hkC ⟨h0, by show _ < (arrV _ _ _).slots.size; rw [arrV_size]; exact hlt⟩ g1 (fun q h => by rw [g3] at h; cases h) (by rw [g2]; exact hkC) (by rw [g2]; exact va_assign hcls) rfl rfl hd fun H1 e1 z oq => ?_
  have hS1 := hS.put (k := i.toNatClampNeg) z oq (show (fun q => bs ≤ q) (bs + q) by show bs ≤ bs + q; omega)
  have hH1 : am_HP G b bs n (va_up f (q + 1) (.inl (4, N, .inr (.inr (.inr (.inr (va_up g i.toNatClampNeg (some (w + 1))))))))) H1 := by
    refine am_HP_set hH hq _ ?_ z oq
    show H1[bs + q]? = some (vp_cell _ _)
    rw [e1]
    show some ((vp_cell _ (N, .inr (.inr (.inr (.inr (fun i => (g i).map (am_ad b bs))))))).setSlot _ _) = some (vp_cell _ (N, .inr (.inr (.inr (.inr (fun j => (va_up g i.toNatClampNeg (some (w + 1)) j).map (am_ad b bs)))))))
    rw [vp_cell_q, vp_cell_q, arrV_store]
    congr 2
    funext q
    by_cases hq : q = i.toNatClampNeg
    · subst hq
      simp [updV, va_up, va_rf, am_ad]
    · simp [updV, va_up, hq]
  exact h p l e R s m args below meth c G b bs Z H1 _ la hE hZ hH1 hS1 hl h1 h2
theorem V_alen {k t N : Nat} {x : (Nat → Int32) ⊕ (Nat → Int64) ⊕ (Nat → UInt32) ⊕ (Nat → UInt64) ⊕ (Nat → Option Nat)} (hd : decode (Mc M) pc = .ok (.arraylength, 1)) (hk : f k = .inl (t, N, x)) (ht : t < 5) (h : Vj M d kc ks (pc + 1) ls (.int (Int32.ofNat N) :: st) n f Q) : Vj M d kc ks pc ls (.ref k :: st) n f Q := by
  intro p l e R s m args below meth c G b bs Z H locs la hE hZ hH hS hl h1 h2
  obtain ⟨q, rfl, hq⟩ := am_HP_arr hH hk
  have hg := am_HP_get hH hq hk
  have ht' : ∃ ty, (am_ty G.2.2)[t]? = some (G.2.2 t, ty) := by
    match t, ht with
    | 0, _ => exact ⟨_, rfl⟩
    | 1, _ => exact ⟨_, rfl⟩
    | 2, _ => exact ⟨_, rfl⟩
    | 3, _ => exact ⟨_, rfl⟩
    | 4, _ => exact ⟨_, rfl⟩
  obtain ⟨ty, ht'⟩ := ht'
  exact va_alen hE.1 hE.2.1 hE.2.2.2.2.2.2.2.1.1 hH.2.1 q t hg ht' rfl hd (h p l e R s m args below meth c G b bs Z H locs la hE hZ hH hS hl h1 h2)
theorem V_sload {k L : Nat} {xs : Nat → Int32} {fs : List Value} {i : Int32} (hd : decode (Mc M) pc = .ok (.iaload, 1)) (hk : f k = .inr (98, fs)) (hx : Msx M = some (L, xs)) (hi : vp_in i L) (h : Vj M d kc ks (pc + 1) ls (.int (xs i.toNatClampNeg) :: st) n f Q) : Vj M d kc ks pc ls (.int i :: .ref k :: st) n f Q := by
  intro p l e R s m args below meth c G b bs Z H locs la hE hZ hH hS hl h1 h2
  have hk0 := am_HP_scr hH hk
  subst hk0
  obtain ⟨hX, hbl, hbs⟩ := hE.2.2.2.2.2.2.2.2.2.2.2 L xs hx
  exact va_sld hE.1 hE.2.1 hX hbl (fun z => by have : bs ≤ b := z; omega) hS hi hd (h p l e R s m args below meth c G b bs Z H locs la hE hZ hH hS hl h1 h2)
theorem V_slen {k L : Nat} {xs : Nat → Int32} {fs : List Value} (hd : decode (Mc M) pc = .ok (.arraylength, 1)) (hk : f k = .inr (98, fs)) (hx : Msx M = some (L, xs)) (h : Vj M d kc ks (pc + 1) ls (.int (Int32.ofNat L) :: st) n f Q) : Vj M d kc ks pc ls (.ref k :: st) n f Q := by
  intro p l e R s m args below meth c G b bs Z H locs la hE hZ hH hS hl h1 h2
  have hk0 := am_HP_scr hH hk
  subst hk0
  obtain ⟨hX, hbl, hbs⟩ := hE.2.2.2.2.2.2.2.2.2.2.2 L xs hx
  exact va_slen hE.1 hE.2.1 hX hbl (fun z => by have : bs ≤ b := z; omega) hS hd (h p l e R s m args below meth c G b bs Z H locs la hE hZ hH hS hl h1 h2)
theorem am_def_ok {b bs ci : Nat} {C : String} {T : u_T} {N : Nat} (h : vwCl[ci]? = some (C, T, N)) : (∀ j, j < N → defaultValue (am_tf ci j) = vp_V ((am_def ci).map (am_cv b bs)) j) ∧ (am_def ci).length = N := by
  match ci, h with
  | 0, h =>
    cases h
    refine ⟨fun j hj => ?_, rfl⟩
    match j, hj with
    | 0, _ => rfl
    | 1, _ => rfl
    | j + 2, h => omega
  | 1, h =>
    cases h
    refine ⟨fun j hj => ?_, rfl⟩
    match j, hj with
    | 0, _ => rfl
    | 1, _ => rfl
    | 2, _ => rfl
    | 3, _ => rfl
    | 4, _ => rfl
    | 5, _ => rfl
    | 6, _ => rfl
    | 7, _ => rfl
    | 8, _ => rfl
    | 9, _ => rfl
    | j + 10, h => omega
  | 2, h =>
    cases h
    refine ⟨fun j hj => ?_, rfl⟩
    match j, hj with
    | 0, _ => rfl
    | 1, _ => rfl
    | 2, _ => rfl
    | 3, _ => rfl
    | j + 4, h => omega
  | 3, h =>
    cases h
    refine ⟨fun j hj => ?_, rfl⟩
    match j, hj with
    | 0, _ => rfl
    | 1, _ => rfl
    | 2, _ => rfl
    | 3, _ => rfl
    | 4, _ => rfl
    | 5, _ => rfl
    | j + 6, h => omega
  | 4, h =>
    cases h
    refine ⟨fun j hj => ?_, rfl⟩
    match j, hj with
    | 0, _ => rfl
    | 1, _ => rfl
    | 2, _ => rfl
    | 3, _ => rfl
    | 4, _ => rfl
    | 5, _ => rfl
    | 6, _ => rfl
    | 7, _ => rfl
    | 8, _ => rfl
    | 9, _ => rfl
    | 10, _ => rfl
    | 11, _ => rfl
    | 12, _ => rfl
    | j + 13, h => omega
  | 5, h =>
    cases h
    refine ⟨fun j hj => ?_, rfl⟩
    match j, hj with
    | 0, _ => rfl
    | 1, _ => rfl
    | 2, _ => rfl
    | 3, _ => rfl
    | 4, _ => rfl
    | 5, _ => rfl
    | 6, _ => rfl
    | 7, _ => rfl
    | j + 8, h => omega
  | 6, h =>
    cases h
    refine ⟨fun j hj => ?_, rfl⟩
    match j, hj with
    | 0, _ => rfl
    | 1, _ => rfl
    | 2, _ => rfl
    | 3, _ => rfl
    | 4, _ => rfl
    | 5, _ => rfl
    | 6, _ => rfl
    | 7, _ => rfl
    | 8, _ => rfl
    | j + 9, h => omega
  | 7, h =>
    cases h
    refine ⟨fun j hj => ?_, rfl⟩
    match j, hj with
    | 0, _ => rfl
    | 1, _ => rfl
    | 2, _ => rfl
    | 3, _ => rfl
    | 4, _ => rfl
    | 5, _ => rfl
    | 6, _ => rfl
    | 7, _ => rfl
    | 8, _ => rfl
    | 9, _ => rfl
    | 10, _ => rfl
    | 11, _ => rfl
    | 12, _ => rfl
    | 13, _ => rfl
    | 14, _ => rfl
    | 15, _ => rfl
    | 16, _ => rfl
    | 17, _ => rfl
    | 18, _ => rfl
    | 19, _ => rfl
    | 20, _ => rfl
    | 21, _ => rfl
    | 22, _ => rfl
    | 23, _ => rfl
    | 24, _ => rfl
    | 25, _ => rfl
    | 26, _ => rfl
    | 27, _ => rfl
    | 28, _ => rfl
    | 29, _ => rfl
    | 30, _ => rfl
    | 31, _ => rfl
    | 32, _ => rfl
    | 33, _ => rfl
    | 34, _ => rfl
    | 35, _ => rfl
    | 36, _ => rfl
    | 37, _ => rfl
    | 38, _ => rfl
    | 39, _ => rfl
    | 40, _ => rfl
    | 41, _ => rfl
    | 42, _ => rfl
    | 43, _ => rfl
    | 44, _ => rfl
    | 45, _ => rfl
    | j + 46, h => omega
  | n + 8, h => simp [vwCl] at h
theorem V_new {idx ci : Nat} (hd : decode (Mc M) pc = .ok (.new idx, 3)) (ho : Mo M = am_own (Mp M)) (hp : lkp (pc_ (Mp M)) idx = some ci) (hc1 : kc + 1 ≤ Mcc M) (hc2 : ks + am_nf ci ≤ Mss M) (h : Vj M d (kc + 1) (ks + am_nf ci) (pc + 3) ls (.ref (n + 1) :: st) (n + 1) (va_up f (n + 1) (.inr (ci, am_def ci))) Q) : Vj M d kc ks pc ls st n f Q := by
  intro p l e R s m args below meth c G b bs Z H locs la hE hZ hH hS hl h1 h2
  have hw := am_pc_ok (Mp M) _ (lkp_mem hp)
  rw [← ho] at hw
  obtain ⟨C, T, N, hc, w1, w2, w3, hN⟩ := hw
  dsimp only at hc w1 w2 w3 hN
  obtain ⟨hin, hty, hnm, hci⟩ := am_cls hc
  have hts := hE.2.2.2.2.2.1
  have hKn := hE.2.2.2.2.2.2.2.1.1.1 ci _ hc
  have hN : am_nf ci = N := hN
  obtain ⟨hR1, hR2, hR3, hR4⟩ := hE.2.2.2.2.2.2.2.2.2.1
  rw [hN] at h hc2
  refine W.newcK hE.1 hE.2.1 hE.2.2.2.2.1 (hts _ w1) (hts _ w2) (hts _ w3) rfl hd (by omega) (by omega) hKn.2.1 hH.1 fun H1 kC hkC e1 z1 o1 => ?_
  have hS1 : va_S (fun q => bs ≤ q) s.heap H1 locs := ⟨Nat.le_trans hS.1 (by rw [hH.1, z1]; omega), fun x q1 q2 => (o1 x (by have := hS.1; rw [hH.1] at this; omega)).trans (hS.2.1 x q1 q2), hS.2.2⟩
  have hH1 : am_HP G b bs (n + 1) (va_up f (n + 1) (.inr (ci, am_def ci))) H1 := by
    refine am_HP_push hH _ ?_ (by rw [z1, hH.1]) (fun q hq => o1 q (by rw [hH.1] at hq; exact hq))
    exact ⟨_, hc, (u_born (am_tf ci) hts hin hKn hkC e1 hty).to (am_def_ok hc).1⟩
  exact h p l e R s m args below meth c G b bs Z H1 locs la hE hZ hH1 hS1 hl hc1 hc2
theorem V_newarrNi {N : Nat} {x : Int32} (hd : decode (Mc M) pc = .ok (.newarray .int, 2)) (hx : x = nI N) (hN : N ≤ 10000) (hc1 : kc + 1 ≤ Mcc M) (hc2 : ks + N ≤ Mss M) (h : Vj M d (kc + 1) (ks + N) (pc + 2) ls (.ref (n + 1) :: st) (n + 1) (va_up f (n + 1) (.inl (0, N, .inl (fun _ => 0)))) Q) : Vj M d kc ks pc ls (.int x :: st) n f Q := by
  intro p l e R s m args below meth c G b bs Z H locs la hE hZ hH hS hl h1 h2
  subst hx
  have hts := hE.2.2.2.2.2.1
  obtain ⟨hR1, hR2, hR3, hR4⟩ := hE.2.2.2.2.2.2.2.2.2.1
  have hcl : (nI N).toNatClampNeg = N := nI_clamp (by omega)
  refine va_newaK hE.1 hE.2.1 (atype := .int) (hts _ am_ai) rfl hd rfl (nI_pos (by omega)) hcl (by show N * 4 ≤ _; omega) (by omega) (by omega) hH.1 fun H1 cA e1 z1 o1 hAr hNm => ?_
  have hS1 : va_S (fun q => bs ≤ q) s.heap H1 locs := ⟨Nat.le_trans hS.1 (by rw [hH.1, z1]; omega), fun x q1 q2 => (o1 x (by have := hS.1; rw [hH.1] at this; omega)).trans (hS.2.1 x q1 q2), hS.2.2⟩
  have hcA : cA = G.2.2 0 := Option.some.inj (hNm.symm.trans (hE.2.2.2.2.2.2.2.1.1.2 0 _ rfl).2)
  have hH1 : am_HP G b bs (n + 1) (va_up f (n + 1) (.inl (0, N, .inl (fun _ => 0)))) H1 := by
    refine am_HP_push hH _ ?_ (by rw [z1, hH.1]) (fun q hq => o1 q (by rw [hH.1] at hq; exact hq))
    show H1[bs + n]? = some (vp_cell (G.2.2 0) _)
    rw [← hcA]
    exact e1
  exact h p l e R s m args below meth c G b bs Z H1 locs la hE hZ hH1 hS1 hl hc1 hc2
theorem V_newarrNz {N : Nat} {x : Int32} (hd : decode (Mc M) pc = .ok (.newarray .boolean, 2)) (hx : x = nI N) (hN : N ≤ 10000) (hc1 : kc + 1 ≤ Mcc M) (hc2 : ks + N ≤ Mss M) (h : Vj M d (kc + 1) (ks + N) (pc + 2) ls (.ref (n + 1) :: st) (n + 1) (va_up f (n + 1) (.inl (1, N, .inl (fun _ => 0)))) Q) : Vj M d kc ks pc ls (.int x :: st) n f Q := by
  intro p l e R s m args below meth c G b bs Z H locs la hE hZ hH hS hl h1 h2
  subst hx
  have hts := hE.2.2.2.2.2.1
  obtain ⟨hR1, hR2, hR3, hR4⟩ := hE.2.2.2.2.2.2.2.2.2.1
  have hcl : (nI N).toNatClampNeg = N := nI_clamp (by omega)
  refine va_newaK hE.1 hE.2.1 (atype := .boolean) (hts _ am_az) rfl hd rfl (nI_pos (by omega)) hcl (by show N * 1 ≤ _; omega) (by omega) (by omega) hH.1 fun H1 cA e1 z1 o1 hAr hNm => ?_
  have hS1 : va_S (fun q => bs ≤ q) s.heap H1 locs := ⟨Nat.le_trans hS.1 (by rw [hH.1, z1]; omega), fun x q1 q2 => (o1 x (by have := hS.1; rw [hH.1] at this; omega)).trans (hS.2.1 x q1 q2), hS.2.2⟩
  have hcA : cA = G.2.2 1 := Option.some.inj (hNm.symm.trans (hE.2.2.2.2.2.2.2.1.1.2 1 _ rfl).2)
  have hH1 : am_HP G b bs (n + 1) (va_up f (n + 1) (.inl (1, N, .inl (fun _ => 0)))) H1 := by
    refine am_HP_push hH _ ?_ (by rw [z1, hH.1]) (fun q hq => o1 q (by rw [hH.1] at hq; exact hq))
    show H1[bs + n]? = some (vp_cell (G.2.2 1) _)
    rw [← hcA]
    exact e1
  exact h p l e R s m args below meth c G b bs Z H1 locs la hE hZ hH1 hS1 hl hc1 hc2
theorem V_newarrNl {N : Nat} {x : Int32} (hd : decode (Mc M) pc = .ok (.newarray .long, 2)) (hx : x = nI N) (hN : N ≤ 10000) (hc1 : kc + 1 ≤ Mcc M) (hc2 : ks + N ≤ Mss M) (h : Vj M d (kc + 1) (ks + N) (pc + 2) ls (.ref (n + 1) :: st) (n + 1) (va_up f (n + 1) (.inl (2, N, .inr (.inl (fun _ => 0))))) Q) : Vj M d kc ks pc ls (.int x :: st) n f Q := by
  intro p l e R s m args below meth c G b bs Z H locs la hE hZ hH hS hl h1 h2
  subst hx
  have hts := hE.2.2.2.2.2.1
  obtain ⟨hR1, hR2, hR3, hR4⟩ := hE.2.2.2.2.2.2.2.2.2.1
  have hcl : (nI N).toNatClampNeg = N := nI_clamp (by omega)
  refine va_newaK hE.1 hE.2.1 (atype := .long) (hts _ am_al) rfl hd rfl (nI_pos (by omega)) hcl (by show N * 8 ≤ _; omega) (by omega) (by omega) hH.1 fun H1 cA e1 z1 o1 hAr hNm => ?_
  have hS1 : va_S (fun q => bs ≤ q) s.heap H1 locs := ⟨Nat.le_trans hS.1 (by rw [hH.1, z1]; omega), fun x q1 q2 => (o1 x (by have := hS.1; rw [hH.1] at this; omega)).trans (hS.2.1 x q1 q2), hS.2.2⟩
  have hcA : cA = G.2.2 2 := Option.some.inj (hNm.symm.trans (hE.2.2.2.2.2.2.2.1.1.2 2 _ rfl).2)
  have hH1 : am_HP G b bs (n + 1) (va_up f (n + 1) (.inl (2, N, .inr (.inl (fun _ => 0))))) H1 := by
    refine am_HP_push hH _ ?_ (by rw [z1, hH.1]) (fun q hq => o1 q (by rw [hH.1] at hq; exact hq))
    show H1[bs + n]? = some (vp_cell (G.2.2 2) _)
    rw [← hcA]
    exact e1
  exact h p l e R s m args below meth c G b bs Z H1 locs la hE hZ hH1 hS1 hl hc1 hc2
theorem V_anew3 {idx ci N : Nat} {x : Int32} (hd : decode (Mc M) pc = .ok (.anewarray idx, 3)) (ho : Mo M = am_own (Mp M)) (hp : lkp (pc_ (Mp M)) idx = some ci) (hci : ci = 1) (hx : x = nI N) (hN : N ≤ 10000) (hc1 : kc + 1 ≤ Mcc M) (hc2 : ks + N ≤ Mss M) (h : Vj M d (kc + 1) (ks + N) (pc + 3) ls (.ref (n + 1) :: st) (n + 1) (va_up f (n + 1) (.inl (3, N, .inr (.inr (.inr (.inr (fun _ => none))))))) Q) : Vj M d kc ks pc ls (.int x :: st) n f Q := by
  intro p l e R s m args below meth c G b bs Z H locs la hE hZ hH hS hl h1 h2
  subst hx; subst hci
  have hw := am_pc_ok (Mp M) _ (lkp_mem hp)
  rw [← ho] at hw
  obtain ⟨C, T, N', hc, w1, w2, w3, -⟩ := hw
  dsimp only at hc w1 w2 w3
  have hC : C = RX1 := by have := Option.some.inj hc; exact (congrArg (fun q => q.1) this).symm
  subst hC
  have hts := hE.2.2.2.2.2.1
  obtain ⟨hR1, hR2, hR3, hR4⟩ := hE.2.2.2.2.2.2.2.2.2.1
  have hcl : (nI N).toNatClampNeg = N := nI_clamp (by omega)
  refine W.anew (C := RX1) hE.1 hE.2.1 hE.2.2.2.2.1 (hts _ w1) (va_AO.use hE.2.2.2.2.2.2.2.1.2.2.1) rfl hd rfl (nI_pos (by omega)) (by rw [hcl]; omega) (by omega) (by rw [hcl]; omega) fun cA kA comp f1 f2 f3 f4 => ?_
  rw [hcl]
  generalize hH1e : H.push ({ cls := cA, slots := Array.replicate N .null, vm := .none } : Cell) = H1
  have z1 : H1.size = H.size + 1 := by rw [← hH1e, Array.size_push]
  have e1 : H1[H.size]? = some (arrV cA N (fun _ => .null)) := by rw [← hH1e, Array.getElem?_push_size, ← arrV_new]
  have o1 : ∀ q : Nat, q < H.size → H1[q]? = H[q]? := fun q hq => by rw [← hH1e, Array.getElem?_push, if_neg (Nat.ne_of_lt hq)]
  have hS1 : va_S (fun q => bs ≤ q) s.heap H1 locs := ⟨Nat.le_trans hS.1 (by rw [z1]; omega), fun x q1 q2 => (o1 x (by have := hS.1; omega)).trans (hS.2.1 x q1 q2), hS.2.2⟩
  have hcA : cA = G.2.2 3 := by
    obtain ⟨_, _, _, _, _, k4⟩ := (hE.2.2.2.2.2.2.2.1.1.2 3 _ rfl).2
    exact Option.some.inj (f1.symm.trans k4)
  have hH1 : am_HP G b bs (n + 1) (va_up f (n + 1) (.inl (3, N, .inr (.inr (.inr (.inr (fun _ => none))))))) H1 := by
    refine am_HP_push hH _ ?_ z1 o1
    show H1[bs + n]? = some (vp_cell (G.2.2 3) _)
    rw [← hcA, ← hH.1]
    exact e1
  rw [hH.1]
  exact h p l e R s m args below meth c G b bs Z H1 locs la hE hZ hH1 hS1 hl hc1 hc2
theorem V_anew4 {idx ci N : Nat} {x : Int32} (hd : decode (Mc M) pc = .ok (.anewarray idx, 3)) (ho : Mo M = am_own (Mp M)) (hp : lkp (pc_ (Mp M)) idx = some ci) (hci : ci = 3) (hx : x = nI N) (hN : N ≤ 10000) (hc1 : kc + 1 ≤ Mcc M) (hc2 : ks + N ≤ Mss M) (h : Vj M d (kc + 1) (ks + N) (pc + 3) ls (.ref (n + 1) :: st) (n + 1) (va_up f (n + 1) (.inl (4, N, .inr (.inr (.inr (.inr (fun _ => none))))))) Q) : Vj M d kc ks pc ls (.int x :: st) n f Q := by
  intro p l e R s m args below meth c G b bs Z H locs la hE hZ hH hS hl h1 h2
  subst hx; subst hci
  have hw := am_pc_ok (Mp M) _ (lkp_mem hp)
  rw [← ho] at hw
  obtain ⟨C, T, N', hc, w1, w2, w3, -⟩ := hw
  dsimp only at hc w1 w2 w3
  have hC : C = RX4 := by have := Option.some.inj hc; exact (congrArg (fun q => q.1) this).symm
  subst hC
  have hts := hE.2.2.2.2.2.1
  obtain ⟨hR1, hR2, hR3, hR4⟩ := hE.2.2.2.2.2.2.2.2.2.1
  have hcl : (nI N).toNatClampNeg = N := nI_clamp (by omega)
  refine W.anew (C := RX4) hE.1 hE.2.1 hE.2.2.2.2.1 (hts _ w1) (va_AO.use hE.2.2.2.2.2.2.2.1.2.2.2) rfl hd rfl (nI_pos (by omega)) (by rw [hcl]; omega) (by omega) (by rw [hcl]; omega) fun cA kA comp f1 f2 f3 f4 => ?_
  rw [hcl]
  generalize hH1e : H.push ({ cls := cA, slots := Array.replicate N .null, vm := .none } : Cell) = H1
  have z1 : H1.size = H.size + 1 := by rw [← hH1e, Array.size_push]
  have e1 : H1[H.size]? = some (arrV cA N (fun _ => .null)) := by rw [← hH1e, Array.getElem?_push_size, ← arrV_new]
  have o1 : ∀ q : Nat, q < H.size → H1[q]? = H[q]? := fun q hq => by rw [← hH1e, Array.getElem?_push, if_neg (Nat.ne_of_lt hq)]
  have hS1 : va_S (fun q => bs ≤ q) s.heap H1 locs := ⟨Nat.le_trans hS.1 (by rw [z1]; omega), fun x q1 q2 => (o1 x (by have := hS.1; omega)).trans (hS.2.1 x q1 q2), hS.2.2⟩
  have hcA : cA = G.2.2 4 := by
    obtain ⟨_, _, _, _, _, k4⟩ := (hE.2.2.2.2.2.2.2.1.1.2 4 _ rfl).2
    exact Option.some.inj (f1.symm.trans k4)
  have hH1 : am_HP G b bs (n + 1) (va_up f (n + 1) (.inl (4, N, .inr (.inr (.inr (.inr (fun _ => none))))))) H1 := by
    refine am_HP_push hH _ ?_ z1 o1
    show H1[bs + n]? = some (vp_cell (G.2.2 4) _)
    rw [← hcA, ← hH.1]
    exact e1
  rw [hH.1]
  exact h p l e R s m args below meth c G b bs Z H1 locs la hE hZ hH1 hS1 hl hc1 hc2
def catS : List Value → Nat
  | [] => 0
  | .long _ :: t => catS t + 2
  | .double _ :: t => catS t + 2
  | .int _ :: t => catS t + 1
  | .float _ :: t => catS t + 1
  | .ref _ :: t => catS t + 1
  | .null :: t => catS t + 1
  | .retAddr _ :: t => catS t + 1
theorem catS_eq (b bs : Nat) : ∀ st : List Value, ((st.map (am_cv b bs)).map fun v => v.category).sum = catS st
  | [] => rfl
  | v :: t => by
    have := catS_eq b bs t
    simp only [List.map_cons, List.sum_cons, this, am_cv_cat]
    cases v <;> simp [catS, Value.category] <;> omega
theorem am_good (M' : Mt) (h : Cond.code (My M') (Mc M') (ML M') (Mr M') ∈ am_gw) : GoodIn am_gw (Cond.code (My M') (Mc M') (ML M') (Mr M') :: am_gw) := by
  intro w hw
  have hm : w ∈ am_gw := by
    rcases List.mem_cons.mp hw with rfl | hw
    · exact h
    · exact hw
  exact ⟨hm, good_of_word (List.mem_filter.mp hm).2⟩
theorem am_blind {G : Gd} {b bs n' : Nat} {f' : Nat → Ac} {as : List Value} : FrameBlind (fun v U => v = (as.map (am_cv b bs)).toArray ∧ am_TB G U ∧ am_HP G b bs n' f' U.heap) := by
  intro a U g mk hq
  exact ⟨hq.1, am_TB_same (u := U) (U := U.calling g mk a) rfl hq.2.1, hq.2.2⟩
/-- behind a call -/
theorem am_back {p : Program} {l : Launch} {e : Env} {R : Room} {s : State} {m : MethodId} {args : Array Value} {below : List Frame} {meth : Method} {c : Code} {H : Heap} {locs : List Loc} {Z : State → Prop} {G : Gd} {b bs mc ms : Nat} {la : Array Slot} {st0 : List Value} {Q' : Po}
    (hr : va_Run p l e R s m args below meth c H locs kc ks mc ms (F0 m pc la st0) (st.map (am_cv b bs)) (fun st oc t => (∃ (r : Option Value) (n' : Nat) (f' : Nat → Ac), oc = .returned (r.map (am_cv b bs)) ∧ Q' r n' f' ∧ am_HP G b bs n' f' t.heap) ∧ va_F (fun q => bs ≤ q) st t) (fun q => bs ≤ q)) (hS : va_S (fun q => bs ≤ q) s.heap H locs)
    (kk : ∀ (r : Option Value) (n' : Nat) (f' : Nat → Ac) (H1 : Heap) (locs1 : List Loc), Q' r n' f' → am_HP G b bs n' f' H1 → va_S (fun q => bs ≤ q) s.heap H1 locs1 → W p l e R s m args below meth c H1 locs1 (kc + mc) (ks + ms) Z (F0 m (pc + 3) la ((r.toList ++ st).map (am_cv b bs)))) : W p l e R s m args below meth c H locs kc ks Z (F0 m pc la st0) := by
  intro T hT X
  obtain ⟨v, st₀, t, T', L, h0, X', hL, e1, e2, ⟨⟨r, n', f', hv, hq, hP⟩, hz, hk⟩, stp⟩ := hr T hT X
  rw [h0] at hz hk
  cases hv
  obtain ⟨t2, a1, b1⟩ := kk r n' f' T'.heap (locs ++ L) hq (by rw [e1]; exact hP)
    ⟨Nat.le_trans hS.1 (by rw [e1]; exact hz), fun q h1 h2 => by rw [e1, hk q (Nat.lt_of_lt_of_le h1 hS.1) h2]; exact hS.2.1 q h1 h2, fun q hq => by
      rcases List.mem_append.mp hq with h | h
      · exact hS.2.2 q h
      · exact hL q h⟩ T' rfl X'
  refine ⟨t2, stp t2 ?_, b1⟩
  rw [List.map_append, ← am_cv_none] at a1
  exact a1
/-- a call, with what is then to be shown -/
def Cl (M' : Mt) (d : Nat) (as : List Value) (n : Nat) (f : Nat → Ac) (P : Option Value → Nat → (Nat → Ac) → Prop) : Prop := ∃ (e : Nat) (Q' : Po), d = e + 1 ∧ Ct M' e as n f Q' ∧ ∀ r n' f', Q' r n' f' → P r n' f'
set_option maxHeartbeats 4000000 in
theorem V_virt {idx na ci k : Nat} {M' : Mt} {as fs : List Value} (hd : decode (Mc M) pc = .ok (.invokevirtual idx, 3)) (ho : Mo M = am_own (Mp M)) (hp : lkp (pm (Mp M)) idx = some (M', 0, na, ci)) (hn : as.length = na) (hk : f k = .inr (ci, fs)) (hc : catS st ≤ 8) (hc1 : kc + Mcc M' ≤ Mcc M) (hc2 : ks + Mss M' ≤ Mss M)
    (h : Cl M' d (.ref k :: as) n f (fun r n' f' => Vj M d (kc + Mcc M') (ks + Mss M') (pc + 3) ls (r.toList ++ st) n' f' Q)) : Vj M d kc ks pc ls (as.reverse ++ .ref k :: st) n f Q := by
  intro p l e R s m args below meth c G b bs Z H locs la hE hZ hH hS hl h1 h2
  obtain ⟨e', Q', rfl, hC, hq⟩ := h
  have hw := am_pm_ok (Mp M) _ (lkp_mem hp)
  rw [← ho] at hw
  obtain ⟨⟨⟨y1, y2, y3⟩, hml, hini, hcode⟩, hcl, hlink, hinst, hsel⟩ := hw
  have hts := hE.2.2.2.2.2.1
  obtain ⟨hR1, hR2, hR3, hR4⟩ := hE.2.2.2.2.2.2.2.2.2.1
  have hml : ML M' ≤ 20 := hml
  have hG := am_good M' hcode
  have hci : ci < 8 := by
    rcases Nat.lt_or_ge ci 8 with q | q
    · exact q
    · rw [List.getElem?_eq_none (by show vwCl.length ≤ ci; exact q)] at hcl; cases hcl
  obtain ⟨qk, rfl, hqk⟩ := am_HP_obj hH hk (by omega)
  have hg := am_HP_get hH hqk hk
  obtain ⟨cq, hcq, hcq1⟩ : ∃ cq, vwCl[ci]? = some cq ∧ cq.1 = (My M').cls := by
    cases hv : vwCl[ci]? with
    | none => rw [hv] at hcl; cases hcl
    | some cq => rw [hv] at hcl; exact ⟨cq, rfl, Option.some.inj hcl⟩
  have hrecv := va_recv hE.2.2.2.2.2.2.2.1.1 hH.2.1 hcq hg
  rw [hcq1] at hrecv
  have hB := callB_of (R := R) (own := Mo M) (index := idx) (rm := am_rm M' e') (mc := Mcc M') (ms := Mss M') na hts hG rfl rfl rfl (hts _ hini) (hts _ hlink) ⟨y1, y2, y3⟩ ⟨by show e' + 1 ≤ _; omega, by show 8 + (ML M' + 11) + 40 * e' ≤ _; omega⟩
  have hrun := va_runV (l := l) (e := e) (below := below) (meth := meth) (locs := locs) (cells := kc) (slots := ks) (H := H) (As := as.map (am_cv b bs)) (b := bs + qk) (g := F0 m pc la ((as.reverse ++ .ref (qk + 1) :: st).map (am_cv b bs))) (rest := st.map (am_cv b bs)) ⟨hE.1, hE.2.1, hE.2.2.2.1, hE.2.2.2.2.1, hts⟩ (hC l G b bs) ⟨hB, hts _ hinst, hts _ hsel⟩
    ⟨am_blind, hrecv, fun U hU hW => ⟨rfl, am_TB_moved hW hE.2.2.2.2.2.2.2.1, by rw [hU]; exact hH⟩⟩ rfl (by rw [List.length_map]; exact hn) hl.1 (by simp [am_cv, am_ad]) (lv_room (by rw [catS_eq]; exact hc)) hd ⟨by omega, by omega⟩
  exact am_back hrun hS (fun r n' f' H1 locs1 q1 q2 q3 => hq r n' f' q1 p l e R s m args below meth c G b bs Z H1 locs1 la hE hZ q2 q3 hl hc1 hc2)
set_option maxHeartbeats 4000000 in
theorem V_stat {idx na ci kd : Nat} {M' : Mt} {as : List Value} (hd : decode (Mc M) pc = .ok (.invokestatic idx, 3)) (ho : Mo M = am_own (Mp M)) (hp : lkp (pm (Mp M)) idx = some (M', kd, na, ci)) (hkd : kd = 1 ∨ kd = 3) (hn : as.length = na) (hc : catS st ≤ 8) (hc1 : kc + Mcc M' ≤ Mcc M) (hc2 : ks + Mss M' ≤ Mss M)
    (h : Cl M' d as n f (fun r n' f' => Vj M d (kc + Mcc M') (ks + Mss M') (pc + 3) ls (r.toList ++ st) n' f' Q)) : Vj M d kc ks pc ls (as.reverse ++ st) n f Q := by
  intro p l e R s m args below meth c G b bs Z H locs la hE hZ hH hS hl h1 h2
  obtain ⟨e', Q', rfl, hC, hq⟩ := h
  have hw := am_pm_ok (Mp M) _ (lkp_mem hp)
  rw [← ho] at hw
  have hts := hE.2.2.2.2.2.1
  obtain ⟨hR1, hR2, hR3, hR4⟩ := hE.2.2.2.2.2.2.2.2.2.1
  rcases hkd with rfl | rfl
  · obtain ⟨⟨⟨y1, y2, y3⟩, hml, hini, hcode⟩, hlink, hstat⟩ := hw
    have hml : ML M' ≤ 20 := hml
    have hG := am_good M' hcode
    have hB := callB_of (R := R) (own := Mo M) (index := idx) (rm := am_rm M' e') (mc := Mcc M') (ms := Mss M') na hts hG rfl rfl rfl (hts _ hini) (hts _ hlink) ⟨y1, y2, y3⟩ ⟨by show e' + 1 ≤ _; omega, by show 8 + (ML M' + 11) + 40 * e' ≤ _; omega⟩
    have hrun := va_runS (l := l) (e := e) (below := below) (meth := meth) (locs := locs) (cells := kc) (slots := ks) (H := H) (As := as.map (am_cv b bs)) (g := F0 m pc la ((as.reverse ++ st).map (am_cv b bs))) (rest := st.map (am_cv b bs)) ⟨hE.1, hE.2.1, hE.2.2.2.1, hE.2.2.2.2.1, hts⟩ (hC l G b bs) ⟨hB, hts _ hstat⟩
      ⟨am_blind, fun U hU hW => ⟨rfl, am_TB_moved hW hE.2.2.2.2.2.2.2.1, by rw [hU]; exact hH⟩⟩ rfl (by rw [List.length_map]; exact hn) hl.1 (by simp) (lv_room (by rw [catS_eq]; exact hc)) hd ⟨by omega, by omega⟩
    exact am_back hrun hS (fun r n' f' H1 locs1 q1 q2 q3 => hq r n' f' q1 p l e R s m args below meth c G b bs Z H1 locs1 la hE hZ q2 q3 hl hc1 hc2)
  · obtain ⟨⟨⟨y1, y2, y3⟩, hml, hini, hcode⟩, hlink, hstat⟩ := hw
    have hml : ML M' ≤ 20 := hml
    have hG := am_good M' hcode
    have hB := va_cnB (R := R) (own := Mo M) (index := idx) (rm := am_rm M' e') (mc := Mcc M') (ms := Mss M') na hts hG rfl rfl rfl (hE.2.2.2.2.2.2.2.1.2.1 _ hlink) (hts _ hini) ⟨y1, y2, y3⟩ ⟨by show e' + 1 ≤ _; omega, by show 8 + (ML M' + 11) + 40 * e' ≤ _; omega⟩
    have hrun := va_runSN (l := l) (e := e) (below := below) (meth := meth) (locs := locs) (cells := kc) (slots := ks) (H := H) (As := as.map (am_cv b bs)) (g := F0 m pc la ((as.reverse ++ st).map (am_cv b bs))) (rest := st.map (am_cv b bs)) ⟨hE.1, hE.2.1, hE.2.2.2.1, hE.2.2.2.2.1, hts⟩ (hC l G b bs) ⟨hB, hts _ hstat, trivial⟩
      ⟨am_blind, fun U hU hW => ⟨rfl, am_TB_moved hW hE.2.2.2.2.2.2.2.1, by rw [hU]; exact hH⟩⟩ rfl (by rw [List.length_map]; exact hn) hl.1 (by simp) (lv_room (by rw [catS_eq]; exact hc)) hd ⟨by omega, by omega⟩
    exact am_back hrun hS (fun r n' f' H1 locs1 q1 q2 q3 => hq r n' f' q1 p l e R s m args below meth c G b bs Z H1 locs1 la hE hZ q2 q3 hl hc1 hc2)
set_option maxHeartbeats 4000000 in
theorem V_spec {idx na ci k : Nat} {M' : Mt} {as : List Value} (hd : decode (Mc M) pc = .ok (.invokespecial idx, 3)) (ho : Mo M = am_own (Mp M)) (hp : lkp (pm (Mp M)) idx = some (M', 2, na, ci)) (hn : as.length = na) (hc : catS st ≤ 8) (hc1 : kc + Mcc M' ≤ Mcc M) (hc2 : ks + Mss M' ≤ Mss M)
    (h : Cl M' d (.ref k :: as) n f (fun r n' f' => Vj M d (kc + Mcc M') (ks + Mss M') (pc + 3) ls (r.toList ++ st) n' f' Q)) : Vj M d kc ks pc ls (as.reverse ++ .ref k :: st) n f Q := by
  intro p l e R s m args below meth c G b bs Z H locs la hE hZ hH hS hl h1 h2
  obtain ⟨e', Q', rfl, hC, hq⟩ := h
  have hw := am_pm_ok (Mp M) _ (lkp_mem hp)
  rw [← ho] at hw
  obtain ⟨⟨⟨y1, y2, y3⟩, hml, hini, hcode⟩, hnm, hrt, hlink, hinst⟩ := hw
  have hts := hE.2.2.2.2.2.1
  obtain ⟨hR1, hR2, hR3, hR4⟩ := hE.2.2.2.2.2.2.2.2.2.1
  have hml : ML M' ≤ 20 := hml
  have hG := am_good M' hcode
  have hrt : Mr M' = none := hrt
  have hM := hC l G b bs
  rw [hrt] at hM hG
  have hB := callB_of (R := R) (own := Mo M) (index := idx) (rm := am_rm M' e') (mc := Mcc M') (ms := Mss M') na hts hG rfl rfl rfl (hts _ hini) (hts _ hlink) ⟨y1, y2, y3⟩ ⟨by show e' + 1 ≤ _; omega, by show 8 + (ML M' + 11) + 40 * e' ≤ _; omega⟩
  have hrun := va_runI (l := l) (e := e) (below := below) (meth := meth) (locs := locs) (cells := kc) (slots := ks) (H := H) (As := as.map (am_cv b bs)) (b := am_ad b bs k) (g := F0 m pc la ((as.reverse ++ .ref k :: st).map (am_cv b bs))) (rest := st.map (am_cv b bs)) ⟨hE.1, hE.2.1, hE.2.2.2.1, hE.2.2.2.2.1, hts⟩ hM ⟨hB, hnm, hts _ hinst⟩
    ⟨am_blind, fun U hU hW => ⟨rfl, am_TB_moved hW hE.2.2.2.2.2.2.2.1, by rw [hU]; exact hH⟩⟩ rfl (by rw [List.length_map]; exact hn) hl.1 (by simp [am_cv]) (lv_room (by rw [catS_eq]; exact hc)) hd ⟨by omega, by omega⟩
  exact am_back hrun hS (fun r n' f' H1 locs1 q1 q2 q3 => hq r n' f' q1 p l e R s m args below meth c G b bs Z H1 locs1 la hE hZ q2 q3 hl hc1 hc2)
theorem V_objinit {idx na ci k : Nat} {M' : Mt} (hd : decode (Mc M) pc = .ok (.invokespecial idx, 3)) (ho : Mo M = am_own (Mp M)) (hp : lkp (pm (Mp M)) idx = some (M', 4, na, ci)) (hdd : 1 ≤ d) (hc : catS st ≤ 8) (h : Vj M d kc ks (pc + 3) ls st n f Q) : Vj M d kc ks pc ls (.ref k :: st) n f Q := by
  intro p l e R s m args below meth c G b bs Z H locs la hE hZ hH hS hl h1 h2
  have hw := am_pm_ok (Mp M) _ (lkp_mem hp)
  rw [← ho] at hw
  have hts := hE.2.2.2.2.2.1
  obtain ⟨hR1, hR2, hR3, hR4⟩ := hE.2.2.2.2.2.2.2.2.2.1
  refine W.objInit hE.1 hE.2.1 hE.2.2.2.2.1 (hts _ hw) (hts _ am_oi1) (hts _ am_oi2) rfl (by rw [hE.2.2.2.1]; exact hl.1) rfl hd (by omega) ?_ (h p l e R s m args below meth c G b bs Z H locs la hE hZ hH hS hl h1 h2)
  have := lv_room (m := m) (pc := pc) (ls := la) (rest := (.ref k :: st).map (am_cv b bs)) (st := st.map (am_cv b bs)) (by rw [catS_eq]; exact hc)
  omega
theorem V_max {idx na ci : Nat} {M' : Mt} {x y : Int32} (hd : decode (Mc M) pc = .ok (.invokestatic idx, 3)) (ho : Mo M = am_own (Mp M)) (hp : lkp (pm (Mp M)) idx = some (M', 5, na, ci)) (hdd : 1 ≤ d) (hc : catS st ≤ 8) (h : Vj M d kc ks (pc + 3) ls (.int (if x < y then y else x) :: st) n f Q) : Vj M d kc ks pc ls (.int y :: .int x :: st) n f Q := by
  intro p l e R s m args below meth c G b bs Z H locs la hE hZ hH hS hl h1 h2
  have hw := am_pm_ok (Mp M) _ (lkp_mem hp)
  rw [← ho] at hw
  have hts := hE.2.2.2.2.2.1
  obtain ⟨hR1, hR2, hR3, hR4⟩ := hE.2.2.2.2.2.2.2.2.2.1
  exact va_mmax hE.1 hE.2.1 (by rw [hE.2.2.2.1]; exact hl.1.symm) hE.2.2.2.2.1 (hts _ hw) (hts _ am_max1) (hts _ am_mth) (hts _ am_max2) (by omega) (by rw [catS_eq]; omega) (by omega) (by omega) hd (h p l e R s m args below meth c G b bs Z H locs la hE hZ hH hS hl h1 h2)
theorem V_min {idx na ci : Nat} {M' : Mt} {x y : Int32} (hd : decode (Mc M) pc = .ok (.invokestatic idx, 3)) (ho : Mo M = am_own (Mp M)) (hp : lkp (pm (Mp M)) idx = some (M', 6, na, ci)) (hdd : 1 ≤ d) (hc : catS st ≤ 8) (h : Vj M d kc ks (pc + 3) ls (.int (if y < x then y else x) :: st) n f Q) : Vj M d kc ks pc ls (.int y :: .int x :: st) n f Q := by
  intro p l e R s m args below meth c G b bs Z H locs la hE hZ hH hS hl h1 h2
  have hw := am_pm_ok (Mp M) _ (lkp_mem hp)
  rw [← ho] at hw
  have hts := hE.2.2.2.2.2.1
  obtain ⟨hR1, hR2, hR3, hR4⟩ := hE.2.2.2.2.2.2.2.2.2.1
  exact va_mmin hE.1 hE.2.1 (by rw [hE.2.2.2.1]; exact hl.1.symm) hE.2.2.2.2.1 (hts _ hw) (hts _ am_min1) (hts _ am_mth) (hts _ am_min2) (by omega) (by rw [catS_eq]; omega) (by omega) (by omega) hd (h p l e R s m args below meth c G b bs Z H locs la hE hZ hH hS hl h1 h2)
end RowsH
