/-! ===== least: class and model ===== -/
def cr (p : Nat → Bool) : Nat → Nat → Nat
  | 0, _ => 0
  | t + 1, i => (if p i then 1 else 0) + cr p t (i + 1)
theorem ct_cr {p : Nat → Bool} : ∀ t i, ctN p (i + t) = ctN p i + cr p t i
  | 0, i => by rw [cr]; rfl
  | t + 1, i => by
    have := ct_cr (p := p) t (i + 1)
    rw [show i + (t + 1) = i + 1 + t by omega, this, ctN, cr]; omega
theorem cr_le {p : Nat → Bool} : ∀ t i, cr p t i ≤ t
  | 0, _ => Nat.le_refl 0
  | t + 1, i => by
    have := cr_le (p := p) t (i + 1)
    rw [cr]; split <;> omega
/-- the (K - n0)-th line of those with p, told by class and model -/
theorem bat_ls {m : Mm} {S : Qn} {c v K n0 : Nat} (hK : K < 2 ^ 31) (hn : n0 ≤ K) : ∀ t i a, t + i = 64 → a ≤ K - n0 → (a + cr (gpB m S c (nI v)) t i ≤ K - n0 ∧ lsI m S c v (nI K) t i (n0 + a) = .inr (n0 + a + cr (gpB m S c (nI v)) t i)) ∨ (K - n0 < a + cr (gpB m S c (nI v)) t i ∧ ∃ l, lsI m S c v (nI K) t i (n0 + a) = .inl l ∧ batF (mkm (gpB m S c (nI v)) 64) (nI (K - n0)) t i (nI a) = nI l) := by
  intro t
  induction t with
  | zero =>
    intro i a hi ha
    exact Or.inl ⟨by rw [cr]; omega, by rw [lsI, cr, Nat.add_zero]⟩
  | succ t ih =>
    intro i a hi ha
    have hb := bt_mkz (p := gpB m S c (nI v)) (v := i) (by omega)
    rw [lsI, batF, cr]
    cases hp : gpB m S c (nI v) i with
    | false =>
      rw [if_pos (hb.mpr hp)]
      simp only [Bool.false_eq_true, if_false, Nat.zero_add]
      exact ih (i + 1) a (by omega) ha
    | true =>
      rw [if_neg (show ¬ btI (mkm (gpB m S c (nI v)) 64) i = 0 from fun q => by rw [hb.mp q] at hp; cases hp)]
      simp only [if_true]
      by_cases q : a = K - n0
      · refine Or.inr ⟨by omega, i, ?_, ?_⟩
        · rw [if_pos (by rw [q, Nat.add_sub_cancel' hn])]
        · rw [if_pos (by rw [q])]
      · rw [if_neg (fun e => q (by have := (nI_eq (by omega) hK).mp e; omega)), if_neg (fun e => q ((nI_eq (by omega) (by omega)).mp e)), nI_1]
        have := ih (i + 1) (a + 1) (by omega) (by omega)
        rw [← Nat.add_assoc n0 a 1] at this
        rcases this with ⟨g1, g2⟩ | ⟨g1, l, g2, g3⟩
        · exact Or.inl ⟨by omega, by rw [g2]; congr 1; omega⟩
        · exact Or.inr ⟨by omega, l, g2, g3⟩
theorem lsI_no {m : Mm} {S : Qn} {c v : Nat} {k : Int32} : ∀ t l n, t + l = 64 → (∀ i, i < 64 → gpB m S c (nI v) i = false) → lsI m S c v k t l n = .inr n
  | 0, l, n, _, _ => rfl
  | t + 1, l, n, hl, h => by
    rw [lsI, h l (by omega), if_neg (by decide)]
    exact lsI_no t (l + 1) n (by omega) h
theorem lsO_no {m : Mm} {S : Qn} {c : Nat} {k : Int32} : ∀ t v n, (∀ v', v ≤ v' → v' < v + t → ∀ i, i < 64 → gpB m S c (nI v') i = false) → lsO m S c k t v n = -1
  | 0, v, n, _ => rfl
  | t + 1, v, n, h => by
    rw [lsO, lsI_no 64 0 n rfl (h v (Nat.le_refl v) (by omega))]
    exact lsO_no t (v + 1) n (fun v' h1 h2 => h v' (by omega) (by omega))
theorem lsI_neg {m : Mm} {S : Qn} {c v : Nat} {k : Int32} (hk : k < 0) : ∀ t l n, n + t < 2 ^ 31 → ∃ n', n' ≤ n + t ∧ lsI m S c v k t l n = .inr n'
  | 0, l, n, _ => ⟨n, Nat.le_refl n, rfl⟩
  | t + 1, l, n, h => by
    rw [lsI]
    cases gpB m S c (nI v) l with
    | false =>
      obtain ⟨n', g1, g2⟩ := lsI_neg (m := m) (S := S) (c := c) (v := v) hk t (l + 1) n (by omega)
      exact ⟨n', by omega, by rw [if_neg (by decide)]; exact g2⟩
    | true =>
      obtain ⟨n', g1, g2⟩ := lsI_neg (m := m) (S := S) (c := c) (v := v) hk t (l + 1) (n + 1) (by omega)
      refine ⟨n', by omega, ?_⟩
      rw [if_pos rfl, if_neg (fun e => by rw [← e] at hk; exact nI_pos (by omega) hk)]
      exact g2
theorem lsO_neg {m : Mm} {S : Qn} {c : Nat} {k : Int32} (hk : k < 0) : ∀ t v n, n + 64 * t < 2 ^ 31 → lsO m S c k t v n = -1
  | 0, v, n, _ => rfl
  | t + 1, v, n, h => by
    obtain ⟨n', g1, g2⟩ := lsI_neg (m := m) (S := S) (c := c) (v := v) hk 64 0 n (by omega)
    rw [lsO, g2]
    exact lsO_neg hk t (v + 1) n' (by omega)
theorem wth_e {m : Mm} {z : Nat → Nat} {c v : Nat} {S : Qn} (hz : Z32 z) (hR : RRows m z) (hc : c < 4) (hv : v < 2 ^ 31) : mkm (lfB m S) 64 &&& wthF m (nI c) v = mkm (gpB m S c (nI v)) 64 := gp_mask hz hR hc hv
theorem gp_out {m : Mm} {z : Nat → Nat} {c v : Nat} {S : Qn} (hz : Z32 z) (hR : RRows m z) (hc : c < 4) (hv : z c ≤ v) (hv2 : v < 2 ^ 31) : ∀ i, i < 64 → gpB m S c (nI v) i = false := fun i hi => by
  unfold gpB lfB
  cases ht : thB m i with
  | false => rfl
  | true =>
    have := num_th hz hR hi hc ht
    rw [this.2.2, decide_eq_false (fun e => by have := (nI_eq (by omega) hv2).mp e; omega), Bool.and_false]
theorem ls_e {m : Mm} {z : Nat → Nat} {c K : Nat} {S : Qn} (hz : Z32 z) (hR : RRows m z) (hc : c < 4) (hK : K < 2 ^ 31) : ∀ t v n, t + v = z c → n ≤ K → lsF m (mkm (lfB m S) 64) (nI c) (nI K) t v (nI n) = lsO m S c (nI K) (t + (64 - z c)) v n
  | 0, v, n, ht, hn => by
    have zc := hz c hc
    rw [lsF, Nat.zero_add]
    exact (lsO_no (64 - z c) v n (fun v' h1 h2 => gp_out hz hR hc (by omega) (by omega))).symm
  | t + 1, v, n, ht, hn => by
    have zc := hz c hc
    have hle := cr_le (p := gpB m S c (nI v)) 64 0
    have hct := ct_cr (p := gpB m S c (nI v)) 64 0
    rw [Nat.zero_add] at hct
    have hct' : ctN (gpB m S c (nI v)) 64 = cr (gpB m S c (nI v)) 64 0 := by rw [hct]; show 0 + _ = _; rw [Nat.zero_add]
    rw [lsF, wth_e hz hR hc (by omega), bc_mk, pk_sub hn, hct', show t + 1 + (64 - z c) = (t + (64 - z c)) + 1 by omega, lsO]
    rcases bat_ls (m := m) (S := S) (c := c) (v := v) hK hn 64 0 0 rfl (Nat.zero_le _) with ⟨g1, g2⟩ | ⟨g1, l, g2, g3⟩
    · rw [Nat.zero_add] at g1
      rw [Nat.add_zero] at g2
      rw [if_pos (nI_le g1 (by omega)), nI_add, g2]
      exact ls_e hz hR hc hK t (v + 1) _ (by omega) (by omega)
    · rw [Nat.zero_add] at g1
      rw [Nat.add_zero] at g2
      rw [if_neg (nI_ge g1 (by omega)), g2]
      exact g3
theorem lsI_p {q : Nat} {m m1 : Mm} (h : Pc q m m1) (S : Qn) (c v : Nat) (k : Int32) : ∀ t l n, lsI m1 S c v k t l n = lsI m S c v k t l n
  | 0, _, _ => rfl
  | t + 1, l, n => by rw [lsI, lsI, gpB_p h, lsI_p h S c v k t, lsI_p h S c v k t]
theorem lsO_p {q : Nat} {m m1 : Mm} (h : Pc q m m1) (S : Qn) (c : Nat) (k : Int32) : ∀ t v n, lsO m1 S c k t v n = lsO m S c k t v n
  | 0, _, _ => rfl
  | t + 1, v, n => by
    rw [lsO, lsO, lsI_p h]
    split
    · rfl
    · exact lsO_p h S c k t _ _
theorem q_least {m m1 m2 : Mm} {s b z : Nat → Nat} {B : Nat → Nat → Nat} {x k0 mk L u q c : Nat} {S : Nat → Qn} {k r r' : Int32} (h : RR m s b z B x k0 mk L u S) (hq : q < u) (hc4 : c < 4) (hc : rLeast m q c (z c) b ((S q).map enS) k r m1) (hm : rIk m1 (lsJ m1 s b z B (S q) c k) r' m2) : r = r' ∧ RM m2 := by
  obtain ⟨o1, o2, o3⟩ := h.que hq
  have hf := fail_e h.col' o1
  have hl := left_e (N := ml m q) h.z h.1 o1 o2 o3
  have key : r = lsJ m s b z B (S q) c k ∧ Pc q m m1 := by
    unfold lsJ
    rcases hc with ⟨f, rfl, rfl⟩ | ⟨f, hc⟩
    · rw [hf] at f; rw [f]; exact ⟨(if_pos rfl).symm, Pc.rf⟩
    · rw [hf] at f
      rw [f, if_neg (by decide)]
      rcases hc with ⟨hk, rfl, rfl⟩ | ⟨hk, F, rfl⟩
      · exact ⟨(lsO_neg hk 64 0 0 (by omega)).symm, Pc.rf⟩
      · obtain ⟨K, hK, rfl⟩ := nI_of hk
        have zc := h.z c hc4
        refine ⟨?_, F⟩
        rw [hl]
        have := ls_e (S := S q) h.z h.1 hc4 hK (z c) 0 0 rfl (Nat.zero_le _)
        rw [show z c + (64 - z c) = 64 by omega] at this
        exact this
  refine ⟨?_, h.kl key.2 hm.2⟩
  rw [hm.1, key.1]
  unfold lsJ
  rw [flM_p key.2, lsO_p key.2]
