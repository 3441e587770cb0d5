/-! ===== lines laid by an order: class and model ===== -/
theorem ct_step {p : Nat → Bool} {l i : Nat} (h : l < i) : ctN p i = ctN p l + (if p l then 1 else 0) + cr p (i - (l + 1)) (l + 1) := by
  have := ct_cr (p := p) (i - (l + 1)) (l + 1)
  rw [show l + 1 + (i - (l + 1)) = i by omega] at this
  rw [this, ctN]
def LyS (p : Nat → Bool) (n : Nat) (h : Nat → Int32) : Prop := ∀ l, l < n → (p l = true → h (ctN p l) = nI l) ∧ (p l = false → h (ctN p 64 + (l - ctN p l)) = nI l)
theorem ls_t {p : Nat → Bool} {i : Nat} {h : Nat → Int32} (hi : i < 64) (hp : p i = true) (hs : LyS p i h) : LyS p (i + 1) (upd h (ctN p i) (nI i)) := fun l hl => by
  have c64 := ct_step (p := p) hi
  rw [hp, if_pos rfl] at c64
  have cl : ctN p l ≤ l := ctN_le
  by_cases e : l = i
  · subst e
    exact ⟨fun _ => ud_e, fun q => by rw [hp] at q; cases q⟩
  · have hl' : l < i := by omega
    have cs := ct_step (p := p) hl'
    obtain ⟨h1, h2⟩ := hs l hl'
    refine ⟨fun q => ?_, fun q => ?_⟩
    · rw [q, if_pos rfl] at cs
      rw [ud_n (by omega)]; exact h1 q
    · rw [ud_n (by omega)]; exact h2 q
theorem ls_f {p : Nat → Bool} {i : Nat} {h : Nat → Int32} (hi : i < 64) (hp : p i = false) (hs : LyS p i h) : LyS p (i + 1) (upd h (ctN p 64 + (i - ctN p i)) (nI i)) := fun l hl => by
  have cl : ctN p l ≤ l := ctN_le
  have ci : ctN p i ≤ i := ctN_le
  by_cases e : l = i
  · subst e
    exact ⟨fun q => (by rw [hp] at q; cases q), fun _ => ud_e⟩
  · have hl' : l < i := by omega
    have cs := ct_step (p := p) hl'
    have cw := cr_le (p := p) (i - (l + 1)) (l + 1)
    have c64 := ct_step (p := p) (show l < 64 by omega)
    obtain ⟨h1, h2⟩ := hs l hl'
    refine ⟨fun q => ?_, fun q => ?_⟩
    · rw [q, if_pos rfl] at c64
      rw [ud_n (by omega)]; exact h1 q
    · rw [q, if_neg (by decide)] at cs
      rw [ud_n (by omega)]; exact h2 q
theorem cn_ct {m : Mm} {z : Nat → Nat} (hz : Z32 z) (hR : RRows m z) : ∀ n, n ≤ 64 → cnR (mA m 3) n = ctN (thB m) n
  | 0, _ => rfl
  | n + 1, hn => by
    rw [cnR_s, ctN, cn_ct hz hR n (by omega), ← row_th hz hR (show n < 64 by omega)]
    unfold rowAt
    by_cases q : mA m 3 n = -1
    · rw [if_pos q, q]; rfl
    · rw [if_neg q, beq_eq_false_iff_ne.mpr q]; rfl
theorem layF_s {m : Mm} {z : Nat → Nat} {g : Nat → Int32} (hz : Z32 z) (hR : RRows m z) : ∀ n, n ≤ 64 → LyS (thB m) n (layF (mA m 3) n g)
  | 0, _ => fun l hl => absurd hl (Nat.not_lt_zero l)
  | n + 1, hn => by
    have ih := layF_s (g := g) hz hR n (by omega)
    have hr := row_th hz hR (show n < 64 by omega)
    rw [layF, cn_ct hz hR 64 (Nat.le_refl 64), cn_ct hz hR n (by omega)]
    unfold rowAt at hr
    by_cases q : mA m 3 n = -1
    · rw [if_pos q]
      exact ls_f (by omega) (by rw [← hr, q]; rfl) ih
    · rw [if_neg q]
      exact ls_t (by omega) (by rw [← hr, beq_eq_false_iff_ne.mpr q]; rfl) ih
theorem lyA_s {m : Mm} {g : Nat → Int32} : ∀ n, n ≤ 64 → ∀ l, l < n → thB m l = true → lyA m g n (ctN (thB m) l) = nI l
  | 0, _, l, hl, _ => absurd hl (Nat.not_lt_zero l)
  | n + 1, hn, l, hl, hp => by
    rw [lyA]
    by_cases e : l = n
    · subst e; rw [if_pos hp, ud_e]
    · have ih := lyA_s (m := m) (g := g) n (by omega) l (by omega) hp
      have cs := ct_step (p := thB m) (show l < n by omega)
      rw [hp, if_pos rfl] at cs
      split
      · rw [ud_n (by omega)]; exact ih
      · exact ih
theorem lyB_s {m : Mm} {g : Nat → Int32} (hg : ∀ l, l < 64 → thB m l = true → g (ctN (thB m) l) = nI l) : ∀ n, n ≤ 64 → LyS (thB m) n (lyB m g n) ∧ ∀ l, l < 64 → thB m l = true → lyB m g n (ctN (thB m) l) = nI l
  | 0, _ => ⟨fun l hl => absurd hl (Nat.not_lt_zero l), hg⟩
  | n + 1, hn => by
    obtain ⟨i1, i2⟩ := lyB_s (m := m) (g := g) hg n (by omega)
    rw [lyB]
    cases hp : thB m n with
    | true =>
      rw [if_pos rfl]
      refine ⟨fun l hl => ?_, i2⟩
      by_cases e : l = n
      · subst e; exact ⟨fun q => i2 l (by omega) q, fun q => by rw [hp] at q; cases q⟩
      · exact i1 l (by omega)
    | false =>
      rw [if_neg (by decide)]
      refine ⟨ls_f (by omega) hp i1, fun l hl q => ?_⟩
      have c64 := ct_step (p := thB m) hl
      rw [q, if_pos rfl] at c64
      rw [ud_n (by omega)]; exact i2 l hl q
theorem sur1 {p : Nat → Bool} : ∀ n j, j < ctN p n → ∃ l, l < n ∧ p l = true ∧ ctN p l = j
  | 0, j, h => absurd h (Nat.not_lt_zero j)
  | n + 1, j, h => by
    rw [ctN] at h
    by_cases q : j < ctN p n
    · obtain ⟨l, h1, h2⟩ := sur1 n j q
      exact ⟨l, by omega, h2⟩
    · cases hp : p n with
      | true => rw [hp, if_pos rfl] at h; exact ⟨n, by omega, hp, by omega⟩
      | false => rw [hp, if_neg (by decide)] at h; omega
theorem sur2 {p : Nat → Bool} : ∀ n j, j < n - ctN p n → ∃ l, l < n ∧ p l = false ∧ l - ctN p l = j
  | 0, j, h => by omega
  | n + 1, j, h => by
    have hc : ctN p n ≤ n := ctN_le
    rw [ctN] at h
    by_cases q : j < n - ctN p n
    · obtain ⟨l, h1, h2⟩ := sur2 n j q
      exact ⟨l, by omega, h2⟩
    · cases hp : p n with
      | true => rw [hp, if_pos rfl] at h; omega
      | false => rw [hp, if_neg (by decide)] at h; exact ⟨n, by omega, hp, by omega⟩
theorem ls_at {p : Nat → Bool} {h : Nat → Int32} (hs : LyS p 64 h) {j : Nat} (hj : j < 64) : (j < ctN p 64 ∧ ∃ l, l < 64 ∧ p l = true ∧ ctN p l = j ∧ h j = nI l) ∨ (ctN p 64 ≤ j ∧ ∃ l, l < 64 ∧ p l = false ∧ l - ctN p l = j - ctN p 64 ∧ h j = nI l) := by
  rcases Nat.lt_or_ge j (ctN p 64) with q | q
  · obtain ⟨l, h1, h2, h3⟩ := sur1 64 j q
    refine Or.inl ⟨q, l, h1, h2, h3, ?_⟩
    have := (hs l h1).1 h2
    rwa [h3] at this
  · have hc : ctN p 64 ≤ 64 := ctN_le
    obtain ⟨l, h1, h2, h3⟩ := sur2 (p := p) 64 (j - ctN p 64) (by omega)
    refine Or.inr ⟨q, l, h1, h2, h3, ?_⟩
    have := (hs l h1).2 h2
    rwa [h3, show ctN p 64 + (j - ctN p 64) = j by omega] at this
theorem ls_eq {p : Nat → Bool} {h h' : Nat → Int32} (hs : LyS p 64 h) (hs' : LyS p 64 h') : ∀ j, j < 64 → h j = h' j := fun j hj => by
  rcases ls_at hs hj with ⟨_, l, l1, l2, l3, l4⟩ | ⟨q, l, l1, l2, l3, l4⟩
  · rw [l4, ← l3]; exact ((hs' l l1).1 l2).symm
  · rw [l4]
    have := (hs' l l1).2 l2
    rw [l3, show ctN p 64 + (j - ctN p 64) = j by omega] at this
    exact this.symm
/-! levels -/
def LV (m : Mm) (rc : Nat) (g : Nat → Int32) : Prop := ∀ j, j < rc → ∃ l, l < 64 ∧ thB m l = true ∧ g j = nI l
def sV (m : Mm) (C : Nat → Nat) (x y : Int32) (k : Nat) : Bool := smB m C x.toNatClampNeg y.toNatClampNeg k
theorem sV_s {m : Mm} {C : Nat → Nat} {x y : Int32} {k : Nat} (h : sV m C x y (k + 1) = true) : sV m C x y k = true ∧ mA m 42 (4 * x.toNatClampNeg + C k) = mA m 42 (4 * y.toNatClampNeg + C k) := by
  unfold sV at h ⊢
  rw [smB, Bool.and_eq_true, decide_eq_true_eq] at h
  exact h
theorem sV_sy {m : Mm} {C : Nat → Nat} {x y : Int32} : ∀ {k : Nat}, sV m C x y k = true → sV m C y x k = true
  | 0, _ => rfl
  | k + 1, h => by
    obtain ⟨h1, h2⟩ := sV_s h
    have := sV_sy h1
    unfold sV at this ⊢
    rw [smB, this, h2, decide_eq_true rfl]; rfl
theorem sV_tr {m : Mm} {C : Nat → Nat} {x y w : Int32} : ∀ {k : Nat}, sV m C x y k = true → sV m C y w k = true → sV m C x w k = true
  | 0, _, _ => rfl
  | k + 1, h, h' => by
    obtain ⟨h1, h2⟩ := sV_s h
    obtain ⟨h3, h4⟩ := sV_s h'
    have := sV_tr h1 h3
    unfold sV at this ⊢
    rw [smB, this, decide_eq_true (h2.trans h4)]; rfl
theorem sV_rf {m : Mm} {C : Nat → Nat} {x : Int32} : ∀ {k : Nat}, sV m C x x k = true
  | 0 => rfl
  | k + 1 => by
    have := sV_rf (m := m) (C := C) (x := x) (k := k)
    unfold sV at this ⊢
    rw [smB, this, decide_eq_true rfl]; rfl
theorem num_42 {m : Mm} {z : Nat → Nat} {l c : Nat} (hz : Z32 z) (hR : RRows m z) (hl : l < 64) (hc : c < 4) (ht : thB m l = true) : numL m (nI l) (nI c) = mA m 42 (4 * l + c) := by
  rw [num_e hz hR hl hc]
  unfold gtM
  rw [if_neg (fun e => by unfold thB at ht; rw [e] at ht; cases ht)]
theorem alk_e {m : Mm} {z : Nat → Nat} {o : Int32} {C : Nat → Nat} {l l' : Nat} (hz : Z32 z) (hR : RRows m z) (hC : ∀ k, k < 4 → clA o k = nI (C k) ∧ C k < 4) (hl : l < 64) (hl' : l' < 64) (ht : thB m l = true) (ht' : thB m l' = true) : ∀ k, k ≤ 4 → alk m o (nI l) (nI l') k = sV m C (nI l) (nI l') k
  | 0, _ => rfl
  | k + 1, hk => by
    have hCk := hC k (by omega)
    have ih := alk_e hz hR hC hl hl' ht ht' k (by omega)
    rw [alk_s, ih, hCk.1, num_42 hz hR hl hCk.2 ht, num_42 hz hR hl' hCk.2 ht']
    unfold sV
    rw [smB, nI_clamp (by omega), nI_clamp (by omega)]
    rfl
def flg (tb : Bool) (run : Nat) : Bool := tb && decide (run % 2 = 1)
theorem nx_e {tb : Bool} {run : Nat} : nxF (b2i tb) (b2i (flg tb run)) = b2i (flg tb (run + 1)) := by
  unfold flg
  cases tb with
  | false => rfl
  | true =>
    rw [Bool.true_and, Bool.true_and]
    by_cases q : run % 2 = 1
    · rw [decide_eq_true q, decide_eq_false (by omega)]; rfl
    · rw [decide_eq_false q, decide_eq_true (by omega)]; rfl
theorem cmp_e {m : Mm} {z : Nat → Nat} {c l l' : Nat} {f : Bool} (hz : Z32 z) (hR : RRows m z) (hc : c < 4) (hl : l < 64) (hl' : l' < 64) (ht : thB m l = true) (ht' : thB m l' = true) : bhB m (nI c) (b2i f) (nI l) (nI l') = true ↔ (¬ mA m 42 (4 * l + c) = mA m 42 (4 * l' + c) ∧ mvB m c f (nI l) (nI l') = true) := by
  unfold bhB mvB bhI
  rw [num_42 hz hR hl hc ht, num_42 hz hR hl' hc ht', nI_clamp (by omega), nI_clamp (by omega)]
  generalize mA m 42 (4 * l + c) = x
  generalize mA m 42 (4 * l' + c) = y
  cases f with
  | false =>
    rw [if_pos (show b2i false = 0 from rfl)]
    by_cases q : y ≤ x
    · rw [if_pos q]
      refine ⟨fun h => by simp at h, fun ⟨h1, h2⟩ => ?_⟩
      rw [if_neg h1, if_neg (by decide), decide_eq_true_eq] at h2
      exact absurd q (fa_of_lt h2).2.1
    · have q' := fa_of_nle q
      rw [if_neg q]
      refine ⟨fun _ => ⟨(fa_of_lt q').2.2.2.1, ?_⟩, fun _ => by decide⟩
      rw [if_neg (fa_of_lt q').2.2.2.1, if_neg (by decide), decide_eq_true_eq]; exact q'
  | true =>
    rw [if_neg (show ¬ b2i true = 0 by decide)]
    by_cases q : x ≤ y
    · rw [if_pos q]
      refine ⟨fun h => by simp at h, fun ⟨h1, h2⟩ => ?_⟩
      rw [if_neg h1, if_pos rfl, decide_eq_true_eq] at h2
      exact absurd q (fa_of_lt h2).2.1
    · have q' := fa_of_nle q
      rw [if_neg q]
      refine ⟨fun _ => ⟨(fa_of_lt q').2.2.2.2, ?_⟩, fun _ => by decide⟩
      rw [if_neg (fa_of_lt q').2.2.2.2, if_pos rfl, decide_eq_true_eq]; exact q'
def Jv (m : Mm) (C : Nat → Nat) (k rc a : Nat) (g : Nat → Int32) : Prop := ∀ i j, i < j → j < rc → sV m C (g i) (g j) (if j < a then k + 1 else k) = true → g i ≤ g j
theorem lv_eq {m : Mm} {z : Nat → Nat} {o : Int32} {C : Nat → Nat} {tb : Bool} {k rc : Nat} (hz : Z32 z) (hR : RRows m z) (hC : ∀ k, k < 4 → clA o k = nI (C k) ∧ C k < 4) (hk : k < 4) (hrc : rc ≤ 64) : ∀ (t a run : Nat) (g g' : Nat → Int32), a ≤ rc → rc ≤ a + t → (∀ j, j < 64 → g j = g' j) → LV m rc g → LOk g → Jv m C k rc a g → (∀ j, j < 64 → lvF m o (b2i tb) k rc t a (b2i (flg tb run)) g j = lvM1 m C tb k rc t a run g' j) ∧ LV m rc (lvF m o (b2i tb) k rc t a (b2i (flg tb run)) g) ∧ LOk (lvF m o (b2i tb) k rc t a (b2i (flg tb run)) g) ∧ Jv m C k rc rc (lvF m o (b2i tb) k rc t a (b2i (flg tb run)) g) := by
  intro t
  induction t with
  | zero =>
    intro a run g g' ha ht hg hV hL hJ
    have : a = rc := by omega
    subst this
    exact ⟨hg, hV, hL, hJ⟩
  | succ t ih =>
    intro a run g g' ha ht hg hV hL hJ
    rw [lvF, lvM1]
    by_cases q : a < rc
    · rw [if_pos q, if_pos q]
      have hE : rEnd m g o k a rc = rEm m C g' k a rc := by
        unfold rEnd rEm
        congr 1
        refine fa_first_cg _ (fun j hj => ?_)
        obtain ⟨l, l1, l2, l3⟩ := hV a q
        obtain ⟨l', l1', l2', l3'⟩ := hV (a + 1 + j) (by omega)
        unfold lnN
        rw [← hg a (by omega), ← hg (a + 1 + j) (by omega), l3, l3', alk_e hz hR hC l1 l1' l2 l2' k (by omega)]; rfl
      have hle := fa_first_le (fun j => !(alk m o (g a) (g (a + 1 + j)) k)) (rc - (a + 1))
      have hEl : a + 1 ≤ rEnd m g o k a rc ∧ rEnd m g o k a rc ≤ rc := by unfold rEnd; omega
      have hrun : ∀ i, i ≤ rEnd m g o k a rc - (a + 1) → sV m C (g a) (g (a + i)) k = true := fun i hi => by
        rcases Nat.eq_zero_or_pos i with e | e
        · subst e; exact sV_rf
        · have h1 := fa_first_no (fun j => !(alk m o (g a) (g (a + 1 + j)) k)) (rc - (a + 1)) (i - 1) (by unfold rEnd at hi; omega)
          obtain ⟨l, l1, l2, l3⟩ := hV a q
          obtain ⟨l', l1', l2', l3'⟩ := hV (a + i) (by omega)
          have h2 : alk m o (g a) (g (a + i)) k = true := by
            have e2 : a + 1 + (i - 1) = a + i := by omega
            simp only [e2] at h1
            simpa using h1
          rw [l3, l3', alk_e hz hR hC l1 l1' l2 l2' k (by omega)] at h2
          rw [l3, l3']; exact h2
      generalize hn : rEnd m g o k a rc - (a + 1) = n at hrun
      have hab : a + n < rc := by omega
      have hin : ∀ i j, i < j → j ≤ n → sV m C (g (a + i)) (g (a + j)) k = true := fun i j h1 h2 => sV_tr (sV_sy (hrun i (by omega))) (hrun j h2)
      have hord : ∀ i j, i < j → j ≤ n → g (a + i) ≤ g (a + j) := fun i j h1 h2 => hJ (a + i) (a + j) (by omega) (by omega) (by rw [if_neg (by omega)]; exact hin i j h1 h2)
      have hCk := hC k hk
      have hB : ∀ i j, i < j → j ≤ n → bhB m (clA o k) (b2i (flg tb run)) (g (a + j)) (g (a + i)) = mvB m (C k) (flg tb run) (g (a + j)) (g (a + i)) := fun i j h1 h2 => by
        obtain ⟨l, l1, l2, l3⟩ := hV (a + j) (by omega)
        obtain ⟨l', l1', l2', l3'⟩ := hV (a + i) (by omega)
        have ho := hord i j h1 h2
        rw [l3, l3'] at ho ⊢
        have hc := cmp_e (f := flg tb run) hz hR hCk.2 l1 l1' l2 l2'
        rw [hCk.1]
        by_cases e : mA m 42 (4 * l + C k) = mA m 42 (4 * l' + C k)
        · have n1 : bhB m (nI (C k)) (b2i (flg tb run)) (nI l) (nI l') = false := Bool.eq_false_iff.mpr (fun x => (hc.mp x).1 e)
          rw [n1]
          unfold mvB
          rw [nI_clamp (by omega), nI_clamp (by omega), if_pos e]
          exact (decide_eq_false (fun x => (fa_of_lt x).2.1 ho)).symm
        · cases hm : mvB m (C k) (flg tb run) (nI l) (nI l') with
          | true => exact hc.mpr ⟨e, hm⟩
          | false => exact Bool.eq_false_iff.mpr (fun x => by rw [(hc.mp x).2] at hm; cases hm)
      have hsg := srt_cg (B := bhB m (clA o k) (b2i (flg tb run))) (B' := mvB m (C k) (flg tb run)) (a := a) n g g' (by omega) hg hB
      have hso := srt_out (B := bhB m (clA o k) (b2i (flg tb run))) (a := a) n g
      have hsm := srt_mem (B := bhB m (clA o k) (b2i (flg tb run))) (a := a) n g
      have hst := srt_st (B := bhB m (clA o k) (b2i (flg tb run))) (a := a) (E := fun x y => sV m C x y (k + 1) = true) (le := fun x y => x ≤ y) n g (fun i j h1 h2 hb => by
        obtain ⟨l, l1, l2, l3⟩ := hV (a + j) (by omega)
        obtain ⟨l', l1', l2', l3'⟩ := hV (a + i) (by omega)
        rw [l3, l3'] at hb ⊢
        rw [hCk.1] at hb
        have hc := ((cmp_e (f := flg tb run) hz hR hCk.2 l1 l1' l2 l2').mp hb).1
        refine ⟨fun x => ?_, fun x => ?_⟩
        · have := (sV_s x).2
          rw [nI_clamp (by omega), nI_clamp (by omega)] at this
          exact hc this
        · have := (sV_s x).2
          rw [nI_clamp (by omega), nI_clamp (by omega)] at this
          exact hc this.symm) (fun i j h1 h2 _ => hord i j h1 h2)
      rw [nx_e, ← hE, hn]
      show (∀ j, j < 64 → _ = lvM1 m C tb k rc t (rEnd m g o k a rc) (run + 1) (srtF (mvB m (C k) (flg tb run)) a n g') j) ∧ _
      refine ih (rEnd m g o k a rc) (run + 1) (srtF (bhB m (clA o k) (b2i (flg tb run))) a n g) (srtF (mvB m (C k) (flg tb run)) a n g') hEl.2 (by omega) hsg (fun j hj => ?_) (fun j hj => ?_) (fun i j hij hj => ?_)
      · by_cases p : j < a ∨ a + n < j
        · rw [hso j p]; exact hV j hj
        · obtain ⟨i', g1, g2⟩ := hsm (j - a) (by omega)
          rw [show a + (j - a) = j by omega] at g2
          rw [g2]; exact hV _ (by omega)
      · by_cases p : j < a ∨ a + n < j
        · rw [hso j p]; exact hL j hj
        · obtain ⟨i', g1, g2⟩ := hsm (j - a) (by omega)
          rw [show a + (j - a) = j by omega] at g2
          rw [g2]; exact hL _ (by omega)
      · have hJ' : ∀ i' j', i' < j' → j' < rc → a ≤ j' → sV m C (g i') (g j') k = true → g i' ≤ g j' := fun i' j' h1 h2 h3 h4 => hJ i' j' h1 h2 (by rw [if_neg (by omega)]; exact h4)
        by_cases p : j < rEnd m g o k a rc
        · rw [if_pos p]
          by_cases pa : j < a
          · rw [hso i (by omega), hso j (by omega)]
            intro hs
            exact hJ i j hij hj (by rw [if_pos pa]; exact hs)
          · obtain ⟨j', g1, g2⟩ := hsm (j - a) (by omega)
            rw [show a + (j - a) = j by omega] at g2
            by_cases pi : i < a
            · rw [hso i (by omega), g2]
              intro hs
              exact hJ' i (a + j') (by omega) (by omega) (by omega) (sV_s hs).1
            · have := hst (i - a) (j - a) (by omega) (by omega)
              rwa [show a + (i - a) = i by omega, show a + (j - a) = j by omega] at this
        · rw [if_neg p, hso j (by omega)]
          by_cases pi : i < a ∨ a + n < i
          · rw [hso i pi]
            intro hs
            exact hJ' i j hij hj (by omega) hs
          · obtain ⟨i', g1, g2⟩ := hsm (i - a) (by omega)
            rw [show a + (i - a) = i by omega] at g2
            rw [g2]
            intro hs
            exact hJ' (a + i') j (by omega) hj (by omega) hs
    · have : a = rc := by omega
      subst this
      rw [if_neg q, if_neg q]
      exact ⟨hg, hV, hL, hJ⟩
theorem lvs_eq {m : Mm} {z : Nat → Nat} {o : Int32} {C : Nat → Nat} {tb : Bool} {rc : Nat} (hz : Z32 z) (hR : RRows m z) (hC : ∀ k, k < 4 → clA o k = nI (C k) ∧ C k < 4) (hrc : rc ≤ 64) : ∀ (t k : Nat) (g g' : Nat → Int32), t + k = 4 → (∀ j, j < 64 → g j = g' j) → LV m rc g → LOk g → Jv m C k rc 0 g → (∀ j, j < 64 → lvsF m o (b2i tb) rc t k g j = lvsM m C tb rc t k g' j) ∧ LOk (lvsF m o (b2i tb) rc t k g) := by
  intro t
  induction t with
  | zero => intro k g g' hk hg hV hL hJ; exact ⟨hg, hL⟩
  | succ t ih =>
    intro k g g' hk hg hV hL hJ
    have h0 : b2i (flg tb 0) = 0 := by
      unfold flg
      rw [decide_eq_false (by decide), Bool.and_false]; rfl
    have h1 := lv_eq (tb := tb) hz hR hC (show k < 4 by omega) hrc 64 0 0 g g' (Nat.zero_le _) (by omega) hg hV hL hJ
    rw [h0] at h1
    rw [lvsF, lvsM]
    refine ih (k + 1) _ _ (by omega) h1.1 h1.2.1 h1.2.2.1 (fun i j hij hj hs => ?_)
    rw [if_neg (by omega)] at hs
    exact h1.2.2.2 i j hij hj (by rw [if_pos hj]; exact hs)
theorem lv_0 {m : Mm} {o tn : Int32} {rc : Nat} {g : Nat → Int32} (hrc : rc ≤ 64) : srtF (bhB m (clA o 0) 0) 0 (rc - 1) g = lvF m o tn 0 rc 64 0 0 g := by
  rw [lvF]
  by_cases q : 0 < rc
  · have he : rEnd m g o 0 0 rc = rc := by
      unfold rEnd
      have hle := fa_first_le (fun j => !(alk m o (g 0) (g (0 + 1 + j)) 0)) (rc - (0 + 1))
      rcases Nat.lt_or_ge (fa_first (fun j => !(alk m o (g 0) (g (0 + 1 + j)) 0)) (rc - (0 + 1))) (rc - (0 + 1)) with p | p
      · have := fa_first_yes _ _ p
        cases this
      · omega
    rw [if_pos q, he, lvF, if_neg (by omega), Nat.zero_add]
  · have : rc = 0 := by omega
    subst this
    rw [if_neg q]; rfl
theorem arr_e {m : Mm} {z : Nat → Nat} {o : Int32} {C : Nat → Nat} {tb : Bool} {g g' : Nat → Int32} (hz : Z32 z) (hR : RRows m z) (hC : ∀ k, k < 4 → clA o k = nI (C k) ∧ C k < 4) : (∀ j, j < 64 → arrF m o (b2i tb) g j = arM m C tb g' j) ∧ LOk (arrF m o (b2i tb) g) := by
  have hc := cn_ct hz hR 64 (Nat.le_refl 64)
  have hct : ctN (thB m) 64 ≤ 64 := ctN_le
  have s1 := layF_s (g := g) hz hR 64 (Nat.le_refl 64)
  have s2 := (lyB_s (m := m) (g := lyA m g' 64) (lyA_s 64 (Nat.le_refl 64)) 64 (Nat.le_refl 64)).1
  have hV : LV m (ctN (thB m) 64) (layF (mA m 3) 64 g) := fun j hj => by
    rcases ls_at s1 (show j < 64 by omega) with ⟨_, l, l1, l2, l3, l4⟩ | ⟨q, _⟩
    · exact ⟨l, l1, l2, l4⟩
    · omega
  have hL : LOk (layF (mA m 3) 64 g) := fun j hj => by
    rcases ls_at s1 hj with ⟨_, l, l1, l2, l3, l4⟩ | ⟨q, l, l1, l2, l3, l4⟩
    · exact ⟨l, l1, l4⟩
    · exact ⟨l, l1, l4⟩
  have hJ : Jv m C 0 (ctN (thB m) 64) 0 (layF (mA m 3) 64 g) := fun i j hij hj _ => by
    rcases ls_at s1 (show i < 64 by omega) with ⟨_, l, l1, l2, l3, l4⟩ | ⟨q, _⟩
    · rcases ls_at s1 (show j < 64 by omega) with ⟨_, l', l1', l2', l3', l4'⟩ | ⟨q, _⟩
      · rw [l4, l4']
        refine nI_le ?_ (by omega)
        rcases Nat.lt_or_ge l' l with p | p
        · have := ct_step (p := thB m) p
          omega
        · exact p
      · omega
    · omega
  unfold arrF arM
  rw [hc, lv_0 (tn := b2i tb) hct]
  exact lvs_eq (tb := tb) hz hR hC hct 4 0 _ _ rfl (ls_eq s1 s2) hV hL hJ
