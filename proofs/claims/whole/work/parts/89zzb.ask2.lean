/-! ===== ask: class and model ===== -/
theorem isQ_e {g g' : Nat → Int32} {p0 : Pz} {L : Nat} (h0 : p0.1 = 0 ∧ p0.2.1 = 0) (hL : L ≤ 60) (hg : ∀ i, i < L → g i = g' i) : isQ g L ↔ (gdN p0 g' L = L ∧ okQ (gdF p0 g' L)) := by
  unfold isQ okQ
  rw [gN_e h0 hL, gdN_cg hg, ← gdF_cg (g := g) (g' := g') L hg]
  constructor
  · rintro ⟨h1, h2, h3⟩
    have hgo : ∀ i, i < L → (goF (g i) (gdF p0 g i)).1 = true := fun i hi => by
      have := fa_first_no _ L i (show i < gdN p0 g L by rw [gdN_cg hg, h1]; exact hi)
      simpa using this
    have hs := gs_e2 (g := g) h0 L (by omega) hgo
    rw [hs.1] at h2 h3
    refine ⟨h1, ?_, ?_⟩
    · rcases h3 with e | e
      · have e' : (gdF p0 g L).1 = 3 := e
        omega
      · have e' : (gdF p0 g L).1 = 4 := e
        omega
    · have := hs.2.2
      exact (nI_eq (b := 0) (by omega) (by omega)).mp h2
  · rintro ⟨h1, h2, h3⟩
    have hgo : ∀ i, i < L → (goF (g i) (gdF p0 g i)).1 = true := fun i hi => by
      have := fa_first_no _ L i (show i < gdN p0 g L by rw [gdN_cg hg, h1]; exact hi)
      simpa using this
    have hs := gs_e2 (g := g) h0 L (by omega) hgo
    have h4 := hs.2.1
    rw [hs.1]
    refine ⟨h1, ?_, ?_⟩
    · show nI (gdF p0 g L).2.1 = 0
      rw [h3]; rfl
    · show (gdF p0 g L).1 = 3 ∨ (gdF p0 g L).1 = 4
      omega
theorem Qr_p {m m' : Mm} {q : Nat} : ∀ (S : Qn) (i : Nat), i + S.length ≤ 60 → (∀ j, j < 60 → mA m' 58 (60 * q + j) = mA m 58 (60 * q + j) ∧ mA m' 59 (60 * q + j) = mA m 59 (60 * q + j)) → Qr m q i S → Qr m' q i S
  | [], _, _, _, _ => trivial
  | x :: S, i, hi, h, hr => by
    rw [List.length_cons] at hi
    exact ⟨by rw [(h i (by omega)).1]; exact hr.1, by rw [(h i (by omega)).2]; exact hr.2.1, Qr_p S (i + 1) (by omega) h hr.2.2⟩
theorem Qr_new {m : Mm} {q : Nat} {a b : Nat → Int32} : ∀ (S : Qn) (i : Nat), (∀ j (h : j < S.length), mA m 58 (60 * q + (i + j)) = nI (S[j]).1 ∧ mA m 59 (60 * q + (i + j)) = nI (S[j]).2) → Qr m q i S
  | [], _, _ => trivial
  | x :: S, i, h => by
    have h0 := h 0 (by simp)
    refine ⟨h0.1, h0.2, Qr_new (a := a) (b := b) S (i + 1) (fun j hj => ?_)⟩
    have := h (j + 1) (by simp; omega)
    rw [show i + (j + 1) = i + 1 + j by omega] at this
    simpa using this
theorem q_ask {m m1 m2 : Mm} {s b z : Nat → Nat} {B : Nat → Nat → Nat} {x k mk L u : Nat} {S : Nat → Qn} {r r' : Int32} (h : RR m s b z B x k mk L u S) (hc : rAsk m L r m1) (hm : rMask m1 L u r' m2) : r = r' ∧ RM m2 := by
  obtain ⟨hL, hl32, hl40, hpg⟩ := h.2.2.2.2.1
  obtain ⟨hu8, hmq, h16, h34, h27, hque⟩ := h.2.2.2.2.2.1
  obtain ⟨ma, F0, el, hc⟩ := hc
  have el' : mI ma 32 1 = mI m 32 1 := by rw [el, hl32]
  have e56a : mA ma 56 = mA m 56 := (F0.1 56 (by simp)).2.1
  rcases hc with ⟨nq', rfl, rfl⟩ | ⟨yq, e8, rfl, rfl⟩ | ⟨yq, l8, rfl, mb, hnew, rfl⟩
  · have hq := isQ_e (p0 := p0M m1) ⟨rfl, rfl⟩ hL (show ∀ i, i < L → mA m 33 i = mA m1 56 i from fun i hi => by rw [e56a]; exact hpg i hi)
    rcases hm with ⟨_, rfl, K⟩ | ⟨g1, g2, _⟩
    · exact ⟨rfl, h.kp F0 el' K⟩
    · exact absurd (hq.mpr ⟨g1, g2⟩) nq'
  · have hq := isQ_e (p0 := p0M m1) ⟨rfl, rfl⟩ hL (show ∀ i, i < L → mA m 33 i = mA m1 56 i from fun i hi => by rw [e56a]; exact hpg i hi)
    rcases hm with ⟨g, _⟩ | ⟨_, _, hm⟩
    · exact absurd (hq.mp yq) g
    · rcases hm with ⟨_, rfl, K⟩ | ⟨g, _⟩
      · exact ⟨rfl, h.kp F0 el' K⟩
      · omega
  · have hqa : mq ma = u := F0.2.1.trans hmq
    rw [hmq] at l8 hm ⊢
    obtain ⟨FQ, hQs⟩ := hnew
    rw [hqa] at FQ hQs
    have nI' : ∀ j, ¬ j = 66 + 4 * u → mI (nq ma L) j = mI ma j := fun j hj => by
      show va_up (mI ma) (66 + 4 * mq ma) (fun _ => 0) j = _
      rw [hqa, va_up_ne _ _ hj]
    have nA' : ∀ j, ¬ j = 67 + 4 * u → ¬ j = 68 + 4 * u → mA (nq ma L) j = mA ma j := fun j h1 h2 => by
      show va_up (va_up (mA ma) (67 + 4 * mq ma) (fun _ => 0)) (68 + 4 * mq ma) (fun _ => 0) j = _
      rw [hqa, va_up_ne _ _ h2, va_up_ne _ _ h1]
    have nL' : ∀ j, ¬ j = 69 + 4 * u → mL (nq ma L) j = mL ma j := fun j h1 => by
      show va_up (mL ma) (69 + 4 * mq ma) (fun _ => 0) j = _
      rw [hqa, va_up_ne _ _ h1]
    have bI : ∀ j, ¬ j = 32 → ¬ j = 66 + 4 * u → ¬ j = 67 + 4 * u → ¬ j = 68 + 4 * u → mI mb j = mI m j := fun j h0 h1 h2 h3 => by
      rw [(FQ.1 j (by simp; omega)).1, nI' j h1, (F0.1 j (by simp; exact h0)).1]
    have bA : ∀ j, ¬ j = 32 → ¬ j = 66 + 4 * u → ¬ j = 67 + 4 * u → ¬ j = 68 + 4 * u → mA mb j = mA m j := fun j h0 h1 h2 h3 => by
      rw [(FQ.1 j (by simp; omega)).2.1, nA' j h2 h3, (F0.1 j (by simp; exact h0)).2.1]
    have bL : ∀ j, ¬ j = 32 → ¬ j = 66 + 4 * u → ¬ j = 67 + 4 * u → ¬ j = 68 + 4 * u → ¬ j = 69 + 4 * u → mL mb j = mL m j ∧ mT mb j = mT m j := fun j h0 h1 h2 h3 h4 => by
      refine ⟨?_, ?_⟩
      · rw [(FQ.1 j (by simp; omega)).2.2.1, nL' j h4, (F0.1 j (by simp; exact h0)).2.2.1]
      · rw [(FQ.1 j (by simp; omega)).2.2.2]
        show mT ma j = _
        rw [(F0.1 j (by simp; exact h0)).2.2.2]
    have bq : mq mb = u + 1 := by
      rw [FQ.2.1]
      show mq ma + 1 = _
      rw [hqa]
    have bl : ml mb = va_up (ml m) u L := by
      rw [FQ.2.2]
      show va_up (ml ma) (mq ma) L = _
      rw [hqa, F0.2.2]
    have cA : ∀ j, mA (askM mb u) j = mA mb j := fun j => rfl
    have cI : ∀ j, ¬ j = 1 → ¬ j = 32 → ¬ j = 34 → mI (askM mb u) j = mI mb j := fun j h1 h2 h3 => by
      unfold askM
      rw [mI_sI, va_up_ne _ _ h2, mI_sI, va_up_ne _ _ h1, mI_sI, va_up_ne _ _ h3]
    have c1 : mI (askM mb u) 1 = lI [0, 0, 0, 0, 0, 0, nI (u + 1), mI mb 1 7, mI mb 1 8] := by
      unfold askM
      rw [mI_sI, va_up_ne _ _ (by decide), mI_sI, va_up_self]
    have c32 : mI (askM mb u) 32 1 = 0 := by
      unfold askM
      rw [mI_sI, va_up_self]; rfl
    have c34 : mI (askM mb u) 34 0 = nI (u + 1) := by
      unfold askM
      rw [mI_sI, va_up_ne _ _ (by decide), mI_sI, va_up_ne _ _ (by decide), mI_sI, va_up_self]; rfl
    have e56 : mA (askM mb u) 56 = mA m 56 := by rw [cA, bA 56 (by omega) (by omega) (by omega) (by omega)]
    have hq := isQ_e (p0 := p0M (askM mb u)) ⟨rfl, rfl⟩ hL (show ∀ i, i < L → mA m 33 i = mA (askM mb u) 56 i from fun i hi => by rw [e56]; exact hpg i hi)
    rcases hm with ⟨g, _⟩ | ⟨g1, g2, hm⟩
    · exact absurd (hq.mp yq) g
    · rcases hm with ⟨g, _⟩ | ⟨_, rfl, F2, k40, k26, k27, k57, a, b', ga, gb, k58, k59⟩
      · omega
      · refine ⟨rfl, ?_⟩
        have gE : ∀ i, i < L → mA m 33 i = mA (askM mb u) 56 i := fun i hi => by rw [e56]; exact hpg i hi
        have hread := q_read (g := mA m 33) (p0 := p0M (askM mb u)) ⟨_, _, _, rfl⟩ hL (by rw [gdN_cg gE]; exact g1) (by rw [gdF_cg L gE]; exact g2)
        obtain ⟨Q, r1, r2, r3, r4, r5, r6⟩ := hread
        rw [gdF_cg L gE] at r1 r2
        rw [r1, List.length_map] at k57 k58 k59
        rw [r1] at ga
        rw [r2] at gb
        have e33 : mA ma 33 = mA m 33 := (F0.1 33 (by simp)).2.1
        rw [e33, r5, r6] at hQs
        obtain ⟨s3, s4, s5, s6, s7⟩ := hQs
        have hQL : Q.length ≤ L := by
          have h1 := tkA_len (mA m 33) L L
          have h2 := pp_pr (-3) (tkA (mA m 33) L L).2.1
          have h3 := congrArg List.length r5
          unfold qSt at h3
          rw [List.length_append, List.length_map] at h3
          omega
        rw [List.length_map] at s3
        -- the memory behind both
        have fA : ∀ j, j < 66 → ¬ j = 32 → ¬ j = 40 → ¬ (57 ≤ j ∧ j ≤ 62) → mA m2 j = mA m j := fun j h1 h2 h3 h4 => by
          rw [(F2.1 j (by simp; omega)).2.1, cA, bA j h2 (by omega) (by omega) (by omega)]
        have fI : ∀ j, j < 66 → ¬ j = 1 → ¬ j = 32 → ¬ j = 34 → ¬ j = 40 → ¬ (57 ≤ j ∧ j ≤ 62) → mI m2 j = mI m j := fun j h1 h0 h2 h5 h3 h4 => by
          rw [(F2.1 j (by simp; omega)).1, cI j h0 h2 h5, bI j h2 (by omega) (by omega) (by omega)]
        have fL : ∀ j, j < 66 → ¬ j = 32 → ¬ j = 40 → ¬ (57 ≤ j ∧ j ≤ 62) → mL m2 j = mL m j ∧ mT m2 j = mT m j := fun j h1 h2 h3 h4 => by
          have := bL j h2 (by omega) (by omega) (by omega) (by omega)
          exact ⟨by rw [(F2.1 j (by simp; omega)).2.2.1]; exact this.1, by rw [(F2.1 j (by simp; omega)).2.2.2]; exact this.2⟩
        have f40 : ∀ j, ¬ (31 ≤ j ∧ j ≤ 41) → ¬ j = 26 → ¬ j = 27 → mI m2 40 j = mI m 40 j := fun j h1 h2 h3 => by
          rw [k40 j h1 h2 h3, cI 40 (by decide) (by decide) (by decide), bI 40 (by omega) (by omega) (by omega) (by omega)]
        have f1 : mI m2 1 = lI [0, 0, 0, 0, 0, 0, nI (u + 1), mI m 1 7, mI m 1 8] := by
          rw [(F2.1 1 (by simp)).1, c1, bI 1 (by omega) (by omega) (by omega) (by omega)]
        have f2 : mI m2 2 = mI m 2 := fI 2 (by omega) (by omega) (by omega) (by omega) (by omega) (by omega)
        have fq : mq m2 = u + 1 := by
          rw [F2.2.1]
          exact bq
        have fl : ml m2 = va_up (ml m) u L := by
          rw [F2.2.2]
          exact bl
        have q57 : mA (askM mb u) 57 = mA m 57 := by rw [cA, bA 57 (by omega) (by omega) (by omega) (by omega)]
        have q58 : mA (askM mb u) 58 = mA m 58 := by rw [cA, bA 58 (by omega) (by omega) (by omega) (by omega)]
        have q59 : mA (askM mb u) 59 = mA m 59 := by rw [cA, bA 59 (by omega) (by omega) (by omega) (by omega)]
        rw [q57] at k57
        rw [q58] at k58
        rw [q59] at k59
        have hR : RRows m2 z := h.1.f (fA 3 (by omega) (by omega) (by omega) (by omega)) (fA 43 (by omega) (by omega) (by omega) (by omega)) (fA 42 (by omega) (by omega) (by omega) (by omega)) (by rw [f2])
        have hC : RChg m2 z x k := h.2.1.f (by rw [f2]) (by rw [f2]) (f40 3 (by omega) (by omega) (by omega)) (fA 4 (by omega) (by omega) (by omega) (by omega)) (fA 5 (by omega) (by omega) (by omega) (by omega)) (fA 44 (by omega) (by omega) (by omega) (by omega)) (fA 45 (by omega) (by omega) (by omega) (by omega)) (fA 46 (by omega) (by omega) (by omega) (by omega))
        have hM : RMrk m2 z mk := h.2.2.1.f (by rw [f2]) (f40 7 (by omega) (by omega) (by omega)) (fA 6 (by omega) (by omega) (by omega) (by omega)) (fA 47 (by omega) (by omega) (by omega) (by omega)) (fA 48 (by omega) (by omega) (by omega) (by omega))
        have hCol : ∀ c, c < 4 → RCol m2 c (s c) (b c) (z c) (B c) := fun c hc => (h.2.2.2.1 c hc).f (fI _ (by omega) (by omega) (by omega) (by omega) (by omega) (by omega)) (fA _ (by omega) (by omega) (by omega) (by omega)) (fA _ (by omega) (by omega) (by omega) (by omega)) (fA _ (by omega) (by omega) (by omega) (by omega)) (fL _ (by omega) (by omega) (by omega) (by omega)).1 (fL _ (by omega) (by omega) (by omega) (by omega)).2 (fA 41 (by omega) (by omega) (by omega) (by omega)) (fA 50 (by omega) (by omega) (by omega) (by omega)) (fA 51 (by omega) (by omega) (by omega) (by omega)) (fA 52 (by omega) (by omega) (by omega) (by omega)) (fA 53 (by omega) (by omega) (by omega) (by omega))
        have hP : RPag m2 0 := ⟨by omega, by rw [(F2.1 32 (by simp)).1, c32]; rfl, by rw [k26]; rfl, fun i hi => absurd hi (Nat.not_lt_zero i)⟩
        have hQn : RQue m2 (u + 1) (fun i => if i = u then Q else S i) := by
          refine ⟨by omega, fq, by rw [f1]; rfl, by rw [(F2.1 34 (by simp)).1, c34], k27, fun q hq => ?_⟩
          by_cases e : q = u
          · subst e
            simp only [if_true]
            refine ⟨⟨by omega, by rw [k57, ud_e], by omega, r3, r4, ?_⟩, by rw [fl, va_up_self]; exact hL, by rw [fl, va_up_self]; exact hQL, ?_, ?_, ?_⟩
            · refine Qr_new (a := a) (b := b') Q 0 (fun j hj => ?_)
              have g1 := ga j (by rw [List.length_map]; exact hj)
              have g2 := gb j (by rw [List.length_map]; exact hj)
              rw [List.getElem_map] at g1 g2
              refine ⟨?_, ?_⟩
              · rw [k58]; unfold cpF
                rw [if_pos (by omega), ← g1]; congr 1; omega
              · rw [k59]; unfold cpF
                rw [if_pos (by omega), ← g2]; congr 1; omega
            · rw [(F2.1 _ (by simp; omega)).1, cI _ (by omega) (by omega) (by omega)]; exact s3
            · rw [(F2.1 _ (by simp; omega)).1, cI _ (by omega) (by omega) (by omega)]; exact s5
            · rw [(F2.1 _ (by simp; omega)).2.1, cA]; exact s6
          · simp only [if_neg e]
            have hq' : q < u := by omega
            obtain ⟨⟨d1, d2, d3, d4, d5, d6⟩, d7, d8, d9, d10, d11⟩ := hque q hq'
            have gI : mI m2 (66 + 4 * q) = mI m (66 + 4 * q) := by
              rw [(F2.1 _ (by simp; omega)).1, cI _ (by omega) (by omega) (by omega), bI _ (by omega) (by omega) (by omega) (by omega)]
            have gA : mA m2 (67 + 4 * q) = mA m (67 + 4 * q) := by
              rw [(F2.1 _ (by simp; omega)).2.1, cA, bA _ (by omega) (by omega) (by omega) (by omega)]
            refine ⟨⟨d1, by rw [k57, ud_n e]; exact d2, d3, d4, d5, Qr_p (m := m) (S q) 0 (by omega) (fun j hj => ⟨?_, ?_⟩) d6⟩, by rw [fl, va_up_ne _ _ e]; exact d7, by rw [fl, va_up_ne _ _ e]; exact d8, by rw [gI]; exact d9, by rw [gI]; exact d10, by rw [gA]; exact d11⟩
            · rw [k58]; unfold cpF; rw [if_neg (by omega)]
            · rw [k59]; unfold cpF; rw [if_neg (by omega)]
        have hN : RCnt m2 := h.2.2.2.2.2.2.1.f (by rw [f1]; rfl) (by rw [f1]; rfl) (f40 19 (by omega) (by omega) (by omega)) (f40 45 (by omega) (by omega) (by omega))
        exact ⟨s, b, z, B, x, k, mk, 0, u + 1, _, hR, hC, hM, hCol, hP, hQn, hN, by rw [fA 64 (by omega) (by omega) (by omega) (by omega)]; exact h.2.2.2.2.2.2.2⟩
