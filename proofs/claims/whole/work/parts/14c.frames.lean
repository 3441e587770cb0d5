/-! ===== what a method leaves alone ===== -/
def Fr (ks : List Nat) (m m' : Mm) : Prop := (∀ k, k ∉ ks → mI m' k = mI m k ∧ mA m' k = mA m k ∧ mL m' k = mL m k ∧ mT m' k = mT m k) ∧ mq m' = mq m ∧ ml m' = ml m
theorem Fr.rf {ks : List Nat} {m : Mm} : Fr ks m m := ⟨fun _ _ => ⟨rfl, rfl, rfl, rfl⟩, rfl, rfl⟩
theorem va_up_nm {α : Type} {f : Nat → α} {k j : Nat} {v : α} {ks : List Nat} (hk : k ∈ ks) (hj : j ∉ ks) : va_up f k v j = f j := va_up_ne _ _ (fun e => hj (e ▸ hk))
theorem Fr.sI {ks : List Nat} {m m' : Mm} {k : Nat} {l : List Int32} (h : Fr ks m m') (hk : k ∈ ks) : Fr ks m (sI m' k l) := ⟨fun j hj => ⟨(va_up_nm hk hj).trans (h.1 j hj).1, (h.1 j hj).2⟩, h.2⟩
theorem Fr.sA {ks : List Nat} {m m' : Mm} {k : Nat} {g : Nat → Int32} (h : Fr ks m m') (hk : k ∈ ks) : Fr ks m (sA m' k g) := ⟨fun j hj => ⟨(h.1 j hj).1, (va_up_nm hk hj).trans (h.1 j hj).2.1, (h.1 j hj).2.2⟩, h.2⟩
theorem Fr.sL {ks : List Nat} {m m' : Mm} {k : Nat} {g : Nat → Int64} (h : Fr ks m m') (hk : k ∈ ks) : Fr ks m (sL m' k g) := ⟨fun j hj => ⟨(h.1 j hj).1, (h.1 j hj).2.1, (va_up_nm hk hj).trans (h.1 j hj).2.2.1, (h.1 j hj).2.2.2⟩, h.2⟩
theorem Fr.sT {ks : List Nat} {m m' : Mm} {k : Nat} {l : List Int32} {t : Int64} (h : Fr ks m m') (hk : k ∈ ks) : Fr ks m (sT m' k l t) := ⟨fun j hj => ⟨(va_up_nm hk hj).trans (h.1 j hj).1, (h.1 j hj).2.1, (h.1 j hj).2.2.1, (va_up_nm hk hj).trans (h.1 j hj).2.2.2⟩, h.2⟩
theorem Fr.tr {ks : List Nat} {m m' m'' : Mm} (h : Fr ks m m') (h' : Fr ks m' m'') : Fr ks m m'' := ⟨fun j hj => ⟨(h'.1 j hj).1.trans (h.1 j hj).1, (h'.1 j hj).2.1.trans (h.1 j hj).2.1, (h'.1 j hj).2.2.1.trans (h.1 j hj).2.2.1, (h'.1 j hj).2.2.2.trans (h.1 j hj).2.2.2⟩, h'.2.1.trans h.2.1, h'.2.2.trans h.2.2⟩
theorem Fr.wd {ks ks' : List Nat} {m m' : Mm} (h : Fr ks m m') (hs : ∀ k, k ∈ ks → k ∈ ks') : Fr ks' m m' := ⟨fun j hj => h.1 j (fun q => hj (hs j q)), h.2⟩
theorem Fr.nn {ks : List Nat} {m m' : Mm} (h : Fr ks m m') : nn m' = nn m := by show 65 + 4 * mq m' = 65 + 4 * mq m; rw [h.2.1]
/-- ends over a memory -/
def eI (P : Int32 → Mm → Prop) : Po := fun r n f => ∃ (v : Int32) (m : Mm), r = some (.int v) ∧ n = nn m ∧ f = vw m ∧ P v m
def eL (P : Int64 → Mm → Prop) : Po := fun r n f => ∃ (v : Int64) (m : Mm), r = some (.long v) ∧ n = nn m ∧ f = vw m ∧ P v m
def eV (P : Mm → Prop) : Po := fun r n f => ∃ (m : Mm), r = none ∧ n = nn m ∧ f = vw m ∧ P m
theorem Cl.eI {M' : Mt} {e : Nat} {as : List Value} {n : Nat} {f : Nat → Ac} {P : Option Value → Nat → (Nat → Ac) → Prop} {R : Int32 → Mm → Prop} (h : Ct M' e as n f (eI R)) (hp : ∀ v m, R v m → P (some (.int v)) (nn m) (vw m)) : Cl M' (e + 1) as n f P := ⟨e, _, rfl, h, fun r n g q => by obtain ⟨v, m, rfl, rfl, rfl, q⟩ := q; exact hp v m q⟩
theorem Cl.eL {M' : Mt} {e : Nat} {as : List Value} {n : Nat} {f : Nat → Ac} {P : Option Value → Nat → (Nat → Ac) → Prop} {R : Int64 → Mm → Prop} (h : Ct M' e as n f (eL R)) (hp : ∀ v m, R v m → P (some (.long v)) (nn m) (vw m)) : Cl M' (e + 1) as n f P := ⟨e, _, rfl, h, fun r n g q => by obtain ⟨v, m, rfl, rfl, rfl, q⟩ := q; exact hp v m q⟩
theorem Cl.eV {M' : Mt} {e : Nat} {as : List Value} {n : Nat} {f : Nat → Ac} {P : Option Value → Nat → (Nat → Ac) → Prop} {R : Mm → Prop} (h : Ct M' e as n f (eV R)) (hp : ∀ m, R m → P none (nn m) (vw m)) : Cl M' (e + 1) as n f P := ⟨e, _, rfl, h, fun r n g q => by obtain ⟨m, rfl, rfl, rfl, q⟩ := q; exact hp m q⟩
theorem eI_i {P : Int32 → Mm → Prop} {v : Int32} {m m' : Mm} (hn : mq m' = mq m) (h : P v m') : eI P (some (.int v)) (nn m) (vw m') := ⟨v, m', rfl, by unfold nn; rw [hn], rfl, h⟩
theorem eL_i {P : Int64 → Mm → Prop} {v : Int64} {m m' : Mm} (hn : mq m' = mq m) (h : P v m') : eL P (some (.long v)) (nn m) (vw m') := ⟨v, m', rfl, by unfold nn; rw [hn], rfl, h⟩
theorem eV_i {P : Mm → Prop} {m m' : Mm} (hn : mq m' = mq m) (h : P m') : eV P none (nn m) (vw m') := ⟨m', rfl, by unfold nn; rw [hn], rfl, h⟩
theorem va_up_id {α : Type} {f : Nat → α} {k : Nat} : va_up f k (f k) = f := by
  funext j
  by_cases h : j = k
  · subst h; rw [va_up_self]
  · rw [va_up_ne _ _ h]
theorem bq_off {a b i : Nat} : (a + 6 * i == b + 6 * i) = (a == b) := by
  by_cases h : a = b
  · subst h; simp
  · have h1 : (a == b) = false := by simpa using h
    have h2 : (a + 6 * i == b + 6 * i) = false := by simp; omega
    rw [h1, h2]
theorem bq_off4 {a b i : Nat} : (a + 4 * i == b + 4 * i) = (a == b) := by
  by_cases h : a = b
  · subst h; simp
  · have h1 : (a == b) = false := by simpa using h
    have h2 : (a + 4 * i == b + 4 * i) = false := by simp; omega
    rw [h1, h2]
/-- a yes or no -/
def pB (P : Prop) (n : Nat) (f : Nat → Ac) : Po := fun r n' f' => ((P ∧ r = some (.int 1)) ∨ (¬ P ∧ r = some (.int 0))) ∧ n' = n ∧ f' = f
theorem pB_1 {P : Prop} {n : Nat} {f : Nat → Ac} (h : P) : pB P n f (some (.int 1)) n f := ⟨Or.inl ⟨h, rfl⟩, rfl, rfl⟩
theorem pB_0 {P : Prop} {n : Nat} {f : Nat → Ac} (h : ¬ P) : pB P n f (some (.int 0)) n f := ⟨Or.inr ⟨h, rfl⟩, rfl, rfl⟩
theorem Cl.B {M' : Mt} {e : Nat} {as : List Value} {n n' : Nat} {f f' : Nat → Ac} {K : Option Value → Nat → (Nat → Ac) → Prop} {P : Prop} (h : Ct M' e as n f (pB P n' f')) (h1 : P → K (some (.int 1)) n' f') (h0 : ¬ P → K (some (.int 0)) n' f') : Cl M' (e + 1) as n f K := ⟨e, _, rfl, h, fun r m g q => by
  obtain ⟨q, rfl, rfl⟩ := q
  rcases q with ⟨q, rfl⟩ | ⟨q, rfl⟩
  · exact h1 q
  · exact h0 q⟩
