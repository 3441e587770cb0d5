/-! ===== one step as a formula over what stands behind it ===== -/
abbrev Kt : Type := Nat → Nat → Nat → Lo → List Value → Nat → (Nat → Ac) → Prop
def am_tg (pc : Nat) (off : Int) : Nat := ((pc : Int) + off).toNat
def am_take : Nat → List Value → List Value → Option (List Value × List Value)
  | 0, acc, st => some (acc, st)
  | _ + 1, _, [] => none
  | k + 1, acc, v :: st => am_take k (v :: acc) st
theorem am_take_spec : ∀ (k : Nat) (acc st as rest : List Value), am_take k acc st = some (as, rest) → ∃ pp, st = pp ++ rest ∧ as = pp.reverse ++ acc ∧ pp.length = k
  | 0, acc, st, as, rest, h => by simp [am_take] at h; exact ⟨[], by simp [h.2], by simp [h.1], rfl⟩
  | k + 1, acc, [], as, rest, h => by simp [am_take] at h
  | k + 1, acc, v :: st, as, rest, h => by
    obtain ⟨pp, h1, h2, h3⟩ := am_take_spec k (v :: acc) st as rest h
    exact ⟨v :: pp, by rw [h1]; rfl, by rw [h2]; simp, by simp [h3]⟩
/-- pieces -/
def w_ld (x : Option Value) (P : Value → Prop) : Prop := match x with
  | some v => P v
  | none => False
def w_int (v : Value) (P : Int32 → Prop) : Prop := match v with
  | .int x => P x
  | _ => False
def w_lng (v : Value) (P : Int64 → Prop) : Prop := match v with
  | .long x => P x
  | _ => False
def w_ref (v : Value) (P : Nat → Prop) : Prop := match v with
  | .ref x => P x
  | _ => False
def w_1 (st : List Value) (P : Value → List Value → Prop) : Prop := match st with
  | v :: t => P v t
  | [] => False
def w_obj (c : Ac) (ci : Nat) (P : List Value → Prop) : Prop := match c with
  | .inr (c, fs) => c = ci ∧ P fs
  | .inl _ => False
def w_iar (c : Ac) (t : Nat) (P : Nat → (Nat → Int32) → Prop) : Prop := match c with
  | .inl (t', N, .inl g) => t' = t ∧ P N g
  | _ => False
def w_lar (c : Ac) (P : Nat → (Nat → Int64) → Prop) : Prop := match c with
  | .inl (t', N, .inr (.inl g)) => t' = 2 ∧ P N g
  | _ => False
def w_qar (c : Ac) (P : Nat → Nat → (Nat → Option Nat) → Prop) : Prop := match c with
  | .inl (t', N, .inr (.inr (.inr (.inr g)))) => P t' N g
  | _ => False
def w_lkp {α : Type} (x : Option α) (P : α → Prop) : Prop := match x with
  | some v => P v
  | none => False
/-- an int array's place, or the script -/
def w_sar (M : Mt) (c : Ac) (P : Nat → (Nat → Int32) → Prop) : Prop := match c with
  | .inl (t', N, .inl g) => t' = 0 ∧ P N g
  | .inr (c, _) => c = 98 ∧ w_lkp (Msx M) (fun x => P x.1 x.2)
  | _ => False
def w_len (M : Mt) (c : Ac) (P : Nat → Prop) : Prop := match c with
  | .inl (t', N, _) => t' < 5 ∧ P N
  | .inr (c, _) => c = 98 ∧ w_lkp (Msx M) (fun x => P x.1)
/-- how the cells and slots that a callee may make are counted -/
def w_cc (M M' : Mt) (kc ks : Nat) (P : Nat → Nat → Prop) : Prop := kc + Mcc M' ≤ Mcc M ∧ ks + Mss M' ≤ Mss M ∧ P (kc + Mcc M') (ks + Mss M')
def w_tbl (P : Int → Prop) (x : Int32) : Int → List Int → Prop
  | _, [] => True
  | v, q :: t => (x = Int32.ofInt v → P q) ∧ w_tbl P x (v + 1) t
def w_lks (P : Int → Prop) (x : Int32) (df : Int) : List (Int × Int) → Prop
  | [] => P df
  | q :: t => (x.toInt = q.1 → P q.2) ∧ (¬ x.toInt = q.1 → w_lks P x df t)
def w_ret (t : Option FieldType) (v : Value) (P : Prop) : Prop := match t, v with
  | some .int, .int _ => P
  | some .boolean, .int x => (x = 0 ∨ x = 1) ∧ P
  | some .long, .long _ => P
  | _, _ => False

def w_stat (kd : Nat) (dd : Prop) (st : List Value) (A : Int32 → List Value → Prop) (B : Prop) : Prop := match kd with
  | 1 => B
  | 3 => B
  | 5 => dd ∧ w_1 st (fun a st => w_1 st (fun b st => w_int a (fun y => w_int b (fun x => A (if x < y then y else x) st))))
  | 6 => dd ∧ w_1 st (fun a st => w_1 st (fun b st => w_int a (fun y => w_int b (fun x => A (if y < x then y else x) st))))
  | _ => False
def w_spec (kd : Nat) (A B : Prop) : Prop := match kd with
  | 2 => B
  | 4 => A
  | _ => False
def stepW (Cf : Nat → Mt → Nat → List Value → Nat → (Nat → Ac) → Po → Prop) (M : Mt) (d : Nat) (i : Instr) (pc : Nat) (K : Kt) (Q : Po) (kc ks : Nat) (ls : Lo) (st : List Value) (n : Nat) (f : Nat → Ac) : Prop := match i with
  | .iconst v => K kc ks (pc + 1) ls (.int (Int32.ofInt v) :: st) n f
  | .bipush v => K kc ks (pc + 2) ls (.int (Int8.ofInt v).toInt32 :: st) n f
  | .sipush v => K kc ks (pc + 3) ls (.int (Int16.ofInt v).toInt32 :: st) n f
  | .lconst v => K kc ks (pc + 1) ls (.long (Int64.ofNat (v : Nat)) :: st) n f
  | .iload j => w_ld (ld ls j) (fun v => w_int v (fun x => K kc ks (pc + 2) ls (.int x :: st) n f))
  | .iload_n j => w_ld (ld ls j) (fun v => w_int v (fun x => K kc ks (pc + 1) ls (.int x :: st) n f))
  | .lload j => w_ld (ld ls j) (fun v => w_lng v (fun x => K kc ks (pc + 2) ls (.long x :: st) n f))
  | .lload_n j => w_ld (ld ls j) (fun v => w_lng v (fun x => K kc ks (pc + 1) ls (.long x :: st) n f))
  | .aload j => w_ld (ld ls j) (fun v => w_ref v (fun x => K kc ks (pc + 2) ls (.ref x :: st) n f))
  | .aload_n j => w_ld (ld ls j) (fun v => w_ref v (fun x => K kc ks (pc + 1) ls (.ref x :: st) n f))
  | .istore j => w_1 st (fun v st => w_int v (fun x => K kc ks (pc + 2) (st1 ls j (.int x)) st n f))
  | .istore_n j => w_1 st (fun v st => w_int v (fun x => K kc ks (pc + 1) (st1 ls j (.int x)) st n f))
  | .astore j => w_1 st (fun v st => w_ref v (fun x => K kc ks (pc + 2) (st1 ls j (.ref x)) st n f))
  | .astore_n j => w_1 st (fun v st => w_ref v (fun x => K kc ks (pc + 1) (st1 ls j (.ref x)) st n f))
  | .lstore j => w_1 st (fun v st => w_lng v (fun x => K kc ks (pc + 2) (st2 ls j (.long x)) st n f))
  | .lstore_n j => w_1 st (fun v st => w_lng v (fun x => K kc ks (pc + 1) (st2 ls j (.long x)) st n f))
  | .iinc j v => w_ld (ld ls j) (fun a => w_int a (fun x => K kc ks (pc + 3) (st1 ls j (.int (x + Int32.ofInt v))) st n f))
  | .iadd => w_1 st (fun a st => w_1 st (fun b st => w_int a (fun y => w_int b (fun x => K kc ks (pc + 1) ls (.int (x + y) :: st) n f))))
  | .isub => w_1 st (fun a st => w_1 st (fun b st => w_int a (fun y => w_int b (fun x => K kc ks (pc + 1) ls (.int (x - y) :: st) n f))))
  | .imul => w_1 st (fun a st => w_1 st (fun b st => w_int a (fun y => w_int b (fun x => K kc ks (pc + 1) ls (.int (x * y) :: st) n f))))
  | .iand => w_1 st (fun a st => w_1 st (fun b st => w_int a (fun y => w_int b (fun x => K kc ks (pc + 1) ls (.int (x &&& y) :: st) n f))))
  | .ior => w_1 st (fun a st => w_1 st (fun b st => w_int a (fun y => w_int b (fun x => K kc ks (pc + 1) ls (.int (x ||| y) :: st) n f))))
  | .ixor => w_1 st (fun a st => w_1 st (fun b st => w_int a (fun y => w_int b (fun x => K kc ks (pc + 1) ls (.int (x ^^^ y) :: st) n f))))
  | .ishl => w_1 st (fun a st => w_1 st (fun b st => w_int a (fun y => w_int b (fun x => K kc ks (pc + 1) ls (.int (x <<< (y &&& 31)) :: st) n f))))
  | .ishr => w_1 st (fun a st => w_1 st (fun b st => w_int a (fun y => w_int b (fun x => K kc ks (pc + 1) ls (.int (x >>> (y &&& 31)) :: st) n f))))
  | .idiv => w_1 st (fun a st => w_1 st (fun b st => w_int a (fun y => w_int b (fun x => (¬ y = 0) ∧ K kc ks (pc + 1) ls (.int (x / y) :: st) n f))))
  | .irem => w_1 st (fun a st => w_1 st (fun b st => w_int a (fun y => w_int b (fun x => (¬ y = 0) ∧ K kc ks (pc + 1) ls (.int (x - x / y * y) :: st) n f))))
  | .ladd => w_1 st (fun a st => w_1 st (fun b st => w_lng a (fun y => w_lng b (fun x => K kc ks (pc + 1) ls (.long (x + y) :: st) n f))))
  | .lsub => w_1 st (fun a st => w_1 st (fun b st => w_lng a (fun y => w_lng b (fun x => K kc ks (pc + 1) ls (.long (x - y) :: st) n f))))
  | .lmul => w_1 st (fun a st => w_1 st (fun b st => w_lng a (fun y => w_lng b (fun x => K kc ks (pc + 1) ls (.long (x * y) :: st) n f))))
  | .land => w_1 st (fun a st => w_1 st (fun b st => w_lng a (fun y => w_lng b (fun x => K kc ks (pc + 1) ls (.long (x &&& y) :: st) n f))))
  | .lor => w_1 st (fun a st => w_1 st (fun b st => w_lng a (fun y => w_lng b (fun x => K kc ks (pc + 1) ls (.long (x ||| y) :: st) n f))))
  | .lxor => w_1 st (fun a st => w_1 st (fun b st => w_lng a (fun y => w_lng b (fun x => K kc ks (pc + 1) ls (.long (x ^^^ y) :: st) n f))))
  | .ldiv => w_1 st (fun a st => w_1 st (fun b st => w_lng a (fun y => w_lng b (fun x => (¬ y = 0) ∧ K kc ks (pc + 1) ls (.long (x / y) :: st) n f))))
  | .lrem => w_1 st (fun a st => w_1 st (fun b st => w_lng a (fun y => w_lng b (fun x => (¬ y = 0) ∧ K kc ks (pc + 1) ls (.long (x - x / y * y) :: st) n f))))
  | .lshl => w_1 st (fun a st => w_1 st (fun b st => w_int a (fun y => w_lng b (fun x => K kc ks (pc + 1) ls (.long (x <<< (y.toInt64 &&& 63)) :: st) n f))))
  | .lshr => w_1 st (fun a st => w_1 st (fun b st => w_int a (fun y => w_lng b (fun x => K kc ks (pc + 1) ls (.long (x >>> (y.toInt64 &&& 63)) :: st) n f))))
  | .lushr => w_1 st (fun a st => w_1 st (fun b st => w_int a (fun y => w_lng b (fun x => K kc ks (pc + 1) ls (.long ((x.toUInt64 >>> (y.toInt64.toUInt64 &&& Int64.toUInt64 63)).toInt64) :: st) n f))))
  | .lcmp => w_1 st (fun a st => w_1 st (fun b st => w_lng a (fun y => w_lng b (fun x => K kc ks (pc + 1) ls (.int (lg_cmp x y) :: st) n f))))
  | .i2l => w_1 st (fun v st => w_int v (fun x => K kc ks (pc + 1) ls (.long x.toInt64 :: st) n f))
  | .l2i => w_1 st (fun v st => w_lng v (fun x => K kc ks (pc + 1) ls (.int x.toInt32 :: st) n f))
  | .dup => w_1 st (fun v st => v.category = 1 ∧ K kc ks (pc + 1) ls (v :: v :: st) n f)
  | .dup2 => w_1 st (fun v st => w_1 st (fun w st => v.category = 1 ∧ w.category = 1 ∧ K kc ks (pc + 1) ls (v :: w :: v :: w :: st) n f))
  | .pop => w_1 st (fun v st => v.category = 1 ∧ K kc ks (pc + 1) ls st n f)
  | .ifCond .eq off => w_1 st (fun v st => w_int v (fun x => (x = 0 → K kc ks (am_tg pc off) ls st n f) ∧ (¬ x = 0 → K kc ks (pc + 3) ls st n f)))
  | .ifCond .ne off => w_1 st (fun v st => w_int v (fun x => (¬ x = 0 → K kc ks (am_tg pc off) ls st n f) ∧ (x = 0 → K kc ks (pc + 3) ls st n f)))
  | .ifCond .lt off => w_1 st (fun v st => w_int v (fun x => (x < 0 → K kc ks (am_tg pc off) ls st n f) ∧ (¬ x < 0 → K kc ks (pc + 3) ls st n f)))
  | .ifCond .ge off => w_1 st (fun v st => w_int v (fun x => (0 ≤ x → K kc ks (am_tg pc off) ls st n f) ∧ (¬ 0 ≤ x → K kc ks (pc + 3) ls st n f)))
  | .ifCond .gt off => w_1 st (fun v st => w_int v (fun x => (0 < x → K kc ks (am_tg pc off) ls st n f) ∧ (¬ 0 < x → K kc ks (pc + 3) ls st n f)))
  | .ifCond .le off => w_1 st (fun v st => w_int v (fun x => (x ≤ 0 → K kc ks (am_tg pc off) ls st n f) ∧ (¬ x ≤ 0 → K kc ks (pc + 3) ls st n f)))
  | .if_icmp .eq off => w_1 st (fun a st => w_1 st (fun b st => w_int a (fun y => w_int b (fun x => (x = y → K kc ks (am_tg pc off) ls st n f) ∧ (¬ x = y → K kc ks (pc + 3) ls st n f)))))
  | .if_icmp .ne off => w_1 st (fun a st => w_1 st (fun b st => w_int a (fun y => w_int b (fun x => (¬ x = y → K kc ks (am_tg pc off) ls st n f) ∧ (x = y → K kc ks (pc + 3) ls st n f)))))
  | .if_icmp .lt off => w_1 st (fun a st => w_1 st (fun b st => w_int a (fun y => w_int b (fun x => (x < y → K kc ks (am_tg pc off) ls st n f) ∧ (¬ x < y → K kc ks (pc + 3) ls st n f)))))
  | .if_icmp .ge off => w_1 st (fun a st => w_1 st (fun b st => w_int a (fun y => w_int b (fun x => (y ≤ x → K kc ks (am_tg pc off) ls st n f) ∧ (¬ y ≤ x → K kc ks (pc + 3) ls st n f)))))
  | .if_icmp .gt off => w_1 st (fun a st => w_1 st (fun b st => w_int a (fun y => w_int b (fun x => (y < x → K kc ks (am_tg pc off) ls st n f) ∧ (¬ y < x → K kc ks (pc + 3) ls st n f)))))
  | .if_icmp .le off => w_1 st (fun a st => w_1 st (fun b st => w_int a (fun y => w_int b (fun x => (x ≤ y → K kc ks (am_tg pc off) ls st n f) ∧ (¬ x ≤ y → K kc ks (pc + 3) ls st n f)))))
  | .goto off => K kc ks (am_tg pc off) ls st n f
  | .ifnull off => w_1 st (fun v st => (v = .null → K kc ks (am_tg pc off) ls st n f) ∧ (∀ x, v = .ref x → K kc ks (pc + 3) ls st n f) ∧ (v = .null ∨ ∃ x, v = .ref x))
  | .tableswitch df lo hi offs => w_1 st (fun v st => w_int v (fun x => w_tbl (fun off => K kc ks (am_tg pc off) ls st n f) x lo offs.toList ∧ ((x.toInt < lo ∨ hi < x.toInt) → K kc ks (am_tg pc df) ls st n f)))
  | .lookupswitch df ps => w_1 st (fun v st => w_int v (fun x => w_lks (fun off => K kc ks (am_tg pc off) ls st n f) x df ps.toList))
  | .ldc idx => w_lkp (lkp (pi (Mp M)) idx) (fun v => K kc ks (pc + 2) ls (.int v :: st) n f)
  | .ldc2_w idx => w_lkp (lkp (pl (Mp M)) idx) (fun v => K kc ks (pc + 3) ls (.long v :: st) n f)
  | .getfield idx => w_lkp (lkp (pf (Mp M)) idx) (fun e => w_1 st (fun v st => w_ref v (fun k => w_obj (f k) e.1 (fun fs => w_lkp (gv fs e.2.1) (fun v => K kc ks (pc + 3) ls (v :: st) n f)))))
  | .putfield idx => w_lkp (lkp (pf (Mp M)) idx) (fun e => w_1 st (fun x st => w_1 st (fun v st => w_ref v (fun k => w_obj (f k) e.1 (fun fs => e.2.1 < fs.length ∧ am_fit e.2.2.2.1 x ∧ K kc ks (pc + 3) ls st n (va_up f k (.inr (e.1, sv fs e.2.1 x))))))))
  | .iaload => w_1 st (fun a st => w_1 st (fun b st => w_int a (fun i => w_ref b (fun k => w_sar M (f k) (fun N g => vp_in i N ∧ K kc ks (pc + 1) ls (.int (g i.toNatClampNeg) :: st) n f)))))
  | .baload => w_1 st (fun a st => w_1 st (fun b st => w_int a (fun i => w_ref b (fun k => w_iar (f k) 1 (fun N g => vp_in i N ∧ K kc ks (pc + 1) ls (.int (g i.toNatClampNeg) :: st) n f)))))
  | .laload => w_1 st (fun a st => w_1 st (fun b st => w_int a (fun i => w_ref b (fun k => w_lar (f k) (fun N g => vp_in i N ∧ K kc ks (pc + 1) ls (.long (g i.toNatClampNeg) :: st) n f)))))
  | .aaload => w_1 st (fun a st => w_1 st (fun b st => w_int a (fun i => w_ref b (fun k => w_qar (f k) (fun t N g => (t = 3 ∨ t = 4) ∧ vp_in i N ∧ K kc ks (pc + 1) ls (va_rf (g i.toNatClampNeg) :: st) n f)))))
  | .iastore => w_1 st (fun a st => w_1 st (fun b st => w_1 st (fun e st => w_int a (fun x => w_int b (fun i => w_ref e (fun k => w_iar (f k) 0 (fun N g => vp_in i N ∧ K kc ks (pc + 1) ls st n (va_up f k (.inl (0, N, .inl (upd g i.toNatClampNeg x)))))))))))
  | .bastore => w_1 st (fun a st => w_1 st (fun b st => w_1 st (fun e st => w_int a (fun x => w_int b (fun i => w_ref e (fun k => w_iar (f k) 1 (fun N g => vp_in i N ∧ K kc ks (pc + 1) ls st n (va_up f k (.inl (1, N, .inl (upd g i.toNatClampNeg (vp_nar .boolean x))))))))))))
  | .lastore => w_1 st (fun a st => w_1 st (fun b st => w_1 st (fun e st => w_lng a (fun x => w_int b (fun i => w_ref e (fun k => w_lar (f k) (fun N g => vp_in i N ∧ K kc ks (pc + 1) ls st n (va_up f k (.inl (2, N, .inr (.inl (vp_updL g i.toNatClampNeg x))))))))))))
  | .aastore => w_1 st (fun a st => w_1 st (fun b st => w_1 st (fun e st => w_ref a (fun x => w_int b (fun i => w_ref e (fun k => w_qar (f k) (fun t N g => (∃ ci fs, f x = .inr (ci, fs) ∧ (t = 3 ∧ ci = 1 ∨ t = 4 ∧ ci = 3)) ∧ vp_in i N ∧ K kc ks (pc + 1) ls st n (va_up f k (.inl (t, N, .inr (.inr (.inr (.inr (va_up g i.toNatClampNeg (some x)))))))))))))))
  | .arraylength => w_1 st (fun a st => w_ref a (fun k => w_len M (f k) (fun N => K kc ks (pc + 1) ls (.int (Int32.ofNat N) :: st) n f)))
  | .new idx => w_lkp (lkp (pc_ (Mp M)) idx) (fun ci => kc + 1 ≤ Mcc M ∧ ks + am_nf ci ≤ Mss M ∧ K (kc + 1) (ks + am_nf ci) (pc + 3) ls (.ref (n + 1) :: st) (n + 1) (va_up f (n + 1) (.inr (ci, am_def ci))))
  | .newarray .int => w_1 st (fun a st => w_int a (fun x => ∃ N, x = nI N ∧ N ≤ 10000 ∧ kc + 1 ≤ Mcc M ∧ ks + N ≤ Mss M ∧ K (kc + 1) (ks + N) (pc + 2) ls (.ref (n + 1) :: st) (n + 1) (va_up f (n + 1) (.inl (0, N, .inl (fun _ => 0))))))
  | .newarray .boolean => w_1 st (fun a st => w_int a (fun x => ∃ N, x = nI N ∧ N ≤ 10000 ∧ kc + 1 ≤ Mcc M ∧ ks + N ≤ Mss M ∧ K (kc + 1) (ks + N) (pc + 2) ls (.ref (n + 1) :: st) (n + 1) (va_up f (n + 1) (.inl (1, N, .inl (fun _ => 0))))))
  | .newarray .long => w_1 st (fun a st => w_int a (fun x => ∃ N, x = nI N ∧ N ≤ 10000 ∧ kc + 1 ≤ Mcc M ∧ ks + N ≤ Mss M ∧ K (kc + 1) (ks + N) (pc + 2) ls (.ref (n + 1) :: st) (n + 1) (va_up f (n + 1) (.inl (2, N, .inr (.inl (fun _ => 0)))))))
  | .anewarray idx => w_lkp (lkp (pc_ (Mp M)) idx) (fun ci => w_1 st (fun a st => w_int a (fun x => ∃ N t, (ci = 1 ∧ t = 3 ∨ ci = 3 ∧ t = 4) ∧ x = nI N ∧ N ≤ 10000 ∧ kc + 1 ≤ Mcc M ∧ ks + N ≤ Mss M ∧ K (kc + 1) (ks + N) (pc + 3) ls (.ref (n + 1) :: st) (n + 1) (va_up f (n + 1) (.inl (t, N, .inr (.inr (.inr (.inr (fun _ => none))))))))))
  | .invokevirtual idx => w_lkp (lkp (pm (Mp M)) idx) (fun e => e.2.1 = 0 ∧ w_lkp (am_take e.2.2.1 [] st) (fun q => w_1 q.2 (fun v st => w_ref v (fun k => w_obj (f k) e.2.2.2 (fun _ => catS st ≤ 8 ∧ w_cc M e.1 kc ks (fun kc ks => Cf (1000 * Mp M + idx) e.1 d (.ref k :: q.1) n f (fun r n f => K kc ks (pc + 3) ls (r.toList ++ st) n f)))))))
  | .invokestatic idx => w_lkp (lkp (pm (Mp M)) idx) (fun e => w_stat e.2.1 (1 ≤ d) st (fun x st => catS st ≤ 8 ∧ K kc ks (pc + 3) ls (.int x :: st) n f) (w_lkp (am_take e.2.2.1 [] st) (fun q => catS q.2 ≤ 8 ∧ w_cc M e.1 kc ks (fun kc ks => Cf (1000 * Mp M + idx) e.1 d q.1 n f (fun r n f => K kc ks (pc + 3) ls (r.toList ++ q.2) n f)))))
  | .invokespecial idx => w_lkp (lkp (pm (Mp M)) idx) (fun e => w_spec e.2.1 (w_1 st (fun v st => w_ref v (fun _ => 1 ≤ d ∧ catS st ≤ 8 ∧ K kc ks (pc + 3) ls st n f))) (w_lkp (am_take e.2.2.1 [] st) (fun q => w_1 q.2 (fun v st => w_ref v (fun k => catS st ≤ 8 ∧ w_cc M e.1 kc ks (fun kc ks => Cf (1000 * Mp M + idx) e.1 d (.ref k :: q.1) n f (fun r n f => K kc ks (pc + 3) ls (r.toList ++ st) n f)))))))
  | .ireturn => w_1 st (fun v st => st = [] ∧ w_ret (Mr M) v (Q (some v) n f) ∧ w_int v (fun _ => True))
  | .lreturn => w_1 st (fun v st => st = [] ∧ w_ret (Mr M) v (Q (some v) n f) ∧ w_lng v (fun _ => True))
  | .return_ => st = [] ∧ Mr M = none ∧ Q none n f
  | _ => False
section Sound
theorem w_ld_i {x : Option Value} {P : Value → Prop} (h : w_ld x P) : ∃ v, x = some v ∧ P v := by cases x with | none => exact h.elim | some v => exact ⟨v, rfl, h⟩
theorem w_int_i {x : Value} {P : Int32 → Prop} (h : w_int x P) : ∃ v, x = .int v ∧ P v := by cases x <;> first | exact ⟨_, rfl, h⟩ | exact (show False from h).elim
theorem w_lng_i {x : Value} {P : Int64 → Prop} (h : w_lng x P) : ∃ v, x = .long v ∧ P v := by cases x <;> first | exact ⟨_, rfl, h⟩ | exact (show False from h).elim
theorem w_ref_i {x : Value} {P : Nat → Prop} (h : w_ref x P) : ∃ v, x = .ref v ∧ P v := by cases x <;> first | exact ⟨_, rfl, h⟩ | exact (show False from h).elim
theorem w_1_i {st : List Value} {P : Value → List Value → Prop} (h : w_1 st P) : ∃ v t, st = v :: t ∧ P v t := by cases st with | nil => exact h.elim | cons v t => exact ⟨v, t, rfl, h⟩
theorem w_obj_i {c : Ac} {ci : Nat} {P : List Value → Prop} (h : w_obj c ci P) : ∃ fs, c = .inr (ci, fs) ∧ P fs := by
  cases c with
  | inl a => exact (show False from h).elim
  | inr q => obtain ⟨c, fs⟩ := q; obtain ⟨rfl, hp⟩ := h; exact ⟨fs, rfl, hp⟩
theorem w_iar_i {c : Ac} {t : Nat} {P : Nat → (Nat → Int32) → Prop} (h : w_iar c t P) : ∃ N g, c = .inl (t, N, .inl g) ∧ P N g := by
  match c, h with
  | .inl (t', N, .inl g), h => obtain ⟨rfl, hp⟩ := h; exact ⟨N, g, rfl, hp⟩
theorem w_lar_i {c : Ac} {P : Nat → (Nat → Int64) → Prop} (h : w_lar c P) : ∃ N g, c = .inl (2, N, .inr (.inl g)) ∧ P N g := by
  match c, h with
  | .inl (t', N, .inr (.inl g)), h => obtain ⟨rfl, hp⟩ := h; exact ⟨N, g, rfl, hp⟩
theorem w_qar_i {c : Ac} {P : Nat → Nat → (Nat → Option Nat) → Prop} (h : w_qar c P) : ∃ t N g, c = .inl (t, N, .inr (.inr (.inr (.inr g)))) ∧ P t N g := by
  match c, h with
  | .inl (t', N, .inr (.inr (.inr (.inr g)))), h => exact ⟨t', N, g, rfl, h⟩
theorem w_lkp_i {α : Type} {x : Option α} {P : α → Prop} (h : w_lkp x P) : ∃ v, x = some v ∧ P v := by cases x with | none => exact h.elim | some v => exact ⟨v, rfl, h⟩
theorem w_sar_i {M : Mt} {c : Ac} {P : Nat → (Nat → Int32) → Prop} (h : w_sar M c P) : (∃ N g, c = .inl (0, N, .inl g) ∧ P N g) ∨ (∃ fs L xs, c = .inr (98, fs) ∧ Msx M = some (L, xs) ∧ P L xs) := by
  match c, h with
  | .inl (t', N, .inl g), h => obtain ⟨rfl, hp⟩ := h; exact Or.inl ⟨N, g, rfl, hp⟩
  | .inr (c, fs), h =>
    obtain ⟨rfl, hp⟩ := h
    obtain ⟨⟨L, xs⟩, e1, hp⟩ := w_lkp_i hp
    exact Or.inr ⟨fs, L, xs, rfl, e1, hp⟩
theorem w_len_i {M : Mt} {c : Ac} {P : Nat → Prop} (h : w_len M c P) : (∃ t N x, c = .inl (t, N, x) ∧ t < 5 ∧ P N) ∨ (∃ fs L xs, c = .inr (98, fs) ∧ Msx M = some (L, xs) ∧ P L) := by
  match c, h with
  | .inl (t', N, x), h => exact Or.inl ⟨t', N, x, rfl, h.1, h.2⟩
  | .inr (c, fs), h =>
    obtain ⟨rfl, hp⟩ := h
    obtain ⟨⟨L, xs⟩, e1, hp⟩ := w_lkp_i hp
    exact Or.inr ⟨fs, L, xs, rfl, e1, hp⟩
theorem w_tbl_i {P : Int → Prop} {x : Int32} : ∀ (l : List Int) (v : Int), w_tbl P x v l → ∀ (j : Nat) (off : Int), l[j]? = some off → x = Int32.ofInt (v + j) → P off
  | [], v, _, j, off, h, _ => by simp at h
  | q :: t, v, hw, 0, off, h, hx => by
    simp at h
    subst h
    exact hw.1 (by rw [hx]; congr 1; simp)
  | q :: t, v, hw, j + 1, off, h, hx => by
    rw [List.getElem?_cons_succ] at h
    exact w_tbl_i t (v + 1) hw.2 j off h (by rw [hx]; congr 1; simp; omega)
theorem w_lks_i {P : Int → Prop} {x : Int32} {df : Int} : ∀ (l : List (Int × Int)), w_lks P x df l → P (Op.lookupswitch.offset l df x.toInt)
  | [], h => h
  | (a, b) :: t, h => by
    rw [Op.lookupswitch.offset_cons]
    by_cases e : a = x.toInt
    · rw [if_pos e]; exact h.1 e.symm
    · rw [if_neg e]; exact w_lks_i t (h.2 (fun z => e z.symm))
end Sound

set_option maxHeartbeats 8000000 in
theorem am_step {Cf : Nat → Mt → Nat → List Value → Nat → (Nat → Ac) → Po → Prop} (hCf : ∀ key M' d as n f P, Cf key M' d as n f P → Cl M' d as n f P) {M : Mt} {d pc : Nat} {K : Kt} {Q : Po} {kc ks : Nat} {ls : Lo} {st : List Value} {n : Nat} {f : Nat → Ac} {i : Instr} (hi : ins M pc = some i) (hK : ∀ kc ks pc ls st n f, K kc ks pc ls st n f → Vj M d kc ks pc ls st n f Q) (h : stepW Cf M d i pc K Q kc ks ls st n f) : Vj M d kc ks pc ls st n f Q := by
  obtain ⟨⟨l, hd, hln⟩, hso⟩ := ins_spec hi
  have hown := am_sok_own hso
  have hs2 := hso
  unfold am_sok at hs2
  rw [Bool.and_eq_true] at hs2
  replace hs2 := hs2.2
  cases i with
  | iconst v =>
    have e : l = 1 := hln rfl
    subst e
    exact V_iconst hd (hK _ _ _ _ _ _ _ h)
  | bipush v =>
    have e : l = 2 := hln rfl
    subst e
    exact V_bipush hd (hK _ _ _ _ _ _ _ h)
  | sipush v =>
    have e : l = 3 := hln rfl
    subst e
    exact V_sipush hd (hK _ _ _ _ _ _ _ h)
  | lconst v =>
    have e : l = 1 := hln rfl
    subst e
    exact V_lconst hd (hK _ _ _ _ _ _ _ h)
  | iload j =>
    have e : l = 2 := hln rfl
    subst e
    obtain ⟨v, e1, h⟩ := w_ld_i h
    obtain ⟨x, rfl, h⟩ := w_int_i h
    exact V_iload hd e1 (hK _ _ _ _ _ _ _ h)
  | istore j =>
    have e : l = 2 := hln rfl
    subst e
    obtain ⟨v, t, rfl, h⟩ := w_1_i h
    obtain ⟨x, rfl, h⟩ := w_int_i h
    exact V_istore hd (of_decide_eq_true hs2) (hK _ _ _ _ _ _ _ h)
  | iload_n j =>
    have e : l = 1 := hln rfl
    subst e
    obtain ⟨v, e1, h⟩ := w_ld_i h
    obtain ⟨x, rfl, h⟩ := w_int_i h
    exact V_iload_n hd e1 (hK _ _ _ _ _ _ _ h)
  | istore_n j =>
    have e : l = 1 := hln rfl
    subst e
    obtain ⟨v, t, rfl, h⟩ := w_1_i h
    obtain ⟨x, rfl, h⟩ := w_int_i h
    exact V_istore_n hd (of_decide_eq_true hs2) (hK _ _ _ _ _ _ _ h)
  | lload j =>
    have e : l = 2 := hln rfl
    subst e
    obtain ⟨v, e1, h⟩ := w_ld_i h
    obtain ⟨x, rfl, h⟩ := w_lng_i h
    exact V_lload hd e1 (hK _ _ _ _ _ _ _ h)
  | lstore j =>
    have e : l = 2 := hln rfl
    subst e
    obtain ⟨v, t, rfl, h⟩ := w_1_i h
    obtain ⟨x, rfl, h⟩ := w_lng_i h
    exact V_lstore hd (of_decide_eq_true hs2) (hK _ _ _ _ _ _ _ h)
  | lload_n j =>
    have e : l = 1 := hln rfl
    subst e
    obtain ⟨v, e1, h⟩ := w_ld_i h
    obtain ⟨x, rfl, h⟩ := w_lng_i h
    exact V_lload_n hd e1 (hK _ _ _ _ _ _ _ h)
  | lstore_n j =>
    have e : l = 1 := hln rfl
    subst e
    obtain ⟨v, t, rfl, h⟩ := w_1_i h
    obtain ⟨x, rfl, h⟩ := w_lng_i h
    exact V_lstore_n hd (of_decide_eq_true hs2) (hK _ _ _ _ _ _ _ h)
  | aload j =>
    have e : l = 2 := hln rfl
    subst e
    obtain ⟨v, e1, h⟩ := w_ld_i h
    obtain ⟨x, rfl, h⟩ := w_ref_i h
    exact V_aload hd e1 (hK _ _ _ _ _ _ _ h)
  | astore j =>
    have e : l = 2 := hln rfl
    subst e
    obtain ⟨v, t, rfl, h⟩ := w_1_i h
    obtain ⟨x, rfl, h⟩ := w_ref_i h
    exact V_astore hd (of_decide_eq_true hs2) (hK _ _ _ _ _ _ _ h)
  | aload_n j =>
    have e : l = 1 := hln rfl
    subst e
    obtain ⟨v, e1, h⟩ := w_ld_i h
    obtain ⟨x, rfl, h⟩ := w_ref_i h
    exact V_aload_n hd e1 (hK _ _ _ _ _ _ _ h)
  | astore_n j =>
    have e : l = 1 := hln rfl
    subst e
    obtain ⟨v, t, rfl, h⟩ := w_1_i h
    obtain ⟨x, rfl, h⟩ := w_ref_i h
    exact V_astore_n hd (of_decide_eq_true hs2) (hK _ _ _ _ _ _ _ h)
  | iinc j v =>
    have e : l = 3 := hln rfl
    subst e
    obtain ⟨v, e1, h⟩ := w_ld_i h
    obtain ⟨x, rfl, h⟩ := w_int_i h
    exact V_iinc hd e1 (of_decide_eq_true hs2) (hK _ _ _ _ _ _ _ h)
  | iadd =>
    have e : l = 1 := hln rfl
    subst e
    obtain ⟨a, t, rfl, h⟩ := w_1_i h
    obtain ⟨b, t, rfl, h⟩ := w_1_i h
    obtain ⟨y, rfl, h⟩ := w_int_i h
    obtain ⟨x, rfl, h⟩ := w_int_i h
    exact V_iadd hd (hK _ _ _ _ _ _ _ h)
  | isub =>
    have e : l = 1 := hln rfl
    subst e
    obtain ⟨a, t, rfl, h⟩ := w_1_i h
    obtain ⟨b, t, rfl, h⟩ := w_1_i h
    obtain ⟨y, rfl, h⟩ := w_int_i h
    obtain ⟨x, rfl, h⟩ := w_int_i h
    exact V_isub hd (hK _ _ _ _ _ _ _ h)
  | imul =>
    have e : l = 1 := hln rfl
    subst e
    obtain ⟨a, t, rfl, h⟩ := w_1_i h
    obtain ⟨b, t, rfl, h⟩ := w_1_i h
    obtain ⟨y, rfl, h⟩ := w_int_i h
    obtain ⟨x, rfl, h⟩ := w_int_i h
    exact V_imul hd (hK _ _ _ _ _ _ _ h)
  | iand =>
    have e : l = 1 := hln rfl
    subst e
    obtain ⟨a, t, rfl, h⟩ := w_1_i h
    obtain ⟨b, t, rfl, h⟩ := w_1_i h
    obtain ⟨y, rfl, h⟩ := w_int_i h
    obtain ⟨x, rfl, h⟩ := w_int_i h
    exact V_iand hd (hK _ _ _ _ _ _ _ h)
  | ior =>
    have e : l = 1 := hln rfl
    subst e
    obtain ⟨a, t, rfl, h⟩ := w_1_i h
    obtain ⟨b, t, rfl, h⟩ := w_1_i h
    obtain ⟨y, rfl, h⟩ := w_int_i h
    obtain ⟨x, rfl, h⟩ := w_int_i h
    exact V_ior hd (hK _ _ _ _ _ _ _ h)
  | ixor =>
    have e : l = 1 := hln rfl
    subst e
    obtain ⟨a, t, rfl, h⟩ := w_1_i h
    obtain ⟨b, t, rfl, h⟩ := w_1_i h
    obtain ⟨y, rfl, h⟩ := w_int_i h
    obtain ⟨x, rfl, h⟩ := w_int_i h
    exact V_ixor hd (hK _ _ _ _ _ _ _ h)
  | ishl =>
    have e : l = 1 := hln rfl
    subst e
    obtain ⟨a, t, rfl, h⟩ := w_1_i h
    obtain ⟨b, t, rfl, h⟩ := w_1_i h
    obtain ⟨y, rfl, h⟩ := w_int_i h
    obtain ⟨x, rfl, h⟩ := w_int_i h
    exact V_ishl hd (hK _ _ _ _ _ _ _ h)
  | ishr =>
    have e : l = 1 := hln rfl
    subst e
    obtain ⟨a, t, rfl, h⟩ := w_1_i h
    obtain ⟨b, t, rfl, h⟩ := w_1_i h
    obtain ⟨y, rfl, h⟩ := w_int_i h
    obtain ⟨x, rfl, h⟩ := w_int_i h
    exact V_ishr hd (hK _ _ _ _ _ _ _ h)
  | idiv =>
    have e : l = 1 := hln rfl
    subst e
    obtain ⟨a, t, rfl, h⟩ := w_1_i h
    obtain ⟨b, t, rfl, h⟩ := w_1_i h
    obtain ⟨y, rfl, h⟩ := w_int_i h
    obtain ⟨x, rfl, h⟩ := w_int_i h
    exact V_idiv hd h.1 (hK _ _ _ _ _ _ _ h.2)
  | irem =>
    have e : l = 1 := hln rfl
    subst e
    obtain ⟨a, t, rfl, h⟩ := w_1_i h
    obtain ⟨b, t, rfl, h⟩ := w_1_i h
    obtain ⟨y, rfl, h⟩ := w_int_i h
    obtain ⟨x, rfl, h⟩ := w_int_i h
    exact V_irem hd h.1 (hK _ _ _ _ _ _ _ h.2)
  | ladd =>
    have e : l = 1 := hln rfl
    subst e
    obtain ⟨a, t, rfl, h⟩ := w_1_i h
    obtain ⟨b, t, rfl, h⟩ := w_1_i h
    obtain ⟨y, rfl, h⟩ := w_lng_i h
    obtain ⟨x, rfl, h⟩ := w_lng_i h
    exact V_ladd hd (hK _ _ _ _ _ _ _ h)
  | lsub =>
    have e : l = 1 := hln rfl
    subst e
    obtain ⟨a, t, rfl, h⟩ := w_1_i h
    obtain ⟨b, t, rfl, h⟩ := w_1_i h
    obtain ⟨y, rfl, h⟩ := w_lng_i h
    obtain ⟨x, rfl, h⟩ := w_lng_i h
    exact V_lsub hd (hK _ _ _ _ _ _ _ h)
  | lmul =>
    have e : l = 1 := hln rfl
    subst e
    obtain ⟨a, t, rfl, h⟩ := w_1_i h
    obtain ⟨b, t, rfl, h⟩ := w_1_i h
    obtain ⟨y, rfl, h⟩ := w_lng_i h
    obtain ⟨x, rfl, h⟩ := w_lng_i h
    exact V_lmul hd (hK _ _ _ _ _ _ _ h)
  | land =>
    have e : l = 1 := hln rfl
    subst e
    obtain ⟨a, t, rfl, h⟩ := w_1_i h
    obtain ⟨b, t, rfl, h⟩ := w_1_i h
    obtain ⟨y, rfl, h⟩ := w_lng_i h
    obtain ⟨x, rfl, h⟩ := w_lng_i h
    exact V_land hd (hK _ _ _ _ _ _ _ h)
  | lor =>
    have e : l = 1 := hln rfl
    subst e
    obtain ⟨a, t, rfl, h⟩ := w_1_i h
    obtain ⟨b, t, rfl, h⟩ := w_1_i h
    obtain ⟨y, rfl, h⟩ := w_lng_i h
    obtain ⟨x, rfl, h⟩ := w_lng_i h
    exact V_lor hd (hK _ _ _ _ _ _ _ h)
  | lxor =>
    have e : l = 1 := hln rfl
    subst e
    obtain ⟨a, t, rfl, h⟩ := w_1_i h
    obtain ⟨b, t, rfl, h⟩ := w_1_i h
    obtain ⟨y, rfl, h⟩ := w_lng_i h
    obtain ⟨x, rfl, h⟩ := w_lng_i h
    exact V_lxor hd (hK _ _ _ _ _ _ _ h)
  | ldiv =>
    have e : l = 1 := hln rfl
    subst e
    obtain ⟨a, t, rfl, h⟩ := w_1_i h
    obtain ⟨b, t, rfl, h⟩ := w_1_i h
    obtain ⟨y, rfl, h⟩ := w_lng_i h
    obtain ⟨x, rfl, h⟩ := w_lng_i h
    exact V_ldiv hd h.1 (hK _ _ _ _ _ _ _ h.2)
  | lrem =>
    have e : l = 1 := hln rfl
    subst e
    obtain ⟨a, t, rfl, h⟩ := w_1_i h
    obtain ⟨b, t, rfl, h⟩ := w_1_i h
    obtain ⟨y, rfl, h⟩ := w_lng_i h
    obtain ⟨x, rfl, h⟩ := w_lng_i h
    exact V_lrem hd h.1 (hK _ _ _ _ _ _ _ h.2)
  | lshl =>
    have e : l = 1 := hln rfl
    subst e
    obtain ⟨a, t, rfl, h⟩ := w_1_i h
    obtain ⟨b, t, rfl, h⟩ := w_1_i h
    obtain ⟨y, rfl, h⟩ := w_int_i h
    obtain ⟨x, rfl, h⟩ := w_lng_i h
    exact V_lshl hd (hK _ _ _ _ _ _ _ h)
  | lshr =>
    have e : l = 1 := hln rfl
    subst e
    obtain ⟨a, t, rfl, h⟩ := w_1_i h
    obtain ⟨b, t, rfl, h⟩ := w_1_i h
    obtain ⟨y, rfl, h⟩ := w_int_i h
    obtain ⟨x, rfl, h⟩ := w_lng_i h
    exact V_lshr hd (hK _ _ _ _ _ _ _ h)
  | lushr =>
    have e : l = 1 := hln rfl
    subst e
    obtain ⟨a, t, rfl, h⟩ := w_1_i h
    obtain ⟨b, t, rfl, h⟩ := w_1_i h
    obtain ⟨y, rfl, h⟩ := w_int_i h
    obtain ⟨x, rfl, h⟩ := w_lng_i h
    exact V_lushr hd (hK _ _ _ _ _ _ _ h)
  | lcmp =>
    have e : l = 1 := hln rfl
    subst e
    obtain ⟨a, t, rfl, h⟩ := w_1_i h
    obtain ⟨b, t, rfl, h⟩ := w_1_i h
    obtain ⟨y, rfl, h⟩ := w_lng_i h
    obtain ⟨x, rfl, h⟩ := w_lng_i h
    exact V_lcmp hd (hK _ _ _ _ _ _ _ h)
  | i2l =>
    have e : l = 1 := hln rfl
    subst e
    obtain ⟨v, t, rfl, h⟩ := w_1_i h
    obtain ⟨x, rfl, h⟩ := w_int_i h
    exact V_i2l hd (hK _ _ _ _ _ _ _ h)
  | l2i =>
    have e : l = 1 := hln rfl
    subst e
    obtain ⟨v, t, rfl, h⟩ := w_1_i h
    obtain ⟨x, rfl, h⟩ := w_lng_i h
    exact V_l2i hd (hK _ _ _ _ _ _ _ h)
  | dup =>
    have e : l = 1 := hln rfl
    subst e
    obtain ⟨v, t, rfl, h⟩ := w_1_i h
    exact V_dup hd h.1 (hK _ _ _ _ _ _ _ h.2)
  | dup2 =>
    have e : l = 1 := hln rfl
    subst e
    obtain ⟨v, t, rfl, h⟩ := w_1_i h
    obtain ⟨w, t, rfl, h⟩ := w_1_i h
    exact V_dup2 hd h.1 h.2.1 (hK _ _ _ _ _ _ _ h.2.2)
  | pop =>
    have e : l = 1 := hln rfl
    subst e
    obtain ⟨v, t, rfl, h⟩ := w_1_i h
    exact V_pop hd h.1 (hK _ _ _ _ _ _ _ h.2)
  | ifCond c off =>
    have e : l = 3 := hln rfl
    subst e
    have ht : (pc : Int) + off = (am_tg pc off : Nat) := by have := of_decide_eq_true hs2; unfold am_tg; omega
    cases c with
    | eq =>
      obtain ⟨v, t, rfl, h⟩ := w_1_i h
      obtain ⟨x, rfl, h⟩ := w_int_i h
      exact V_if_eq hd ht ⟨fun q => hK _ _ _ _ _ _ _ (h.1 q), fun q => hK _ _ _ _ _ _ _ (h.2 q)⟩
    | ne =>
      obtain ⟨v, t, rfl, h⟩ := w_1_i h
      obtain ⟨x, rfl, h⟩ := w_int_i h
      exact V_if_ne hd ht ⟨fun q => hK _ _ _ _ _ _ _ (h.1 q), fun q => hK _ _ _ _ _ _ _ (h.2 q)⟩
    | lt =>
      obtain ⟨v, t, rfl, h⟩ := w_1_i h
      obtain ⟨x, rfl, h⟩ := w_int_i h
      exact V_if_lt hd ht ⟨fun q => hK _ _ _ _ _ _ _ (h.1 q), fun q => hK _ _ _ _ _ _ _ (h.2 q)⟩
    | ge =>
      obtain ⟨v, t, rfl, h⟩ := w_1_i h
      obtain ⟨x, rfl, h⟩ := w_int_i h
      exact V_if_ge hd ht ⟨fun q => hK _ _ _ _ _ _ _ (h.1 q), fun q => hK _ _ _ _ _ _ _ (h.2 q)⟩
    | gt =>
      obtain ⟨v, t, rfl, h⟩ := w_1_i h
      obtain ⟨x, rfl, h⟩ := w_int_i h
      exact V_if_gt hd ht ⟨fun q => hK _ _ _ _ _ _ _ (h.1 q), fun q => hK _ _ _ _ _ _ _ (h.2 q)⟩
    | le =>
      obtain ⟨v, t, rfl, h⟩ := w_1_i h
      obtain ⟨x, rfl, h⟩ := w_int_i h
      exact V_if_le hd ht ⟨fun q => hK _ _ _ _ _ _ _ (h.1 q), fun q => hK _ _ _ _ _ _ _ (h.2 q)⟩
  | if_icmp c off =>
    have e : l = 3 := hln rfl
    subst e
    have ht : (pc : Int) + off = (am_tg pc off : Nat) := by have := of_decide_eq_true hs2; unfold am_tg; omega
    cases c with
    | eq =>
      obtain ⟨a, t, rfl, h⟩ := w_1_i h
      obtain ⟨b, t, rfl, h⟩ := w_1_i h
      obtain ⟨y, rfl, h⟩ := w_int_i h
      obtain ⟨x, rfl, h⟩ := w_int_i h
      exact V_icmp_eq hd ht ⟨fun q => hK _ _ _ _ _ _ _ (h.1 q), fun q => hK _ _ _ _ _ _ _ (h.2 q)⟩
    | ne =>
      obtain ⟨a, t, rfl, h⟩ := w_1_i h
      obtain ⟨b, t, rfl, h⟩ := w_1_i h
      obtain ⟨y, rfl, h⟩ := w_int_i h
      obtain ⟨x, rfl, h⟩ := w_int_i h
      exact V_icmp_ne hd ht ⟨fun q => hK _ _ _ _ _ _ _ (h.1 q), fun q => hK _ _ _ _ _ _ _ (h.2 q)⟩
    | lt =>
      obtain ⟨a, t, rfl, h⟩ := w_1_i h
      obtain ⟨b, t, rfl, h⟩ := w_1_i h
      obtain ⟨y, rfl, h⟩ := w_int_i h
      obtain ⟨x, rfl, h⟩ := w_int_i h
      exact V_icmp_lt hd ht ⟨fun q => hK _ _ _ _ _ _ _ (h.1 q), fun q => hK _ _ _ _ _ _ _ (h.2 q)⟩
    | ge =>
      obtain ⟨a, t, rfl, h⟩ := w_1_i h
      obtain ⟨b, t, rfl, h⟩ := w_1_i h
      obtain ⟨y, rfl, h⟩ := w_int_i h
      obtain ⟨x, rfl, h⟩ := w_int_i h
      exact V_icmp_ge hd ht ⟨fun q => hK _ _ _ _ _ _ _ (h.1 q), fun q => hK _ _ _ _ _ _ _ (h.2 q)⟩
    | gt =>
      obtain ⟨a, t, rfl, h⟩ := w_1_i h
      obtain ⟨b, t, rfl, h⟩ := w_1_i h
      obtain ⟨y, rfl, h⟩ := w_int_i h
      obtain ⟨x, rfl, h⟩ := w_int_i h
      exact V_icmp_gt hd ht ⟨fun q => hK _ _ _ _ _ _ _ (h.1 q), fun q => hK _ _ _ _ _ _ _ (h.2 q)⟩
    | le =>
      obtain ⟨a, t, rfl, h⟩ := w_1_i h
      obtain ⟨b, t, rfl, h⟩ := w_1_i h
      obtain ⟨y, rfl, h⟩ := w_int_i h
      obtain ⟨x, rfl, h⟩ := w_int_i h
      exact V_icmp_le hd ht ⟨fun q => hK _ _ _ _ _ _ _ (h.1 q), fun q => hK _ _ _ _ _ _ _ (h.2 q)⟩
  | goto off =>
    have e : l = 3 := hln rfl
    subst e
    have ht : (pc : Int) + off = (am_tg pc off : Nat) := by have := of_decide_eq_true hs2; unfold am_tg; omega
    exact V_goto hd ht (hK _ _ _ _ _ _ _ h)
  | ifnull off =>
    have e : l = 3 := hln rfl
    subst e
    have ht : (pc : Int) + off = (am_tg pc off : Nat) := by have := of_decide_eq_true hs2; unfold am_tg; omega
    obtain ⟨v, t, rfl, h⟩ := w_1_i h
    obtain ⟨ha, hb, hc⟩ := h
    rcases hc with rfl | ⟨x, rfl⟩
    · exact V_ifnullN hd ht (hK _ _ _ _ _ _ _ (ha rfl))
    · exact V_ifnull hd (hK _ _ _ _ _ _ _ (hb x rfl))
  | tableswitch df lo hi offs =>
    obtain ⟨v, t, rfl, h⟩ := w_1_i h
    obtain ⟨x, rfl, h⟩ := w_int_i h
    simp only [Bool.and_eq_true, decide_eq_true_eq, List.all_eq_true] at hs2
    obtain ⟨⟨z1, z2⟩, z3⟩ := hs2
    refine V_tbl hd z1 (fun off tg ho ht => ?_) (fun off ho => by rcases ho with rfl | ho; · exact z2
                                                                  · exact z3 off ho)
    have e : tg = am_tg pc off := by unfold am_tg; omega
    rw [e]
    rcases ho with ⟨ho, hlo⟩ | ⟨ho, rfl⟩
    · refine hK _ _ _ _ _ _ _ (w_tbl_i _ _ h.1 _ _ ho ?_)
      have : lo + ((x.toInt - lo).toNat : Int) = x.toInt := by omega
      rw [this, Int32.ofInt_toInt]
    · exact hK _ _ _ _ _ _ _ (h.2 ho)
  | lookupswitch df ps =>
    obtain ⟨v, t, rfl, h⟩ := w_1_i h
    obtain ⟨x, rfl, h⟩ := w_int_i h
    simp only [Bool.and_eq_true, decide_eq_true_eq] at hs2
    obtain ⟨⟨z1, z2⟩, z3⟩ := hs2
    have z3 : ∀ q ∈ ps.toList, 0 ≤ (pc : Int) + q.2 := fun q hq => of_decide_eq_true (List.all_eq_true.mp z3 q hq)
    have key : ∀ l : List (Int × Int), (∀ q ∈ l, 0 ≤ (pc : Int) + q.2) → 0 ≤ (pc : Int) + Op.lookupswitch.offset l df x.toInt := by
      intro l
      induction l with
      | nil => intro _; exact z2
      | cons q t ih =>
        intro hq
        obtain ⟨a, b⟩ := q
        rw [Op.lookupswitch.offset_cons]
        by_cases e : a = x.toInt
        · rw [if_pos e]; exact hq (a, b) List.mem_cons_self
        · rw [if_neg e]; exact ih (fun q hq' => hq q (List.mem_cons_of_mem _ hq'))
    refine V_lkp hd z1 (key _ z3) (fun tg ht => ?_)
    have e : tg = am_tg pc (Op.lookupswitch.offset ps.toList df x.toInt) := by unfold am_tg; omega
    rw [e]
    exact hK _ _ _ _ _ _ _ (w_lks_i _ h)
  | ldc idx =>
    have e : l = 2 := hln rfl
    subst e
    obtain ⟨v, e1, h⟩ := w_lkp_i h
    exact V_ldc hd hown e1 (hK _ _ _ _ _ _ _ h)
  | ldc2_w idx =>
    have e : l = 3 := hln rfl
    subst e
    obtain ⟨v, e1, h⟩ := w_lkp_i h
    exact V_ldc2 hd hown e1 (hK _ _ _ _ _ _ _ h)
  | getfield idx =>
    have e : l = 3 := hln rfl
    subst e
    obtain ⟨e, e1, h⟩ := w_lkp_i h
    obtain ⟨ci, j, nb, tc, fin⟩ := e
    dsimp only at h
    obtain ⟨v, t, rfl, h⟩ := w_1_i h
    obtain ⟨k, rfl, h⟩ := w_ref_i h
    obtain ⟨fs, e2, h⟩ := w_obj_i h
    obtain ⟨v, e3, h⟩ := w_lkp_i h
    exact V_getfield hd hown e1 e2 e3 (hK _ _ _ _ _ _ _ h)
  | putfield idx =>
    have e : l = 3 := hln rfl
    subst e
    obtain ⟨e, e1, h⟩ := w_lkp_i h
    obtain ⟨ci, j, nb, tc, fin⟩ := e
    dsimp only at h
    obtain ⟨x, t, rfl, hA⟩ := w_1_i h
    obtain ⟨v, t, rfl, hB⟩ := w_1_i hA
    obtain ⟨k, rfl, hC⟩ := w_ref_i hB
    obtain ⟨fs, e2, h⟩ := w_obj_i hC
    simp only [e1] at hs2
    refine V_putfield hd hown e1 ?_ e2 h.1 h.2.1 (hK _ _ _ _ _ _ _ h.2.2)
    cases fin with
    | false => exact Or.inl rfl
    | true =>
      simp only [Bool.not_true, Bool.false_or, Bool.and_eq_true, decide_eq_true_eq, Bool.not_eq_true'] at hs2
      exact Or.inr ⟨hs2.1.1, hs2.1.2, hs2.2⟩
  | iaload =>
    have e : l = 1 := hln rfl
    subst e
    obtain ⟨a, t, rfl, h⟩ := w_1_i h
    obtain ⟨b, t, rfl, h⟩ := w_1_i h
    obtain ⟨i, rfl, h⟩ := w_int_i h
    obtain ⟨k, rfl, h⟩ := w_ref_i h
    rcases w_sar_i h with ⟨N, g, e1, h⟩ | ⟨fs, L, xs, e1, e2, h⟩
    · exact V_iaload hd e1 h.1 (hK _ _ _ _ _ _ _ h.2)
    · exact V_sload hd e1 e2 h.1 (hK _ _ _ _ _ _ _ h.2)
  | baload =>
    have e : l = 1 := hln rfl
    subst e
    obtain ⟨a, t, rfl, h⟩ := w_1_i h
    obtain ⟨b, t, rfl, h⟩ := w_1_i h
    obtain ⟨y, rfl, h⟩ := w_int_i h
    obtain ⟨x, rfl, h⟩ := w_ref_i h
    obtain ⟨N, g, e1, h⟩ := w_iar_i h
    exact V_baload hd e1 h.1 (hK _ _ _ _ _ _ _ h.2)
  | laload =>
    have e : l = 1 := hln rfl
    subst e
    obtain ⟨a, t, rfl, h⟩ := w_1_i h
    obtain ⟨b, t, rfl, h⟩ := w_1_i h
    obtain ⟨y, rfl, h⟩ := w_int_i h
    obtain ⟨x, rfl, h⟩ := w_ref_i h
    obtain ⟨N, g, e1, h⟩ := w_lar_i h
    exact V_laload hd e1 h.1 (hK _ _ _ _ _ _ _ h.2)
  | aaload =>
    have e : l = 1 := hln rfl
    subst e
    obtain ⟨a, t, rfl, h⟩ := w_1_i h
    obtain ⟨b, t, rfl, h⟩ := w_1_i h
    obtain ⟨y, rfl, h⟩ := w_int_i h
    obtain ⟨x, rfl, h⟩ := w_ref_i h
    obtain ⟨t, N, g, e1, h⟩ := w_qar_i h
    obtain ⟨ht, hin, h⟩ := h
    rcases ht with rfl | rfl
    · exact V_aaload3 hd e1 hin (hK _ _ _ _ _ _ _ h)
    · exact V_aaload4 hd e1 hin (hK _ _ _ _ _ _ _ h)
  | iastore =>
    have e : l = 1 := hln rfl
    subst e
    obtain ⟨a, t, rfl, h⟩ := w_1_i h
    obtain ⟨b, t, rfl, h⟩ := w_1_i h
    obtain ⟨e, t, rfl, h⟩ := w_1_i h
    obtain ⟨x, rfl, h⟩ := w_int_i h
    obtain ⟨i, rfl, h⟩ := w_int_i h
    obtain ⟨k, rfl, h⟩ := w_ref_i h
    obtain ⟨N, g, e1, h⟩ := w_iar_i h
    exact V_iastore hd e1 h.1 (hK _ _ _ _ _ _ _ h.2)
  | bastore =>
    have e : l = 1 := hln rfl
    subst e
    obtain ⟨a, t, rfl, h⟩ := w_1_i h
    obtain ⟨b, t, rfl, h⟩ := w_1_i h
    obtain ⟨e, t, rfl, h⟩ := w_1_i h
    obtain ⟨x, rfl, h⟩ := w_int_i h
    obtain ⟨i, rfl, h⟩ := w_int_i h
    obtain ⟨k, rfl, h⟩ := w_ref_i h
    obtain ⟨N, g, e1, h⟩ := w_iar_i h
    exact V_bastore hd e1 h.1 (hK _ _ _ _ _ _ _ h.2)
  | lastore =>
    have e : l = 1 := hln rfl
    subst e
    obtain ⟨a, t, rfl, h⟩ := w_1_i h
    obtain ⟨b, t, rfl, h⟩ := w_1_i h
    obtain ⟨e, t, rfl, h⟩ := w_1_i h
    obtain ⟨x, rfl, h⟩ := w_lng_i h
    obtain ⟨i, rfl, h⟩ := w_int_i h
    obtain ⟨k, rfl, h⟩ := w_ref_i h
    obtain ⟨N, g, e1, h⟩ := w_lar_i h
    exact V_lastore hd e1 h.1 (hK _ _ _ _ _ _ _ h.2)
  | aastore =>
    have e : l = 1 := hln rfl
    subst e
    obtain ⟨a, t, rfl, h⟩ := w_1_i h
    obtain ⟨b, t, rfl, h⟩ := w_1_i h
    obtain ⟨e, t, rfl, h⟩ := w_1_i h
    obtain ⟨x, rfl, h⟩ := w_ref_i h
    obtain ⟨i, rfl, h⟩ := w_int_i h
    obtain ⟨k, rfl, h⟩ := w_ref_i h
    obtain ⟨t, N, g, e1, h⟩ := w_qar_i h
    obtain ⟨⟨ci, fs, e2, hc⟩, hin, h⟩ := h
    rcases hc with ⟨rfl, rfl⟩ | ⟨rfl, rfl⟩
    · exact V_aastore3 hd e1 hin e2 (hK _ _ _ _ _ _ _ h)
    · exact V_aastore4 hd e1 hin e2 (hK _ _ _ _ _ _ _ h)
  | arraylength =>
    have e : l = 1 := hln rfl
    subst e
    obtain ⟨a, t, rfl, h⟩ := w_1_i h
    obtain ⟨k, rfl, h⟩ := w_ref_i h
    rcases w_len_i h with ⟨t', N, x, e1, e2, h⟩ | ⟨fs, L, xs, e1, e2, h⟩
    · exact V_alen hd e1 e2 (hK _ _ _ _ _ _ _ h)
    · exact V_slen hd e1 e2 (hK _ _ _ _ _ _ _ h)
  | new idx =>
    have e : l = 3 := hln rfl
    subst e
    obtain ⟨ci, e1, h⟩ := w_lkp_i h
    exact V_new hd hown e1 h.1 h.2.1 (hK _ _ _ _ _ _ _ h.2.2)
  | newarray t =>
    have e : l = 2 := hln rfl
    subst e
    cases t with
    | int =>
      obtain ⟨a, t, rfl, h⟩ := w_1_i h
      obtain ⟨x, rfl, h⟩ := w_int_i h
      obtain ⟨N, q1, q2, q3, q4, h⟩ := h
      exact V_newarrNi hd q1 q2 q3 q4 (hK _ _ _ _ _ _ _ h)
    | boolean =>
      obtain ⟨a, t, rfl, h⟩ := w_1_i h
      obtain ⟨x, rfl, h⟩ := w_int_i h
      obtain ⟨N, q1, q2, q3, q4, h⟩ := h
      exact V_newarrNz hd q1 q2 q3 q4 (hK _ _ _ _ _ _ _ h)
    | long =>
      obtain ⟨a, t, rfl, h⟩ := w_1_i h
      obtain ⟨x, rfl, h⟩ := w_int_i h
      obtain ⟨N, q1, q2, q3, q4, h⟩ := h
      exact V_newarrNl hd q1 q2 q3 q4 (hK _ _ _ _ _ _ _ h)
    | _ => exact (show False from h).elim
  | anewarray idx =>
    have e : l = 3 := hln rfl
    subst e
    obtain ⟨ci, e1, h⟩ := w_lkp_i h
    obtain ⟨a, t, rfl, h⟩ := w_1_i h
    obtain ⟨x, rfl, h⟩ := w_int_i h
    obtain ⟨N, t, q0, q1, q2, q3, q4, h⟩ := h
    rcases q0 with ⟨rfl, rfl⟩ | ⟨rfl, rfl⟩
    · exact V_anew3 hd hown e1 rfl q1 q2 q3 q4 (hK _ _ _ _ _ _ _ h)
    · exact V_anew4 hd hown e1 rfl q1 q2 q3 q4 (hK _ _ _ _ _ _ _ h)
  | invokevirtual idx =>
    have e : l = 3 := hln rfl
    subst e
    obtain ⟨⟨M', kd, na, ci⟩, e1, h⟩ := w_lkp_i h
    obtain ⟨rfl, h⟩ := h
    obtain ⟨⟨as, rest⟩, e2, h⟩ := w_lkp_i h
    obtain ⟨v, t, e3, h⟩ := w_1_i h
    obtain ⟨k, rfl, h⟩ := w_ref_i h
    obtain ⟨fs, e4, h⟩ := w_obj_i h
    obtain ⟨hc, hc1, hc2, h⟩ := h
    obtain ⟨pp, p1, p2, p3⟩ := am_take_spec _ _ _ _ _ e2
    dsimp only at e3 e4 h hc hc1 hc2
    have hst : st = as.reverse ++ .ref k :: t := by rw [p1, p2, e3]; simp
    rw [hst]
    obtain ⟨e', Q', ed, hC, hq⟩ := hCf _ _ _ _ _ _ _ h
    exact V_virt hd hown e1 (by rw [p2]; simp [p3]) e4 hc hc1 hc2 ⟨e', Q', ed, hC, fun r n' f' q => hK _ _ _ _ _ _ _ (hq r n' f' q)⟩
  | invokestatic idx =>
    have e : l = 3 := hln rfl
    subst e
    obtain ⟨⟨M', kd, na, ci⟩, e1, h⟩ := w_lkp_i h
    dsimp only at h
    have gen : (kd = 1 ∨ kd = 3) → w_lkp (am_take na [] st) (fun q => catS q.2 ≤ 8 ∧ w_cc M M' kc ks (fun kc ks => Cf (1000 * Mp M + idx) M' d q.1 n f (fun r n f => K kc ks (pc + 3) ls (r.toList ++ q.2) n f))) → Vj M d kc ks pc ls st n f Q := by
      intro hkd h
      obtain ⟨⟨as, rest⟩, e2, h⟩ := w_lkp_i h
      obtain ⟨hc, hc1, hc2, h⟩ := h
      obtain ⟨pp, p1, p2, p3⟩ := am_take_spec _ _ _ _ _ e2
      dsimp only at h hc
      have hst : st = as.reverse ++ rest := by rw [p1, p2]; simp
      rw [hst]
      obtain ⟨e', Q', ed, hC, hq⟩ := hCf _ _ _ _ _ _ _ h
      exact V_stat hd hown e1 hkd (by rw [p2]; simp [p3]) hc hc1 hc2 ⟨e', Q', ed, hC, fun r n' f' q => hK _ _ _ _ _ _ _ (hq r n' f' q)⟩
    match kd, e1, h, gen with
    | 1, e1, h, gen => exact gen (Or.inl rfl) h
    | 3, e1, h, gen => exact gen (Or.inr rfl) h
    | 5, e1, h, gen =>
      obtain ⟨hdd, hA⟩ := h
      obtain ⟨a, t, rfl, hB⟩ := w_1_i hA
      obtain ⟨b, t, rfl, hC⟩ := w_1_i hB
      obtain ⟨y, rfl, hD⟩ := w_int_i hC
      obtain ⟨x, rfl, hF⟩ := w_int_i hD
      exact V_max hd hown e1 hdd hF.1 (hK _ _ _ _ _ _ _ hF.2)
    | 6, e1, h, gen =>
      obtain ⟨hdd, hA⟩ := h
      obtain ⟨a, t, rfl, hB⟩ := w_1_i hA
      obtain ⟨b, t, rfl, hC⟩ := w_1_i hB
      obtain ⟨y, rfl, hD⟩ := w_int_i hC
      obtain ⟨x, rfl, hF⟩ := w_int_i hD
      exact V_min hd hown e1 hdd hF.1 (hK _ _ _ _ _ _ _ hF.2)
  | invokespecial idx =>
    have e : l = 3 := hln rfl
    subst e
    obtain ⟨⟨M', kd, na, ci⟩, e1, h⟩ := w_lkp_i h
    dsimp only at h
    match kd, e1, h with
    | 4, e1, h =>
      obtain ⟨v, t, rfl, h⟩ := w_1_i h
      obtain ⟨k, rfl, h⟩ := w_ref_i h
      exact V_objinit hd hown e1 h.1 h.2.1 (hK _ _ _ _ _ _ _ h.2.2)
    | 2, e1, h =>
      obtain ⟨⟨as, rest⟩, e2, h⟩ := w_lkp_i h
      obtain ⟨v, t, e3, h⟩ := w_1_i h
      obtain ⟨k, rfl, h⟩ := w_ref_i h
      obtain ⟨hc, hc1, hc2, h⟩ := h
      obtain ⟨pp, p1, p2, p3⟩ := am_take_spec _ _ _ _ _ e2
      dsimp only at e3 h hc hc1 hc2
      have hst : st = as.reverse ++ .ref k :: t := by rw [p1, p2, e3]; simp
      rw [hst]
      obtain ⟨e', Q', ed, hC, hq⟩ := hCf _ _ _ _ _ _ _ h
      exact V_spec hd hown e1 (by rw [p2]; simp [p3]) hc hc1 hc2 ⟨e', Q', ed, hC, fun r n' f' q => hK _ _ _ _ _ _ _ (hq r n' f' q)⟩
  | ireturn =>
    have e : l = 1 := hln rfl
    subst e
    obtain ⟨v, t, rfl, h⟩ := w_1_i h
    obtain ⟨rfl, h, hv⟩ := h
    obtain ⟨x, rfl, -⟩ := w_int_i hv
    refine V_ret (r := some (.int x)) ⟨?_, hd⟩ ?_
    · generalize Mr M = t at h
      match t, h with
      | some .int, h => exact Or.inl rfl
      | some .boolean, h => exact Or.inr ⟨rfl, h.1⟩
    · generalize Mr M = t at h
      match t, h with
      | some .int, h => exact h
      | some .boolean, h => exact h.2
  | lreturn =>
    have e : l = 1 := hln rfl
    subst e
    obtain ⟨v, t, rfl, h⟩ := w_1_i h
    obtain ⟨rfl, h, hv⟩ := h
    obtain ⟨x, rfl, -⟩ := w_lng_i hv
    refine V_ret (r := some (.long x)) ⟨?_, hd⟩ ?_
    · generalize Mr M = t at h
      match t, h with
      | some .long, h => rfl
    · generalize Mr M = t at h
      match t, h with
      | some .long, h => exact h
  | return_ =>
    have e : l = 1 := hln rfl
    subst e
    obtain ⟨rfl, hr, h⟩ := h
    exact V_ret (r := none) ⟨hr, hd⟩ h
  | _ => exact (show False from h).elim
/-- steps as one formula, up to the places S -/
def mem_ : Nat → List Nat → Bool
  | _, [] => false
  | x, y :: t => bif x == y then true else mem_ x t
def stp (Cf : Nat → Mt → Nat → List Value → Nat → (Nat → Ac) → Po → Prop) (M : Mt) (d : Nat) (o : Option Instr) (pc : Nat) (K : Kt) (Q : Po) (kc ks : Nat) (ls : Lo) (st : List Value) (n : Nat) (f : Nat → Ac) : Prop := match o with
  | some i => stepW Cf M d i pc K Q kc ks ls st n f
  | none => False
/-- calls of the methods J are walked in place, the others stand by contract -/
def am_ok (M : Mt) : Bool := plainName (My M).cls && decide (Mo M = (My M).cls) && (Msx M).isNone
def w_dep (d : Nat) (P : Nat → Prop) : Prop := match d with
  | 0 => False
  | e + 1 => P e
def w_cf (J : List Nat) (W : List Nat → Mt → Nat → Po → Kt) (key : Nat) (M' : Mt) (d : Nat) (as : List Value) (n : Nat) (f : Nat → Ac) (P : Po) : Prop := bif mem_ key J then w_dep d (fun e => am_ok M' = true ∧ catS as ≤ ML M' ∧ W [] M' e P 0 0 0 (am_en as) [] n f) else Cl M' d as n f P
def wp (J : List Nat) : Nat → List Nat → Mt → Nat → Po → Kt
  | 0 => fun _ M d Q kc ks pc ls st n f => Vj M d kc ks pc ls st n f Q
  | t + 1 => fun S M d Q kc ks pc ls st n f => bif mem_ pc S then Vj M d kc ks pc ls st n f Q else stp (w_cf J (wp J t)) M d (ins M pc) pc (wp J t S M d Q) Q kc ks ls st n f
theorem catS_sl : ∀ as : List Value, (lg_sl as).length = catS as
  | [] => rfl
  | v :: t => by
    have := catS_sl t
    simp only [lg_sl, List.flatMap_cons, List.length_append] at this ⊢
    rw [this]
    cases v <;> simp [catS, Value.category] <;> omega
theorem w_cf_Cl {J : List Nat} {W : List Nat → Mt → Nat → Po → Kt} (hW : ∀ S M d Q kc ks pc ls st n f, W S M d Q kc ks pc ls st n f → Vj M d kc ks pc ls st n f Q) (key : Nat) (M' : Mt) (d : Nat) (as : List Value) (n : Nat) (f : Nat → Ac) (P : Po) (h : w_cf J W key M' d as n f P) : Cl M' d as n f P := by
  unfold w_cf at h
  cases hm : mem_ key J with
  | false => rw [hm] at h; exact h
  | true =>
    rw [hm] at h
    cases d with
    | zero => exact (show False from h).elim
    | succ e =>
      obtain ⟨h1, h2, h3⟩ := h
      simp only [am_ok, Bool.and_eq_true, decide_eq_true_eq, Option.isNone_iff_eq_none] at h1
      exact ⟨e, P, rfl, Ct.of h1.1.1 h1.1.2 h1.2 (by rw [catS_sl]; exact h2) (hW _ _ _ _ _ _ _ _ _ _ _ h3), fun _ _ _ q => q⟩
theorem wp_sound {J : List Nat} : ∀ (t : Nat) (S : List Nat) (M : Mt) (d : Nat) (Q : Po) (kc ks pc : Nat) (ls : Lo) (st : List Value) (n : Nat) (f : Nat → Ac), wp J t S M d Q kc ks pc ls st n f → Vj M d kc ks pc ls st n f Q
  | 0, _, _, _, _, _, _, _, _, _, _, _, h => h
  | t + 1, S, M, d, Q, kc, ks, pc, ls, st, n, f, h => by
    unfold wp at h
    cases hm : mem_ pc S with
    | true => rw [hm] at h; exact h
    | false =>
      rw [hm] at h
      cases hi : ins M pc with
      | none => simp only [hi, cond_false, stp] at h
      | some i =>
        simp only [hi, cond_false, stp] at h
        exact am_step (w_cf_Cl (wp_sound t)) hi (wp_sound t S M d Q) h
theorem Vj.wp {M : Mt} {d : Nat} {Q : Po} {kc ks pc : Nat} {ls : Lo} {st : List Value} {n : Nat} {f : Nat → Ac} (J : List Nat) (t : Nat) (S : List Nat) (h : stp (w_cf J (wp J t)) M d (ins M pc) pc (wp J t S M d Q) Q kc ks ls st n f) : Vj M d kc ks pc ls st n f Q := by
  cases hi : ins M pc with
  | none => simp only [hi, stp] at h
  | some i =>
    simp only [hi, stp] at h
    exact am_step (w_cf_Cl (wp_sound t)) hi (wp_sound t S M d Q) h
theorem Cl.mk {M' : Mt} {e : Nat} {as : List Value} {n : Nat} {f : Nat → Ac} {P : Option Value → Nat → (Nat → Ac) → Prop} {Q' : Po} (h : Ct M' e as n f Q') (hq : ∀ r n' f', Q' r n' f' → P r n' f') : Cl M' (e + 1) as n f P := ⟨e, Q', rfl, h, hq⟩

/-- plain ends -/
def pI (v : Int32) (n : Nat) (f : Nat → Ac) : Po := fun r n' f' => r = some (.int v) ∧ n' = n ∧ f' = f
def pL (v : Int64) (n : Nat) (f : Nat → Ac) : Po := fun r n' f' => r = some (.long v) ∧ n' = n ∧ f' = f
def pV (n : Nat) (f : Nat → Ac) : Po := fun r n' f' => r = none ∧ n' = n ∧ f' = f
theorem Cl.I {M' : Mt} {e : Nat} {as : List Value} {n n' : Nat} {f f' : Nat → Ac} {P : Option Value → Nat → (Nat → Ac) → Prop} {v : Int32} (h : Ct M' e as n f (pI v n' f')) (hp : P (some (.int v)) n' f') : Cl M' (e + 1) as n f P := ⟨e, _, rfl, h, fun r m g q => by obtain ⟨rfl, rfl, rfl⟩ := q; exact hp⟩
theorem Cl.L {M' : Mt} {e : Nat} {as : List Value} {n n' : Nat} {f f' : Nat → Ac} {P : Option Value → Nat → (Nat → Ac) → Prop} {v : Int64} (h : Ct M' e as n f (pL v n' f')) (hp : P (some (.long v)) n' f') : Cl M' (e + 1) as n f P := ⟨e, _, rfl, h, fun r m g q => by obtain ⟨rfl, rfl, rfl⟩ := q; exact hp⟩
theorem Cl.V {M' : Mt} {e : Nat} {as : List Value} {n n' : Nat} {f f' : Nat → Ac} {P : Option Value → Nat → (Nat → Ac) → Prop} (h : Ct M' e as n f (pV n' f')) (hp : P none n' f') : Cl M' (e + 1) as n f P := ⟨e, _, rfl, h, fun r m g q => by obtain ⟨rfl, rfl, rfl⟩ := q; exact hp⟩

