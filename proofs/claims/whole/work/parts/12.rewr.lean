section Sw
variable {Cf : Nat → Mt → Nat → List Value → Nat → (Nat → Ac) → Po → Prop} {M : Mt} {d pc : Nat} {K : Kt} {Q : Po} {kc ks : Nat} {ls : Lo} {st : List Value} {n : Nat} {f : Nat → Ac}
theorem sw_iconst {v : Int} : stepW Cf M d (.iconst v) pc K Q kc ks ls (st) n f = (K kc ks (pc + 1) ls (.int (Int32.ofInt v) :: st) n f) := (rfl)
theorem sw_bipush {v : Int} : stepW Cf M d (.bipush v) pc K Q kc ks ls (st) n f = (K kc ks (pc + 2) ls (.int (Int8.ofInt v).toInt32 :: st) n f) := (rfl)
theorem sw_sipush {v : Int} : stepW Cf M d (.sipush v) pc K Q kc ks ls (st) n f = (K kc ks (pc + 3) ls (.int (Int16.ofInt v).toInt32 :: st) n f) := (rfl)
theorem sw_lconst {v : Fin 2} : stepW Cf M d (.lconst v) pc K Q kc ks ls (st) n f = (K kc ks (pc + 1) ls (.long (Int64.ofNat (v : Nat)) :: st) n f) := (rfl)
theorem sw_iload {j : Nat} : stepW Cf M d (.iload j) pc K Q kc ks ls (st) n f = (w_ld (ld ls j) (fun v => w_int v (fun x => K kc ks (pc + 2) ls (.int x :: st) n f))) := (rfl)
theorem sw_iload_n {j : Fin 4} : stepW Cf M d (.iload_n j) pc K Q kc ks ls (st) n f = (w_ld (ld ls j) (fun v => w_int v (fun x => K kc ks (pc + 1) ls (.int x :: st) n f))) := (rfl)
theorem sw_lload {j : Nat} : stepW Cf M d (.lload j) pc K Q kc ks ls (st) n f = (w_ld (ld ls j) (fun v => w_lng v (fun x => K kc ks (pc + 2) ls (.long x :: st) n f))) := (rfl)
theorem sw_lload_n {j : Fin 4} : stepW Cf M d (.lload_n j) pc K Q kc ks ls (st) n f = (w_ld (ld ls j) (fun v => w_lng v (fun x => K kc ks (pc + 1) ls (.long x :: st) n f))) := (rfl)
theorem sw_aload {j : Nat} : stepW Cf M d (.aload j) pc K Q kc ks ls (st) n f = (w_ld (ld ls j) (fun v => w_ref v (fun x => K kc ks (pc + 2) ls (.ref x :: st) n f))) := (rfl)
theorem sw_aload_n {j : Fin 4} : stepW Cf M d (.aload_n j) pc K Q kc ks ls (st) n f = (w_ld (ld ls j) (fun v => w_ref v (fun x => K kc ks (pc + 1) ls (.ref x :: st) n f))) := (rfl)
theorem sw_istore {j : Nat} {x : Int32} : stepW Cf M d (.istore j) pc K Q kc ks ls (.int x :: st) n f = (K kc ks (pc + 2) (st1 ls j (.int x)) st n f) := (rfl)
theorem sw_istore_n {j : Fin 4} {x : Int32} : stepW Cf M d (.istore_n j) pc K Q kc ks ls (.int x :: st) n f = (K kc ks (pc + 1) (st1 ls j (.int x)) st n f) := (rfl)
theorem sw_astore {j : Nat} {x : Nat} : stepW Cf M d (.astore j) pc K Q kc ks ls (.ref x :: st) n f = (K kc ks (pc + 2) (st1 ls j (.ref x)) st n f) := (rfl)
theorem sw_astore_n {j : Fin 4} {x : Nat} : stepW Cf M d (.astore_n j) pc K Q kc ks ls (.ref x :: st) n f = (K kc ks (pc + 1) (st1 ls j (.ref x)) st n f) := (rfl)
theorem sw_lstore {j : Nat} {x : Int64} : stepW Cf M d (.lstore j) pc K Q kc ks ls (.long x :: st) n f = (K kc ks (pc + 2) (st2 ls j (.long x)) st n f) := (rfl)
theorem sw_lstore_n {j : Fin 4} {x : Int64} : stepW Cf M d (.lstore_n j) pc K Q kc ks ls (.long x :: st) n f = (K kc ks (pc + 1) (st2 ls j (.long x)) st n f) := (rfl)
theorem sw_iinc {j : Nat} {v : Int} : stepW Cf M d (.iinc j v) pc K Q kc ks ls (st) n f = (w_ld (ld ls j) (fun a => w_int a (fun x => K kc ks (pc + 3) (st1 ls j (.int (x + Int32.ofInt v))) st n f))) := (rfl)
theorem sw_iadd {x y : Int32} : stepW Cf M d (.iadd) pc K Q kc ks ls (.int y :: .int x :: st) n f = (K kc ks (pc + 1) ls (.int (x + y) :: st) n f) := (rfl)
theorem sw_isub {x y : Int32} : stepW Cf M d (.isub) pc K Q kc ks ls (.int y :: .int x :: st) n f = (K kc ks (pc + 1) ls (.int (x - y) :: st) n f) := (rfl)
theorem sw_imul {x y : Int32} : stepW Cf M d (.imul) pc K Q kc ks ls (.int y :: .int x :: st) n f = (K kc ks (pc + 1) ls (.int (x * y) :: st) n f) := (rfl)
theorem sw_iand {x y : Int32} : stepW Cf M d (.iand) pc K Q kc ks ls (.int y :: .int x :: st) n f = (K kc ks (pc + 1) ls (.int (x &&& y) :: st) n f) := (rfl)
theorem sw_ior {x y : Int32} : stepW Cf M d (.ior) pc K Q kc ks ls (.int y :: .int x :: st) n f = (K kc ks (pc + 1) ls (.int (x ||| y) :: st) n f) := (rfl)
theorem sw_ixor {x y : Int32} : stepW Cf M d (.ixor) pc K Q kc ks ls (.int y :: .int x :: st) n f = (K kc ks (pc + 1) ls (.int (x ^^^ y) :: st) n f) := (rfl)
theorem sw_ishl {x y : Int32} : stepW Cf M d (.ishl) pc K Q kc ks ls (.int y :: .int x :: st) n f = (K kc ks (pc + 1) ls (.int (x <<< (y &&& 31)) :: st) n f) := (rfl)
theorem sw_ishr {x y : Int32} : stepW Cf M d (.ishr) pc K Q kc ks ls (.int y :: .int x :: st) n f = (K kc ks (pc + 1) ls (.int (x >>> (y &&& 31)) :: st) n f) := (rfl)
theorem sw_idiv {x y : Int32} : stepW Cf M d (.idiv) pc K Q kc ks ls (.int y :: .int x :: st) n f = ((¬ y = 0) ∧ K kc ks (pc + 1) ls (.int (x / y) :: st) n f) := (rfl)
theorem sw_irem {x y : Int32} : stepW Cf M d (.irem) pc K Q kc ks ls (.int y :: .int x :: st) n f = ((¬ y = 0) ∧ K kc ks (pc + 1) ls (.int (x - x / y * y) :: st) n f) := (rfl)
theorem sw_ladd {x y : Int64} : stepW Cf M d (.ladd) pc K Q kc ks ls (.long y :: .long x :: st) n f = (K kc ks (pc + 1) ls (.long (x + y) :: st) n f) := (rfl)
theorem sw_lsub {x y : Int64} : stepW Cf M d (.lsub) pc K Q kc ks ls (.long y :: .long x :: st) n f = (K kc ks (pc + 1) ls (.long (x - y) :: st) n f) := (rfl)
theorem sw_lmul {x y : Int64} : stepW Cf M d (.lmul) pc K Q kc ks ls (.long y :: .long x :: st) n f = (K kc ks (pc + 1) ls (.long (x * y) :: st) n f) := (rfl)
theorem sw_land {x y : Int64} : stepW Cf M d (.land) pc K Q kc ks ls (.long y :: .long x :: st) n f = (K kc ks (pc + 1) ls (.long (x &&& y) :: st) n f) := (rfl)
theorem sw_lor {x y : Int64} : stepW Cf M d (.lor) pc K Q kc ks ls (.long y :: .long x :: st) n f = (K kc ks (pc + 1) ls (.long (x ||| y) :: st) n f) := (rfl)
theorem sw_lxor {x y : Int64} : stepW Cf M d (.lxor) pc K Q kc ks ls (.long y :: .long x :: st) n f = (K kc ks (pc + 1) ls (.long (x ^^^ y) :: st) n f) := (rfl)
theorem sw_ldiv {x y : Int64} : stepW Cf M d (.ldiv) pc K Q kc ks ls (.long y :: .long x :: st) n f = ((¬ y = 0) ∧ K kc ks (pc + 1) ls (.long (x / y) :: st) n f) := (rfl)
theorem sw_lrem {x y : Int64} : stepW Cf M d (.lrem) pc K Q kc ks ls (.long y :: .long x :: st) n f = ((¬ y = 0) ∧ K kc ks (pc + 1) ls (.long (x - x / y * y) :: st) n f) := (rfl)
theorem sw_lshl {x : Int64} {y : Int32} : stepW Cf M d (.lshl) pc K Q kc ks ls (.int y :: .long x :: st) n f = (K kc ks (pc + 1) ls (.long (x <<< (y.toInt64 &&& 63)) :: st) n f) := (rfl)
theorem sw_lshr {x : Int64} {y : Int32} : stepW Cf M d (.lshr) pc K Q kc ks ls (.int y :: .long x :: st) n f = (K kc ks (pc + 1) ls (.long (x >>> (y.toInt64 &&& 63)) :: st) n f) := (rfl)
theorem sw_lushr {x : Int64} {y : Int32} : stepW Cf M d (.lushr) pc K Q kc ks ls (.int y :: .long x :: st) n f = (K kc ks (pc + 1) ls (.long ((x.toUInt64 >>> (y.toInt64.toUInt64 &&& Int64.toUInt64 63)).toInt64) :: st) n f) := (rfl)
theorem sw_lcmp {x y : Int64} : stepW Cf M d (.lcmp) pc K Q kc ks ls (.long y :: .long x :: st) n f = (K kc ks (pc + 1) ls (.int (lg_cmp x y) :: st) n f) := (rfl)
theorem sw_i2l {x : Int32} : stepW Cf M d (.i2l) pc K Q kc ks ls (.int x :: st) n f = (K kc ks (pc + 1) ls (.long x.toInt64 :: st) n f) := (rfl)
theorem sw_l2i {x : Int64} : stepW Cf M d (.l2i) pc K Q kc ks ls (.long x :: st) n f = (K kc ks (pc + 1) ls (.int x.toInt32 :: st) n f) := (rfl)
theorem sw_dup_i {x : Int32} : stepW Cf M d .dup pc K Q kc ks ls (.int x :: st) n f = K kc ks (pc + 1) ls (.int x :: .int x :: st) n f := propext ⟨fun h => h.2, fun h => ⟨rfl, h⟩⟩
theorem sw_dup_a {x : Nat} : stepW Cf M d .dup pc K Q kc ks ls (.ref x :: st) n f = K kc ks (pc + 1) ls (.ref x :: .ref x :: st) n f := propext ⟨fun h => h.2, fun h => ⟨rfl, h⟩⟩
theorem sw_dup2 {x : Int32} {k : Nat} : stepW Cf M d .dup2 pc K Q kc ks ls (.int x :: .ref k :: st) n f = K kc ks (pc + 1) ls (.int x :: .ref k :: .int x :: .ref k :: st) n f := propext ⟨fun h => h.2.2, fun h => ⟨rfl, rfl, h⟩⟩
theorem sw_pop {x : Int32} : stepW Cf M d .pop pc K Q kc ks ls (.int x :: st) n f = K kc ks (pc + 1) ls st n f := propext ⟨fun h => h.2, fun h => ⟨rfl, h⟩⟩
theorem sw_if_eq {x : Int32} {off : Int} : stepW Cf M d (.ifCond .eq off) pc K Q kc ks ls (.int x :: st) n f = (if x = 0 then K kc ks (am_tg pc off) ls st n f else K kc ks (pc + 3) ls st n f) := by
  by_cases h : x = 0
  · rw [if_pos h]; exact propext ⟨fun q => q.1 h, fun q => ⟨fun _ => q, fun z => absurd h z⟩⟩
  · rw [if_neg h]; exact propext ⟨fun q => q.2 h, fun q => ⟨fun z => absurd z h, fun _ => q⟩⟩
theorem sw_if_ne {x : Int32} {off : Int} : stepW Cf M d (.ifCond .ne off) pc K Q kc ks ls (.int x :: st) n f = (if x = 0 then K kc ks (pc + 3) ls st n f else K kc ks (am_tg pc off) ls st n f) := by
  by_cases h : x = 0
  · rw [if_pos h]; exact propext ⟨fun q => q.2 h, fun q => ⟨fun z => absurd h z, fun _ => q⟩⟩
  · rw [if_neg h]; exact propext ⟨fun q => q.1 h, fun q => ⟨fun _ => q, fun z => absurd z h⟩⟩
theorem sw_if_lt {x : Int32} {off : Int} : stepW Cf M d (.ifCond .lt off) pc K Q kc ks ls (.int x :: st) n f = (if x < 0 then K kc ks (am_tg pc off) ls st n f else K kc ks (pc + 3) ls st n f) := by
  by_cases h : x < 0
  · rw [if_pos h]; exact propext ⟨fun q => q.1 h, fun q => ⟨fun _ => q, fun z => absurd h z⟩⟩
  · rw [if_neg h]; exact propext ⟨fun q => q.2 h, fun q => ⟨fun z => absurd z h, fun _ => q⟩⟩
theorem sw_if_ge {x : Int32} {off : Int} : stepW Cf M d (.ifCond .ge off) pc K Q kc ks ls (.int x :: st) n f = (if 0 ≤ x then K kc ks (am_tg pc off) ls st n f else K kc ks (pc + 3) ls st n f) := by
  by_cases h : 0 ≤ x
  · rw [if_pos h]; exact propext ⟨fun q => q.1 h, fun q => ⟨fun _ => q, fun z => absurd h z⟩⟩
  · rw [if_neg h]; exact propext ⟨fun q => q.2 h, fun q => ⟨fun z => absurd z h, fun _ => q⟩⟩
theorem sw_if_gt {x : Int32} {off : Int} : stepW Cf M d (.ifCond .gt off) pc K Q kc ks ls (.int x :: st) n f = (if 0 < x then K kc ks (am_tg pc off) ls st n f else K kc ks (pc + 3) ls st n f) := by
  by_cases h : 0 < x
  · rw [if_pos h]; exact propext ⟨fun q => q.1 h, fun q => ⟨fun _ => q, fun z => absurd h z⟩⟩
  · rw [if_neg h]; exact propext ⟨fun q => q.2 h, fun q => ⟨fun z => absurd z h, fun _ => q⟩⟩
theorem sw_if_le {x : Int32} {off : Int} : stepW Cf M d (.ifCond .le off) pc K Q kc ks ls (.int x :: st) n f = (if x ≤ 0 then K kc ks (am_tg pc off) ls st n f else K kc ks (pc + 3) ls st n f) := by
  by_cases h : x ≤ 0
  · rw [if_pos h]; exact propext ⟨fun q => q.1 h, fun q => ⟨fun _ => q, fun z => absurd h z⟩⟩
  · rw [if_neg h]; exact propext ⟨fun q => q.2 h, fun q => ⟨fun z => absurd z h, fun _ => q⟩⟩
theorem sw_ic_eq {x y : Int32} {off : Int} : stepW Cf M d (.if_icmp .eq off) pc K Q kc ks ls (.int y :: .int x :: st) n f = (if x = y then K kc ks (am_tg pc off) ls st n f else K kc ks (pc + 3) ls st n f) := by
  by_cases h : x = y
  · rw [if_pos h]; exact propext ⟨fun q => q.1 h, fun q => ⟨fun _ => q, fun z => absurd h z⟩⟩
  · rw [if_neg h]; exact propext ⟨fun q => q.2 h, fun q => ⟨fun z => absurd z h, fun _ => q⟩⟩
theorem sw_ic_ne {x y : Int32} {off : Int} : stepW Cf M d (.if_icmp .ne off) pc K Q kc ks ls (.int y :: .int x :: st) n f = (if x = y then K kc ks (pc + 3) ls st n f else K kc ks (am_tg pc off) ls st n f) := by
  by_cases h : x = y
  · rw [if_pos h]; exact propext ⟨fun q => q.2 h, fun q => ⟨fun z => absurd h z, fun _ => q⟩⟩
  · rw [if_neg h]; exact propext ⟨fun q => q.1 h, fun q => ⟨fun _ => q, fun z => absurd z h⟩⟩
theorem sw_ic_lt {x y : Int32} {off : Int} : stepW Cf M d (.if_icmp .lt off) pc K Q kc ks ls (.int y :: .int x :: st) n f = (if x < y then K kc ks (am_tg pc off) ls st n f else K kc ks (pc + 3) ls st n f) := by
  by_cases h : x < y
  · rw [if_pos h]; exact propext ⟨fun q => q.1 h, fun q => ⟨fun _ => q, fun z => absurd h z⟩⟩
  · rw [if_neg h]; exact propext ⟨fun q => q.2 h, fun q => ⟨fun z => absurd z h, fun _ => q⟩⟩
theorem sw_ic_ge {x y : Int32} {off : Int} : stepW Cf M d (.if_icmp .ge off) pc K Q kc ks ls (.int y :: .int x :: st) n f = (if y ≤ x then K kc ks (am_tg pc off) ls st n f else K kc ks (pc + 3) ls st n f) := by
  by_cases h : y ≤ x
  · rw [if_pos h]; exact propext ⟨fun q => q.1 h, fun q => ⟨fun _ => q, fun z => absurd h z⟩⟩
  · rw [if_neg h]; exact propext ⟨fun q => q.2 h, fun q => ⟨fun z => absurd z h, fun _ => q⟩⟩
theorem sw_ic_gt {x y : Int32} {off : Int} : stepW Cf M d (.if_icmp .gt off) pc K Q kc ks ls (.int y :: .int x :: st) n f = (if y < x then K kc ks (am_tg pc off) ls st n f else K kc ks (pc + 3) ls st n f) := by
  by_cases h : y < x
  · rw [if_pos h]; exact propext ⟨fun q => q.1 h, fun q => ⟨fun _ => q, fun z => absurd h z⟩⟩
  · rw [if_neg h]; exact propext ⟨fun q => q.2 h, fun q => ⟨fun z => absurd z h, fun _ => q⟩⟩
theorem sw_ic_le {x y : Int32} {off : Int} : stepW Cf M d (.if_icmp .le off) pc K Q kc ks ls (.int y :: .int x :: st) n f = (if x ≤ y then K kc ks (am_tg pc off) ls st n f else K kc ks (pc + 3) ls st n f) := by
  by_cases h : x ≤ y
  · rw [if_pos h]; exact propext ⟨fun q => q.1 h, fun q => ⟨fun _ => q, fun z => absurd h z⟩⟩
  · rw [if_neg h]; exact propext ⟨fun q => q.2 h, fun q => ⟨fun z => absurd z h, fun _ => q⟩⟩
theorem w_ite {c : Prop} [Decidable c] {A B : Prop} : (if c then A else B) = ((c → A) ∧ (¬ c → B)) := by
  by_cases h : c
  · rw [if_pos h]; exact propext ⟨fun q => ⟨fun _ => q, fun z => absurd h z⟩, fun q => q.1 h⟩
  · rw [if_neg h]; exact propext ⟨fun q => ⟨fun z => absurd z h, fun _ => q⟩, fun q => q.2 h⟩
theorem lsub_n {ls : Lo} : lsub ls [] := by cases ls <;> exact trivial
theorem lsub_s {x : Option Value} {t u : Lo} (h : lsub t u) : lsub (x :: t) (x :: u) := ⟨Or.inr rfl, h⟩
theorem lsub_o {x : Option Value} {t u : Lo} (h : lsub t u) : lsub (x :: t) (none :: u) := ⟨Or.inl rfl, h⟩
theorem lsub_z {u : Lo} (h : lsub [] u) : lsub [] (none :: u) := ⟨rfl, h⟩
theorem sw_goto {off : Int} : stepW Cf M d (.goto off) pc K Q kc ks ls (st) n f = (K kc ks (am_tg pc off) ls st n f) := (rfl)
theorem sw_null0 {off : Int} : stepW Cf M d (.ifnull off) pc K Q kc ks ls (.null :: st) n f = K kc ks (am_tg pc off) ls st n f := propext ⟨fun h => h.1 rfl, fun h => And.intro (fun _ => h) (And.intro (fun x q => Value.noConfusion q) (Or.inl rfl))⟩
theorem sw_null1 {off : Int} {x : Nat} : stepW Cf M d (.ifnull off) pc K Q kc ks ls (.ref x :: st) n f = K kc ks (pc + 3) ls st n f := propext ⟨fun h => h.2.1 x rfl, fun h => And.intro (fun q => Value.noConfusion q) (And.intro (fun _ _ => h) (Or.inr ⟨x, rfl⟩))⟩
theorem imp_ite' {c A : Prop} [Decidable c] : (c → A) = (if c then A else True) := by
  by_cases h : c
  · rw [if_pos h]; exact propext ⟨fun q => q h, fun q _ => q⟩
  · rw [if_neg h]; exact propext ⟨fun _ => trivial, fun _ z => absurd z h⟩
theorem sw_tbl {x : Int32} {df lo hi : Int} {offs : Array Int} : stepW Cf M d (.tableswitch df lo hi offs) pc K Q kc ks ls (.int x :: st) n f = (w_tbl (fun off => K kc ks (am_tg pc off) ls st n f) x lo offs.toList ∧ (if (x.toInt < lo ∨ hi < x.toInt) then K kc ks (am_tg pc df) ls st n f else True)) := by
  rw [← imp_ite']; rfl
theorem sw_lks {x : Int32} {df : Int} {ps : Array (Int × Int)} : stepW Cf M d (.lookupswitch df ps) pc K Q kc ks ls (.int x :: st) n f = (w_lks (fun off => K kc ks (am_tg pc off) ls st n f) x df ps.toList) := (rfl)
theorem sw_ldc {idx : Nat} : stepW Cf M d (.ldc idx) pc K Q kc ks ls (st) n f = (w_lkp (lkp (pi (Mp M)) idx) (fun v => K kc ks (pc + 2) ls (.int v :: st) n f)) := (rfl)
theorem sw_ldc2 {idx : Nat} : stepW Cf M d (.ldc2_w idx) pc K Q kc ks ls (st) n f = (w_lkp (lkp (pl (Mp M)) idx) (fun v => K kc ks (pc + 3) ls (.long v :: st) n f)) := (rfl)
theorem sw_get {idx k : Nat} : stepW Cf M d (.getfield idx) pc K Q kc ks ls (.ref k :: st) n f = (w_lkp (lkp (pf (Mp M)) idx) (fun e => w_obj (f k) e.1 (fun fs => w_lkp (gv fs e.2.1) (fun v => K kc ks (pc + 3) ls (v :: st) n f)))) := (rfl)
theorem sw_put {idx k : Nat} {x : Value} : stepW Cf M d (.putfield idx) pc K Q kc ks ls (x :: .ref k :: st) n f = (w_lkp (lkp (pf (Mp M)) idx) (fun e => w_obj (f k) e.1 (fun fs => e.2.1 < fs.length ∧ am_fit e.2.2.2.1 x ∧ K kc ks (pc + 3) ls st n (va_up f k (.inr (e.1, sv fs e.2.1 x)))))) := (rfl)
theorem sw_iald {i : Int32} {k : Nat} : stepW Cf M d (.iaload) pc K Q kc ks ls (.int i :: .ref k :: st) n f = (w_sar M (f k) (fun N g => vp_in i N ∧ K kc ks (pc + 1) ls (.int (g i.toNatClampNeg) :: st) n f)) := (rfl)
theorem sw_bald {i : Int32} {k : Nat} : stepW Cf M d (.baload) pc K Q kc ks ls (.int i :: .ref k :: st) n f = (w_iar (f k) 1 (fun N g => vp_in i N ∧ K kc ks (pc + 1) ls (.int (g i.toNatClampNeg) :: st) n f)) := (rfl)
theorem sw_lald {i : Int32} {k : Nat} : stepW Cf M d (.laload) pc K Q kc ks ls (.int i :: .ref k :: st) n f = (w_lar (f k) (fun N g => vp_in i N ∧ K kc ks (pc + 1) ls (.long (g i.toNatClampNeg) :: st) n f)) := (rfl)
theorem sw_aald {i : Int32} {k : Nat} : stepW Cf M d (.aaload) pc K Q kc ks ls (.int i :: .ref k :: st) n f = (w_qar (f k) (fun t N g => (t = 3 ∨ t = 4) ∧ vp_in i N ∧ K kc ks (pc + 1) ls (va_rf (g i.toNatClampNeg) :: st) n f)) := (rfl)
theorem sw_iast {i x : Int32} {k : Nat} : stepW Cf M d (.iastore) pc K Q kc ks ls (.int x :: .int i :: .ref k :: st) n f = (w_iar (f k) 0 (fun N g => vp_in i N ∧ K kc ks (pc + 1) ls st n (va_up f k (.inl (0, N, .inl (upd g i.toNatClampNeg x)))))) := (rfl)
theorem sw_bast {i x : Int32} {k : Nat} : stepW Cf M d (.bastore) pc K Q kc ks ls (.int x :: .int i :: .ref k :: st) n f = (w_iar (f k) 1 (fun N g => vp_in i N ∧ K kc ks (pc + 1) ls st n (va_up f k (.inl (1, N, .inl (upd g i.toNatClampNeg (vp_nar .boolean x))))))) := (rfl)
theorem sw_last {i : Int32} {x : Int64} {k : Nat} : stepW Cf M d (.lastore) pc K Q kc ks ls (.long x :: .int i :: .ref k :: st) n f = (w_lar (f k) (fun N g => vp_in i N ∧ K kc ks (pc + 1) ls st n (va_up f k (.inl (2, N, .inr (.inl (vp_updL g i.toNatClampNeg x))))))) := (rfl)
theorem sw_aast {i : Int32} {x k : Nat} : stepW Cf M d (.aastore) pc K Q kc ks ls (.ref x :: .int i :: .ref k :: st) n f = (w_qar (f k) (fun t N g => (∃ ci fs, f x = .inr (ci, fs) ∧ (t = 3 ∧ ci = 1 ∨ t = 4 ∧ ci = 3)) ∧ vp_in i N ∧ K kc ks (pc + 1) ls st n (va_up f k (.inl (t, N, .inr (.inr (.inr (.inr (va_up g i.toNatClampNeg (some x)))))))))) := (rfl)
theorem sw_alen {k : Nat} : stepW Cf M d (.arraylength) pc K Q kc ks ls (.ref k :: st) n f = (w_len M (f k) (fun N => K kc ks (pc + 1) ls (.int (Int32.ofNat N) :: st) n f)) := (rfl)
theorem sw_new {idx : Nat} : stepW Cf M d (.new idx) pc K Q kc ks ls (st) n f = (w_lkp (lkp (pc_ (Mp M)) idx) (fun ci => kc + 1 ≤ Mcc M ∧ ks + am_nf ci ≤ Mss M ∧ K (kc + 1) (ks + am_nf ci) (pc + 3) ls (.ref (n + 1) :: st) (n + 1) (va_up f (n + 1) (.inr (ci, am_def ci))))) := (rfl)
theorem sw_naint {x : Int32} : stepW Cf M d (.newarray .int) pc K Q kc ks ls (.int x :: st) n f = (∃ N, x = nI N ∧ N ≤ 10000 ∧ kc + 1 ≤ Mcc M ∧ ks + N ≤ Mss M ∧ K (kc + 1) (ks + N) (pc + 2) ls (.ref (n + 1) :: st) (n + 1) (va_up f (n + 1) (.inl (0, N, .inl (fun _ => 0))))) := (rfl)
theorem sw_naboolean {x : Int32} : stepW Cf M d (.newarray .boolean) pc K Q kc ks ls (.int x :: st) n f = (∃ N, x = nI N ∧ N ≤ 10000 ∧ kc + 1 ≤ Mcc M ∧ ks + N ≤ Mss M ∧ K (kc + 1) (ks + N) (pc + 2) ls (.ref (n + 1) :: st) (n + 1) (va_up f (n + 1) (.inl (1, N, .inl (fun _ => 0))))) := (rfl)
theorem sw_nalong {x : Int32} : stepW Cf M d (.newarray .long) pc K Q kc ks ls (.int x :: st) n f = (∃ N, x = nI N ∧ N ≤ 10000 ∧ kc + 1 ≤ Mcc M ∧ ks + N ≤ Mss M ∧ K (kc + 1) (ks + N) (pc + 2) ls (.ref (n + 1) :: st) (n + 1) (va_up f (n + 1) (.inl (2, N, .inr (.inl (fun _ => 0)))))) := (rfl)
theorem sw_anew {idx : Nat} {x : Int32} : stepW Cf M d (.anewarray idx) pc K Q kc ks ls (.int x :: st) n f = (w_lkp (lkp (pc_ (Mp M)) idx) (fun ci => ∃ N t, (ci = 1 ∧ t = 3 ∨ ci = 3 ∧ t = 4) ∧ x = nI N ∧ N ≤ 10000 ∧ kc + 1 ≤ Mcc M ∧ ks + N ≤ Mss M ∧ K (kc + 1) (ks + N) (pc + 3) ls (.ref (n + 1) :: st) (n + 1) (va_up f (n + 1) (.inl (t, N, .inr (.inr (.inr (.inr (fun _ => none))))))))) := (rfl)
theorem sw_virt {idx : Nat} : stepW Cf M d (.invokevirtual idx) pc K Q kc ks ls (st) n f = (w_lkp (lkp (pm (Mp M)) idx) (fun e => e.2.1 = 0 ∧ w_lkp (am_take e.2.2.1 [] st) (fun q => w_1 q.2 (fun v st => w_ref v (fun k => w_obj (f k) e.2.2.2 (fun _ => catS st ≤ 8 ∧ w_cc M e.1 kc ks (fun kc ks => Cf (1000 * Mp M + idx) e.1 d (.ref k :: q.1) n f (fun r n f => K kc ks (pc + 3) ls (r.toList ++ st) n f)))))))) := (rfl)
theorem sw_stat {idx : Nat} : stepW Cf M d (.invokestatic idx) pc K Q kc ks ls (st) n f = (w_lkp (lkp (pm (Mp M)) idx) (fun e => w_stat e.2.1 (1 ≤ d) st (fun x st => catS st ≤ 8 ∧ K kc ks (pc + 3) ls (.int x :: st) n f) (w_lkp (am_take e.2.2.1 [] st) (fun q => catS q.2 ≤ 8 ∧ w_cc M e.1 kc ks (fun kc ks => Cf (1000 * Mp M + idx) e.1 d q.1 n f (fun r n f => K kc ks (pc + 3) ls (r.toList ++ q.2) n f)))))) := (rfl)
theorem sw_spec {idx : Nat} : stepW Cf M d (.invokespecial idx) pc K Q kc ks ls (st) n f = (w_lkp (lkp (pm (Mp M)) idx) (fun e => w_spec e.2.1 (w_1 st (fun v st => w_ref v (fun _ => 1 ≤ d ∧ catS st ≤ 8 ∧ K kc ks (pc + 3) ls st n f))) (w_lkp (am_take e.2.2.1 [] st) (fun q => w_1 q.2 (fun v st => w_ref v (fun k => catS st ≤ 8 ∧ w_cc M e.1 kc ks (fun kc ks => Cf (1000 * Mp M + idx) e.1 d (.ref k :: q.1) n f (fun r n f => K kc ks (pc + 3) ls (r.toList ++ st) n f)))))))) := (rfl)
theorem sw_ireti {x : Int32} : stepW Cf M d .ireturn pc K Q kc ks ls [.int x] n f = w_ret (Mr M) (.int x) (Q (some (.int x)) n f) := propext ⟨fun h => h.2.1, fun h => ⟨rfl, h, trivial⟩⟩
theorem sw_lret {x : Int64} : stepW Cf M d .lreturn pc K Q kc ks ls [.long x] n f = w_ret (Mr M) (.long x) (Q (some (.long x)) n f) := propext ⟨fun h => h.2.1, fun h => ⟨rfl, h, trivial⟩⟩
theorem sw_vret : stepW Cf M d .return_ pc K Q kc ks ls [] n f = (Mr M = none ∧ Q none n f) := propext ⟨fun h => h.2, fun h => ⟨rfl, h⟩⟩
end Sw
theorem ld_0 {x : Option Value} {t : Lo} : ld (x :: t) 0 = x := (rfl)
theorem ld_s {x : Option Value} {t : Lo} {i : Nat} : ld (x :: t) (i + 1) = ld t i := (rfl)
theorem st1_n0 {v : Value} : st1 [] 0 v = [some v] := (rfl)
theorem st1_ns {v : Value} {i : Nat} : st1 [] (i + 1) v = none :: st1 [] i v := (rfl)
theorem st2_n0 {v : Value} : st2 [] 0 v = [some v] := (rfl)
theorem st2_ns {v : Value} {i : Nat} : st2 [] (i + 1) v = none :: st2 [] i v := (rfl)
theorem clr_n : clr [] = [] := (rfl)
theorem st1_0 {x : Option Value} {t : Lo} {v : Value} : st1 (x :: t) 0 v = some v :: t := (rfl)
theorem st1_1 {x : Option Value} {t : Lo} {v : Value} : st1 (x :: t) 1 v = kil x :: st1 t 0 v := (rfl)
theorem st1_s {x : Option Value} {t : Lo} {v : Value} {i : Nat} : st1 (x :: t) (i + 2) v = x :: st1 t (i + 1) v := (rfl)
theorem st2_0 {x : Option Value} {t : Lo} {v : Value} : st2 (x :: t) 0 v = some v :: clr t := (rfl)
theorem st2_1 {x : Option Value} {t : Lo} {v : Value} : st2 (x :: t) 1 v = kil x :: st2 t 0 v := (rfl)
theorem st2_s {x : Option Value} {t : Lo} {v : Value} {i : Nat} : st2 (x :: t) (i + 2) v = x :: st2 t (i + 1) v := (rfl)
theorem clr_c {x : Option Value} {t : Lo} : clr (x :: t) = none :: t := (rfl)
theorem kil_n : kil none = none := (rfl)
theorem kil_i {x : Int32} : kil (some (.int x)) = some (.int x) := (rfl)
theorem kil_r {x : Nat} : kil (some (.ref x)) = some (.ref x) := (rfl)
theorem kil_l {x : Int64} : kil (some (.long x)) = none := (rfl)
theorem gv_0 {x : Value} {t : List Value} : gv (x :: t) 0 = some x := (rfl)
theorem gv_s {x : Value} {t : List Value} {i : Nat} : gv (x :: t) (i + 1) = gv t i := (rfl)
theorem sv_0 {x v : Value} {t : List Value} : sv (x :: t) 0 v = v :: t := (rfl)
theorem sv_s {x v : Value} {t : List Value} {i : Nat} : sv (x :: t) (i + 1) v = x :: sv t i v := (rfl)
theorem wld_s {v : Value} {P : Value → Prop} : w_ld (some v) P = P v := (rfl)
theorem wint_i {x : Int32} {P : Int32 → Prop} : w_int (.int x) P = P x := (rfl)
theorem wlng_i {x : Int64} {P : Int64 → Prop} : w_lng (.long x) P = P x := (rfl)
theorem wref_i {x : Nat} {P : Nat → Prop} : w_ref (.ref x) P = P x := (rfl)
theorem w1_c {v : Value} {t : List Value} {P : Value → List Value → Prop} : w_1 (v :: t) P = P v t := (rfl)
theorem wobj_e {ci : Nat} {fs : List Value} {P : List Value → Prop} : w_obj (.inr (ci, fs)) ci P = P fs := propext ⟨fun h => h.2, fun h => ⟨rfl, h⟩⟩
theorem wiar_e {t N : Nat} {g : Nat → Int32} {P : Nat → (Nat → Int32) → Prop} : w_iar (.inl (t, N, .inl g)) t P = P N g := propext ⟨fun h => h.2, fun h => ⟨rfl, h⟩⟩
theorem wsar_e {M : Mt} {N : Nat} {g : Nat → Int32} {P : Nat → (Nat → Int32) → Prop} : w_sar M (.inl (0, N, .inl g)) P = P N g := propext ⟨fun h => h.2, fun h => ⟨rfl, h⟩⟩
theorem wlar_e {N : Nat} {g : Nat → Int64} {P : Nat → (Nat → Int64) → Prop} : w_lar (.inl (2, N, .inr (.inl g))) P = P N g := propext ⟨fun h => h.2, fun h => ⟨rfl, h⟩⟩
theorem wqar_3 {N : Nat} {g : Nat → Option Nat} {P : Nat → Nat → (Nat → Option Nat) → Prop} {t : Nat} : w_qar (.inl (t, N, .inr (.inr (.inr (.inr g))))) P = P t N g := (rfl)
theorem wlen_a {M : Mt} {t N : Nat} {x : (Nat → Int32) ⊕ (Nat → Int64) ⊕ (Nat → UInt32) ⊕ (Nat → UInt64) ⊕ (Nat → Option Nat)} {P : Nat → Prop} : w_len M (.inl (t, N, x)) P = (t < 5 ∧ P N) := (rfl)
theorem wlkp_s {α : Type} {v : α} {P : α → Prop} : w_lkp (some v) P = P v := (rfl)
theorem wret_i {x : Int32} {P : Prop} : w_ret (some .int) (.int x) P = P := (rfl)
theorem wret_z {x : Int32} {P : Prop} : w_ret (some .boolean) (.int x) P = ((x = 0 ∨ x = 1) ∧ P) := (rfl)
theorem wret_l {x : Int64} {P : Prop} : w_ret (some .long) (.long x) P = P := (rfl)
theorem wtbl_n {P : Int → Prop} {x : Int32} {v : Int} : w_tbl P x v [] = True := (rfl)
theorem imp_ite {c A : Prop} [Decidable c] : (c → A) = (if c then A else True) := by
  by_cases h : c
  · rw [if_pos h]; exact propext ⟨fun q => q h, fun q _ => q⟩
  · rw [if_neg h]; exact propext ⟨fun _ => trivial, fun _ z => absurd z h⟩
theorem wtbl_c {P : Int → Prop} {x : Int32} {v q : Int} {t : List Int} : w_tbl P x v (q :: t) = ((if x = Int32.ofInt v then P q else True) ∧ w_tbl P x (v + 1) t) := by
  rw [← imp_ite]; rfl
theorem wlks_n {P : Int → Prop} {x : Int32} {df : Int} : w_lks P x df [] = P df := (rfl)
theorem wlks_c {P : Int → Prop} {x : Int32} {df a b : Int} {t : List (Int × Int)} : w_lks P x df ((a, b) :: t) = ((x.toInt = a → P b) ∧ (¬ x.toInt = a → w_lks P x df t)) := (rfl)
theorem wstat_1 {dd : Prop} {st : List Value} {A : Int32 → List Value → Prop} {B : Prop} : w_stat 1 dd st A B = B := (rfl)
theorem wstat_3 {dd : Prop} {st : List Value} {A : Int32 → List Value → Prop} {B : Prop} : w_stat 3 dd st A B = B := (rfl)
theorem wstat_5 {dd : Prop} {st : List Value} {A : Int32 → List Value → Prop} {B : Prop} {x y : Int32} : w_stat 5 dd (.int y :: .int x :: st) A B = (dd ∧ A (if x < y then y else x) st) := (rfl)
theorem wstat_6 {dd : Prop} {st : List Value} {A : Int32 → List Value → Prop} {B : Prop} {x y : Int32} : w_stat 6 dd (.int y :: .int x :: st) A B = (dd ∧ A (if y < x then y else x) st) := (rfl)
theorem wspec_2 {A B : Prop} : w_spec 2 A B = B := (rfl)
theorem wspec_4 {A B : Prop} : w_spec 4 A B = A := (rfl)
theorem tk_0 {acc st : List Value} : am_take 0 acc st = some (acc, st) := (rfl)
theorem tk_s {k : Nat} {acc st : List Value} {v : Value} : am_take (k + 1) acc (v :: st) = am_take k (v :: acc) st := (rfl)
theorem fit_i {x : Int32} : am_fit 0 (.int x) = True := (rfl)
theorem fit_z {x : Int32} : am_fit 1 (.int x) = (x = 0 ∨ x = 1) := (rfl)
theorem fit_l {x : Int64} : am_fit 2 (.long x) = True := (rfl)
theorem fit_r {x : Nat} : am_fit 3 (.ref x) = True := (rfl)
theorem stp_s {Cf : Nat → Mt → Nat → List Value → Nat → (Nat → Ac) → Po → Prop} {M : Mt} {d : Nat} {i : Instr} {pc : Nat} {K : Kt} {Q : Po} {kc ks : Nat} {ls : Lo} {st : List Value} {n : Nat} {f : Nat → Ac} : stp Cf M d (some i) pc K Q kc ks ls st n f = stepW Cf M d i pc K Q kc ks ls st n f := (rfl)
theorem cond_ite {c : Bool} {A B : Prop} : (bif c then A else B) = (if c = true then A else B) := by cases c <;> simp
theorem wp_s {J : List Nat} {M : Mt} {d : Nat} {S : List Nat} {Q : Po} {t kc ks pc : Nat} {ls : Lo} {st : List Value} {n : Nat} {f : Nat → Ac} : wp J (t + 1) S M d Q kc ks pc ls st n f = (if mem_ pc S = true then Vj M d kc ks pc ls st n f Q else stp (w_cf J (wp J t)) M d (ins M pc) pc (wp J t S M d Q) Q kc ks ls st n f) := cond_ite
theorem wcf_e {J : List Nat} {W : List Nat → Mt → Nat → Po → Kt} {key : Nat} {M' : Mt} {d : Nat} {as : List Value} {n : Nat} {f : Nat → Ac} {P : Po} : w_cf J W key M' d as n f P = (if mem_ key J = true then w_dep d (fun e => am_ok M' = true ∧ catS as ≤ ML M' ∧ W [] M' e P 0 0 0 (am_en as) [] n f) else Cl M' d as n f P) := cond_ite
theorem wdep_s {d : Nat} {P : Nat → Prop} : w_dep (d + 1) P = P d := (rfl)
theorem mem_n {x : Nat} : mem_ x [] = false := (rfl)
theorem mem_c {x y : Nat} {t : List Nat} : mem_ x (y :: t) = (bif x == y then true else mem_ x t) := (rfl)
theorem cat_0 : catS [] = 0 := (rfl)
theorem cat_i {x : Int32} {t : List Value} : catS (.int x :: t) = catS t + 1 := (rfl)
theorem cat_r {x : Nat} {t : List Value} : catS (.ref x :: t) = catS t + 1 := (rfl)
theorem cat_l {x : Int64} {t : List Value} : catS (.long x :: t) = catS t + 2 := (rfl)
theorem tl_s {v : Value} : (some v).toList = [v] := (rfl)
theorem tl_n : (none : Option Value).toList = [] := (rfl)
theorem en_n : am_en [] = [] := (rfl)
theorem en_i {x : Int32} {t : List Value} : am_en (.int x :: t) = some (.int x) :: am_en t := (rfl)
theorem en_r {x : Nat} {t : List Value} : am_en (.ref x :: t) = some (.ref x) :: am_en t := (rfl)
theorem en_l {x : Int64} {t : List Value} : am_en (.long x :: t) = some (.long x) :: none :: am_en t := (rfl)
theorem ct_t {α : Sort _} {a b : α} : (bif true then a else b) = a := (rfl)
theorem ct_f {α : Sort _} {a b : α} : (bif false then a else b) = b := (rfl)
theorem ap_n {l : List Value} : [] ++ l = l := (rfl)
theorem ap_c {v : Value} {t l : List Value} : (v :: t) ++ l = v :: (t ++ l) := (rfl)
theorem len_n : ([] : List Value).length = 0 := (rfl)
theorem len_c {v : Value} {t : List Value} : (v :: t).length = t.length + 1 := (rfl)
theorem ta_i {l : List Int} : l.toArray.toList = l := (rfl)
theorem ta_p {l : List (Int × Int)} : l.toArray.toList = l := (rfl)
theorem b10 : ((1 : Int32) = 0) = False := eq_false (by decide)
theorem b01 : ((0 : Int32) = 1) = False := eq_false (by decide)
theorem nf_ge {c i : Nat} (h : i < c) (hc : c < 2 ^ 31) : (nI c ≤ nI i) = False := eq_false (nI_ge h hc)
theorem nf_le {c i : Nat} (h : c ≤ i) (hc : i < 2 ^ 31) : (nI c ≤ nI i) = True := eq_true (nI_le h hc)
theorem nf_lt {c i : Nat} (h : c < i) (hc : i < 2 ^ 31) : (nI c < nI i) = True := eq_true (nI_lt h hc)
theorem nf_nlt {c i : Nat} (h : i ≤ c) (hc : c < 2 ^ 31) : (nI c < nI i) = False := eq_false (nI_nlt h hc)
theorem nf_neg {i : Nat} (h : i < 2 ^ 31) : (nI i < 0) = False := eq_false (nI_pos h)
theorem nf_pos {i : Nat} (h : i < 2 ^ 31) : (0 ≤ nI i) = True := eq_true (nI_pos' h)
theorem nf_in {i N : Nat} (h : i < N) (hN : N < 2 ^ 31) : vp_in (nI i) N = True := eq_true (vp_in_nI h hN)
theorem nf_eq {a b : Nat} (ha : a < 2 ^ 31) (hb : b < 2 ^ 31) (h : a ≠ b) : (nI a = nI b) = False := eq_false (fun e => h ((nI_eq ha hb).mp e))
theorem vu_e {α : Type} {f : Nat → α} {k j : Nat} {v : α} : va_up f k v j = bif j == k then v else f j := by
  unfold va_up
  by_cases h : j = k
  · subst h; simp
  · have : (j == k) = false := by simpa using h
    rw [if_neg h, this]; rfl
theorem fv0 : ((0 : Fin 4) : Nat) = 0 := (rfl)
theorem fv1 : ((1 : Fin 4) : Nat) = 1 := (rfl)
theorem fv2 : ((2 : Fin 4) : Nat) = 2 := (rfl)
theorem fv3 : ((3 : Fin 4) : Nat) = 3 := (rfl)
theorem kl0 : Int64.ofNat ((0 : Fin 2) : Nat) = 0 := (rfl)
theorem kl1 : Int64.ofNat ((1 : Fin 2) : Nat) = 1 := (rfl)

theorem k_m1 : Int32.ofInt (-1) = -1 := (rfl)
theorem k_0 : Int32.ofInt 0 = 0 := (rfl)
theorem k_1 : Int32.ofInt 1 = 1 := (rfl)
theorem k_2 : Int32.ofInt 2 = 2 := (rfl)
theorem k_3 : Int32.ofInt 3 = 3 := (rfl)
theorem k_4 : Int32.ofInt 4 = 4 := (rfl)
theorem k_5 : Int32.ofInt 5 = 5 := (rfl)
theorem k_6 : Int32.ofInt 6 = 6 := (rfl)
theorem k_7 : Int32.ofInt 7 = 7 := (rfl)
theorem k_8 : Int32.ofInt 8 = 8 := (rfl)
theorem k_9 : Int32.ofInt 9 = 9 := (rfl)
theorem k_10 : Int32.ofInt 10 = 10 := (rfl)
theorem k_11 : Int32.ofInt 11 = 11 := (rfl)
theorem k_12 : Int32.ofInt 12 = 12 := (rfl)
theorem k_13 : Int32.ofInt 13 = 13 := (rfl)
theorem k_14 : Int32.ofInt 14 = 14 := (rfl)
theorem k_15 : Int32.ofInt 15 = 15 := (rfl)
theorem k_16 : Int32.ofInt 16 = 16 := (rfl)
theorem k_17 : Int32.ofInt 17 = 17 := (rfl)
theorem k_18 : Int32.ofInt 18 = 18 := (rfl)
theorem k_19 : Int32.ofInt 19 = 19 := (rfl)
theorem k_20 : Int32.ofInt 20 = 20 := (rfl)
theorem k_21 : Int32.ofInt 21 = 21 := (rfl)
theorem k_22 : Int32.ofInt 22 = 22 := (rfl)
theorem k_23 : Int32.ofInt 23 = 23 := (rfl)
theorem k_24 : Int32.ofInt 24 = 24 := (rfl)
theorem k_25 : Int32.ofInt 25 = 25 := (rfl)
theorem k_26 : Int32.ofInt 26 = 26 := (rfl)
theorem k_27 : Int32.ofInt 27 = 27 := (rfl)
theorem k_28 : Int32.ofInt 28 = 28 := (rfl)
theorem k_29 : Int32.ofInt 29 = 29 := (rfl)
theorem k_30 : Int32.ofInt 30 = 30 := (rfl)
theorem k_31 : Int32.ofInt 31 = 31 := (rfl)
theorem k_32 : Int32.ofInt 32 = 32 := (rfl)
theorem kb_m104 : (Int8.ofInt (-104)).toInt32 = -104 := by decide
theorem kb_m103 : (Int8.ofInt (-103)).toInt32 = -103 := by decide
theorem kb_m102 : (Int8.ofInt (-102)).toInt32 = -102 := by decide
theorem kb_m101 : (Int8.ofInt (-101)).toInt32 = -101 := by decide
theorem kb_m4 : (Int8.ofInt (-4)).toInt32 = -4 := by decide
theorem kb_m3 : (Int8.ofInt (-3)).toInt32 = -3 := by decide
theorem kb_m2 : (Int8.ofInt (-2)).toInt32 = -2 := by decide
theorem kb_6 : (Int8.ofInt 6).toInt32 = 6 := by decide
theorem kb_7 : (Int8.ofInt 7).toInt32 = 7 := by decide
theorem kb_8 : (Int8.ofInt 8).toInt32 = 8 := by decide
theorem kb_9 : (Int8.ofInt 9).toInt32 = 9 := by decide
theorem kb_10 : (Int8.ofInt 10).toInt32 = 10 := by decide
theorem kb_12 : (Int8.ofInt 12).toInt32 = 12 := by decide
theorem kb_13 : (Int8.ofInt 13).toInt32 = 13 := by decide
theorem kb_14 : (Int8.ofInt 14).toInt32 = 14 := by decide
theorem kb_15 : (Int8.ofInt 15).toInt32 = 15 := by decide
theorem kb_16 : (Int8.ofInt 16).toInt32 = 16 := by decide
theorem kb_24 : (Int8.ofInt 24).toInt32 = 24 := by decide
theorem kb_30 : (Int8.ofInt 30).toInt32 = 30 := by decide
theorem kb_32 : (Int8.ofInt 32).toInt32 = 32 := by decide
theorem kb_33 : (Int8.ofInt 33).toInt32 = 33 := by decide
theorem kb_38 : (Int8.ofInt 38).toInt32 = 38 := by decide
theorem kb_40 : (Int8.ofInt 40).toInt32 = 40 := by decide
theorem kb_41 : (Int8.ofInt 41).toInt32 = 41 := by decide
theorem kb_48 : (Int8.ofInt 48).toInt32 = 48 := by decide
theorem kb_57 : (Int8.ofInt 57).toInt32 = 57 := by decide
theorem kb_60 : (Int8.ofInt 60).toInt32 = 60 := by decide
theorem kb_61 : (Int8.ofInt 61).toInt32 = 61 := by decide
theorem kb_62 : (Int8.ofInt 62).toInt32 = 62 := by decide
theorem kb_63 : (Int8.ofInt 63).toInt32 = 63 := by decide
theorem kb_64 : (Int8.ofInt 64).toInt32 = 64 := by decide
theorem kb_97 : (Int8.ofInt 97).toInt32 = 97 := by decide
theorem kb_99 : (Int8.ofInt 99).toInt32 = 99 := by decide
theorem kb_100 : (Int8.ofInt 100).toInt32 = 100 := by decide
theorem kb_124 : (Int8.ofInt 124).toInt32 = 124 := by decide
theorem kb_126 : (Int8.ofInt 126).toInt32 = 126 := by decide
theorem kb_127 : (Int8.ofInt 127).toInt32 = 127 := by decide
theorem ks_192 : (Int16.ofInt 192).toInt32 = 192 := by decide
theorem ks_255 : (Int16.ofInt 255).toInt32 = 255 := by decide
theorem ks_256 : (Int16.ofInt 256).toInt32 = 256 := by decide
theorem ks_400 : (Int16.ofInt 400).toInt32 = 400 := by decide
theorem ks_480 : (Int16.ofInt 480).toInt32 = 480 := by decide
theorem ks_768 : (Int16.ofInt 768).toInt32 = 768 := by decide
theorem ks_12345 : (Int16.ofInt 12345).toInt32 = 12345 := by decide
theorem t_1_5 : am_tg 1 5 = 6 := (rfl)
theorem t_1_8 : am_tg 1 8 = 9 := (rfl)
theorem t_1_10 : am_tg 1 10 = 11 := (rfl)
theorem t_1_11 : am_tg 1 11 = 12 := (rfl)
theorem t_1_12 : am_tg 1 12 = 13 := (rfl)
theorem t_1_13 : am_tg 1 13 = 14 := (rfl)
theorem t_1_14 : am_tg 1 14 = 15 := (rfl)
theorem t_1_15 : am_tg 1 15 = 16 := (rfl)
theorem t_1_16 : am_tg 1 16 = 17 := (rfl)
theorem t_1_17 : am_tg 1 17 = 18 := (rfl)
theorem t_1_20 : am_tg 1 20 = 21 := (rfl)
theorem t_1_23 : am_tg 1 23 = 24 := (rfl)
theorem t_1_24 : am_tg 1 24 = 25 := (rfl)
theorem t_1_35 : am_tg 1 35 = 36 := (rfl)
theorem t_1_42 : am_tg 1 42 = 43 := (rfl)
theorem t_1_49 : am_tg 1 49 = 50 := (rfl)
theorem t_1_51 : am_tg 1 51 = 52 := (rfl)
theorem t_1_56 : am_tg 1 56 = 57 := (rfl)
theorem t_1_59 : am_tg 1 59 = 60 := (rfl)
theorem t_1_62 : am_tg 1 62 = 63 := (rfl)
theorem t_1_64 : am_tg 1 64 = 65 := (rfl)
theorem t_1_68 : am_tg 1 68 = 69 := (rfl)
theorem t_1_72 : am_tg 1 72 = 73 := (rfl)
theorem t_1_80 : am_tg 1 80 = 81 := (rfl)
theorem t_1_88 : am_tg 1 88 = 89 := (rfl)
theorem t_1_93 : am_tg 1 93 = 94 := (rfl)
theorem t_1_98 : am_tg 1 98 = 99 := (rfl)
theorem t_1_103 : am_tg 1 103 = 104 := (rfl)
theorem t_1_108 : am_tg 1 108 = 109 := (rfl)
theorem t_2_4 : am_tg 2 4 = 6 := (rfl)
theorem t_2_7 : am_tg 2 7 = 9 := (rfl)
theorem t_2_9 : am_tg 2 9 = 11 := (rfl)
theorem t_2_19 : am_tg 2 19 = 21 := (rfl)
theorem t_3_5 : am_tg 3 5 = 8 := (rfl)
theorem t_3_9 : am_tg 3 9 = 12 := (rfl)
theorem t_3_11 : am_tg 3 11 = 14 := (rfl)
theorem t_3_13 : am_tg 3 13 = 16 := (rfl)
theorem t_3_14 : am_tg 3 14 = 17 := (rfl)
theorem t_3_25 : am_tg 3 25 = 28 := (rfl)
theorem t_3_49 : am_tg 3 49 = 52 := (rfl)
theorem t_3_54 : am_tg 3 54 = 57 := (rfl)
theorem t_3_55 : am_tg 3 55 = 58 := (rfl)
theorem t_3_59 : am_tg 3 59 = 62 := (rfl)
theorem t_3_64 : am_tg 3 64 = 67 := (rfl)
theorem t_3_69 : am_tg 3 69 = 72 := (rfl)
theorem t_3_74 : am_tg 3 74 = 77 := (rfl)
theorem t_3_102 : am_tg 3 102 = 105 := (rfl)
theorem t_3_110 : am_tg 3 110 = 113 := (rfl)
theorem t_3_115 : am_tg 3 115 = 118 := (rfl)
theorem t_3_116 : am_tg 3 116 = 119 := (rfl)
theorem t_3_120 : am_tg 3 120 = 123 := (rfl)
theorem t_4_5 : am_tg 4 5 = 9 := (rfl)
theorem t_4_6 : am_tg 4 6 = 10 := (rfl)
theorem t_4_11 : am_tg 4 11 = 15 := (rfl)
theorem t_4_12 : am_tg 4 12 = 16 := (rfl)
theorem t_4_13 : am_tg 4 13 = 17 := (rfl)
theorem t_4_22 : am_tg 4 22 = 26 := (rfl)
theorem t_4_24 : am_tg 4 24 = 28 := (rfl)
theorem t_4_28 : am_tg 4 28 = 32 := (rfl)
theorem t_4_32 : am_tg 4 32 = 36 := (rfl)
theorem t_4_36 : am_tg 4 36 = 40 := (rfl)
theorem t_4_42 : am_tg 4 42 = 46 := (rfl)
theorem t_4_44 : am_tg 4 44 = 48 := (rfl)
theorem t_4_45 : am_tg 4 45 = 49 := (rfl)
theorem t_4_66 : am_tg 4 66 = 70 := (rfl)
theorem t_4_79 : am_tg 4 79 = 83 := (rfl)
theorem t_4_96 : am_tg 4 96 = 100 := (rfl)
theorem t_4_102 : am_tg 4 102 = 106 := (rfl)
theorem t_4_119 : am_tg 4 119 = 123 := (rfl)
theorem t_4_173 : am_tg 4 173 = 177 := (rfl)
theorem t_4_204 : am_tg 4 204 = 208 := (rfl)
theorem t_4_247 : am_tg 4 247 = 251 := (rfl)
theorem t_5_5 : am_tg 5 5 = 10 := (rfl)
theorem t_5_6 : am_tg 5 6 = 11 := (rfl)
theorem t_5_10 : am_tg 5 10 = 15 := (rfl)
theorem t_5_11 : am_tg 5 11 = 16 := (rfl)
theorem t_5_12 : am_tg 5 12 = 17 := (rfl)
theorem t_5_15 : am_tg 5 15 = 20 := (rfl)
theorem t_5_18 : am_tg 5 18 = 23 := (rfl)
theorem t_5_19 : am_tg 5 19 = 24 := (rfl)
theorem t_5_21 : am_tg 5 21 = 26 := (rfl)
theorem t_6_4 : am_tg 6 4 = 10 := (rfl)
theorem t_6_6 : am_tg 6 6 = 12 := (rfl)
theorem t_6_7 : am_tg 6 7 = 13 := (rfl)
theorem t_6_9 : am_tg 6 9 = 15 := (rfl)
theorem t_6_15 : am_tg 6 15 = 21 := (rfl)
theorem t_6_16 : am_tg 6 16 = 22 := (rfl)
theorem t_6_18 : am_tg 6 18 = 24 := (rfl)
theorem t_6_21 : am_tg 6 21 = 27 := (rfl)
theorem t_6_24 : am_tg 6 24 = 30 := (rfl)
theorem t_6_26 : am_tg 6 26 = 32 := (rfl)
theorem t_6_31 : am_tg 6 31 = 37 := (rfl)
theorem t_6_35 : am_tg 6 35 = 41 := (rfl)
theorem t_6_43 : am_tg 6 43 = 49 := (rfl)
theorem t_6_70 : am_tg 6 70 = 76 := (rfl)
theorem t_6_84 : am_tg 6 84 = 90 := (rfl)
theorem t_6_248 : am_tg 6 248 = 254 := (rfl)
theorem t_7_6 : am_tg 7 6 = 13 := (rfl)
theorem t_7_7 : am_tg 7 7 = 14 := (rfl)
theorem t_7_10 : am_tg 7 10 = 17 := (rfl)
theorem t_7_13 : am_tg 7 13 = 20 := (rfl)
theorem t_7_15 : am_tg 7 15 = 22 := (rfl)
theorem t_7_17 : am_tg 7 17 = 24 := (rfl)
theorem t_7_23 : am_tg 7 23 = 30 := (rfl)
theorem t_7_26 : am_tg 7 26 = 33 := (rfl)
theorem t_7_28 : am_tg 7 28 = 35 := (rfl)
theorem t_7_31 : am_tg 7 31 = 38 := (rfl)
theorem t_7_36 : am_tg 7 36 = 43 := (rfl)
theorem t_7_45 : am_tg 7 45 = 52 := (rfl)
theorem t_8_5 : am_tg 8 5 = 13 := (rfl)
theorem t_8_6 : am_tg 8 6 = 14 := (rfl)
theorem t_8_9 : am_tg 8 9 = 17 := (rfl)
theorem t_8_10 : am_tg 8 10 = 18 := (rfl)
theorem t_8_13 : am_tg 8 13 = 21 := (rfl)
theorem t_8_16 : am_tg 8 16 = 24 := (rfl)
theorem t_8_18 : am_tg 8 18 = 26 := (rfl)
theorem t_8_20 : am_tg 8 20 = 28 := (rfl)
theorem t_8_94 : am_tg 8 94 = 102 := (rfl)
theorem t_8_168 : am_tg 8 168 = 176 := (rfl)
theorem t_9_4 : am_tg 9 4 = 13 := (rfl)
theorem t_9_5 : am_tg 9 5 = 14 := (rfl)
theorem t_9_6 : am_tg 9 6 = 15 := (rfl)
theorem t_9_7 : am_tg 9 7 = 16 := (rfl)
theorem t_9_11 : am_tg 9 11 = 20 := (rfl)
theorem t_9_12 : am_tg 9 12 = 21 := (rfl)
theorem t_9_16 : am_tg 9 16 = 25 := (rfl)
theorem t_9_19 : am_tg 9 19 = 28 := (rfl)
theorem t_9_22 : am_tg 9 22 = 31 := (rfl)
theorem t_9_26 : am_tg 9 26 = 35 := (rfl)
theorem t_9_34 : am_tg 9 34 = 43 := (rfl)
theorem t_9_36 : am_tg 9 36 = 45 := (rfl)
theorem t_9_39 : am_tg 9 39 = 48 := (rfl)
theorem t_9_56 : am_tg 9 56 = 65 := (rfl)
theorem t_9_63 : am_tg 9 63 = 72 := (rfl)
theorem t_9_70 : am_tg 9 70 = 79 := (rfl)
theorem t_10_4 : am_tg 10 4 = 14 := (rfl)
theorem t_10_6 : am_tg 10 6 = 16 := (rfl)
theorem t_10_7 : am_tg 10 7 = 17 := (rfl)
theorem t_10_17 : am_tg 10 17 = 27 := (rfl)
theorem t_10_43 : am_tg 10 43 = 53 := (rfl)
theorem t_10_45 : am_tg 10 45 = 55 := (rfl)
theorem t_11_4 : am_tg 11 4 = 15 := (rfl)
theorem t_11_6 : am_tg 11 6 = 17 := (rfl)
theorem t_11_7 : am_tg 11 7 = 18 := (rfl)
theorem t_11_11 : am_tg 11 11 = 22 := (rfl)
theorem t_11_15 : am_tg 11 15 = 26 := (rfl)
theorem t_11_32 : am_tg 11 32 = 43 := (rfl)
theorem t_11_39 : am_tg 11 39 = 50 := (rfl)
theorem t_11_41 : am_tg 11 41 = 52 := (rfl)
theorem t_11_48 : am_tg 11 48 = 59 := (rfl)
theorem t_11_87 : am_tg 11 87 = 98 := (rfl)
theorem t_12_4 : am_tg 12 4 = 16 := (rfl)
theorem t_12_6 : am_tg 12 6 = 18 := (rfl)
theorem t_12_9 : am_tg 12 9 = 21 := (rfl)
theorem t_12_14 : am_tg 12 14 = 26 := (rfl)
theorem t_12_19 : am_tg 12 19 = 31 := (rfl)
theorem t_12_24 : am_tg 12 24 = 36 := (rfl)
theorem t_12_32 : am_tg 12 32 = 44 := (rfl)
theorem t_12_38 : am_tg 12 38 = 50 := (rfl)
theorem t_12_48 : am_tg 12 48 = 60 := (rfl)
theorem t_12_62 : am_tg 12 62 = 74 := (rfl)
theorem t_12_92 : am_tg 12 92 = 104 := (rfl)
theorem t_13_4 : am_tg 13 4 = 17 := (rfl)
theorem t_13_5 : am_tg 13 5 = 18 := (rfl)
theorem t_13_6 : am_tg 13 6 = 19 := (rfl)
theorem t_13_7 : am_tg 13 7 = 20 := (rfl)
theorem t_13_90 : am_tg 13 90 = 103 := (rfl)
theorem t_13_233 : am_tg 13 233 = 246 := (rfl)
theorem t_14_4 : am_tg 14 4 = 18 := (rfl)
theorem t_14_5 : am_tg 14 5 = 19 := (rfl)
theorem t_14_6 : am_tg 14 6 = 20 := (rfl)
theorem t_14_9 : am_tg 14 9 = 23 := (rfl)
theorem t_14_10 : am_tg 14 10 = 24 := (rfl)
theorem t_14_12 : am_tg 14 12 = 26 := (rfl)
theorem t_14_13 : am_tg 14 13 = 27 := (rfl)
theorem t_14_34 : am_tg 14 34 = 48 := (rfl)
theorem t_14_36 : am_tg 14 36 = 50 := (rfl)
theorem t_14_37 : am_tg 14 37 = 51 := (rfl)
theorem t_14_42 : am_tg 14 42 = 56 := (rfl)
theorem t_15_6 : am_tg 15 6 = 21 := (rfl)
theorem t_15_7 : am_tg 15 7 = 22 := (rfl)
theorem t_15_9 : am_tg 15 9 = 24 := (rfl)
theorem t_15_14 : am_tg 15 14 = 29 := (rfl)
theorem t_15_25 : am_tg 15 25 = 40 := (rfl)
theorem t_15_29 : am_tg 15 29 = 44 := (rfl)
theorem t_15_30 : am_tg 15 30 = 45 := (rfl)
theorem t_15_34 : am_tg 15 34 = 49 := (rfl)
theorem t_15_43 : am_tg 15 43 = 58 := (rfl)
theorem t_15_56 : am_tg 15 56 = 71 := (rfl)
theorem t_15_58 : am_tg 15 58 = 73 := (rfl)
theorem t_15_68 : am_tg 15 68 = 83 := (rfl)
theorem t_16_6 : am_tg 16 6 = 22 := (rfl)
theorem t_16_10 : am_tg 16 10 = 26 := (rfl)
theorem t_16_12 : am_tg 16 12 = 28 := (rfl)
theorem t_16_13 : am_tg 16 13 = 29 := (rfl)
theorem t_16_29 : am_tg 16 29 = 45 := (rfl)
theorem t_17_4 : am_tg 17 4 = 21 := (rfl)
theorem t_17_5 : am_tg 17 5 = 22 := (rfl)
theorem t_17_6 : am_tg 17 6 = 23 := (rfl)
theorem t_17_7 : am_tg 17 7 = 24 := (rfl)
theorem t_17_10 : am_tg 17 10 = 27 := (rfl)
theorem t_17_13 : am_tg 17 13 = 30 := (rfl)
theorem t_17_16 : am_tg 17 16 = 33 := (rfl)
theorem t_17_18 : am_tg 17 18 = 35 := (rfl)
theorem t_17_23 : am_tg 17 23 = 40 := (rfl)
theorem t_17_26 : am_tg 17 26 = 43 := (rfl)
theorem t_17_27 : am_tg 17 27 = 44 := (rfl)
theorem t_17_33 : am_tg 17 33 = 50 := (rfl)
theorem t_17_38 : am_tg 17 38 = 55 := (rfl)
theorem t_17_123 : am_tg 17 123 = 140 := (rfl)
theorem t_17_153 : am_tg 17 153 = 170 := (rfl)
theorem t_18_4 : am_tg 18 4 = 22 := (rfl)
theorem t_18_5 : am_tg 18 5 = 23 := (rfl)
theorem t_18_6 : am_tg 18 6 = 24 := (rfl)
theorem t_18_7 : am_tg 18 7 = 25 := (rfl)
theorem t_18_18 : am_tg 18 18 = 36 := (rfl)
theorem t_18_21 : am_tg 18 21 = 39 := (rfl)
theorem t_18_24 : am_tg 18 24 = 42 := (rfl)
theorem t_18_28 : am_tg 18 28 = 46 := (rfl)
theorem t_18_34 : am_tg 18 34 = 52 := (rfl)
theorem t_18_39 : am_tg 18 39 = 57 := (rfl)
theorem t_18_44 : am_tg 18 44 = 62 := (rfl)
theorem t_18_49 : am_tg 18 49 = 67 := (rfl)
theorem t_18_54 : am_tg 18 54 = 72 := (rfl)
theorem t_18_62 : am_tg 18 62 = 80 := (rfl)
theorem t_18_135 : am_tg 18 135 = 153 := (rfl)
theorem t_19_m15 : am_tg 19 (-15) = 4 := (rfl)
theorem t_19_4 : am_tg 19 4 = 23 := (rfl)
theorem t_19_5 : am_tg 19 5 = 24 := (rfl)
theorem t_19_6 : am_tg 19 6 = 25 := (rfl)
theorem t_19_7 : am_tg 19 7 = 26 := (rfl)
theorem t_19_17 : am_tg 19 17 = 36 := (rfl)
theorem t_19_19 : am_tg 19 19 = 38 := (rfl)
theorem t_19_25 : am_tg 19 25 = 44 := (rfl)
theorem t_19_29 : am_tg 19 29 = 48 := (rfl)
theorem t_19_30 : am_tg 19 30 = 49 := (rfl)
theorem t_19_46 : am_tg 19 46 = 65 := (rfl)
theorem t_19_57 : am_tg 19 57 = 76 := (rfl)
theorem t_19_59 : am_tg 19 59 = 78 := (rfl)
theorem t_19_133 : am_tg 19 133 = 152 := (rfl)
theorem t_20_m18 : am_tg 20 (-18) = 2 := (rfl)
theorem t_20_6 : am_tg 20 6 = 26 := (rfl)
theorem t_20_8 : am_tg 20 8 = 28 := (rfl)
theorem t_20_12 : am_tg 20 12 = 32 := (rfl)
theorem t_20_14 : am_tg 20 14 = 34 := (rfl)
theorem t_21_m19 : am_tg 21 (-19) = 2 := (rfl)
theorem t_21_m16 : am_tg 21 (-16) = 5 := (rfl)
theorem t_21_4 : am_tg 21 4 = 25 := (rfl)
theorem t_21_5 : am_tg 21 5 = 26 := (rfl)
theorem t_21_6 : am_tg 21 6 = 27 := (rfl)
theorem t_21_7 : am_tg 21 7 = 28 := (rfl)
theorem t_21_26 : am_tg 21 26 = 47 := (rfl)
theorem t_21_31 : am_tg 21 31 = 52 := (rfl)
theorem t_21_41 : am_tg 21 41 = 62 := (rfl)
theorem t_21_76 : am_tg 21 76 = 97 := (rfl)
theorem t_21_129 : am_tg 21 129 = 150 := (rfl)
theorem t_22_4 : am_tg 22 4 = 26 := (rfl)
theorem t_22_6 : am_tg 22 6 = 28 := (rfl)
theorem t_22_7 : am_tg 22 7 = 29 := (rfl)
theorem t_22_13 : am_tg 22 13 = 35 := (rfl)
theorem t_22_24 : am_tg 22 24 = 46 := (rfl)
theorem t_22_25 : am_tg 22 25 = 47 := (rfl)
theorem t_22_97 : am_tg 22 97 = 119 := (rfl)
theorem t_23_m21 : am_tg 23 (-21) = 2 := (rfl)
theorem t_23_4 : am_tg 23 4 = 27 := (rfl)
theorem t_23_5 : am_tg 23 5 = 28 := (rfl)
theorem t_23_6 : am_tg 23 6 = 29 := (rfl)
theorem t_23_7 : am_tg 23 7 = 30 := (rfl)
theorem t_23_8 : am_tg 23 8 = 31 := (rfl)
theorem t_23_12 : am_tg 23 12 = 35 := (rfl)
theorem t_23_14 : am_tg 23 14 = 37 := (rfl)
theorem t_23_15 : am_tg 23 15 = 38 := (rfl)
theorem t_23_26 : am_tg 23 26 = 49 := (rfl)
theorem t_23_30 : am_tg 23 30 = 53 := (rfl)
theorem t_23_35 : am_tg 23 35 = 58 := (rfl)
theorem t_24_m20 : am_tg 24 (-20) = 4 := (rfl)
theorem t_24_5 : am_tg 24 5 = 29 := (rfl)
theorem t_24_6 : am_tg 24 6 = 30 := (rfl)
theorem t_24_13 : am_tg 24 13 = 37 := (rfl)
theorem t_24_26 : am_tg 24 26 = 50 := (rfl)
theorem t_24_46 : am_tg 24 46 = 70 := (rfl)
theorem t_24_1304 : am_tg 24 1304 = 1328 := (rfl)
theorem t_25_4 : am_tg 25 4 = 29 := (rfl)
theorem t_25_5 : am_tg 25 5 = 30 := (rfl)
theorem t_25_11 : am_tg 25 11 = 36 := (rfl)
theorem t_25_30 : am_tg 25 30 = 55 := (rfl)
theorem t_25_53 : am_tg 25 53 = 78 := (rfl)
theorem t_25_67 : am_tg 25 67 = 92 := (rfl)
theorem t_26_4 : am_tg 26 4 = 30 := (rfl)
theorem t_26_5 : am_tg 26 5 = 31 := (rfl)
theorem t_26_10 : am_tg 26 10 = 36 := (rfl)
theorem t_26_12 : am_tg 26 12 = 38 := (rfl)
theorem t_26_22 : am_tg 26 22 = 48 := (rfl)
theorem t_26_25 : am_tg 26 25 = 51 := (rfl)
theorem t_26_39 : am_tg 26 39 = 65 := (rfl)
theorem t_27_m23 : am_tg 27 (-23) = 4 := (rfl)
theorem t_27_4 : am_tg 27 4 = 31 := (rfl)
theorem t_27_11 : am_tg 27 11 = 38 := (rfl)
theorem t_27_22 : am_tg 27 22 = 49 := (rfl)
theorem t_27_83 : am_tg 27 83 = 110 := (rfl)
theorem t_28_m23 : am_tg 28 (-23) = 5 := (rfl)
theorem t_28_m22 : am_tg 28 (-22) = 6 := (rfl)
theorem t_28_4 : am_tg 28 4 = 32 := (rfl)
theorem t_28_6 : am_tg 28 6 = 34 := (rfl)
theorem t_28_19 : am_tg 28 19 = 47 := (rfl)
theorem t_28_30 : am_tg 28 30 = 58 := (rfl)
theorem t_28_98 : am_tg 28 98 = 126 := (rfl)
theorem t_29_4 : am_tg 29 4 = 33 := (rfl)
theorem t_29_5 : am_tg 29 5 = 34 := (rfl)
theorem t_29_10 : am_tg 29 10 = 39 := (rfl)
theorem t_29_11 : am_tg 29 11 = 40 := (rfl)
theorem t_29_13 : am_tg 29 13 = 42 := (rfl)
theorem t_30_m26 : am_tg 30 (-26) = 4 := (rfl)
theorem t_30_m16 : am_tg 30 (-16) = 14 := (rfl)
theorem t_30_5 : am_tg 30 5 = 35 := (rfl)
theorem t_30_10 : am_tg 30 10 = 40 := (rfl)
theorem t_30_131 : am_tg 30 131 = 161 := (rfl)
theorem t_30_147 : am_tg 30 147 = 177 := (rfl)
theorem t_31_6 : am_tg 31 6 = 37 := (rfl)
theorem t_31_10 : am_tg 31 10 = 41 := (rfl)
theorem t_31_13 : am_tg 31 13 = 44 := (rfl)
theorem t_31_33 : am_tg 31 33 = 64 := (rfl)
theorem t_32_m28 : am_tg 32 (-28) = 4 := (rfl)
theorem t_32_m26 : am_tg 32 (-26) = 6 := (rfl)
theorem t_32_m21 : am_tg 32 (-21) = 11 := (rfl)
theorem t_32_5 : am_tg 32 5 = 37 := (rfl)
theorem t_32_22 : am_tg 32 22 = 54 := (rfl)
theorem t_32_44 : am_tg 32 44 = 76 := (rfl)
theorem t_32_108 : am_tg 32 108 = 140 := (rfl)
theorem t_33_4 : am_tg 33 4 = 37 := (rfl)
theorem t_33_6 : am_tg 33 6 = 39 := (rfl)
theorem t_33_7 : am_tg 33 7 = 40 := (rfl)
theorem t_33_12 : am_tg 33 12 = 45 := (rfl)
theorem t_33_15 : am_tg 33 15 = 48 := (rfl)
theorem t_33_26 : am_tg 33 26 = 59 := (rfl)
theorem t_33_40 : am_tg 33 40 = 73 := (rfl)
theorem t_33_147 : am_tg 33 147 = 180 := (rfl)
theorem t_33_180 : am_tg 33 180 = 213 := (rfl)
theorem t_33_233 : am_tg 33 233 = 266 := (rfl)
theorem t_33_266 : am_tg 33 266 = 299 := (rfl)
theorem t_33_309 : am_tg 33 309 = 342 := (rfl)
theorem t_33_332 : am_tg 33 332 = 365 := (rfl)
theorem t_33_365 : am_tg 33 365 = 398 := (rfl)
theorem t_33_438 : am_tg 33 438 = 471 := (rfl)
theorem t_33_471 : am_tg 33 471 = 504 := (rfl)
theorem t_33_505 : am_tg 33 505 = 538 := (rfl)
theorem t_33_549 : am_tg 33 549 = 582 := (rfl)
theorem t_33_592 : am_tg 33 592 = 625 := (rfl)
theorem t_33_655 : am_tg 33 655 = 688 := (rfl)
theorem t_33_708 : am_tg 33 708 = 741 := (rfl)
theorem t_33_721 : am_tg 33 721 = 754 := (rfl)
theorem t_33_734 : am_tg 33 734 = 767 := (rfl)
theorem t_33_747 : am_tg 33 747 = 780 := (rfl)
theorem t_33_771 : am_tg 33 771 = 804 := (rfl)
theorem t_33_804 : am_tg 33 804 = 837 := (rfl)
theorem t_33_837 : am_tg 33 837 = 870 := (rfl)
theorem t_33_880 : am_tg 33 880 = 913 := (rfl)
theorem t_33_923 : am_tg 33 923 = 956 := (rfl)
theorem t_33_956 : am_tg 33 956 = 989 := (rfl)
theorem t_33_979 : am_tg 33 979 = 1012 := (rfl)
theorem t_33_1003 : am_tg 33 1003 = 1036 := (rfl)
theorem t_33_1072 : am_tg 33 1072 = 1105 := (rfl)
theorem t_33_1121 : am_tg 33 1121 = 1154 := (rfl)
theorem t_33_1180 : am_tg 33 1180 = 1213 := (rfl)
theorem t_33_1203 : am_tg 33 1203 = 1236 := (rfl)
theorem t_33_1216 : am_tg 33 1216 = 1249 := (rfl)
theorem t_33_1229 : am_tg 33 1229 = 1262 := (rfl)
theorem t_33_1252 : am_tg 33 1252 = 1285 := (rfl)
theorem t_33_1275 : am_tg 33 1275 = 1308 := (rfl)
theorem t_33_1289 : am_tg 33 1289 = 1322 := (rfl)
theorem t_34_m30 : am_tg 34 (-30) = 4 := (rfl)
theorem t_34_9 : am_tg 34 9 = 43 := (rfl)
theorem t_34_10 : am_tg 34 10 = 44 := (rfl)
theorem t_34_12 : am_tg 34 12 = 46 := (rfl)
theorem t_34_22 : am_tg 34 22 = 56 := (rfl)
theorem t_34_31 : am_tg 34 31 = 65 := (rfl)
theorem t_34_101 : am_tg 34 101 = 135 := (rfl)
theorem t_35_m31 : am_tg 35 (-31) = 4 := (rfl)
theorem t_35_m18 : am_tg 35 (-18) = 17 := (rfl)
theorem t_35_4 : am_tg 35 4 = 39 := (rfl)
theorem t_35_5 : am_tg 35 5 = 40 := (rfl)
theorem t_35_6 : am_tg 35 6 = 41 := (rfl)
theorem t_35_7 : am_tg 35 7 = 42 := (rfl)
theorem t_35_9 : am_tg 35 9 = 44 := (rfl)
theorem t_35_10 : am_tg 35 10 = 45 := (rfl)
theorem t_35_19 : am_tg 35 19 = 54 := (rfl)
theorem t_35_88 : am_tg 35 88 = 123 := (rfl)
theorem t_35_126 : am_tg 35 126 = 161 := (rfl)
theorem t_36_10 : am_tg 36 10 = 46 := (rfl)
theorem t_36_16 : am_tg 36 16 = 52 := (rfl)
theorem t_36_17 : am_tg 36 17 = 53 := (rfl)
theorem t_36_25 : am_tg 36 25 = 61 := (rfl)
theorem t_36_56 : am_tg 36 56 = 92 := (rfl)
theorem t_37_4 : am_tg 37 4 = 41 := (rfl)
theorem t_37_7 : am_tg 37 7 = 44 := (rfl)
theorem t_37_10 : am_tg 37 10 = 47 := (rfl)
theorem t_37_25 : am_tg 37 25 = 62 := (rfl)
theorem t_37_48 : am_tg 37 48 = 85 := (rfl)
theorem t_37_50 : am_tg 37 50 = 87 := (rfl)
theorem t_37_89 : am_tg 37 89 = 126 := (rfl)
theorem t_38_m34 : am_tg 38 (-34) = 4 := (rfl)
theorem t_38_6 : am_tg 38 6 = 44 := (rfl)
theorem t_38_9 : am_tg 38 9 = 47 := (rfl)
theorem t_38_37 : am_tg 38 37 = 75 := (rfl)
theorem t_39_m24 : am_tg 39 (-24) = 15 := (rfl)
theorem t_39_4 : am_tg 39 4 = 43 := (rfl)
theorem t_39_5 : am_tg 39 5 = 44 := (rfl)
theorem t_39_6 : am_tg 39 6 = 45 := (rfl)
theorem t_39_9 : am_tg 39 9 = 48 := (rfl)
theorem t_39_10 : am_tg 39 10 = 49 := (rfl)
theorem t_39_42 : am_tg 39 42 = 81 := (rfl)
theorem t_39_63 : am_tg 39 63 = 102 := (rfl)
theorem t_40_m37 : am_tg 40 (-37) = 3 := (rfl)
theorem t_40_m36 : am_tg 40 (-36) = 4 := (rfl)
theorem t_40_m35 : am_tg 40 (-35) = 5 := (rfl)
theorem t_40_m28 : am_tg 40 (-28) = 12 := (rfl)
theorem t_41_m29 : am_tg 41 (-29) = 12 := (rfl)
theorem t_41_m25 : am_tg 41 (-25) = 16 := (rfl)
theorem t_41_m17 : am_tg 41 (-17) = 24 := (rfl)
theorem t_41_4 : am_tg 41 4 = 45 := (rfl)
theorem t_41_6 : am_tg 41 6 = 47 := (rfl)
theorem t_41_7 : am_tg 41 7 = 48 := (rfl)
theorem t_41_9 : am_tg 41 9 = 50 := (rfl)
theorem t_41_15 : am_tg 41 15 = 56 := (rfl)
theorem t_41_23 : am_tg 41 23 = 64 := (rfl)
theorem t_41_29 : am_tg 41 29 = 70 := (rfl)
theorem t_41_82 : am_tg 41 82 = 123 := (rfl)
theorem t_42_m37 : am_tg 42 (-37) = 5 := (rfl)
theorem t_42_m31 : am_tg 42 (-31) = 11 := (rfl)
theorem t_42_m29 : am_tg 42 (-29) = 13 := (rfl)
theorem t_42_5 : am_tg 42 5 = 47 := (rfl)
theorem t_42_8 : am_tg 42 8 = 50 := (rfl)
theorem t_42_62 : am_tg 42 62 = 104 := (rfl)
theorem t_43_m41 : am_tg 43 (-41) = 2 := (rfl)
theorem t_43_m29 : am_tg 43 (-29) = 14 := (rfl)
theorem t_43_4 : am_tg 43 4 = 47 := (rfl)
theorem t_43_8 : am_tg 43 8 = 51 := (rfl)
theorem t_43_18 : am_tg 43 18 = 61 := (rfl)
theorem t_43_19 : am_tg 43 19 = 62 := (rfl)
theorem t_44_m29 : am_tg 44 (-29) = 15 := (rfl)
theorem t_44_6 : am_tg 44 6 = 50 := (rfl)
theorem t_44_7 : am_tg 44 7 = 51 := (rfl)
theorem t_44_8 : am_tg 44 8 = 52 := (rfl)
theorem t_44_30 : am_tg 44 30 = 74 := (rfl)
theorem t_44_33 : am_tg 44 33 = 77 := (rfl)
theorem t_44_44 : am_tg 44 44 = 88 := (rfl)
theorem t_45_m45 : am_tg 45 (-45) = 0 := (rfl)
theorem t_45_m39 : am_tg 45 (-39) = 6 := (rfl)
theorem t_45_4 : am_tg 45 4 = 49 := (rfl)
theorem t_45_5 : am_tg 45 5 = 50 := (rfl)
theorem t_45_9 : am_tg 45 9 = 54 := (rfl)
theorem t_45_57 : am_tg 45 57 = 102 := (rfl)
theorem t_45_84 : am_tg 45 84 = 129 := (rfl)
theorem t_45_132 : am_tg 45 132 = 177 := (rfl)
theorem t_46_m46 : am_tg 46 (-46) = 0 := (rfl)
theorem t_46_m43 : am_tg 46 (-43) = 3 := (rfl)
theorem t_46_m21 : am_tg 46 (-21) = 25 := (rfl)
theorem t_46_5 : am_tg 46 5 = 51 := (rfl)
theorem t_46_19 : am_tg 46 19 = 65 := (rfl)
theorem t_46_45 : am_tg 46 45 = 91 := (rfl)
theorem t_47_m42 : am_tg 47 (-42) = 5 := (rfl)
theorem t_47_m39 : am_tg 47 (-39) = 8 := (rfl)
theorem t_47_m35 : am_tg 47 (-35) = 12 := (rfl)
theorem t_47_m26 : am_tg 47 (-26) = 21 := (rfl)
theorem t_47_6 : am_tg 47 6 = 53 := (rfl)
theorem t_47_7 : am_tg 47 7 = 54 := (rfl)
theorem t_47_14 : am_tg 47 14 = 61 := (rfl)
theorem t_47_21 : am_tg 47 21 = 68 := (rfl)
theorem t_47_23 : am_tg 47 23 = 70 := (rfl)
theorem t_47_77 : am_tg 47 77 = 124 := (rfl)
theorem t_48_m37 : am_tg 48 (-37) = 11 := (rfl)
theorem t_48_4 : am_tg 48 4 = 52 := (rfl)
theorem t_48_7 : am_tg 48 7 = 55 := (rfl)
theorem t_48_9 : am_tg 48 9 = 57 := (rfl)
theorem t_48_49 : am_tg 48 49 = 97 := (rfl)
theorem t_49_m47 : am_tg 49 (-47) = 2 := (rfl)
theorem t_49_m44 : am_tg 49 (-44) = 5 := (rfl)
theorem t_49_m31 : am_tg 49 (-31) = 18 := (rfl)
theorem t_49_4 : am_tg 49 4 = 53 := (rfl)
theorem t_49_5 : am_tg 49 5 = 54 := (rfl)
theorem t_49_7 : am_tg 49 7 = 56 := (rfl)
theorem t_49_15 : am_tg 49 15 = 64 := (rfl)
theorem t_49_17 : am_tg 49 17 = 66 := (rfl)
theorem t_49_32 : am_tg 49 32 = 81 := (rfl)
theorem t_49_47 : am_tg 49 47 = 96 := (rfl)
theorem t_50_6 : am_tg 50 6 = 56 := (rfl)
theorem t_50_8 : am_tg 50 8 = 58 := (rfl)
theorem t_50_77 : am_tg 50 77 = 127 := (rfl)
theorem t_50_79 : am_tg 50 79 = 129 := (rfl)
theorem t_50_198 : am_tg 50 198 = 248 := (rfl)
theorem t_51_m24 : am_tg 51 (-24) = 27 := (rfl)
theorem t_51_4 : am_tg 51 4 = 55 := (rfl)
theorem t_51_5 : am_tg 51 5 = 56 := (rfl)
theorem t_51_22 : am_tg 51 22 = 73 := (rfl)
theorem t_51_30 : am_tg 51 30 = 81 := (rfl)
theorem t_51_37 : am_tg 51 37 = 88 := (rfl)
theorem t_52_m47 : am_tg 52 (-47) = 5 := (rfl)
theorem t_52_4 : am_tg 52 4 = 56 := (rfl)
theorem t_52_13 : am_tg 52 13 = 65 := (rfl)
theorem t_52_16 : am_tg 52 16 = 68 := (rfl)
theorem t_52_18 : am_tg 52 18 = 70 := (rfl)
theorem t_52_83 : am_tg 52 83 = 135 := (rfl)
theorem t_52_84 : am_tg 52 84 = 136 := (rfl)
theorem t_53_m22 : am_tg 53 (-22) = 31 := (rfl)
theorem t_53_m17 : am_tg 53 (-17) = 36 := (rfl)
theorem t_53_4 : am_tg 53 4 = 57 := (rfl)
theorem t_53_35 : am_tg 53 35 = 88 := (rfl)
theorem t_53_44 : am_tg 53 44 = 97 := (rfl)
theorem t_54_7 : am_tg 54 7 = 61 := (rfl)
theorem t_54_14 : am_tg 54 14 = 68 := (rfl)
theorem t_54_21 : am_tg 54 21 = 75 := (rfl)
theorem t_54_24 : am_tg 54 24 = 78 := (rfl)
theorem t_55_m34 : am_tg 55 (-34) = 21 := (rfl)
theorem t_55_5 : am_tg 55 5 = 60 := (rfl)
theorem t_55_6 : am_tg 55 6 = 61 := (rfl)
theorem t_55_7 : am_tg 55 7 = 62 := (rfl)
theorem t_55_9 : am_tg 55 9 = 64 := (rfl)
theorem t_56_m49 : am_tg 56 (-49) = 7 := (rfl)
theorem t_56_m27 : am_tg 56 (-27) = 29 := (rfl)
theorem t_56_15 : am_tg 56 15 = 71 := (rfl)
theorem t_56_27 : am_tg 56 27 = 83 := (rfl)
theorem t_56_41 : am_tg 56 41 = 97 := (rfl)
theorem t_57_23 : am_tg 57 23 = 80 := (rfl)
theorem t_58_4 : am_tg 58 4 = 62 := (rfl)
theorem t_58_60 : am_tg 58 60 = 118 := (rfl)
theorem t_59_m44 : am_tg 59 (-44) = 15 := (rfl)
theorem t_59_m25 : am_tg 59 (-25) = 34 := (rfl)
theorem t_59_4 : am_tg 59 4 = 63 := (rfl)
theorem t_59_8 : am_tg 59 8 = 67 := (rfl)
theorem t_59_31 : am_tg 59 31 = 90 := (rfl)
theorem t_60_44 : am_tg 60 44 = 104 := (rfl)
theorem t_60_188 : am_tg 60 188 = 248 := (rfl)
theorem t_61_7 : am_tg 61 7 = 68 := (rfl)
theorem t_61_14 : am_tg 61 14 = 75 := (rfl)
theorem t_61_19 : am_tg 61 19 = 80 := (rfl)
theorem t_61_24 : am_tg 61 24 = 85 := (rfl)
theorem t_61_60 : am_tg 61 60 = 121 := (rfl)
theorem t_61_103 : am_tg 61 103 = 164 := (rfl)
theorem t_62_m56 : am_tg 62 (-56) = 6 := (rfl)
theorem t_62_6 : am_tg 62 6 = 68 := (rfl)
theorem t_62_25 : am_tg 62 25 = 87 := (rfl)
theorem t_63_4 : am_tg 63 4 = 67 := (rfl)
theorem t_64_5 : am_tg 64 5 = 69 := (rfl)
theorem t_64_13 : am_tg 64 13 = 77 := (rfl)
theorem t_64_18 : am_tg 64 18 = 82 := (rfl)
theorem t_65_m48 : am_tg 65 (-48) = 17 := (rfl)
theorem t_65_4 : am_tg 65 4 = 69 := (rfl)
theorem t_65_7 : am_tg 65 7 = 72 := (rfl)
theorem t_66_6 : am_tg 66 6 = 72 := (rfl)
theorem t_67_m47 : am_tg 67 (-47) = 20 := (rfl)
theorem t_67_m29 : am_tg 67 (-29) = 38 := (rfl)
theorem t_67_m24 : am_tg 67 (-24) = 43 := (rfl)
theorem t_67_6 : am_tg 67 6 = 73 := (rfl)
theorem t_67_7 : am_tg 67 7 = 74 := (rfl)
theorem t_67_35 : am_tg 67 35 = 102 := (rfl)
theorem t_67_57 : am_tg 67 57 = 124 := (rfl)
theorem t_68_m56 : am_tg 68 (-56) = 12 := (rfl)
theorem t_68_6 : am_tg 68 6 = 74 := (rfl)
theorem t_68_7 : am_tg 68 7 = 75 := (rfl)
theorem t_68_24 : am_tg 68 24 = 92 := (rfl)
theorem t_69_4 : am_tg 69 4 = 73 := (rfl)
theorem t_69_7 : am_tg 69 7 = 76 := (rfl)
theorem t_69_34 : am_tg 69 34 = 103 := (rfl)
theorem t_69_43 : am_tg 69 43 = 112 := (rfl)
theorem t_70_6 : am_tg 70 6 = 76 := (rfl)
theorem t_70_21 : am_tg 70 21 = 91 := (rfl)
theorem t_70_45 : am_tg 70 45 = 115 := (rfl)
theorem t_71_m31 : am_tg 71 (-31) = 40 := (rfl)
theorem t_71_4 : am_tg 71 4 = 75 := (rfl)
theorem t_71_49 : am_tg 71 49 = 120 := (rfl)
theorem t_72_m38 : am_tg 72 (-38) = 34 := (rfl)
theorem t_72_4 : am_tg 72 4 = 76 := (rfl)
theorem t_72_22 : am_tg 72 22 = 94 := (rfl)
theorem t_72_30 : am_tg 72 30 = 102 := (rfl)
theorem t_73_m69 : am_tg 73 (-69) = 4 := (rfl)
theorem t_73_m59 : am_tg 73 (-59) = 14 := (rfl)
theorem t_73_m44 : am_tg 73 (-44) = 29 := (rfl)
theorem t_73_4 : am_tg 73 4 = 77 := (rfl)
theorem t_73_28 : am_tg 73 28 = 101 := (rfl)
theorem t_73_38 : am_tg 73 38 = 111 := (rfl)
theorem t_74_6 : am_tg 74 6 = 80 := (rfl)
theorem t_74_7 : am_tg 74 7 = 81 := (rfl)
theorem t_74_66 : am_tg 74 66 = 140 := (rfl)
theorem t_75_m59 : am_tg 75 (-59) = 16 := (rfl)
theorem t_75_8 : am_tg 75 8 = 83 := (rfl)
theorem t_75_12 : am_tg 75 12 = 87 := (rfl)
theorem t_75_15 : am_tg 75 15 = 90 := (rfl)
theorem t_75_18 : am_tg 75 18 = 93 := (rfl)
theorem t_75_25 : am_tg 75 25 = 100 := (rfl)
theorem t_75_47 : am_tg 75 47 = 122 := (rfl)
theorem t_76_m70 : am_tg 76 (-70) = 6 := (rfl)
theorem t_77_m24 : am_tg 77 (-24) = 53 := (rfl)
theorem t_77_7 : am_tg 77 7 = 84 := (rfl)
theorem t_77_34 : am_tg 77 34 = 111 := (rfl)
theorem t_78_m46 : am_tg 78 (-46) = 32 := (rfl)
theorem t_78_m31 : am_tg 78 (-31) = 47 := (rfl)
theorem t_78_4 : am_tg 78 4 = 82 := (rfl)
theorem t_78_7 : am_tg 78 7 = 85 := (rfl)
theorem t_78_19 : am_tg 78 19 = 97 := (rfl)
theorem t_79_8 : am_tg 79 8 = 87 := (rfl)
theorem t_79_20 : am_tg 79 20 = 99 := (rfl)
theorem t_80_m69 : am_tg 80 (-69) = 11 := (rfl)
theorem t_80_m28 : am_tg 80 (-28) = 52 := (rfl)
theorem t_80_7 : am_tg 80 7 = 87 := (rfl)
theorem t_80_10 : am_tg 80 10 = 90 := (rfl)
theorem t_80_12 : am_tg 80 12 = 92 := (rfl)
theorem t_80_21 : am_tg 80 21 = 101 := (rfl)
theorem t_80_29 : am_tg 80 29 = 109 := (rfl)
theorem t_80_104 : am_tg 80 104 = 184 := (rfl)
theorem t_81_4 : am_tg 81 4 = 85 := (rfl)
theorem t_81_6 : am_tg 81 6 = 87 := (rfl)
theorem t_81_8 : am_tg 81 8 = 89 := (rfl)
theorem t_81_30 : am_tg 81 30 = 111 := (rfl)
theorem t_82_m72 : am_tg 82 (-72) = 10 := (rfl)
theorem t_82_m24 : am_tg 82 (-24) = 58 := (rfl)
theorem t_82_4 : am_tg 82 4 = 86 := (rfl)
theorem t_82_7 : am_tg 82 7 = 89 := (rfl)
theorem t_82_8 : am_tg 82 8 = 90 := (rfl)
theorem t_82_15 : am_tg 82 15 = 97 := (rfl)
theorem t_82_16 : am_tg 82 16 = 98 := (rfl)
theorem t_82_40 : am_tg 82 40 = 122 := (rfl)
theorem t_83_20 : am_tg 83 20 = 103 := (rfl)
theorem t_84_m50 : am_tg 84 (-50) = 34 := (rfl)
theorem t_84_4 : am_tg 84 4 = 88 := (rfl)
theorem t_84_6 : am_tg 84 6 = 90 := (rfl)
theorem t_84_19 : am_tg 84 19 = 103 := (rfl)
theorem t_85_m51 : am_tg 85 (-51) = 34 := (rfl)
theorem t_85_m36 : am_tg 85 (-36) = 49 := (rfl)
theorem t_85_6 : am_tg 85 6 = 91 := (rfl)
theorem t_86_4 : am_tg 86 4 = 90 := (rfl)
theorem t_86_42 : am_tg 86 42 = 128 := (rfl)
theorem t_87_5 : am_tg 87 5 = 92 := (rfl)
theorem t_87_7 : am_tg 87 7 = 94 := (rfl)
theorem t_87_11 : am_tg 87 11 = 98 := (rfl)
theorem t_87_12 : am_tg 87 12 = 99 := (rfl)
theorem t_87_24 : am_tg 87 24 = 111 := (rfl)
theorem t_87_37 : am_tg 87 37 = 124 := (rfl)
theorem t_88_m45 : am_tg 88 (-45) = 43 := (rfl)
theorem t_88_m23 : am_tg 88 (-23) = 65 := (rfl)
theorem t_88_7 : am_tg 88 7 = 95 := (rfl)
theorem t_89_7 : am_tg 89 7 = 96 := (rfl)
theorem t_90_7 : am_tg 90 7 = 97 := (rfl)
theorem t_90_38 : am_tg 90 38 = 128 := (rfl)
theorem t_91_4 : am_tg 91 4 = 95 := (rfl)
theorem t_91_8 : am_tg 91 8 = 99 := (rfl)
theorem t_91_20 : am_tg 91 20 = 111 := (rfl)
theorem t_91_27 : am_tg 91 27 = 118 := (rfl)
theorem t_92_4 : am_tg 92 4 = 96 := (rfl)
theorem t_92_7 : am_tg 92 7 = 99 := (rfl)
theorem t_92_23 : am_tg 92 23 = 115 := (rfl)
theorem t_92_86 : am_tg 92 86 = 178 := (rfl)
theorem t_93_m48 : am_tg 93 (-48) = 45 := (rfl)
theorem t_93_4 : am_tg 93 4 = 97 := (rfl)
theorem t_93_9 : am_tg 93 9 = 102 := (rfl)
theorem t_93_24 : am_tg 93 24 = 117 := (rfl)
theorem t_93_39 : am_tg 93 39 = 132 := (rfl)
theorem t_93_47 : am_tg 93 47 = 140 := (rfl)
theorem t_94_m79 : am_tg 94 (-79) = 15 := (rfl)
theorem t_94_m44 : am_tg 94 (-44) = 50 := (rfl)
theorem t_94_4 : am_tg 94 4 = 98 := (rfl)
theorem t_94_20 : am_tg 94 20 = 114 := (rfl)
theorem t_95_m90 : am_tg 95 (-90) = 5 := (rfl)
theorem t_95_8 : am_tg 95 8 = 103 := (rfl)
theorem t_95_16 : am_tg 95 16 = 111 := (rfl)
theorem t_96_4 : am_tg 96 4 = 100 := (rfl)
theorem t_96_9 : am_tg 96 9 = 105 := (rfl)
theorem t_96_10 : am_tg 96 10 = 106 := (rfl)
theorem t_96_24 : am_tg 96 24 = 120 := (rfl)
theorem t_97_35 : am_tg 97 35 = 132 := (rfl)
theorem t_98_m24 : am_tg 98 (-24) = 74 := (rfl)
theorem t_98_13 : am_tg 98 13 = 111 := (rfl)
theorem t_98_16 : am_tg 98 16 = 114 := (rfl)
theorem t_98_18 : am_tg 98 18 = 116 := (rfl)
theorem t_99_m94 : am_tg 99 (-94) = 5 := (rfl)
theorem t_99_m64 : am_tg 99 (-64) = 35 := (rfl)
theorem t_99_6 : am_tg 99 6 = 105 := (rfl)
theorem t_99_13 : am_tg 99 13 = 112 := (rfl)
theorem t_99_65 : am_tg 99 65 = 164 := (rfl)
theorem t_100_m95 : am_tg 100 (-95) = 5 := (rfl)
theorem t_100_m39 : am_tg 100 (-39) = 61 := (rfl)
theorem t_100_m22 : am_tg 100 (-22) = 78 := (rfl)
theorem t_101_m65 : am_tg 101 (-65) = 36 := (rfl)
theorem t_101_m45 : am_tg 101 (-45) = 56 := (rfl)
theorem t_101_7 : am_tg 101 7 = 108 := (rfl)
theorem t_101_84 : am_tg 101 84 = 185 := (rfl)
theorem t_102_13 : am_tg 102 13 = 115 := (rfl)
theorem t_102_18 : am_tg 102 18 = 120 := (rfl)
theorem t_102_24 : am_tg 102 24 = 126 := (rfl)
theorem t_103_4 : am_tg 103 4 = 107 := (rfl)
theorem t_103_7 : am_tg 103 7 = 110 := (rfl)
theorem t_104_15 : am_tg 104 15 = 119 := (rfl)
theorem t_104_32 : am_tg 104 32 = 136 := (rfl)
theorem t_105_6 : am_tg 105 6 = 111 := (rfl)
theorem t_105_7 : am_tg 105 7 = 112 := (rfl)
theorem t_105_15 : am_tg 105 15 = 120 := (rfl)
theorem t_105_59 : am_tg 105 59 = 164 := (rfl)
theorem t_106_34 : am_tg 106 34 = 140 := (rfl)
theorem t_107_m83 : am_tg 107 (-83) = 24 := (rfl)
theorem t_107_4 : am_tg 107 4 = 111 := (rfl)
theorem t_108_m29 : am_tg 108 (-29) = 79 := (rfl)
theorem t_108_7 : am_tg 108 7 = 115 := (rfl)
theorem t_108_63 : am_tg 108 63 = 171 := (rfl)
theorem t_109_5 : am_tg 109 5 = 114 := (rfl)
theorem t_109_7 : am_tg 109 7 = 116 := (rfl)
theorem t_109_19 : am_tg 109 19 = 128 := (rfl)
theorem t_110_5 : am_tg 110 5 = 115 := (rfl)
theorem t_110_7 : am_tg 110 7 = 117 := (rfl)
theorem t_110_75 : am_tg 110 75 = 185 := (rfl)
theorem t_111_40 : am_tg 111 40 = 151 := (rfl)
theorem t_112_4 : am_tg 112 4 = 116 := (rfl)
theorem t_112_7 : am_tg 112 7 = 119 := (rfl)
theorem t_112_28 : am_tg 112 28 = 140 := (rfl)
theorem t_113_15 : am_tg 113 15 = 128 := (rfl)
theorem t_113_19 : am_tg 113 19 = 132 := (rfl)
theorem t_114_m25 : am_tg 114 (-25) = 89 := (rfl)
theorem t_114_4 : am_tg 114 4 = 118 := (rfl)
theorem t_115_m62 : am_tg 115 (-62) = 53 := (rfl)
theorem t_115_m27 : am_tg 115 (-27) = 88 := (rfl)
theorem t_116_m97 : am_tg 116 (-97) = 19 := (rfl)
theorem t_116_4 : am_tg 116 4 = 120 := (rfl)
theorem t_116_31 : am_tg 116 31 = 147 := (rfl)
theorem t_116_32 : am_tg 116 32 = 148 := (rfl)
theorem t_116_37 : am_tg 116 37 = 153 := (rfl)
theorem t_116_42 : am_tg 116 42 = 158 := (rfl)
theorem t_116_47 : am_tg 116 47 = 163 := (rfl)
theorem t_116_52 : am_tg 116 52 = 168 := (rfl)
theorem t_117_m51 : am_tg 117 (-51) = 66 := (rfl)
theorem t_117_15 : am_tg 117 15 = 132 := (rfl)
theorem t_117_28 : am_tg 117 28 = 145 := (rfl)
theorem t_117_31 : am_tg 117 31 = 148 := (rfl)
theorem t_117_39 : am_tg 117 39 = 156 := (rfl)
theorem t_117_47 : am_tg 117 47 = 164 := (rfl)
theorem t_117_55 : am_tg 117 55 = 172 := (rfl)
theorem t_117_63 : am_tg 117 63 = 180 := (rfl)
theorem t_118_m62 : am_tg 118 (-62) = 56 := (rfl)
theorem t_118_22 : am_tg 118 22 = 140 := (rfl)
theorem t_119_12 : am_tg 119 12 = 131 := (rfl)
theorem t_119_32 : am_tg 119 32 = 151 := (rfl)
theorem t_119_59 : am_tg 119 59 = 178 := (rfl)
theorem t_120_m88 : am_tg 120 (-88) = 32 := (rfl)
theorem t_120_7 : am_tg 120 7 = 127 := (rfl)
theorem t_121_m77 : am_tg 121 (-77) = 44 := (rfl)
theorem t_121_m65 : am_tg 121 (-65) = 56 := (rfl)
theorem t_121_m40 : am_tg 121 (-40) = 81 := (rfl)
theorem t_123_m98 : am_tg 123 (-98) = 25 := (rfl)
theorem t_123_23 : am_tg 123 23 = 146 := (rfl)
theorem t_124_m77 : am_tg 124 (-77) = 47 := (rfl)
theorem t_124_4 : am_tg 124 4 = 128 := (rfl)
theorem t_124_7 : am_tg 124 7 = 131 := (rfl)
theorem t_124_21 : am_tg 124 21 = 145 := (rfl)
theorem t_124_23 : am_tg 124 23 = 147 := (rfl)
theorem t_125_5 : am_tg 125 5 = 130 := (rfl)
theorem t_126_m85 : am_tg 126 (-85) = 41 := (rfl)
theorem t_126_14 : am_tg 126 14 = 140 := (rfl)
theorem t_126_27 : am_tg 126 27 = 153 := (rfl)
theorem t_127_7 : am_tg 127 7 = 134 := (rfl)
theorem t_127_9 : am_tg 127 9 = 136 := (rfl)
theorem t_127_15 : am_tg 127 15 = 142 := (rfl)
theorem t_128_4 : am_tg 128 4 = 132 := (rfl)
theorem t_128_7 : am_tg 128 7 = 135 := (rfl)
theorem t_128_54 : am_tg 128 54 = 182 := (rfl)
theorem t_131_14 : am_tg 131 14 = 145 := (rfl)
theorem t_131_17 : am_tg 131 17 = 148 := (rfl)
theorem t_132_m82 : am_tg 132 (-82) = 50 := (rfl)
theorem t_132_7 : am_tg 132 7 = 139 := (rfl)
theorem t_132_14 : am_tg 132 14 = 146 := (rfl)
theorem t_132_108 : am_tg 132 108 = 240 := (rfl)
theorem t_133_m83 : am_tg 133 (-83) = 50 := (rfl)
theorem t_133_m32 : am_tg 133 (-32) = 101 := (rfl)
theorem t_133_7 : am_tg 133 7 = 140 := (rfl)
theorem t_136_5 : am_tg 136 5 = 141 := (rfl)
theorem t_136_6 : am_tg 136 6 = 142 := (rfl)
theorem t_136_22 : am_tg 136 22 = 158 := (rfl)
theorem t_137_4 : am_tg 137 4 = 141 := (rfl)
theorem t_137_7 : am_tg 137 7 = 144 := (rfl)
theorem t_137_41 : am_tg 137 41 = 178 := (rfl)
theorem t_139_30 : am_tg 139 30 = 169 := (rfl)
theorem t_139_32 : am_tg 139 32 = 171 := (rfl)
theorem t_141_4 : am_tg 141 4 = 145 := (rfl)
theorem t_141_5 : am_tg 141 5 = 146 := (rfl)
theorem t_142_39 : am_tg 142 39 = 181 := (rfl)
theorem t_143_20 : am_tg 143 20 = 163 := (rfl)
theorem t_143_39 : am_tg 143 39 = 182 := (rfl)
theorem t_144_14 : am_tg 144 14 = 158 := (rfl)
theorem t_145_6 : am_tg 145 6 = 151 := (rfl)
theorem t_146_36 : am_tg 146 36 = 182 := (rfl)
theorem t_147_m130 : am_tg 147 (-130) = 17 := (rfl)
theorem t_148_m40 : am_tg 148 (-40) = 108 := (rfl)
theorem t_148_m31 : am_tg 148 (-31) = 117 := (rfl)
theorem t_149_m137 : am_tg 149 (-137) = 12 := (rfl)
theorem t_149_15 : am_tg 149 15 = 164 := (rfl)
theorem t_150_m136 : am_tg 150 (-136) = 14 := (rfl)
theorem t_150_m28 : am_tg 150 (-28) = 122 := (rfl)
theorem t_151_24 : am_tg 151 24 = 175 := (rfl)
theorem t_152_24 : am_tg 152 24 = 176 := (rfl)
theorem t_155_16 : am_tg 155 16 = 171 := (rfl)
theorem t_156_13 : am_tg 156 13 = 169 := (rfl)
theorem t_156_15 : am_tg 156 15 = 171 := (rfl)
theorem t_157_7 : am_tg 157 7 = 164 := (rfl)
theorem t_157_21 : am_tg 157 21 = 178 := (rfl)
theorem t_158_m131 : am_tg 158 (-131) = 27 := (rfl)
theorem t_158_8 : am_tg 158 8 = 166 := (rfl)
theorem t_161_4 : am_tg 161 4 = 165 := (rfl)
theorem t_162_9 : am_tg 162 9 = 171 := (rfl)
theorem t_163_4 : am_tg 163 4 = 167 := (rfl)
theorem t_166_5 : am_tg 166 5 = 171 := (rfl)
theorem t_166_74 : am_tg 166 74 = 240 := (rfl)
theorem t_167_m156 : am_tg 167 (-156) = 11 := (rfl)
theorem t_168_7 : am_tg 168 7 = 175 := (rfl)
theorem t_168_14 : am_tg 168 14 = 182 := (rfl)
theorem t_172_m24 : am_tg 172 (-24) = 148 := (rfl)
theorem t_172_4 : am_tg 172 4 = 176 := (rfl)
theorem t_172_12 : am_tg 172 12 = 184 := (rfl)
theorem t_173_m168 : am_tg 173 (-168) = 5 := (rfl)
theorem t_173_m24 : am_tg 173 (-24) = 149 := (rfl)
theorem t_174_m148 : am_tg 174 (-148) = 26 := (rfl)
theorem t_174_m135 : am_tg 174 (-135) = 39 := (rfl)
theorem t_175_m86 : am_tg 175 (-86) = 89 := (rfl)
theorem t_175_7 : am_tg 175 7 = 182 := (rfl)
theorem t_177_16 : am_tg 177 16 = 193 := (rfl)
theorem t_177_28 : am_tg 177 28 = 205 := (rfl)
theorem t_178_m41 : am_tg 178 (-41) = 137 := (rfl)
theorem t_179_m41 : am_tg 179 (-41) = 138 := (rfl)
theorem t_179_4 : am_tg 179 4 = 183 := (rfl)
theorem t_181_m104 : am_tg 181 (-104) = 77 := (rfl)
theorem t_181_4 : am_tg 181 4 = 185 := (rfl)
theorem t_183_31 : am_tg 183 31 = 214 := (rfl)
theorem t_187_61 : am_tg 187 61 = 248 := (rfl)
theorem t_188_23 : am_tg 188 23 = 211 := (rfl)
theorem t_190_4 : am_tg 190 4 = 194 := (rfl)
theorem t_192_26 : am_tg 192 26 = 218 := (rfl)
theorem t_194_16 : am_tg 194 16 = 210 := (rfl)
theorem t_202_m31 : am_tg 202 (-31) = 171 := (rfl)
theorem t_203_7 : am_tg 203 7 = 210 := (rfl)
theorem t_207_32 : am_tg 207 32 = 239 := (rfl)
theorem t_208_m25 : am_tg 208 (-25) = 183 := (rfl)
theorem t_208_1114 : am_tg 208 1114 = 1322 := (rfl)
theorem t_210_35 : am_tg 210 35 = 245 := (rfl)
theorem t_211_28 : am_tg 211 28 = 239 := (rfl)
theorem t_215_m31 : am_tg 215 (-31) = 184 := (rfl)
theorem t_216_22 : am_tg 216 22 = 238 := (rfl)
theorem t_219_26 : am_tg 219 26 = 245 := (rfl)
theorem t_222_12 : am_tg 222 12 = 234 := (rfl)
theorem t_223_22 : am_tg 223 22 = 245 := (rfl)
theorem t_225_23 : am_tg 225 23 = 248 := (rfl)
theorem t_231_7 : am_tg 231 7 = 238 := (rfl)
theorem t_235_m22 : am_tg 235 (-22) = 213 := (rfl)
theorem t_235_4 : am_tg 235 4 = 239 := (rfl)
theorem t_242_m34 : am_tg 242 (-34) = 208 := (rfl)
theorem t_242_m22 : am_tg 242 (-22) = 220 := (rfl)
theorem t_243_m238 : am_tg 243 (-238) = 5 := (rfl)
theorem t_245_m26 : am_tg 245 (-26) = 219 := (rfl)
theorem t_251_m248 : am_tg 251 (-248) = 3 := (rfl)
theorem t_261_1061 : am_tg 261 1061 = 1322 := (rfl)
theorem t_294_1028 : am_tg 294 1028 = 1322 := (rfl)
theorem t_337_985 : am_tg 337 985 = 1322 := (rfl)
theorem t_360_962 : am_tg 360 962 = 1322 := (rfl)
theorem t_393_929 : am_tg 393 929 = 1322 := (rfl)
theorem t_466_856 : am_tg 466 856 = 1322 := (rfl)
theorem t_499_823 : am_tg 499 823 = 1322 := (rfl)
theorem t_533_789 : am_tg 533 789 = 1322 := (rfl)
theorem t_577_745 : am_tg 577 745 = 1322 := (rfl)
theorem t_620_702 : am_tg 620 702 = 1322 := (rfl)
theorem t_683_639 : am_tg 683 639 = 1322 := (rfl)
theorem t_736_586 : am_tg 736 586 = 1322 := (rfl)
theorem t_749_573 : am_tg 749 573 = 1322 := (rfl)
theorem t_762_560 : am_tg 762 560 = 1322 := (rfl)
theorem t_775_547 : am_tg 775 547 = 1322 := (rfl)
theorem t_799_523 : am_tg 799 523 = 1322 := (rfl)
theorem t_832_490 : am_tg 832 490 = 1322 := (rfl)
theorem t_865_457 : am_tg 865 457 = 1322 := (rfl)
theorem t_908_414 : am_tg 908 414 = 1322 := (rfl)
theorem t_951_371 : am_tg 951 371 = 1322 := (rfl)
theorem t_984_338 : am_tg 984 338 = 1322 := (rfl)
theorem t_1007_315 : am_tg 1007 315 = 1322 := (rfl)
theorem t_1031_291 : am_tg 1031 291 = 1322 := (rfl)
theorem t_1057_7 : am_tg 1057 7 = 1064 := (rfl)
theorem t_1061_4 : am_tg 1061 4 = 1065 := (rfl)
theorem t_1089_7 : am_tg 1089 7 = 1096 := (rfl)
theorem t_1093_4 : am_tg 1093 4 = 1097 := (rfl)
theorem t_1100_222 : am_tg 1100 222 = 1322 := (rfl)
theorem t_1116_7 : am_tg 1116 7 = 1123 := (rfl)
theorem t_1120_4 : am_tg 1120 4 = 1124 := (rfl)
theorem t_1138_7 : am_tg 1138 7 = 1145 := (rfl)
theorem t_1142_4 : am_tg 1142 4 = 1146 := (rfl)
theorem t_1149_173 : am_tg 1149 173 = 1322 := (rfl)
theorem t_1165_7 : am_tg 1165 7 = 1172 := (rfl)
theorem t_1169_4 : am_tg 1169 4 = 1173 := (rfl)
theorem t_1192_7 : am_tg 1192 7 = 1199 := (rfl)
theorem t_1196_4 : am_tg 1196 4 = 1200 := (rfl)
theorem t_1208_114 : am_tg 1208 114 = 1322 := (rfl)
theorem t_1231_91 : am_tg 1231 91 = 1322 := (rfl)
theorem t_1244_78 : am_tg 1244 78 = 1322 := (rfl)
theorem t_1257_65 : am_tg 1257 65 = 1322 := (rfl)
theorem t_1280_42 : am_tg 1280 42 = 1322 := (rfl)
theorem t_1303_19 : am_tg 1303 19 = 1322 := (rfl)
theorem t_1317_5 : am_tg 1317 5 = 1322 := (rfl)
theorem t_1325_m1307 : am_tg 1325 (-1307) = 18 := (rfl)
theorem pf_0_9 : lkp (pf 0) 9 = some (0, 0, false, 3, true) := (rfl)
theorem pf_0_23 : lkp (pf 0) 23 = some (0, 1, false, 0, false) := (rfl)
theorem pf_1_9 : lkp (pf 1) 9 = some (1, 5, false, 3, true) := (rfl)
theorem pf_1_15 : lkp (pf 1) 15 = some (1, 6, false, 3, true) := (rfl)
theorem pf_1_18 : lkp (pf 1) 18 = some (1, 7, false, 3, true) := (rfl)
theorem pf_1_21 : lkp (pf 1) 21 = some (1, 8, false, 3, true) := (rfl)
theorem pf_1_24 : lkp (pf 1) 24 = some (1, 9, false, 3, true) := (rfl)
theorem pf_1_32 : lkp (pf 1) 32 = some (1, 0, false, 0, false) := (rfl)
theorem pf_1_36 : lkp (pf 1) 36 = some (1, 1, false, 0, false) := (rfl)
theorem pf_1_39 : lkp (pf 1) 39 = some (1, 2, false, 0, false) := (rfl)
theorem pf_1_51 : lkp (pf 1) 51 = some (1, 4, false, 2, false) := (rfl)
theorem pf_1_77 : lkp (pf 1) 77 = some (1, 3, false, 0, false) := (rfl)
theorem pf_3_9 : lkp (pf 3) 9 = some (2, 0, false, 3, true) := (rfl)
theorem pf_3_19 : lkp (pf 3) 19 = some (2, 1, false, 0, false) := (rfl)
theorem pf_3_23 : lkp (pf 3) 23 = some (2, 2, false, 0, false) := (rfl)
theorem pf_3_26 : lkp (pf 3) 26 = some (2, 3, false, 0, false) := (rfl)
theorem pf_4_7 : lkp (pf 4) 7 = some (2, 1, true, 0, false) := (rfl)
theorem pf_4_13 : lkp (pf 4) 13 = some (3, 0, false, 3, true) := (rfl)
theorem pf_4_19 : lkp (pf 4) 19 = some (3, 1, false, 3, true) := (rfl)
theorem pf_4_22 : lkp (pf 4) 22 = some (3, 2, false, 3, true) := (rfl)
theorem pf_4_41 : lkp (pf 4) 41 = some (3, 4, false, 0, false) := (rfl)
theorem pf_4_51 : lkp (pf 4) 51 = some (3, 5, false, 0, false) := (rfl)
theorem pf_4_54 : lkp (pf 4) 54 = some (3, 3, false, 0, false) := (rfl)
theorem pf_5_9 : lkp (pf 5) 9 = some (4, 5, false, 3, true) := (rfl)
theorem pf_5_15 : lkp (pf 5) 15 = some (4, 6, false, 3, true) := (rfl)
theorem pf_5_18 : lkp (pf 5) 18 = some (4, 7, false, 0, false) := (rfl)
theorem pf_5_22 : lkp (pf 5) 22 = some (4, 8, false, 0, false) := (rfl)
theorem pf_5_25 : lkp (pf 5) 25 = some (4, 9, false, 0, false) := (rfl)
theorem pf_5_28 : lkp (pf 5) 28 = some (4, 10, false, 0, false) := (rfl)
theorem pf_5_31 : lkp (pf 5) 31 = some (4, 0, false, 1, false) := (rfl)
theorem pf_5_35 : lkp (pf 5) 35 = some (4, 11, false, 0, false) := (rfl)
theorem pf_5_38 : lkp (pf 5) 38 = some (4, 12, false, 0, false) := (rfl)
theorem pf_5_58 : lkp (pf 5) 58 = some (4, 1, false, 0, false) := (rfl)
theorem pf_5_69 : lkp (pf 5) 69 = some (4, 2, false, 0, false) := (rfl)
theorem pf_5_72 : lkp (pf 5) 72 = some (4, 3, false, 0, false) := (rfl)
theorem pf_5_75 : lkp (pf 5) 75 = some (4, 4, false, 0, false) := (rfl)
theorem pf_6_9 : lkp (pf 6) 9 = some (5, 0, false, 3, true) := (rfl)
theorem pf_6_15 : lkp (pf 6) 15 = some (5, 1, false, 3, true) := (rfl)
theorem pf_6_18 : lkp (pf 6) 18 = some (5, 2, false, 3, true) := (rfl)
theorem pf_6_21 : lkp (pf 6) 21 = some (5, 3, false, 3, true) := (rfl)
theorem pf_6_32 : lkp (pf 6) 32 = some (5, 4, false, 0, false) := (rfl)
theorem pf_6_36 : lkp (pf 6) 36 = some (5, 6, false, 0, false) := (rfl)
theorem pf_6_39 : lkp (pf 6) 39 = some (5, 7, false, 0, false) := (rfl)
theorem pf_6_46 : lkp (pf 6) 46 = some (5, 5, false, 0, false) := (rfl)
theorem pf_7_10 : lkp (pf 7) 10 = some (6, 0, false, 3, true) := (rfl)
theorem pf_7_18 : lkp (pf 7) 18 = some (6, 1, false, 3, true) := (rfl)
theorem pf_7_26 : lkp (pf 7) 26 = some (6, 2, false, 3, true) := (rfl)
theorem pf_7_32 : lkp (pf 7) 32 = some (6, 3, false, 3, true) := (rfl)
theorem pf_7_39 : lkp (pf 7) 39 = some (6, 4, false, 3, true) := (rfl)
theorem pf_7_46 : lkp (pf 7) 46 = some (6, 5, false, 3, true) := (rfl)
theorem pf_7_61 : lkp (pf 7) 61 = some (1, 0, true, 0, false) := (rfl)
theorem pf_7_111 : lkp (pf 7) 111 = some (1, 3, true, 0, false) := (rfl)
theorem pf_7_114 : lkp (pf 7) 114 = some (1, 1, true, 0, false) := (rfl)
theorem pf_7_117 : lkp (pf 7) 117 = some (1, 2, true, 0, false) := (rfl)
theorem pf_7_120 : lkp (pf 7) 120 = some (1, 4, true, 2, false) := (rfl)
theorem pf_7_133 : lkp (pf 7) 133 = some (1, 5, true, 3, true) := (rfl)
theorem pf_7_165 : lkp (pf 7) 165 = some (6, 7, false, 0, false) := (rfl)
theorem pf_7_172 : lkp (pf 7) 172 = some (4, 0, true, 1, false) := (rfl)
theorem pf_7_176 : lkp (pf 7) 176 = some (4, 1, true, 0, false) := (rfl)
theorem pf_7_179 : lkp (pf 7) 179 = some (4, 2, true, 0, false) := (rfl)
theorem pf_7_182 : lkp (pf 7) 182 = some (4, 3, true, 0, false) := (rfl)
theorem pf_7_185 : lkp (pf 7) 185 = some (4, 4, true, 0, false) := (rfl)
theorem pf_7_188 : lkp (pf 7) 188 = some (4, 5, true, 3, true) := (rfl)
theorem pf_7_194 : lkp (pf 7) 194 = some (2, 1, true, 0, false) := (rfl)
theorem pf_7_208 : lkp (pf 7) 208 = some (6, 6, false, 0, false) := (rfl)
theorem pf_7_226 : lkp (pf 7) 226 = some (3, 5, true, 0, false) := (rfl)
theorem pf_7_251 : lkp (pf 7) 251 = some (0, 0, true, 3, true) := (rfl)
theorem pf_7_254 : lkp (pf 7) 254 = some (6, 8, false, 0, false) := (rfl)
theorem pf_7_291 : lkp (pf 7) 291 = some (2, 0, true, 3, true) := (rfl)
theorem pf_8_7 : lkp (pf 8) 7 = some (7, 0, false, 3, true) := (rfl)
theorem pf_8_13 : lkp (pf 8) 13 = some (7, 1, false, 3, true) := (rfl)
theorem pf_8_16 : lkp (pf 8) 16 = some (7, 2, false, 3, true) := (rfl)
theorem pf_8_20 : lkp (pf 8) 20 = some (7, 4, false, 3, true) := (rfl)
theorem pf_8_23 : lkp (pf 8) 23 = some (7, 5, false, 3, true) := (rfl)
theorem pf_8_26 : lkp (pf 8) 26 = some (7, 6, false, 3, true) := (rfl)
theorem pf_8_29 : lkp (pf 8) 29 = some (7, 8, false, 3, true) := (rfl)
theorem pf_8_32 : lkp (pf 8) 32 = some (7, 9, false, 3, true) := (rfl)
theorem pf_8_35 : lkp (pf 8) 35 = some (7, 10, false, 3, true) := (rfl)
theorem pf_8_38 : lkp (pf 8) 38 = some (7, 11, false, 3, true) := (rfl)
theorem pf_8_41 : lkp (pf 8) 41 = some (7, 12, false, 3, true) := (rfl)
theorem pf_8_44 : lkp (pf 8) 44 = some (7, 13, false, 3, true) := (rfl)
theorem pf_8_47 : lkp (pf 8) 47 = some (7, 14, false, 3, true) := (rfl)
theorem pf_8_50 : lkp (pf 8) 50 = some (7, 15, false, 3, true) := (rfl)
theorem pf_8_53 : lkp (pf 8) 53 = some (7, 24, false, 3, true) := (rfl)
theorem pf_8_56 : lkp (pf 8) 56 = some (7, 25, false, 3, true) := (rfl)
theorem pf_8_59 : lkp (pf 8) 59 = some (7, 28, false, 3, true) := (rfl)
theorem pf_8_62 : lkp (pf 8) 62 = some (7, 29, false, 3, true) := (rfl)
theorem pf_8_65 : lkp (pf 8) 65 = some (7, 30, false, 3, true) := (rfl)
theorem pf_8_68 : lkp (pf 8) 68 = some (7, 37, false, 3, true) := (rfl)
theorem pf_8_71 : lkp (pf 8) 71 = some (7, 38, false, 3, true) := (rfl)
theorem pf_8_74 : lkp (pf 8) 74 = some (7, 40, false, 3, true) := (rfl)
theorem pf_8_77 : lkp (pf 8) 77 = some (7, 42, false, 3, true) := (rfl)
theorem pf_8_80 : lkp (pf 8) 80 = some (7, 43, false, 3, true) := (rfl)
theorem pf_8_83 : lkp (pf 8) 83 = some (7, 44, false, 3, true) := (rfl)
theorem pf_8_106 : lkp (pf 8) 106 = some (7, 7, false, 0, false) := (rfl)
theorem pf_8_110 : lkp (pf 8) 110 = some (7, 3, false, 0, false) := (rfl)
theorem pf_8_147 : lkp (pf 8) 147 = some (7, 16, false, 0, false) := (rfl)
theorem pf_8_172 : lkp (pf 8) 172 = some (7, 17, false, 0, false) := (rfl)
theorem pf_8_175 : lkp (pf 8) 175 = some (7, 18, false, 0, false) := (rfl)
theorem pf_8_231 : lkp (pf 8) 231 = some (7, 20, false, 0, false) := (rfl)
theorem pf_8_234 : lkp (pf 8) 234 = some (7, 21, false, 0, false) := (rfl)
theorem pf_8_237 : lkp (pf 8) 237 = some (7, 22, false, 0, false) := (rfl)
theorem pf_8_240 : lkp (pf 8) 240 = some (7, 23, false, 0, false) := (rfl)
theorem pf_8_251 : lkp (pf 8) 251 = some (7, 19, false, 0, false) := (rfl)
theorem pf_8_259 : lkp (pf 8) 259 = some (7, 26, false, 0, false) := (rfl)
theorem pf_8_262 : lkp (pf 8) 262 = some (7, 39, false, 0, false) := (rfl)
theorem pf_8_265 : lkp (pf 8) 265 = some (7, 41, false, 0, false) := (rfl)
theorem pf_8_271 : lkp (pf 8) 271 = some (7, 36, false, 1, false) := (rfl)
theorem pf_8_275 : lkp (pf 8) 275 = some (7, 33, false, 0, false) := (rfl)
theorem pf_8_278 : lkp (pf 8) 278 = some (7, 34, false, 0, false) := (rfl)
theorem pf_8_281 : lkp (pf 8) 281 = some (7, 35, false, 0, false) := (rfl)
theorem pf_8_290 : lkp (pf 8) 290 = some (7, 31, false, 0, false) := (rfl)
theorem pf_8_293 : lkp (pf 8) 293 = some (7, 32, false, 0, false) := (rfl)
theorem pf_8_309 : lkp (pf 8) 309 = some (7, 27, false, 0, false) := (rfl)
theorem pf_8_355 : lkp (pf 8) 355 = some (7, 45, false, 0, false) := (rfl)
theorem pm_0_3 : lkp (pm 0) 3 = some (M_obj, 4, 0, 0) := (rfl)
theorem pm_0_15 : lkp (pm 0) 15 = some (MX0_columnAt, 1, 2, 0) := (rfl)
theorem pm_0_19 : lkp (pm 0) 19 = some (MX0_layByLine, 0, 1, 0) := (rfl)
theorem pm_0_27 : lkp (pm 0) 27 = some (MX0_sortRun, 0, 5, 0) := (rfl)
theorem pm_0_31 : lkp (pm 0) 31 = some (MX0_runEnd, 0, 4, 0) := (rfl)
theorem pm_0_35 : lkp (pm 0) 35 = some (MJ9_max_7cf53, 5, 2, 0) := (rfl)
theorem pm_0_40 : lkp (pm 0) 40 = some (MX6_rowCount, 0, 0, 5) := (rfl)
theorem pm_0_45 : lkp (pm 0) 45 = some (MX6_hasRow, 0, 1, 5) := (rfl)
theorem pm_0_49 : lkp (pm 0) 49 = some (MX0_alike, 1, 5, 0) := (rfl)
theorem pm_0_53 : lkp (pm 0) 53 = some (MX6_number, 0, 2, 5) := (rfl)
theorem pm_0_56 : lkp (pm 0) 56 = some (MX0_isBehind, 1, 3, 0) := (rfl)
theorem pm_1_3 : lkp (pm 1) 3 = some (M_obj, 4, 0, 0) := (rfl)
theorem pm_1_28 : lkp (pm 1) 28 = some (MX1_resize, 0, 1, 1) := (rfl)
theorem pm_1_42 : lkp (pm 1) 42 = some (MX1_settle, 0, 0, 1) := (rfl)
theorem pm_1_45 : lkp (pm 1) 45 = some (MJ9_max_7cf53, 5, 2, 0) := (rfl)
theorem pm_1_55 : lkp (pm 1) 55 = some (MX1_has, 0, 1, 1) := (rfl)
theorem pm_1_59 : lkp (pm 1) 59 = some (MX1_takeTold, 0, 1, 1) := (rfl)
theorem pm_1_63 : lkp (pm 1) 63 = some (MX1_isDesign, 0, 3, 1) := (rfl)
theorem pm_1_69 : lkp (pm 1) 69 = some (MX2_roomOf, 1, 2, 0) := (rfl)
theorem pm_1_74 : lkp (pm 1) 74 = some (MX2_tellJust, 1, 3, 0) := (rfl)
theorem pm_1_80 : lkp (pm 1) 80 = some (MX1_slicesByFigures, 0, 1, 1) := (rfl)
theorem pm_1_84 : lkp (pm 1) 84 = some (MX1_figureOf, 0, 2, 1) := (rfl)
theorem pm_1_87 : lkp (pm 1) 87 = some (MX2_slicesOfFigure, 1, 3, 0) := (rfl)
theorem pm_1_91 : lkp (pm 1) 91 = some (MX2_readForFigure, 1, 3, 0) := (rfl)
theorem pm_1_94 : lkp (pm 1) 94 = some (MX2_readBelowFigure, 1, 3, 0) := (rfl)
theorem pm_1_97 : lkp (pm 1) 97 = some (MX2_costOf, 1, 6, 0) := (rfl)
theorem pm_2_9 : lkp (pm 2) 9 = some (MX7_lowBits, 3, 1, 6) := (rfl)
theorem pm_2_17 : lkp (pm 2) 17 = some (MJ9_max_7cf53, 5, 2, 0) := (rfl)
theorem pm_2_23 : lkp (pm 2) 23 = some (MJ9_min_7cf53, 6, 2, 0) := (rfl)
theorem pm_2_26 : lkp (pm 2) 26 = some (MX2_readForFigure, 1, 3, 0) := (rfl)
theorem pm_2_32 : lkp (pm 2) 32 = some (MX2_readBelowFigure, 1, 3, 0) := (rfl)
theorem pm_2_35 : lkp (pm 2) 35 = some (MJ13_bitCount_95d88, 1, 1, 0) := (rfl)
theorem pm_3_3 : lkp (pm 3) 3 = some (M_obj, 4, 0, 0) := (rfl)
theorem pm_3_15 : lkp (pm 3) 15 = some (MX3_codeIn, 1, 2, 2) := (rfl)
theorem pm_3_29 : lkp (pm 3) 29 = some (MX3_placeBehind, 0, 1, 2) := (rfl)
theorem pm_3_33 : lkp (pm 3) 33 = some (MX3_goodLetters, 0, 0, 2) := (rfl)
theorem pm_3_37 : lkp (pm 3) 37 = some (MX3_behindFactorStart, 0, 1, 2) := (rfl)
theorem pm_3_40 : lkp (pm 3) 40 = some (MX3_isDigit, 1, 1, 2) := (rfl)
theorem pm_3_44 : lkp (pm 3) 44 = some (MX3_behindWholeFactor, 0, 1, 2) := (rfl)
theorem pm_3_47 : lkp (pm 3) 47 = some (MX3_codeAt, 0, 1, 2) := (rfl)
theorem pm_4_1 : lkp (pm 4) 1 = some (M_obj, 4, 0, 0) := (rfl)
theorem pm_4_26 : lkp (pm 4) 26 = some (MX4_takeLetter, 0, 2, 3) := (rfl)
theorem pm_4_30 : lkp (pm 4) 30 = some (MX4_writeWaiting, 0, 1, 3) := (rfl)
theorem pm_4_34 : lkp (pm 4) 34 = some (MX3_codeAt, 0, 1, 2) := (rfl)
theorem pm_4_38 : lkp (pm 4) 38 = some (MX4_hold, 0, 1, 3) := (rfl)
theorem pm_4_44 : lkp (pm 4) 44 = some (MX4_comparisonAt, 1, 2, 3) := (rfl)
theorem pm_4_48 : lkp (pm 4) 48 = some (MX4_write, 0, 1, 3) := (rfl)
theorem pm_4_57 : lkp (pm 4) 57 = some (MX3_numberBehind, 0, 1, 2) := (rfl)
theorem pm_4_60 : lkp (pm 4) 60 = some (MX1_readForEqual, 0, 1, 1) := (rfl)
theorem pm_4_66 : lkp (pm 4) 66 = some (MX1_readForBelow, 0, 1, 1) := (rfl)
theorem pm_4_69 : lkp (pm 4) 69 = some (MX6_linesWithRow, 0, 0, 5) := (rfl)
theorem pm_4_75 : lkp (pm 4) 75 = some (MX4_linesThatHold, 1, 3, 3) := (rfl)
theorem pm_4_81 : lkp (pm 4) 81 = some (MX6_linesBelow, 0, 2, 5) := (rfl)
theorem pm_4_85 : lkp (pm 4) 85 = some (MX6_linesWith, 0, 2, 5) := (rfl)
theorem pm_5_3 : lkp (pm 5) 3 = some (M_obj, 4, 0, 0) := (rfl)
theorem pm_5_41 : lkp (pm 5) 41 = some (MX5_extend, 1, 5, 4) := (rfl)
theorem pm_5_45 : lkp (pm 5) 45 = some (MX2_roomOf, 1, 2, 0) := (rfl)
theorem pm_5_51 : lkp (pm 5) 51 = some (MX2_tellJust, 1, 3, 0) := (rfl)
theorem pm_5_55 : lkp (pm 5) 55 = some (MX5_figureCost, 0, 2, 4) := (rfl)
theorem pm_5_61 : lkp (pm 5) 61 = some (MX5_consider, 0, 2, 4) := (rfl)
theorem pm_5_65 : lkp (pm 5) 65 = some (MX2_costOf, 1, 6, 0) := (rfl)
theorem pm_6_3 : lkp (pm 6) 3 = some (M_obj, 4, 0, 0) := (rfl)
theorem pm_6_24 : lkp (pm 6) 24 = some (MX6_altered, 1, 3, 5) := (rfl)
theorem pm_6_28 : lkp (pm 6) 28 = some (MX6_hasRow, 0, 1, 5) := (rfl)
theorem pm_6_42 : lkp (pm 6) 42 = some (MX6_number, 0, 2, 5) := (rfl)
theorem pm_6_49 : lkp (pm 6) 49 = some (MJ9_min_7cf53, 6, 2, 0) := (rfl)
theorem pm_6_54 : lkp (pm 6) 54 = some (MX6_put, 0, 2, 5) := (rfl)
theorem pm_6_58 : lkp (pm 6) 58 = some (MX6_change, 0, 2, 5) := (rfl)
theorem pm_6_61 : lkp (pm 6) 61 = some (MX6_forgetChanges, 0, 0, 5) := (rfl)
theorem pm_7_1 : lkp (pm 7) 1 = some (M_obj, 4, 0, 0) := (rfl)
theorem pm_7_9 : lkp (pm 7) 9 = some (MX6_init, 2, 0, 5) := (rfl)
theorem pm_7_22 : lkp (pm 7) 22 = some (MX1_init, 2, 0, 1) := (rfl)
theorem pm_7_25 : lkp (pm 7) 25 = some (MX3_init, 2, 0, 2) := (rfl)
theorem pm_7_38 : lkp (pm 7) 38 = some (MX5_init, 2, 0, 4) := (rfl)
theorem pm_7_45 : lkp (pm 7) 45 = some (MX0_init, 2, 0, 0) := (rfl)
theorem pm_7_50 : lkp (pm 7) 50 = some (MX7_isColumn, 1, 1, 6) := (rfl)
theorem pm_7_54 : lkp (pm 7) 54 = some (MX6_rowCount, 0, 0, 5) := (rfl)
theorem pm_7_58 : lkp (pm 7) 58 = some (MX6_markCount, 0, 0, 5) := (rfl)
theorem pm_7_65 : lkp (pm 7) 65 = some (MX1_resize, 0, 1, 1) := (rfl)
theorem pm_7_69 : lkp (pm 7) 69 = some (MX6_forgetChanges, 0, 0, 5) := (rfl)
theorem pm_7_72 : lkp (pm 7) 72 = some (MX1_has, 0, 1, 1) := (rfl)
theorem pm_7_75 : lkp (pm 7) 75 = some (MX6_leastEmpty, 0, 0, 5) := (rfl)
theorem pm_7_78 : lkp (pm 7) 78 = some (MX6_packed, 1, 4, 5) := (rfl)
theorem pm_7_82 : lkp (pm 7) 82 = some (MX6_change, 0, 2, 5) := (rfl)
theorem pm_7_88 : lkp (pm 7) 88 = some (MX1_numberFrom, 0, 1, 1) := (rfl)
theorem pm_7_92 : lkp (pm 7) 92 = some (MX6_altered, 1, 3, 5) := (rfl)
theorem pm_7_96 : lkp (pm 7) 96 = some (MX6_hasRow, 0, 1, 5) := (rfl)
theorem pm_7_99 : lkp (pm 7) 99 = some (MX6_number, 0, 2, 5) := (rfl)
theorem pm_7_103 : lkp (pm 7) 103 = some (MX6_changeNumber, 0, 3, 5) := (rfl)
theorem pm_7_107 : lkp (pm 7) 107 = some (MX1_redesign, 0, 2, 1) := (rfl)
theorem pm_7_124 : lkp (pm 7) 124 = some (MJ13_bitCount_95d88, 1, 1, 0) := (rfl)
theorem pm_7_130 : lkp (pm 7) 130 = some (MX7_asksForBase, 1, 1, 6) := (rfl)
theorem pm_7_137 : lkp (pm 7) 137 = some (MX7_baseOrNone, 1, 3, 6) := (rfl)
theorem pm_7_141 : lkp (pm 7) 141 = some (MX7_isVector, 0, 2, 6) := (rfl)
theorem pm_7_145 : lkp (pm 7) 145 = some (MX1_isTorn, 0, 1, 1) := (rfl)
theorem pm_7_148 : lkp (pm 7) 148 = some (MX7_slicesAt, 0, 2, 6) := (rfl)
theorem pm_7_152 : lkp (pm 7) 152 = some (MX1_readForEqual, 0, 1, 1) := (rfl)
theorem pm_7_156 : lkp (pm 7) 156 = some (MX1_readForBelow, 0, 1, 1) := (rfl)
theorem pm_7_159 : lkp (pm 7) 159 = some (MX7_isWeight, 1, 1, 6) := (rfl)
theorem pm_7_162 : lkp (pm 7) 162 = some (MX1_designCost, 0, 2, 1) := (rfl)
theorem pm_7_168 : lkp (pm 7) 168 = some (MX5_seek, 0, 4, 4) := (rfl)
theorem pm_7_191 : lkp (pm 7) 191 = some (MX3_lettersIn, 1, 1, 2) := (rfl)
theorem pm_7_197 : lkp (pm 7) 197 = some (MX3_append, 0, 2, 2) := (rfl)
theorem pm_7_201 : lkp (pm 7) 201 = some (MX3_goodLetters, 0, 0, 2) := (rfl)
theorem pm_7_204 : lkp (pm 7) 204 = some (MX3_isQuestion, 0, 0, 2) := (rfl)
theorem pm_7_211 : lkp (pm 7) 211 = some (MX4_init, 2, 1, 3) := (rfl)
theorem pm_7_214 : lkp (pm 7) 214 = some (MX7_isQuestion, 0, 1, 6) := (rfl)
theorem pm_7_216 : lkp (pm 7) 216 = some (MX7_fails, 0, 1, 6) := (rfl)
theorem pm_7_219 : lkp (pm 7) 219 = some (MX4_leftLines, 0, 1, 3) := (rfl)
theorem pm_7_223 : lkp (pm 7) 223 = some (MX7_vectorsRead, 0, 1, 6) := (rfl)
theorem pm_7_229 : lkp (pm 7) 229 = some (MX6_linesWith, 0, 2, 5) := (rfl)
theorem pm_7_232 : lkp (pm 7) 232 = some (MX7_bitAt, 1, 2, 6) := (rfl)
theorem pm_7_236 : lkp (pm 7) 236 = some (MX0_isOrder, 1, 1, 0) := (rfl)
theorem pm_7_239 : lkp (pm 7) 239 = some (MX0_arrange, 0, 3, 0) := (rfl)
theorem pm_7_243 : lkp (pm 7) 243 = some (MX7_squeezedWords, 0, 2, 6) := (rfl)
theorem pm_7_247 : lkp (pm 7) 247 = some (MX7_tableWords, 0, 2, 6) := (rfl)
theorem pm_7_257 : lkp (pm 7) 257 = some (MX6_undoLatest, 0, 0, 5) := (rfl)
theorem pm_7_260 : lkp (pm 7) 260 = some (MX6_changesKept, 0, 0, 5) := (rfl)
theorem pm_7_263 : lkp (pm 7) 263 = some (MX6_keepMark, 0, 0, 5) := (rfl)
theorem pm_7_266 : lkp (pm 7) 266 = some (MX6_returnTo, 0, 1, 5) := (rfl)
theorem pm_7_269 : lkp (pm 7) 269 = some (MX7_vectorsOfAll, 0, 0, 6) := (rfl)
theorem pm_7_272 : lkp (pm 7) 272 = some (MX7_tornOfAll, 0, 0, 6) := (rfl)
theorem pm_7_279 : lkp (pm 7) 279 = some (MX7_get, 0, 2, 6) := (rfl)
theorem pm_7_282 : lkp (pm 7) 282 = some (MX7_about, 0, 2, 6) := (rfl)
theorem pm_7_285 : lkp (pm 7) 285 = some (MX7_parity, 0, 1, 6) := (rfl)
theorem pm_7_288 : lkp (pm 7) 288 = some (MX7_asked, 0, 2, 6) := (rfl)
theorem pm_7_294 : lkp (pm 7) 294 = some (MX7_count, 0, 1, 6) := (rfl)
theorem pm_7_299 : lkp (pm 7) 299 = some (MX1_slicesOf, 0, 1, 1) := (rfl)
theorem pm_7_302 : lkp (pm 7) 302 = some (MX4_readOf, 0, 2, 3) := (rfl)
theorem pm_7_306 : lkp (pm 7) 306 = some (MX7_lowBits, 1, 1, 6) := (rfl)
theorem pm_8_1 : lkp (pm 8) 1 = some (M_obj, 4, 0, 0) := (rfl)
theorem pm_8_88 : lkp (pm 8) 88 = some (MX8_in, 1, 3, 7) := (rfl)
theorem pm_8_94 : lkp (pm 8) 94 = some (MX8_isColumn, 1, 1, 7) := (rfl)
theorem pm_8_102 : lkp (pm 8) 102 = some (MX8_rows, 0, 0, 7) := (rfl)
theorem pm_8_113 : lkp (pm 8) 113 = some (MX8_untear, 0, 1, 7) := (rfl)
theorem pm_8_117 : lkp (pm 8) 117 = some (MX8_emptyLine, 0, 0, 7) := (rfl)
theorem pm_8_120 : lkp (pm 8) 120 = some (MX8_keep, 0, 1, 7) := (rfl)
theorem pm_8_123 : lkp (pm 8) 123 = some (MX8_come, 0, 4, 7) := (rfl)
theorem pm_8_137 : lkp (pm 8) 137 = some (MX8_isRow, 0, 1, 7) := (rfl)
theorem pm_8_140 : lkp (pm 8) 140 = some (MX8_getOf, 0, 2, 7) := (rfl)
theorem pm_8_144 : lkp (pm 8) 144 = some (MX8_vectorsOf, 1, 2, 7) := (rfl)
theorem pm_8_152 : lkp (pm 8) 152 = some (MX8_isDesign, 0, 2, 7) := (rfl)
theorem pm_8_156 : lkp (pm 8) 156 = some (MX8_roomOf, 0, 1, 7) := (rfl)
theorem pm_8_160 : lkp (pm 8) 160 = some (MX8_tornOf, 0, 1, 7) := (rfl)
theorem pm_8_169 : lkp (pm 8) 169 = some (MX8_aboutOf, 0, 2, 7) := (rfl)
theorem pm_8_178 : lkp (pm 8) 178 = some (MX8_figure, 0, 3, 7) := (rfl)
theorem pm_8_182 : lkp (pm 8) 182 = some (MX8_findVector, 0, 2, 7) := (rfl)
theorem pm_8_186 : lkp (pm 8) 186 = some (MX8_bit, 0, 2, 7) := (rfl)
theorem pm_8_189 : lkp (pm 8) 189 = some (MX8_isVector, 0, 2, 7) := (rfl)
theorem pm_8_192 : lkp (pm 8) 192 = some (MX8_vectorBits, 0, 2, 7) := (rfl)
theorem pm_8_196 : lkp (pm 8) 196 = some (MX8_span, 1, 2, 7) := (rfl)
theorem pm_8_199 : lkp (pm 8) 199 = some (MX8_lessReads, 1, 3, 7) := (rfl)
theorem pm_8_203 : lkp (pm 8) 203 = some (MX8_equalReads, 1, 3, 7) := (rfl)
theorem pm_8_206 : lkp (pm 8) 206 = some (MX8_takeBases, 0, 1, 7) := (rfl)
theorem pm_8_209 : lkp (pm 8) 209 = some (MX8_readBy, 0, 4, 7) := (rfl)
theorem pm_8_215 : lkp (pm 8) 215 = some (MX8_readsOf, 0, 3, 7) := (rfl)
theorem pm_8_219 : lkp (pm 8) 219 = some (MX8_bitsOf, 1, 1, 7) := (rfl)
theorem pm_8_225 : lkp (pm 8) 225 = some (MX8_isWeight, 1, 1, 7) := (rfl)
theorem pm_8_228 : lkp (pm 8) 228 = some (MX8_costBy, 0, 4, 7) := (rfl)
theorem pm_8_243 : lkp (pm 8) 243 = some (MX8_isEarlier, 0, 0, 7) := (rfl)
theorem pm_8_247 : lkp (pm 8) 247 = some (MX8_weigh, 0, 4, 7) := (rfl)
theorem pm_8_254 : lkp (pm 8) 254 = some (MX8_findBest, 0, 4, 7) := (rfl)
theorem pm_8_268 : lkp (pm 8) 268 = some (MX8_lay, 0, 2, 7) := (rfl)
theorem pm_8_284 : lkp (pm 8) 284 = some (MX8_endNumber, 0, 0, 7) := (rfl)
theorem pm_8_287 : lkp (pm 8) 287 = some (MX8_layDown, 0, 1, 7) := (rfl)
theorem pm_8_300 : lkp (pm 8) 300 = some (MX8_goBehind, 0, 1, 7) := (rfl)
theorem pm_8_303 : lkp (pm 8) 303 = some (MX8_go, 0, 1, 7) := (rfl)
theorem pm_8_306 : lkp (pm 8) 306 = some (MX8_goodOf, 0, 0, 7) := (rfl)
theorem pm_8_312 : lkp (pm 8) 312 = some (MX8_readsBy, 0, 2, 7) := (rfl)
theorem pm_8_315 : lkp (pm 8) 315 = some (MX8_holdsFor, 0, 2, 7) := (rfl)
theorem pm_8_318 : lkp (pm 8) 318 = some (MX8_isQuestion, 0, 1, 7) := (rfl)
theorem pm_8_321 : lkp (pm 8) 321 = some (MX8_fails, 0, 1, 7) := (rfl)
theorem pm_8_324 : lkp (pm 8) 324 = some (MX8_isLeft, 0, 2, 7) := (rfl)
theorem pm_8_327 : lkp (pm 8) 327 = some (MX8_askedOf, 0, 2, 7) := (rfl)
theorem pm_8_330 : lkp (pm 8) 330 = some (MX8_parityOf, 0, 1, 7) := (rfl)
theorem pm_8_334 : lkp (pm 8) 334 = some (MX8_sameTo, 0, 3, 7) := (rfl)
theorem pm_8_338 : lkp (pm 8) 338 = some (MX8_sortRun, 0, 4, 7) := (rfl)
theorem pm_8_342 : lkp (pm 8) 342 = some (MX8_wordsOf, 0, 2, 7) := (rfl)
theorem pm_8_345 : lkp (pm 8) 345 = some (MX8_takeOrder, 0, 1, 7) := (rfl)
theorem pm_8_348 : lkp (pm 8) 348 = some (MX8_layOrder, 0, 1, 7) := (rfl)
theorem pm_8_352 : lkp (pm 8) 352 = some (MX8_allWords, 0, 0, 7) := (rfl)
theorem pm_8_358 : lkp (pm 8) 358 = some (MX8_countOf, 0, 1, 7) := (rfl)
theorem pm_11_9 : lkp (pm 11) 9 = some (MX7_init, 2, 0, 6) := (rfl)
theorem pm_11_12 : lkp (pm 11) 12 = some (MX8_init, 2, 0, 7) := (rfl)
theorem pm_11_13 : lkp (pm 11) 13 = some (MX7_size, 0, 2, 6) := (rfl)
theorem pm_11_17 : lkp (pm 11) 17 = some (MX8_size, 0, 2, 7) := (rfl)
theorem pm_11_18 : lkp (pm 11) 18 = some (MX7_row, 0, 4, 6) := (rfl)
theorem pm_11_22 : lkp (pm 11) 22 = some (MX8_row, 0, 4, 7) := (rfl)
theorem pm_11_23 : lkp (pm 11) 23 = some (MX7_fill, 0, 2, 6) := (rfl)
theorem pm_11_26 : lkp (pm 11) 26 = some (MX8_fill, 0, 2, 7) := (rfl)
theorem pm_11_27 : lkp (pm 11) 27 = some (MX7_set, 0, 3, 6) := (rfl)
theorem pm_11_31 : lkp (pm 11) 31 = some (MX8_set, 0, 3, 7) := (rfl)
theorem pm_11_32 : lkp (pm 11) 32 = some (MX7_drop, 0, 1, 6) := (rfl)
theorem pm_11_36 : lkp (pm 11) 36 = some (MX8_drop, 0, 1, 7) := (rfl)
theorem pm_11_37 : lkp (pm 11) 37 = some (MX7_get, 0, 2, 6) := (rfl)
theorem pm_11_40 : lkp (pm 11) 40 = some (MX8_get, 0, 2, 7) := (rfl)
theorem pm_11_43 : lkp (pm 11) 43 = some (MX7_design, 0, 3, 6) := (rfl)
theorem pm_11_47 : lkp (pm 11) 47 = some (MX8_design, 0, 3, 7) := (rfl)
theorem pm_11_48 : lkp (pm 11) 48 = some (MX7_about, 0, 2, 6) := (rfl)
theorem pm_11_51 : lkp (pm 11) 51 = some (MX8_about, 0, 2, 7) := (rfl)
theorem pm_11_52 : lkp (pm 11) 52 = some (MX7_vector, 0, 2, 6) := (rfl)
theorem pm_11_56 : lkp (pm 11) 56 = some (MX8_vector, 0, 2, 7) := (rfl)
theorem pm_11_57 : lkp (pm 11) 57 = some (MX7_reads, 0, 3, 6) := (rfl)
theorem pm_11_61 : lkp (pm 11) 61 = some (MX8_reads, 0, 3, 7) := (rfl)
theorem pm_11_62 : lkp (pm 11) 62 = some (MX7_cost, 0, 3, 6) := (rfl)
theorem pm_11_65 : lkp (pm 11) 65 = some (MX8_cost, 0, 3, 7) := (rfl)
theorem pm_11_66 : lkp (pm 11) 66 = some (MX7_best, 0, 5, 6) := (rfl)
theorem pm_11_70 : lkp (pm 11) 70 = some (MX8_best, 0, 5, 7) := (rfl)
theorem pm_11_71 : lkp (pm 11) 71 = some (MX7_letters, 0, 1, 6) := (rfl)
theorem pm_11_75 : lkp (pm 11) 75 = some (MX8_letters, 0, 1, 7) := (rfl)
theorem pm_11_76 : lkp (pm 11) 76 = some (MX7_blank, 0, 0, 6) := (rfl)
theorem pm_11_80 : lkp (pm 11) 80 = some (MX8_blank, 0, 0, 7) := (rfl)
theorem pm_11_81 : lkp (pm 11) 81 = some (MX7_good, 0, 0, 6) := (rfl)
theorem pm_11_84 : lkp (pm 11) 84 = some (MX8_good, 0, 0, 7) := (rfl)
theorem pm_11_85 : lkp (pm 11) 85 = some (MX7_ask, 0, 0, 6) := (rfl)
theorem pm_11_88 : lkp (pm 11) 88 = some (MX8_ask, 0, 0, 7) := (rfl)
theorem pm_11_89 : lkp (pm 11) 89 = some (MX7_leaves, 0, 1, 6) := (rfl)
theorem pm_11_93 : lkp (pm 11) 93 = some (MX8_leaves, 0, 1, 7) := (rfl)
theorem pm_11_94 : lkp (pm 11) 94 = some (MX7_asked, 0, 2, 6) := (rfl)
theorem pm_11_97 : lkp (pm 11) 97 = some (MX8_asked, 0, 2, 7) := (rfl)
theorem pm_11_98 : lkp (pm 11) 98 = some (MX7_sum, 0, 2, 6) := (rfl)
theorem pm_11_101 : lkp (pm 11) 101 = some (MX8_sum, 0, 2, 7) := (rfl)
theorem pm_11_102 : lkp (pm 11) 102 = some (MX7_least, 0, 3, 6) := (rfl)
theorem pm_11_105 : lkp (pm 11) 105 = some (MX8_least, 0, 3, 7) := (rfl)
theorem pm_11_106 : lkp (pm 11) 106 = some (MX7_group, 0, 3, 6) := (rfl)
theorem pm_11_109 : lkp (pm 11) 109 = some (MX8_group, 0, 3, 7) := (rfl)
theorem pm_11_110 : lkp (pm 11) 110 = some (MX7_tear, 0, 2, 6) := (rfl)
theorem pm_11_113 : lkp (pm 11) 113 = some (MX8_tear, 0, 2, 7) := (rfl)
theorem pm_11_114 : lkp (pm 11) 114 = some (MX7_mend, 0, 1, 6) := (rfl)
theorem pm_11_117 : lkp (pm 11) 117 = some (MX8_mend, 0, 1, 7) := (rfl)
theorem pm_11_118 : lkp (pm 11) 118 = some (MX7_parity, 0, 1, 6) := (rfl)
theorem pm_11_121 : lkp (pm 11) 121 = some (MX8_parity, 0, 1, 7) := (rfl)
theorem pm_11_122 : lkp (pm 11) 122 = some (MX7_words, 0, 4, 6) := (rfl)
theorem pm_11_126 : lkp (pm 11) 126 = some (MX8_words, 0, 4, 7) := (rfl)
theorem pm_11_127 : lkp (pm 11) 127 = some (MX7_all, 0, 2, 6) := (rfl)
theorem pm_11_131 : lkp (pm 11) 131 = some (MX8_all, 0, 2, 7) := (rfl)
theorem pm_11_132 : lkp (pm 11) 132 = some (MX7_placed, 0, 3, 6) := (rfl)
theorem pm_11_136 : lkp (pm 11) 136 = some (MX8_placed, 0, 3, 7) := (rfl)
theorem pm_11_137 : lkp (pm 11) 137 = some (MX7_order, 0, 1, 6) := (rfl)
theorem pm_11_140 : lkp (pm 11) 140 = some (MX8_order, 0, 1, 7) := (rfl)
theorem pm_11_141 : lkp (pm 11) 141 = some (MX7_undo, 0, 0, 6) := (rfl)
theorem pm_11_144 : lkp (pm 11) 144 = some (MX8_undo, 0, 0, 7) := (rfl)
theorem pm_11_145 : lkp (pm 11) 145 = some (MX7_mark, 0, 0, 6) := (rfl)
theorem pm_11_148 : lkp (pm 11) 148 = some (MX8_mark, 0, 0, 7) := (rfl)
theorem pm_11_149 : lkp (pm 11) 149 = some (MX7_back, 0, 1, 6) := (rfl)
theorem pm_11_152 : lkp (pm 11) 152 = some (MX8_back, 0, 1, 7) := (rfl)
theorem pm_11_153 : lkp (pm 11) 153 = some (MX7_count, 0, 1, 6) := (rfl)
theorem pm_11_156 : lkp (pm 11) 156 = some (MX8_count, 0, 1, 7) := (rfl)
theorem pm_11_157 : lkp (pm 11) 157 = some (MX7_digest, 0, 0, 6) := (rfl)
theorem pm_11_161 : lkp (pm 11) 161 = some (MX8_digest, 0, 0, 7) := (rfl)
theorem pc__7_7 : lkp (pc_ 7) 7 = some 5 := (rfl)
theorem pc__7_16 : lkp (pc_ 7) 16 = some 1 := (rfl)
theorem pc__7_23 : lkp (pc_ 7) 23 = some 2 := (rfl)
theorem pc__7_30 : lkp (pc_ 7) 30 = some 3 := (rfl)
theorem pc__7_36 : lkp (pc_ 7) 36 = some 4 := (rfl)
theorem pc__7_43 : lkp (pc_ 7) 43 = some 0 := (rfl)
theorem pc__11_7 : lkp (pc_ 11) 7 = some 6 := (rfl)
theorem pc__11_10 : lkp (pc_ 11) 10 = some 7 := (rfl)
theorem pi_7_86 : lkp (pi 7) 86 = some (1103515245 : Int32) := (rfl)
theorem pi_7_87 : lkp (pi 7) 87 = some (2147483647 : Int32) := (rfl)
theorem pl_1_67 : lkp (pl 1) 67 = some (100 : Int64) := (rfl)
theorem pl_2_13 : lkp (pl 2) 13 = some (-1 : Int64) := (rfl)
theorem pl_2_15 : lkp (pl 2) 15 = some (3 : Int64) := (rfl)
theorem pl_4_79 : lkp (pl 4) 79 = some (-1 : Int64) := (rfl)
theorem pl_7_275 : lkp (pl 7) 275 = some (263 : Int64) := (rfl)
theorem pl_7_277 : lkp (pl 7) 277 = some (31 : Int64) := (rfl)
theorem pl_7_297 : lkp (pl 7) 297 = some (-1 : Int64) := (rfl)
theorem pl_8_86 : lkp (pl 8) 86 = some (3 : Int64) := (rfl)
theorem pl_8_92 : lkp (pl 8) 92 = some (63 : Int64) := (rfl)
theorem pl_8_98 : lkp (pl 8) 98 = some (2 : Int64) := (rfl)
theorem pl_8_100 : lkp (pl 8) 100 = some (32 : Int64) := (rfl)
theorem pl_8_127 : lkp (pl 8) 127 = some (64 : Int64) := (rfl)
theorem pl_8_129 : lkp (pl 8) 129 = some (1103515245 : Int64) := (rfl)
theorem pl_8_131 : lkp (pl 8) 131 = some (12345 : Int64) := (rfl)
theorem pl_8_133 : lkp (pl 8) 133 = some (2147483647 : Int64) := (rfl)
theorem pl_8_135 : lkp (pl 8) 135 = some (65536 : Int64) := (rfl)
theorem pl_8_150 : lkp (pl 8) 150 = some (100 : Int64) := (rfl)
theorem pl_8_163 : lkp (pl 8) 163 = some (4 : Int64) := (rfl)
theorem pl_8_165 : lkp (pl 8) 165 = some (10 : Int64) := (rfl)
theorem pl_8_167 : lkp (pl 8) 167 = some (14 : Int64) := (rfl)
theorem pl_8_213 : lkp (pl 8) 213 = some (99 : Int64) := (rfl)
theorem pl_8_223 : lkp (pl 8) 223 = some (9 : Int64) := (rfl)
theorem pl_8_257 : lkp (pl 8) 257 = some (255 : Int64) := (rfl)
theorem pl_8_296 : lkp (pl 8) 296 = some (48 : Int64) := (rfl)
theorem pl_8_298 : lkp (pl 8) 298 = some (57 : Int64) := (rfl)
theorem pl_8_361 : lkp (pl 8) 361 = some (263 : Int64) := (rfl)
theorem pl_8_363 : lkp (pl 8) 363 = some (31 : Int64) := (rfl)
theorem pl_9_314 : lkp (pl 9) 314 = some (6148914691236517205 : Int64) := (rfl)
theorem pl_9_316 : lkp (pl 9) 316 = some (3689348814741910323 : Int64) := (rfl)
theorem pl_9_318 : lkp (pl 9) 318 = some (1085102592571150095 : Int64) := (rfl)
theorem pl_11_41 : lkp (pl 11) 41 = some (4294967295 : Int64) := (rfl)
theorem mp_MX0_init : Mp MX0_init = 0 := (rfl)
theorem mr_MX0_init : Mr MX0_init = none := (rfl)
theorem ok_MX0_init : am_ok MX0_init = true := by decide
theorem ml_MX0_init : ML MX0_init = 1 := (rfl)
theorem co_MX0_init : Mcc MX0_init = 1 ∧ Mss MX0_init = 64 := ⟨rfl, rfl⟩
theorem mp_MX0_isOrder : Mp MX0_isOrder = 0 := (rfl)
theorem mr_MX0_isOrder : Mr MX0_isOrder = (some .boolean) := (rfl)
theorem cc_MX0_isOrder {M : Mt} {kc ks : Nat} (h1 : kc ≤ Mcc M) (h2 : ks ≤ Mss M) {P : Nat → Nat → Prop} : w_cc M MX0_isOrder kc ks P = P kc ks := propext ⟨fun h => h.2.2, fun h => ⟨h1, h2, h⟩⟩
theorem ok_MX0_isOrder : am_ok MX0_isOrder = true := by decide
theorem ml_MX0_isOrder : ML MX0_isOrder = 3 := (rfl)
theorem co_MX0_isOrder : Mcc MX0_isOrder = 0 ∧ Mss MX0_isOrder = 0 := ⟨rfl, rfl⟩
theorem mp_MX0_columnAt : Mp MX0_columnAt = 0 := (rfl)
theorem mr_MX0_columnAt : Mr MX0_columnAt = (some .int) := (rfl)
theorem cc_MX0_columnAt {M : Mt} {kc ks : Nat} (h1 : kc ≤ Mcc M) (h2 : ks ≤ Mss M) {P : Nat → Nat → Prop} : w_cc M MX0_columnAt kc ks P = P kc ks := propext ⟨fun h => h.2.2, fun h => ⟨h1, h2, h⟩⟩
theorem ok_MX0_columnAt : am_ok MX0_columnAt = true := by decide
theorem ml_MX0_columnAt : ML MX0_columnAt = 2 := (rfl)
theorem co_MX0_columnAt : Mcc MX0_columnAt = 0 ∧ Mss MX0_columnAt = 0 := ⟨rfl, rfl⟩
theorem mp_MX0_arrange : Mp MX0_arrange = 0 := (rfl)
theorem mr_MX0_arrange : Mr MX0_arrange = none := (rfl)
theorem cc_MX0_arrange {M : Mt} {kc ks : Nat} (h1 : kc ≤ Mcc M) (h2 : ks ≤ Mss M) {P : Nat → Nat → Prop} : w_cc M MX0_arrange kc ks P = P kc ks := propext ⟨fun h => h.2.2, fun h => ⟨h1, h2, h⟩⟩
theorem ok_MX0_arrange : am_ok MX0_arrange = true := by decide
theorem ml_MX0_arrange : ML MX0_arrange = 8 := (rfl)
theorem co_MX0_arrange : Mcc MX0_arrange = 0 ∧ Mss MX0_arrange = 0 := ⟨rfl, rfl⟩
theorem mp_MX0_layByLine : Mp MX0_layByLine = 0 := (rfl)
theorem mr_MX0_layByLine : Mr MX0_layByLine = none := (rfl)
theorem cc_MX0_layByLine {M : Mt} {kc ks : Nat} (h1 : kc ≤ Mcc M) (h2 : ks ≤ Mss M) {P : Nat → Nat → Prop} : w_cc M MX0_layByLine kc ks P = P kc ks := propext ⟨fun h => h.2.2, fun h => ⟨h1, h2, h⟩⟩
theorem ok_MX0_layByLine : am_ok MX0_layByLine = true := by decide
theorem ml_MX0_layByLine : ML MX0_layByLine = 4 := (rfl)
theorem co_MX0_layByLine : Mcc MX0_layByLine = 0 ∧ Mss MX0_layByLine = 0 := ⟨rfl, rfl⟩
theorem mp_MX0_runEnd : Mp MX0_runEnd = 0 := (rfl)
theorem mr_MX0_runEnd : Mr MX0_runEnd = (some .int) := (rfl)
theorem cc_MX0_runEnd {M : Mt} {kc ks : Nat} (h1 : kc ≤ Mcc M) (h2 : ks ≤ Mss M) {P : Nat → Nat → Prop} : w_cc M MX0_runEnd kc ks P = P kc ks := propext ⟨fun h => h.2.2, fun h => ⟨h1, h2, h⟩⟩
theorem ok_MX0_runEnd : am_ok MX0_runEnd = true := by decide
theorem ml_MX0_runEnd : ML MX0_runEnd = 6 := (rfl)
theorem co_MX0_runEnd : Mcc MX0_runEnd = 0 ∧ Mss MX0_runEnd = 0 := ⟨rfl, rfl⟩
theorem mp_MX0_alike : Mp MX0_alike = 0 := (rfl)
theorem mr_MX0_alike : Mr MX0_alike = (some .boolean) := (rfl)
theorem cc_MX0_alike {M : Mt} {kc ks : Nat} (h1 : kc ≤ Mcc M) (h2 : ks ≤ Mss M) {P : Nat → Nat → Prop} : w_cc M MX0_alike kc ks P = P kc ks := propext ⟨fun h => h.2.2, fun h => ⟨h1, h2, h⟩⟩
theorem ok_MX0_alike : am_ok MX0_alike = true := by decide
theorem ml_MX0_alike : ML MX0_alike = 7 := (rfl)
theorem co_MX0_alike : Mcc MX0_alike = 0 ∧ Mss MX0_alike = 0 := ⟨rfl, rfl⟩
theorem mp_MX0_sortRun : Mp MX0_sortRun = 0 := (rfl)
theorem mr_MX0_sortRun : Mr MX0_sortRun = none := (rfl)
theorem cc_MX0_sortRun {M : Mt} {kc ks : Nat} (h1 : kc ≤ Mcc M) (h2 : ks ≤ Mss M) {P : Nat → Nat → Prop} : w_cc M MX0_sortRun kc ks P = P kc ks := propext ⟨fun h => h.2.2, fun h => ⟨h1, h2, h⟩⟩
theorem ok_MX0_sortRun : am_ok MX0_sortRun = true := by decide
theorem ml_MX0_sortRun : ML MX0_sortRun = 10 := (rfl)
theorem co_MX0_sortRun : Mcc MX0_sortRun = 0 ∧ Mss MX0_sortRun = 0 := ⟨rfl, rfl⟩
theorem mp_MX0_isBehind : Mp MX0_isBehind = 0 := (rfl)
theorem mr_MX0_isBehind : Mr MX0_isBehind = (some .boolean) := (rfl)
theorem cc_MX0_isBehind {M : Mt} {kc ks : Nat} (h1 : kc ≤ Mcc M) (h2 : ks ≤ Mss M) {P : Nat → Nat → Prop} : w_cc M MX0_isBehind kc ks P = P kc ks := propext ⟨fun h => h.2.2, fun h => ⟨h1, h2, h⟩⟩
theorem ok_MX0_isBehind : am_ok MX0_isBehind = true := by decide
theorem ml_MX0_isBehind : ML MX0_isBehind = 3 := (rfl)
theorem co_MX0_isBehind : Mcc MX0_isBehind = 0 ∧ Mss MX0_isBehind = 0 := ⟨rfl, rfl⟩
theorem mp_MX1_init : Mp MX1_init = 1 := (rfl)
theorem mr_MX1_init : Mr MX1_init = none := (rfl)
theorem ok_MX1_init : am_ok MX1_init = true := by decide
theorem ml_MX1_init : ML MX1_init = 1 := (rfl)
theorem co_MX1_init : Mcc MX1_init = 5 ∧ Mss MX1_init = 52 := ⟨rfl, rfl⟩
theorem mp_MX1_resize : Mp MX1_resize = 1 := (rfl)
theorem mr_MX1_resize : Mr MX1_resize = none := (rfl)
theorem cc_MX1_resize {M : Mt} {kc ks : Nat} (h1 : kc ≤ Mcc M) (h2 : ks ≤ Mss M) {P : Nat → Nat → Prop} : w_cc M MX1_resize kc ks P = P kc ks := propext ⟨fun h => h.2.2, fun h => ⟨h1, h2, h⟩⟩
theorem ok_MX1_resize : am_ok MX1_resize = true := by decide
theorem ml_MX1_resize : ML MX1_resize = 2 := (rfl)
theorem co_MX1_resize : Mcc MX1_resize = 0 ∧ Mss MX1_resize = 0 := ⟨rfl, rfl⟩
theorem mp_MX1_has : Mp MX1_has = 1 := (rfl)
theorem mr_MX1_has : Mr MX1_has = (some .boolean) := (rfl)
theorem cc_MX1_has {M : Mt} {kc ks : Nat} (h1 : kc ≤ Mcc M) (h2 : ks ≤ Mss M) {P : Nat → Nat → Prop} : w_cc M MX1_has kc ks P = P kc ks := propext ⟨fun h => h.2.2, fun h => ⟨h1, h2, h⟩⟩
theorem ok_MX1_has : am_ok MX1_has = true := by decide
theorem ml_MX1_has : ML MX1_has = 2 := (rfl)
theorem co_MX1_has : Mcc MX1_has = 0 ∧ Mss MX1_has = 0 := ⟨rfl, rfl⟩
theorem mp_MX1_numberFrom : Mp MX1_numberFrom = 1 := (rfl)
theorem mr_MX1_numberFrom : Mr MX1_numberFrom = (some .int) := (rfl)
theorem cc_MX1_numberFrom {M : Mt} {kc ks : Nat} (h1 : kc ≤ Mcc M) (h2 : ks ≤ Mss M) {P : Nat → Nat → Prop} : w_cc M MX1_numberFrom kc ks P = P kc ks := propext ⟨fun h => h.2.2, fun h => ⟨h1, h2, h⟩⟩
theorem ok_MX1_numberFrom : am_ok MX1_numberFrom = true := by decide
theorem ml_MX1_numberFrom : ML MX1_numberFrom = 2 := (rfl)
theorem co_MX1_numberFrom : Mcc MX1_numberFrom = 0 ∧ Mss MX1_numberFrom = 0 := ⟨rfl, rfl⟩
theorem mp_MX1_isTorn : Mp MX1_isTorn = 1 := (rfl)
theorem mr_MX1_isTorn : Mr MX1_isTorn = (some .boolean) := (rfl)
theorem cc_MX1_isTorn {M : Mt} {kc ks : Nat} (h1 : kc ≤ Mcc M) (h2 : ks ≤ Mss M) {P : Nat → Nat → Prop} : w_cc M MX1_isTorn kc ks P = P kc ks := propext ⟨fun h => h.2.2, fun h => ⟨h1, h2, h⟩⟩
theorem ok_MX1_isTorn : am_ok MX1_isTorn = true := by decide
theorem ml_MX1_isTorn : ML MX1_isTorn = 2 := (rfl)
theorem co_MX1_isTorn : Mcc MX1_isTorn = 0 ∧ Mss MX1_isTorn = 0 := ⟨rfl, rfl⟩
theorem mp_MX1_slicesOf : Mp MX1_slicesOf = 1 := (rfl)
theorem mr_MX1_slicesOf : Mr MX1_slicesOf = (some .long) := (rfl)
theorem cc_MX1_slicesOf {M : Mt} {kc ks : Nat} (h1 : kc ≤ Mcc M) (h2 : ks ≤ Mss M) {P : Nat → Nat → Prop} : w_cc M MX1_slicesOf kc ks P = P kc ks := propext ⟨fun h => h.2.2, fun h => ⟨h1, h2, h⟩⟩
theorem ok_MX1_slicesOf : am_ok MX1_slicesOf = true := by decide
theorem ml_MX1_slicesOf : ML MX1_slicesOf = 2 := (rfl)
theorem co_MX1_slicesOf : Mcc MX1_slicesOf = 0 ∧ Mss MX1_slicesOf = 0 := ⟨rfl, rfl⟩
theorem mp_MX1_redesign : Mp MX1_redesign = 1 := (rfl)
theorem mr_MX1_redesign : Mr MX1_redesign = (some .boolean) := (rfl)
theorem cc_MX1_redesign {M : Mt} {kc ks : Nat} (h1 : kc ≤ Mcc M) (h2 : ks ≤ Mss M) {P : Nat → Nat → Prop} : w_cc M MX1_redesign kc ks P = P kc ks := propext ⟨fun h => h.2.2, fun h => ⟨h1, h2, h⟩⟩
theorem ok_MX1_redesign : am_ok MX1_redesign = true := by decide
theorem ml_MX1_redesign : ML MX1_redesign = 6 := (rfl)
theorem co_MX1_redesign : Mcc MX1_redesign = 0 ∧ Mss MX1_redesign = 0 := ⟨rfl, rfl⟩
theorem mp_MX1_takeTold : Mp MX1_takeTold = 1 := (rfl)
theorem mr_MX1_takeTold : Mr MX1_takeTold = (some .int) := (rfl)
theorem cc_MX1_takeTold {M : Mt} {kc ks : Nat} (h1 : kc ≤ Mcc M) (h2 : ks ≤ Mss M) {P : Nat → Nat → Prop} : w_cc M MX1_takeTold kc ks P = P kc ks := propext ⟨fun h => h.2.2, fun h => ⟨h1, h2, h⟩⟩
theorem ok_MX1_takeTold : am_ok MX1_takeTold = true := by decide
theorem ml_MX1_takeTold : ML MX1_takeTold = 8 := (rfl)
theorem co_MX1_takeTold : Mcc MX1_takeTold = 0 ∧ Mss MX1_takeTold = 0 := ⟨rfl, rfl⟩
theorem mp_MX1_isDesign : Mp MX1_isDesign = 1 := (rfl)
theorem mr_MX1_isDesign : Mr MX1_isDesign = (some .boolean) := (rfl)
theorem cc_MX1_isDesign {M : Mt} {kc ks : Nat} (h1 : kc ≤ Mcc M) (h2 : ks ≤ Mss M) {P : Nat → Nat → Prop} : w_cc M MX1_isDesign kc ks P = P kc ks := propext ⟨fun h => h.2.2, fun h => ⟨h1, h2, h⟩⟩
theorem ok_MX1_isDesign : am_ok MX1_isDesign = true := by decide
theorem ml_MX1_isDesign : ML MX1_isDesign = 6 := (rfl)
theorem co_MX1_isDesign : Mcc MX1_isDesign = 0 ∧ Mss MX1_isDesign = 0 := ⟨rfl, rfl⟩
theorem mp_MX1_settle : Mp MX1_settle = 1 := (rfl)
theorem mr_MX1_settle : Mr MX1_settle = none := (rfl)
theorem cc_MX1_settle {M : Mt} {kc ks : Nat} (h1 : kc ≤ Mcc M) (h2 : ks ≤ Mss M) {P : Nat → Nat → Prop} : w_cc M MX1_settle kc ks P = P kc ks := propext ⟨fun h => h.2.2, fun h => ⟨h1, h2, h⟩⟩
theorem ok_MX1_settle : am_ok MX1_settle = true := by decide
theorem ml_MX1_settle : ML MX1_settle = 3 := (rfl)
theorem co_MX1_settle : Mcc MX1_settle = 0 ∧ Mss MX1_settle = 0 := ⟨rfl, rfl⟩
theorem mp_MX1_figureOf : Mp MX1_figureOf = 1 := (rfl)
theorem mr_MX1_figureOf : Mr MX1_figureOf = (some .int) := (rfl)
theorem cc_MX1_figureOf {M : Mt} {kc ks : Nat} (h1 : kc ≤ Mcc M) (h2 : ks ≤ Mss M) {P : Nat → Nat → Prop} : w_cc M MX1_figureOf kc ks P = P kc ks := propext ⟨fun h => h.2.2, fun h => ⟨h1, h2, h⟩⟩
theorem ok_MX1_figureOf : am_ok MX1_figureOf = true := by decide
theorem ml_MX1_figureOf : ML MX1_figureOf = 3 := (rfl)
theorem co_MX1_figureOf : Mcc MX1_figureOf = 0 ∧ Mss MX1_figureOf = 0 := ⟨rfl, rfl⟩
theorem mp_MX1_slicesByFigures : Mp MX1_slicesByFigures = 1 := (rfl)
theorem mr_MX1_slicesByFigures : Mr MX1_slicesByFigures = (some .long) := (rfl)
theorem cc_MX1_slicesByFigures {M : Mt} {kc ks : Nat} (h1 : kc ≤ Mcc M) (h2 : ks ≤ Mss M) {P : Nat → Nat → Prop} : w_cc M MX1_slicesByFigures kc ks P = P kc ks := propext ⟨fun h => h.2.2, fun h => ⟨h1, h2, h⟩⟩
theorem ok_MX1_slicesByFigures : am_ok MX1_slicesByFigures = true := by decide
theorem ml_MX1_slicesByFigures : ML MX1_slicesByFigures = 5 := (rfl)
theorem co_MX1_slicesByFigures : Mcc MX1_slicesByFigures = 0 ∧ Mss MX1_slicesByFigures = 0 := ⟨rfl, rfl⟩
theorem mp_MX1_readForEqual : Mp MX1_readForEqual = 1 := (rfl)
theorem mr_MX1_readForEqual : Mr MX1_readForEqual = (some .long) := (rfl)
theorem cc_MX1_readForEqual {M : Mt} {kc ks : Nat} (h1 : kc ≤ Mcc M) (h2 : ks ≤ Mss M) {P : Nat → Nat → Prop} : w_cc M MX1_readForEqual kc ks P = P kc ks := propext ⟨fun h => h.2.2, fun h => ⟨h1, h2, h⟩⟩
theorem ok_MX1_readForEqual : am_ok MX1_readForEqual = true := by decide
theorem ml_MX1_readForEqual : ML MX1_readForEqual = 5 := (rfl)
theorem co_MX1_readForEqual : Mcc MX1_readForEqual = 0 ∧ Mss MX1_readForEqual = 0 := ⟨rfl, rfl⟩
theorem mp_MX1_readForBelow : Mp MX1_readForBelow = 1 := (rfl)
theorem mr_MX1_readForBelow : Mr MX1_readForBelow = (some .long) := (rfl)
theorem cc_MX1_readForBelow {M : Mt} {kc ks : Nat} (h1 : kc ≤ Mcc M) (h2 : ks ≤ Mss M) {P : Nat → Nat → Prop} : w_cc M MX1_readForBelow kc ks P = P kc ks := propext ⟨fun h => h.2.2, fun h => ⟨h1, h2, h⟩⟩
theorem ok_MX1_readForBelow : am_ok MX1_readForBelow = true := by decide
theorem ml_MX1_readForBelow : ML MX1_readForBelow = 8 := (rfl)
theorem co_MX1_readForBelow : Mcc MX1_readForBelow = 0 ∧ Mss MX1_readForBelow = 0 := ⟨rfl, rfl⟩
theorem mp_MX1_designCost : Mp MX1_designCost = 1 := (rfl)
theorem mr_MX1_designCost : Mr MX1_designCost = (some .int) := (rfl)
theorem cc_MX1_designCost {M : Mt} {kc ks : Nat} (h1 : kc ≤ Mcc M) (h2 : ks ≤ Mss M) {P : Nat → Nat → Prop} : w_cc M MX1_designCost kc ks P = P kc ks := propext ⟨fun h => h.2.2, fun h => ⟨h1, h2, h⟩⟩
theorem ok_MX1_designCost : am_ok MX1_designCost = true := by decide
theorem ml_MX1_designCost : ML MX1_designCost = 5 := (rfl)
theorem co_MX1_designCost : Mcc MX1_designCost = 0 ∧ Mss MX1_designCost = 0 := ⟨rfl, rfl⟩
theorem mp_MX2_roomOf : Mp MX2_roomOf = 2 := (rfl)
theorem mr_MX2_roomOf : Mr MX2_roomOf = (some .int) := (rfl)
theorem cc_MX2_roomOf {M : Mt} {kc ks : Nat} (h1 : kc ≤ Mcc M) (h2 : ks ≤ Mss M) {P : Nat → Nat → Prop} : w_cc M MX2_roomOf kc ks P = P kc ks := propext ⟨fun h => h.2.2, fun h => ⟨h1, h2, h⟩⟩
theorem ok_MX2_roomOf : am_ok MX2_roomOf = true := by decide
theorem ml_MX2_roomOf : ML MX2_roomOf = 2 := (rfl)
theorem co_MX2_roomOf : Mcc MX2_roomOf = 0 ∧ Mss MX2_roomOf = 0 := ⟨rfl, rfl⟩
theorem mp_MX2_slicesOfFigure : Mp MX2_slicesOfFigure = 2 := (rfl)
theorem mr_MX2_slicesOfFigure : Mr MX2_slicesOfFigure = (some .long) := (rfl)
theorem cc_MX2_slicesOfFigure {M : Mt} {kc ks : Nat} (h1 : kc ≤ Mcc M) (h2 : ks ≤ Mss M) {P : Nat → Nat → Prop} : w_cc M MX2_slicesOfFigure kc ks P = P kc ks := propext ⟨fun h => h.2.2, fun h => ⟨h1, h2, h⟩⟩
theorem ok_MX2_slicesOfFigure : am_ok MX2_slicesOfFigure = true := by decide
theorem ml_MX2_slicesOfFigure : ML MX2_slicesOfFigure = 3 := (rfl)
theorem co_MX2_slicesOfFigure : Mcc MX2_slicesOfFigure = 0 ∧ Mss MX2_slicesOfFigure = 0 := ⟨rfl, rfl⟩
theorem mp_MX2_readForFigure : Mp MX2_readForFigure = 2 := (rfl)
theorem mr_MX2_readForFigure : Mr MX2_readForFigure = (some .long) := (rfl)
theorem cc_MX2_readForFigure {M : Mt} {kc ks : Nat} (h1 : kc ≤ Mcc M) (h2 : ks ≤ Mss M) {P : Nat → Nat → Prop} : w_cc M MX2_readForFigure kc ks P = P kc ks := propext ⟨fun h => h.2.2, fun h => ⟨h1, h2, h⟩⟩
theorem ok_MX2_readForFigure : am_ok MX2_readForFigure = true := by decide
theorem ml_MX2_readForFigure : ML MX2_readForFigure = 3 := (rfl)
theorem co_MX2_readForFigure : Mcc MX2_readForFigure = 0 ∧ Mss MX2_readForFigure = 0 := ⟨rfl, rfl⟩
theorem mp_MX2_readBelowFigure : Mp MX2_readBelowFigure = 2 := (rfl)
theorem mr_MX2_readBelowFigure : Mr MX2_readBelowFigure = (some .long) := (rfl)
theorem cc_MX2_readBelowFigure {M : Mt} {kc ks : Nat} (h1 : kc ≤ Mcc M) (h2 : ks ≤ Mss M) {P : Nat → Nat → Prop} : w_cc M MX2_readBelowFigure kc ks P = P kc ks := propext ⟨fun h => h.2.2, fun h => ⟨h1, h2, h⟩⟩
theorem ok_MX2_readBelowFigure : am_ok MX2_readBelowFigure = true := by decide
theorem ml_MX2_readBelowFigure : ML MX2_readBelowFigure = 3 := (rfl)
theorem co_MX2_readBelowFigure : Mcc MX2_readBelowFigure = 0 ∧ Mss MX2_readBelowFigure = 0 := ⟨rfl, rfl⟩
theorem mp_MX2_costOf : Mp MX2_costOf = 2 := (rfl)
theorem mr_MX2_costOf : Mr MX2_costOf = (some .int) := (rfl)
theorem cc_MX2_costOf {M : Mt} {kc ks : Nat} (h1 : kc ≤ Mcc M) (h2 : ks ≤ Mss M) {P : Nat → Nat → Prop} : w_cc M MX2_costOf kc ks P = P kc ks := propext ⟨fun h => h.2.2, fun h => ⟨h1, h2, h⟩⟩
theorem ok_MX2_costOf : am_ok MX2_costOf = true := by decide
theorem ml_MX2_costOf : ML MX2_costOf = 16 := (rfl)
theorem co_MX2_costOf : Mcc MX2_costOf = 0 ∧ Mss MX2_costOf = 0 := ⟨rfl, rfl⟩
theorem mp_MX2_tellJust : Mp MX2_tellJust = 2 := (rfl)
theorem mr_MX2_tellJust : Mr MX2_tellJust = (some .boolean) := (rfl)
theorem cc_MX2_tellJust {M : Mt} {kc ks : Nat} (h1 : kc ≤ Mcc M) (h2 : ks ≤ Mss M) {P : Nat → Nat → Prop} : w_cc M MX2_tellJust kc ks P = P kc ks := propext ⟨fun h => h.2.2, fun h => ⟨h1, h2, h⟩⟩
theorem ok_MX2_tellJust : am_ok MX2_tellJust = true := by decide
theorem ml_MX2_tellJust : ML MX2_tellJust = 5 := (rfl)
theorem co_MX2_tellJust : Mcc MX2_tellJust = 0 ∧ Mss MX2_tellJust = 0 := ⟨rfl, rfl⟩
theorem mp_MX3_init : Mp MX3_init = 3 := (rfl)
theorem mr_MX3_init : Mr MX3_init = none := (rfl)
theorem ok_MX3_init : am_ok MX3_init = true := by decide
theorem ml_MX3_init : ML MX3_init = 1 := (rfl)
theorem co_MX3_init : Mcc MX3_init = 1 ∧ Mss MX3_init = 60 := ⟨rfl, rfl⟩
theorem mp_MX3_lettersIn : Mp MX3_lettersIn = 3 := (rfl)
theorem mr_MX3_lettersIn : Mr MX3_lettersIn = (some .int) := (rfl)
theorem cc_MX3_lettersIn {M : Mt} {kc ks : Nat} (h1 : kc ≤ Mcc M) (h2 : ks ≤ Mss M) {P : Nat → Nat → Prop} : w_cc M MX3_lettersIn kc ks P = P kc ks := propext ⟨fun h => h.2.2, fun h => ⟨h1, h2, h⟩⟩
theorem ok_MX3_lettersIn : am_ok MX3_lettersIn = true := by decide
theorem ml_MX3_lettersIn : ML MX3_lettersIn = 6 := (rfl)
theorem co_MX3_lettersIn : Mcc MX3_lettersIn = 0 ∧ Mss MX3_lettersIn = 0 := ⟨rfl, rfl⟩
theorem mp_MX3_codeIn : Mp MX3_codeIn = 3 := (rfl)
theorem mr_MX3_codeIn : Mr MX3_codeIn = (some .int) := (rfl)
theorem cc_MX3_codeIn {M : Mt} {kc ks : Nat} (h1 : kc ≤ Mcc M) (h2 : ks ≤ Mss M) {P : Nat → Nat → Prop} : w_cc M MX3_codeIn kc ks P = P kc ks := propext ⟨fun h => h.2.2, fun h => ⟨h1, h2, h⟩⟩
theorem ok_MX3_codeIn : am_ok MX3_codeIn = true := by decide
theorem ml_MX3_codeIn : ML MX3_codeIn = 3 := (rfl)
theorem co_MX3_codeIn : Mcc MX3_codeIn = 0 ∧ Mss MX3_codeIn = 0 := ⟨rfl, rfl⟩
theorem mp_MX3_append : Mp MX3_append = 3 := (rfl)
theorem mr_MX3_append : Mr MX3_append = none := (rfl)
theorem cc_MX3_append {M : Mt} {kc ks : Nat} (h1 : kc ≤ Mcc M) (h2 : ks ≤ Mss M) {P : Nat → Nat → Prop} : w_cc M MX3_append kc ks P = P kc ks := propext ⟨fun h => h.2.2, fun h => ⟨h1, h2, h⟩⟩
theorem ok_MX3_append : am_ok MX3_append = true := by decide
theorem ml_MX3_append : ML MX3_append = 5 := (rfl)
theorem co_MX3_append : Mcc MX3_append = 0 ∧ Mss MX3_append = 0 := ⟨rfl, rfl⟩
theorem mp_MX3_goodLetters : Mp MX3_goodLetters = 3 := (rfl)
theorem mr_MX3_goodLetters : Mr MX3_goodLetters = (some .int) := (rfl)
theorem cc_MX3_goodLetters {M : Mt} {kc ks : Nat} (h1 : kc ≤ Mcc M) (h2 : ks ≤ Mss M) {P : Nat → Nat → Prop} : w_cc M MX3_goodLetters kc ks P = P kc ks := propext ⟨fun h => h.2.2, fun h => ⟨h1, h2, h⟩⟩
theorem ok_MX3_goodLetters : am_ok MX3_goodLetters = true := by decide
theorem ml_MX3_goodLetters : ML MX3_goodLetters = 2 := (rfl)
theorem co_MX3_goodLetters : Mcc MX3_goodLetters = 0 ∧ Mss MX3_goodLetters = 0 := ⟨rfl, rfl⟩
theorem mp_MX3_isQuestion : Mp MX3_isQuestion = 3 := (rfl)
theorem mr_MX3_isQuestion : Mr MX3_isQuestion = (some .boolean) := (rfl)
theorem cc_MX3_isQuestion {M : Mt} {kc ks : Nat} (h1 : kc ≤ Mcc M) (h2 : ks ≤ Mss M) {P : Nat → Nat → Prop} : w_cc M MX3_isQuestion kc ks P = P kc ks := propext ⟨fun h => h.2.2, fun h => ⟨h1, h2, h⟩⟩
theorem ok_MX3_isQuestion : am_ok MX3_isQuestion = true := by decide
theorem ml_MX3_isQuestion : ML MX3_isQuestion = 1 := (rfl)
theorem co_MX3_isQuestion : Mcc MX3_isQuestion = 0 ∧ Mss MX3_isQuestion = 0 := ⟨rfl, rfl⟩
theorem mp_MX3_placeBehind : Mp MX3_placeBehind = 3 := (rfl)
theorem mr_MX3_placeBehind : Mr MX3_placeBehind = (some .int) := (rfl)
theorem cc_MX3_placeBehind {M : Mt} {kc ks : Nat} (h1 : kc ≤ Mcc M) (h2 : ks ≤ Mss M) {P : Nat → Nat → Prop} : w_cc M MX3_placeBehind kc ks P = P kc ks := propext ⟨fun h => h.2.2, fun h => ⟨h1, h2, h⟩⟩
theorem ok_MX3_placeBehind : am_ok MX3_placeBehind = true := by decide
theorem ml_MX3_placeBehind : ML MX3_placeBehind = 2 := (rfl)
theorem co_MX3_placeBehind : Mcc MX3_placeBehind = 0 ∧ Mss MX3_placeBehind = 0 := ⟨rfl, rfl⟩
theorem mp_MX3_behindFactorStart : Mp MX3_behindFactorStart = 3 := (rfl)
theorem mr_MX3_behindFactorStart : Mr MX3_behindFactorStart = (some .int) := (rfl)
theorem cc_MX3_behindFactorStart {M : Mt} {kc ks : Nat} (h1 : kc ≤ Mcc M) (h2 : ks ≤ Mss M) {P : Nat → Nat → Prop} : w_cc M MX3_behindFactorStart kc ks P = P kc ks := propext ⟨fun h => h.2.2, fun h => ⟨h1, h2, h⟩⟩
theorem ok_MX3_behindFactorStart : am_ok MX3_behindFactorStart = true := by decide
theorem ml_MX3_behindFactorStart : ML MX3_behindFactorStart = 2 := (rfl)
theorem co_MX3_behindFactorStart : Mcc MX3_behindFactorStart = 0 ∧ Mss MX3_behindFactorStart = 0 := ⟨rfl, rfl⟩
theorem mp_MX3_behindWholeFactor : Mp MX3_behindWholeFactor = 3 := (rfl)
theorem mr_MX3_behindWholeFactor : Mr MX3_behindWholeFactor = (some .int) := (rfl)
theorem cc_MX3_behindWholeFactor {M : Mt} {kc ks : Nat} (h1 : kc ≤ Mcc M) (h2 : ks ≤ Mss M) {P : Nat → Nat → Prop} : w_cc M MX3_behindWholeFactor kc ks P = P kc ks := propext ⟨fun h => h.2.2, fun h => ⟨h1, h2, h⟩⟩
theorem ok_MX3_behindWholeFactor : am_ok MX3_behindWholeFactor = true := by decide
theorem ml_MX3_behindWholeFactor : ML MX3_behindWholeFactor = 2 := (rfl)
theorem co_MX3_behindWholeFactor : Mcc MX3_behindWholeFactor = 0 ∧ Mss MX3_behindWholeFactor = 0 := ⟨rfl, rfl⟩
theorem mp_MX3_isDigit : Mp MX3_isDigit = 3 := (rfl)
theorem mr_MX3_isDigit : Mr MX3_isDigit = (some .boolean) := (rfl)
theorem cc_MX3_isDigit {M : Mt} {kc ks : Nat} (h1 : kc ≤ Mcc M) (h2 : ks ≤ Mss M) {P : Nat → Nat → Prop} : w_cc M MX3_isDigit kc ks P = P kc ks := propext ⟨fun h => h.2.2, fun h => ⟨h1, h2, h⟩⟩
theorem ok_MX3_isDigit : am_ok MX3_isDigit = true := by decide
theorem ml_MX3_isDigit : ML MX3_isDigit = 1 := (rfl)
theorem co_MX3_isDigit : Mcc MX3_isDigit = 0 ∧ Mss MX3_isDigit = 0 := ⟨rfl, rfl⟩
theorem mp_MX3_codeAt : Mp MX3_codeAt = 3 := (rfl)
theorem mr_MX3_codeAt : Mr MX3_codeAt = (some .int) := (rfl)
theorem cc_MX3_codeAt {M : Mt} {kc ks : Nat} (h1 : kc ≤ Mcc M) (h2 : ks ≤ Mss M) {P : Nat → Nat → Prop} : w_cc M MX3_codeAt kc ks P = P kc ks := propext ⟨fun h => h.2.2, fun h => ⟨h1, h2, h⟩⟩
theorem ok_MX3_codeAt : am_ok MX3_codeAt = true := by decide
theorem ml_MX3_codeAt : ML MX3_codeAt = 2 := (rfl)
theorem co_MX3_codeAt : Mcc MX3_codeAt = 0 ∧ Mss MX3_codeAt = 0 := ⟨rfl, rfl⟩
theorem mp_MX3_numberBehind : Mp MX3_numberBehind = 3 := (rfl)
theorem mr_MX3_numberBehind : Mr MX3_numberBehind = (some .int) := (rfl)
theorem cc_MX3_numberBehind {M : Mt} {kc ks : Nat} (h1 : kc ≤ Mcc M) (h2 : ks ≤ Mss M) {P : Nat → Nat → Prop} : w_cc M MX3_numberBehind kc ks P = P kc ks := propext ⟨fun h => h.2.2, fun h => ⟨h1, h2, h⟩⟩
theorem ok_MX3_numberBehind : am_ok MX3_numberBehind = true := by decide
theorem ml_MX3_numberBehind : ML MX3_numberBehind = 4 := (rfl)
theorem co_MX3_numberBehind : Mcc MX3_numberBehind = 0 ∧ Mss MX3_numberBehind = 0 := ⟨rfl, rfl⟩
theorem mp_MX4_init : Mp MX4_init = 4 := (rfl)
theorem mr_MX4_init : Mr MX4_init = none := (rfl)
theorem ok_MX4_init : am_ok MX4_init = true := by decide
theorem ml_MX4_init : ML MX4_init = 3 := (rfl)
theorem co_MX4_init : Mcc MX4_init = 3 ∧ Mss MX4_init = 180 := ⟨rfl, rfl⟩
theorem mp_MX4_takeLetter : Mp MX4_takeLetter = 4 := (rfl)
theorem mr_MX4_takeLetter : Mr MX4_takeLetter = none := (rfl)
theorem cc_MX4_takeLetter {M : Mt} {kc ks : Nat} (h1 : kc ≤ Mcc M) (h2 : ks ≤ Mss M) {P : Nat → Nat → Prop} : w_cc M MX4_takeLetter kc ks P = P kc ks := propext ⟨fun h => h.2.2, fun h => ⟨h1, h2, h⟩⟩
theorem ok_MX4_takeLetter : am_ok MX4_takeLetter = true := by decide
theorem ml_MX4_takeLetter : ML MX4_takeLetter = 5 := (rfl)
theorem co_MX4_takeLetter : Mcc MX4_takeLetter = 0 ∧ Mss MX4_takeLetter = 0 := ⟨rfl, rfl⟩
theorem mp_MX4_hold : Mp MX4_hold = 4 := (rfl)
theorem mr_MX4_hold : Mr MX4_hold = none := (rfl)
theorem cc_MX4_hold {M : Mt} {kc ks : Nat} (h1 : kc ≤ Mcc M) (h2 : ks ≤ Mss M) {P : Nat → Nat → Prop} : w_cc M MX4_hold kc ks P = P kc ks := propext ⟨fun h => h.2.2, fun h => ⟨h1, h2, h⟩⟩
theorem ok_MX4_hold : am_ok MX4_hold = true := by decide
theorem ml_MX4_hold : ML MX4_hold = 2 := (rfl)
theorem co_MX4_hold : Mcc MX4_hold = 0 ∧ Mss MX4_hold = 0 := ⟨rfl, rfl⟩
theorem mp_MX4_write : Mp MX4_write = 4 := (rfl)
theorem mr_MX4_write : Mr MX4_write = none := (rfl)
theorem cc_MX4_write {M : Mt} {kc ks : Nat} (h1 : kc ≤ Mcc M) (h2 : ks ≤ Mss M) {P : Nat → Nat → Prop} : w_cc M MX4_write kc ks P = P kc ks := propext ⟨fun h => h.2.2, fun h => ⟨h1, h2, h⟩⟩
theorem ok_MX4_write : am_ok MX4_write = true := by decide
theorem ml_MX4_write : ML MX4_write = 2 := (rfl)
theorem co_MX4_write : Mcc MX4_write = 0 ∧ Mss MX4_write = 0 := ⟨rfl, rfl⟩
theorem mp_MX4_writeWaiting : Mp MX4_writeWaiting = 4 := (rfl)
theorem mr_MX4_writeWaiting : Mr MX4_writeWaiting = none := (rfl)
theorem cc_MX4_writeWaiting {M : Mt} {kc ks : Nat} (h1 : kc ≤ Mcc M) (h2 : ks ≤ Mss M) {P : Nat → Nat → Prop} : w_cc M MX4_writeWaiting kc ks P = P kc ks := propext ⟨fun h => h.2.2, fun h => ⟨h1, h2, h⟩⟩
theorem ok_MX4_writeWaiting : am_ok MX4_writeWaiting = true := by decide
theorem ml_MX4_writeWaiting : ML MX4_writeWaiting = 2 := (rfl)
theorem co_MX4_writeWaiting : Mcc MX4_writeWaiting = 0 ∧ Mss MX4_writeWaiting = 0 := ⟨rfl, rfl⟩
theorem mp_MX4_comparisonAt : Mp MX4_comparisonAt = 4 := (rfl)
theorem mr_MX4_comparisonAt : Mr MX4_comparisonAt = (some .int) := (rfl)
theorem cc_MX4_comparisonAt {M : Mt} {kc ks : Nat} (h1 : kc ≤ Mcc M) (h2 : ks ≤ Mss M) {P : Nat → Nat → Prop} : w_cc M MX4_comparisonAt kc ks P = P kc ks := propext ⟨fun h => h.2.2, fun h => ⟨h1, h2, h⟩⟩
theorem ok_MX4_comparisonAt : am_ok MX4_comparisonAt = true := by decide
theorem ml_MX4_comparisonAt : ML MX4_comparisonAt = 4 := (rfl)
theorem co_MX4_comparisonAt : Mcc MX4_comparisonAt = 0 ∧ Mss MX4_comparisonAt = 0 := ⟨rfl, rfl⟩
theorem mp_MX4_readOf : Mp MX4_readOf = 4 := (rfl)
theorem mr_MX4_readOf : Mr MX4_readOf = (some .long) := (rfl)
theorem cc_MX4_readOf {M : Mt} {kc ks : Nat} (h1 : kc ≤ Mcc M) (h2 : ks ≤ Mss M) {P : Nat → Nat → Prop} : w_cc M MX4_readOf kc ks P = P kc ks := propext ⟨fun h => h.2.2, fun h => ⟨h1, h2, h⟩⟩
theorem ok_MX4_readOf : am_ok MX4_readOf = true := by decide
theorem ml_MX4_readOf : ML MX4_readOf = 9 := (rfl)
theorem co_MX4_readOf : Mcc MX4_readOf = 0 ∧ Mss MX4_readOf = 0 := ⟨rfl, rfl⟩
theorem mp_MX4_leftLines : Mp MX4_leftLines = 4 := (rfl)
theorem mr_MX4_leftLines : Mr MX4_leftLines = (some .long) := (rfl)
theorem cc_MX4_leftLines {M : Mt} {kc ks : Nat} (h1 : kc ≤ Mcc M) (h2 : ks ≤ Mss M) {P : Nat → Nat → Prop} : w_cc M MX4_leftLines kc ks P = P kc ks := propext ⟨fun h => h.2.2, fun h => ⟨h1, h2, h⟩⟩
theorem ok_MX4_leftLines : am_ok MX4_leftLines = true := by decide
theorem ml_MX4_leftLines : ML MX4_leftLines = 7 := (rfl)
theorem co_MX4_leftLines : Mcc MX4_leftLines = 0 ∧ Mss MX4_leftLines = 0 := ⟨rfl, rfl⟩
theorem mp_MX4_linesThatHold : Mp MX4_linesThatHold = 4 := (rfl)
theorem mr_MX4_linesThatHold : Mr MX4_linesThatHold = (some .long) := (rfl)
theorem cc_MX4_linesThatHold {M : Mt} {kc ks : Nat} (h1 : kc ≤ Mcc M) (h2 : ks ≤ Mss M) {P : Nat → Nat → Prop} : w_cc M MX4_linesThatHold kc ks P = P kc ks := propext ⟨fun h => h.2.2, fun h => ⟨h1, h2, h⟩⟩
theorem ok_MX4_linesThatHold : am_ok MX4_linesThatHold = true := by decide
theorem ml_MX4_linesThatHold : ML MX4_linesThatHold = 6 := (rfl)
theorem co_MX4_linesThatHold : Mcc MX4_linesThatHold = 0 ∧ Mss MX4_linesThatHold = 0 := ⟨rfl, rfl⟩
theorem mp_MX5_init : Mp MX5_init = 5 := (rfl)
theorem mr_MX5_init : Mr MX5_init = none := (rfl)
theorem ok_MX5_init : am_ok MX5_init = true := by decide
theorem ml_MX5_init : ML MX5_init = 1 := (rfl)
theorem co_MX5_init : Mcc MX5_init = 2 ∧ Mss MX5_init = 10 := ⟨rfl, rfl⟩
theorem mp_MX5_seek : Mp MX5_seek = 5 := (rfl)
theorem mr_MX5_seek : Mr MX5_seek = none := (rfl)
theorem cc_MX5_seek {M : Mt} {kc ks : Nat} (h1 : kc ≤ Mcc M) (h2 : ks ≤ Mss M) {P : Nat → Nat → Prop} : w_cc M MX5_seek kc ks P = P kc ks := propext ⟨fun h => h.2.2, fun h => ⟨h1, h2, h⟩⟩
theorem ok_MX5_seek : am_ok MX5_seek = true := by decide
theorem ml_MX5_seek : ML MX5_seek = 7 := (rfl)
theorem co_MX5_seek : Mcc MX5_seek = 0 ∧ Mss MX5_seek = 0 := ⟨rfl, rfl⟩
theorem mp_MX5_extend : Mp MX5_extend = 5 := (rfl)
theorem mr_MX5_extend : Mr MX5_extend = none := (rfl)
theorem cc_MX5_extend {M : Mt} {kc ks : Nat} (h1 : kc ≤ Mcc M) (h2 : ks ≤ Mss M) {P : Nat → Nat → Prop} : w_cc M MX5_extend kc ks P = P kc ks := propext ⟨fun h => h.2.2, fun h => ⟨h1, h2, h⟩⟩
theorem ok_MX5_extend : am_ok MX5_extend = true := by decide
theorem ml_MX5_extend : ML MX5_extend = 10 := (rfl)
theorem co_MX5_extend : Mcc MX5_extend = 0 ∧ Mss MX5_extend = 0 := ⟨rfl, rfl⟩
theorem mp_MX5_figureCost : Mp MX5_figureCost = 5 := (rfl)
theorem mr_MX5_figureCost : Mr MX5_figureCost = (some .int) := (rfl)
theorem cc_MX5_figureCost {M : Mt} {kc ks : Nat} (h1 : kc ≤ Mcc M) (h2 : ks ≤ Mss M) {P : Nat → Nat → Prop} : w_cc M MX5_figureCost kc ks P = P kc ks := propext ⟨fun h => h.2.2, fun h => ⟨h1, h2, h⟩⟩
theorem ok_MX5_figureCost : am_ok MX5_figureCost = true := by decide
theorem ml_MX5_figureCost : ML MX5_figureCost = 3 := (rfl)
theorem co_MX5_figureCost : Mcc MX5_figureCost = 0 ∧ Mss MX5_figureCost = 0 := ⟨rfl, rfl⟩
theorem mp_MX5_consider : Mp MX5_consider = 5 := (rfl)
theorem mr_MX5_consider : Mr MX5_consider = none := (rfl)
theorem cc_MX5_consider {M : Mt} {kc ks : Nat} (h1 : kc ≤ Mcc M) (h2 : ks ≤ Mss M) {P : Nat → Nat → Prop} : w_cc M MX5_consider kc ks P = P kc ks := propext ⟨fun h => h.2.2, fun h => ⟨h1, h2, h⟩⟩
theorem ok_MX5_consider : am_ok MX5_consider = true := by decide
theorem ml_MX5_consider : ML MX5_consider = 4 := (rfl)
theorem co_MX5_consider : Mcc MX5_consider = 0 ∧ Mss MX5_consider = 0 := ⟨rfl, rfl⟩
theorem mp_MX6_init : Mp MX6_init = 6 := (rfl)
theorem mr_MX6_init : Mr MX6_init = none := (rfl)
theorem ok_MX6_init : am_ok MX6_init = true := by decide
theorem ml_MX6_init : ML MX6_init = 2 := (rfl)
theorem co_MX6_init : Mcc MX6_init = 4 ∧ Mss MX6_init = 456 := ⟨rfl, rfl⟩
theorem mp_MX6_packed : Mp MX6_packed = 6 := (rfl)
theorem mr_MX6_packed : Mr MX6_packed = (some .int) := (rfl)
theorem cc_MX6_packed {M : Mt} {kc ks : Nat} (h1 : kc ≤ Mcc M) (h2 : ks ≤ Mss M) {P : Nat → Nat → Prop} : w_cc M MX6_packed kc ks P = P kc ks := propext ⟨fun h => h.2.2, fun h => ⟨h1, h2, h⟩⟩
theorem ok_MX6_packed : am_ok MX6_packed = true := by decide
theorem ml_MX6_packed : ML MX6_packed = 4 := (rfl)
theorem co_MX6_packed : Mcc MX6_packed = 0 ∧ Mss MX6_packed = 0 := ⟨rfl, rfl⟩
theorem mp_MX6_altered : Mp MX6_altered = 6 := (rfl)
theorem mr_MX6_altered : Mr MX6_altered = (some .int) := (rfl)
theorem cc_MX6_altered {M : Mt} {kc ks : Nat} (h1 : kc ≤ Mcc M) (h2 : ks ≤ Mss M) {P : Nat → Nat → Prop} : w_cc M MX6_altered kc ks P = P kc ks := propext ⟨fun h => h.2.2, fun h => ⟨h1, h2, h⟩⟩
theorem ok_MX6_altered : am_ok MX6_altered = true := by decide
theorem ml_MX6_altered : ML MX6_altered = 4 := (rfl)
theorem co_MX6_altered : Mcc MX6_altered = 0 ∧ Mss MX6_altered = 0 := ⟨rfl, rfl⟩
theorem mp_MX6_hasRow : Mp MX6_hasRow = 6 := (rfl)
theorem mr_MX6_hasRow : Mr MX6_hasRow = (some .boolean) := (rfl)
theorem cc_MX6_hasRow {M : Mt} {kc ks : Nat} (h1 : kc ≤ Mcc M) (h2 : ks ≤ Mss M) {P : Nat → Nat → Prop} : w_cc M MX6_hasRow kc ks P = P kc ks := propext ⟨fun h => h.2.2, fun h => ⟨h1, h2, h⟩⟩
theorem ok_MX6_hasRow : am_ok MX6_hasRow = true := by decide
theorem ml_MX6_hasRow : ML MX6_hasRow = 2 := (rfl)
theorem co_MX6_hasRow : Mcc MX6_hasRow = 0 ∧ Mss MX6_hasRow = 0 := ⟨rfl, rfl⟩
theorem mp_MX6_number : Mp MX6_number = 6 := (rfl)
theorem mr_MX6_number : Mr MX6_number = (some .int) := (rfl)
theorem cc_MX6_number {M : Mt} {kc ks : Nat} (h1 : kc ≤ Mcc M) (h2 : ks ≤ Mss M) {P : Nat → Nat → Prop} : w_cc M MX6_number kc ks P = P kc ks := propext ⟨fun h => h.2.2, fun h => ⟨h1, h2, h⟩⟩
theorem ok_MX6_number : am_ok MX6_number = true := by decide
theorem ml_MX6_number : ML MX6_number = 3 := (rfl)
theorem co_MX6_number : Mcc MX6_number = 0 ∧ Mss MX6_number = 0 := ⟨rfl, rfl⟩
theorem mp_MX6_rowCount : Mp MX6_rowCount = 6 := (rfl)
theorem mr_MX6_rowCount : Mr MX6_rowCount = (some .int) := (rfl)
theorem cc_MX6_rowCount {M : Mt} {kc ks : Nat} (h1 : kc ≤ Mcc M) (h2 : ks ≤ Mss M) {P : Nat → Nat → Prop} : w_cc M MX6_rowCount kc ks P = P kc ks := propext ⟨fun h => h.2.2, fun h => ⟨h1, h2, h⟩⟩
theorem ok_MX6_rowCount : am_ok MX6_rowCount = true := by decide
theorem ml_MX6_rowCount : ML MX6_rowCount = 1 := (rfl)
theorem co_MX6_rowCount : Mcc MX6_rowCount = 0 ∧ Mss MX6_rowCount = 0 := ⟨rfl, rfl⟩
theorem mp_MX6_changesKept : Mp MX6_changesKept = 6 := (rfl)
theorem mr_MX6_changesKept : Mr MX6_changesKept = (some .int) := (rfl)
theorem cc_MX6_changesKept {M : Mt} {kc ks : Nat} (h1 : kc ≤ Mcc M) (h2 : ks ≤ Mss M) {P : Nat → Nat → Prop} : w_cc M MX6_changesKept kc ks P = P kc ks := propext ⟨fun h => h.2.2, fun h => ⟨h1, h2, h⟩⟩
theorem ok_MX6_changesKept : am_ok MX6_changesKept = true := by decide
theorem ml_MX6_changesKept : ML MX6_changesKept = 1 := (rfl)
theorem co_MX6_changesKept : Mcc MX6_changesKept = 0 ∧ Mss MX6_changesKept = 0 := ⟨rfl, rfl⟩
theorem mp_MX6_markCount : Mp MX6_markCount = 6 := (rfl)
theorem mr_MX6_markCount : Mr MX6_markCount = (some .int) := (rfl)
theorem cc_MX6_markCount {M : Mt} {kc ks : Nat} (h1 : kc ≤ Mcc M) (h2 : ks ≤ Mss M) {P : Nat → Nat → Prop} : w_cc M MX6_markCount kc ks P = P kc ks := propext ⟨fun h => h.2.2, fun h => ⟨h1, h2, h⟩⟩
theorem ok_MX6_markCount : am_ok MX6_markCount = true := by decide
theorem ml_MX6_markCount : ML MX6_markCount = 1 := (rfl)
theorem co_MX6_markCount : Mcc MX6_markCount = 0 ∧ Mss MX6_markCount = 0 := ⟨rfl, rfl⟩
theorem mp_MX6_leastEmpty : Mp MX6_leastEmpty = 6 := (rfl)
theorem mr_MX6_leastEmpty : Mr MX6_leastEmpty = (some .int) := (rfl)
theorem cc_MX6_leastEmpty {M : Mt} {kc ks : Nat} (h1 : kc ≤ Mcc M) (h2 : ks ≤ Mss M) {P : Nat → Nat → Prop} : w_cc M MX6_leastEmpty kc ks P = P kc ks := propext ⟨fun h => h.2.2, fun h => ⟨h1, h2, h⟩⟩
theorem ok_MX6_leastEmpty : am_ok MX6_leastEmpty = true := by decide
theorem ml_MX6_leastEmpty : ML MX6_leastEmpty = 2 := (rfl)
theorem co_MX6_leastEmpty : Mcc MX6_leastEmpty = 0 ∧ Mss MX6_leastEmpty = 0 := ⟨rfl, rfl⟩
theorem mp_MX6_linesWithRow : Mp MX6_linesWithRow = 6 := (rfl)
theorem mr_MX6_linesWithRow : Mr MX6_linesWithRow = (some .long) := (rfl)
theorem cc_MX6_linesWithRow {M : Mt} {kc ks : Nat} (h1 : kc ≤ Mcc M) (h2 : ks ≤ Mss M) {P : Nat → Nat → Prop} : w_cc M MX6_linesWithRow kc ks P = P kc ks := propext ⟨fun h => h.2.2, fun h => ⟨h1, h2, h⟩⟩
theorem ok_MX6_linesWithRow : am_ok MX6_linesWithRow = true := by decide
theorem ml_MX6_linesWithRow : ML MX6_linesWithRow = 4 := (rfl)
theorem co_MX6_linesWithRow : Mcc MX6_linesWithRow = 0 ∧ Mss MX6_linesWithRow = 0 := ⟨rfl, rfl⟩
theorem mp_MX6_linesWith : Mp MX6_linesWith = 6 := (rfl)
theorem mr_MX6_linesWith : Mr MX6_linesWith = (some .long) := (rfl)
theorem cc_MX6_linesWith {M : Mt} {kc ks : Nat} (h1 : kc ≤ Mcc M) (h2 : ks ≤ Mss M) {P : Nat → Nat → Prop} : w_cc M MX6_linesWith kc ks P = P kc ks := propext ⟨fun h => h.2.2, fun h => ⟨h1, h2, h⟩⟩
theorem ok_MX6_linesWith : am_ok MX6_linesWith = true := by decide
theorem ml_MX6_linesWith : ML MX6_linesWith = 6 := (rfl)
theorem co_MX6_linesWith : Mcc MX6_linesWith = 0 ∧ Mss MX6_linesWith = 0 := ⟨rfl, rfl⟩
theorem mp_MX6_linesBelow : Mp MX6_linesBelow = 6 := (rfl)
theorem mr_MX6_linesBelow : Mr MX6_linesBelow = (some .long) := (rfl)
theorem cc_MX6_linesBelow {M : Mt} {kc ks : Nat} (h1 : kc ≤ Mcc M) (h2 : ks ≤ Mss M) {P : Nat → Nat → Prop} : w_cc M MX6_linesBelow kc ks P = P kc ks := propext ⟨fun h => h.2.2, fun h => ⟨h1, h2, h⟩⟩
theorem ok_MX6_linesBelow : am_ok MX6_linesBelow = true := by decide
theorem ml_MX6_linesBelow : ML MX6_linesBelow = 6 := (rfl)
theorem co_MX6_linesBelow : Mcc MX6_linesBelow = 0 ∧ Mss MX6_linesBelow = 0 := ⟨rfl, rfl⟩
theorem mp_MX6_change : Mp MX6_change = 6 := (rfl)
theorem mr_MX6_change : Mr MX6_change = none := (rfl)
theorem cc_MX6_change {M : Mt} {kc ks : Nat} (h1 : kc ≤ Mcc M) (h2 : ks ≤ Mss M) {P : Nat → Nat → Prop} : w_cc M MX6_change kc ks P = P kc ks := propext ⟨fun h => h.2.2, fun h => ⟨h1, h2, h⟩⟩
theorem ok_MX6_change : am_ok MX6_change = true := by decide
theorem ml_MX6_change : ML MX6_change = 3 := (rfl)
theorem co_MX6_change : Mcc MX6_change = 0 ∧ Mss MX6_change = 0 := ⟨rfl, rfl⟩
theorem mp_MX6_changeNumber : Mp MX6_changeNumber = 6 := (rfl)
theorem mr_MX6_changeNumber : Mr MX6_changeNumber = none := (rfl)
theorem cc_MX6_changeNumber {M : Mt} {kc ks : Nat} (h1 : kc ≤ Mcc M) (h2 : ks ≤ Mss M) {P : Nat → Nat → Prop} : w_cc M MX6_changeNumber kc ks P = P kc ks := propext ⟨fun h => h.2.2, fun h => ⟨h1, h2, h⟩⟩
theorem ok_MX6_changeNumber : am_ok MX6_changeNumber = true := by decide
theorem ml_MX6_changeNumber : ML MX6_changeNumber = 4 := (rfl)
theorem co_MX6_changeNumber : Mcc MX6_changeNumber = 0 ∧ Mss MX6_changeNumber = 0 := ⟨rfl, rfl⟩
theorem mp_MX6_undoLatest : Mp MX6_undoLatest = 6 := (rfl)
theorem mr_MX6_undoLatest : Mr MX6_undoLatest = (some .boolean) := (rfl)
theorem cc_MX6_undoLatest {M : Mt} {kc ks : Nat} (h1 : kc ≤ Mcc M) (h2 : ks ≤ Mss M) {P : Nat → Nat → Prop} : w_cc M MX6_undoLatest kc ks P = P kc ks := propext ⟨fun h => h.2.2, fun h => ⟨h1, h2, h⟩⟩
theorem ok_MX6_undoLatest : am_ok MX6_undoLatest = true := by decide
theorem ml_MX6_undoLatest : ML MX6_undoLatest = 1 := (rfl)
theorem co_MX6_undoLatest : Mcc MX6_undoLatest = 0 ∧ Mss MX6_undoLatest = 0 := ⟨rfl, rfl⟩
theorem mp_MX6_forgetChanges : Mp MX6_forgetChanges = 6 := (rfl)
theorem mr_MX6_forgetChanges : Mr MX6_forgetChanges = none := (rfl)
theorem cc_MX6_forgetChanges {M : Mt} {kc ks : Nat} (h1 : kc ≤ Mcc M) (h2 : ks ≤ Mss M) {P : Nat → Nat → Prop} : w_cc M MX6_forgetChanges kc ks P = P kc ks := propext ⟨fun h => h.2.2, fun h => ⟨h1, h2, h⟩⟩
theorem ok_MX6_forgetChanges : am_ok MX6_forgetChanges = true := by decide
theorem ml_MX6_forgetChanges : ML MX6_forgetChanges = 1 := (rfl)
theorem co_MX6_forgetChanges : Mcc MX6_forgetChanges = 0 ∧ Mss MX6_forgetChanges = 0 := ⟨rfl, rfl⟩
theorem mp_MX6_keepMark : Mp MX6_keepMark = 6 := (rfl)
theorem mr_MX6_keepMark : Mr MX6_keepMark = (some .boolean) := (rfl)
theorem cc_MX6_keepMark {M : Mt} {kc ks : Nat} (h1 : kc ≤ Mcc M) (h2 : ks ≤ Mss M) {P : Nat → Nat → Prop} : w_cc M MX6_keepMark kc ks P = P kc ks := propext ⟨fun h => h.2.2, fun h => ⟨h1, h2, h⟩⟩
theorem ok_MX6_keepMark : am_ok MX6_keepMark = true := by decide
theorem ml_MX6_keepMark : ML MX6_keepMark = 2 := (rfl)
theorem co_MX6_keepMark : Mcc MX6_keepMark = 0 ∧ Mss MX6_keepMark = 0 := ⟨rfl, rfl⟩
theorem mp_MX6_returnTo : Mp MX6_returnTo = 6 := (rfl)
theorem mr_MX6_returnTo : Mr MX6_returnTo = (some .boolean) := (rfl)
theorem cc_MX6_returnTo {M : Mt} {kc ks : Nat} (h1 : kc ≤ Mcc M) (h2 : ks ≤ Mss M) {P : Nat → Nat → Prop} : w_cc M MX6_returnTo kc ks P = P kc ks := propext ⟨fun h => h.2.2, fun h => ⟨h1, h2, h⟩⟩
theorem ok_MX6_returnTo : am_ok MX6_returnTo = true := by decide
theorem ml_MX6_returnTo : ML MX6_returnTo = 3 := (rfl)
theorem co_MX6_returnTo : Mcc MX6_returnTo = 0 ∧ Mss MX6_returnTo = 0 := ⟨rfl, rfl⟩
theorem mp_MX6_put : Mp MX6_put = 6 := (rfl)
theorem mr_MX6_put : Mr MX6_put = none := (rfl)
theorem cc_MX6_put {M : Mt} {kc ks : Nat} (h1 : kc ≤ Mcc M) (h2 : ks ≤ Mss M) {P : Nat → Nat → Prop} : w_cc M MX6_put kc ks P = P kc ks := propext ⟨fun h => h.2.2, fun h => ⟨h1, h2, h⟩⟩
theorem ok_MX6_put : am_ok MX6_put = true := by decide
theorem ml_MX6_put : ML MX6_put = 3 := (rfl)
theorem co_MX6_put : Mcc MX6_put = 0 ∧ Mss MX6_put = 0 := ⟨rfl, rfl⟩
theorem mp_MX7_init : Mp MX7_init = 7 := (rfl)
theorem mr_MX7_init : Mr MX7_init = none := (rfl)
theorem ok_MX7_init : am_ok MX7_init = true := by decide
theorem ml_MX7_init : ML MX7_init = 2 := (rfl)
theorem co_MX7_init : Mcc MX7_init = 40 ∧ Mss MX7_init = 1000 := ⟨rfl, rfl⟩
theorem mp_MX7_size : Mp MX7_size = 7 := (rfl)
theorem mr_MX7_size : Mr MX7_size = (some .int) := (rfl)
theorem cc_MX7_size {M : Mt} {kc ks : Nat} (h1 : kc ≤ Mcc M) (h2 : ks ≤ Mss M) {P : Nat → Nat → Prop} : w_cc M MX7_size kc ks P = P kc ks := propext ⟨fun h => h.2.2, fun h => ⟨h1, h2, h⟩⟩
theorem ok_MX7_size : am_ok MX7_size = true := by decide
theorem ml_MX7_size : ML MX7_size = 4 := (rfl)
theorem co_MX7_size : Mcc MX7_size = 0 ∧ Mss MX7_size = 0 := ⟨rfl, rfl⟩
theorem mp_MX7_row : Mp MX7_row = 7 := (rfl)
theorem mr_MX7_row : Mr MX7_row = (some .int) := (rfl)
theorem cc_MX7_row {M : Mt} {kc ks : Nat} (h1 : kc ≤ Mcc M) (h2 : ks ≤ Mss M) {P : Nat → Nat → Prop} : w_cc M MX7_row kc ks P = P kc ks := propext ⟨fun h => h.2.2, fun h => ⟨h1, h2, h⟩⟩
theorem ok_MX7_row : am_ok MX7_row = true := by decide
theorem ml_MX7_row : ML MX7_row = 6 := (rfl)
theorem co_MX7_row : Mcc MX7_row = 0 ∧ Mss MX7_row = 0 := ⟨rfl, rfl⟩
theorem mp_MX7_fill : Mp MX7_fill = 7 := (rfl)
theorem mr_MX7_fill : Mr MX7_fill = (some .int) := (rfl)
theorem cc_MX7_fill {M : Mt} {kc ks : Nat} (h1 : kc ≤ Mcc M) (h2 : ks ≤ Mss M) {P : Nat → Nat → Prop} : w_cc M MX7_fill kc ks P = P kc ks := propext ⟨fun h => h.2.2, fun h => ⟨h1, h2, h⟩⟩
theorem ok_MX7_fill : am_ok MX7_fill = true := by decide
theorem ml_MX7_fill : ML MX7_fill = 8 := (rfl)
theorem co_MX7_fill : Mcc MX7_fill = 0 ∧ Mss MX7_fill = 0 := ⟨rfl, rfl⟩
theorem mp_MX7_set : Mp MX7_set = 7 := (rfl)
theorem mr_MX7_set : Mr MX7_set = (some .int) := (rfl)
theorem cc_MX7_set {M : Mt} {kc ks : Nat} (h1 : kc ≤ Mcc M) (h2 : ks ≤ Mss M) {P : Nat → Nat → Prop} : w_cc M MX7_set kc ks P = P kc ks := propext ⟨fun h => h.2.2, fun h => ⟨h1, h2, h⟩⟩
theorem ok_MX7_set : am_ok MX7_set = true := by decide
theorem ml_MX7_set : ML MX7_set = 5 := (rfl)
theorem co_MX7_set : Mcc MX7_set = 0 ∧ Mss MX7_set = 0 := ⟨rfl, rfl⟩
theorem mp_MX7_drop : Mp MX7_drop = 7 := (rfl)
theorem mr_MX7_drop : Mr MX7_drop = (some .int) := (rfl)
theorem cc_MX7_drop {M : Mt} {kc ks : Nat} (h1 : kc ≤ Mcc M) (h2 : ks ≤ Mss M) {P : Nat → Nat → Prop} : w_cc M MX7_drop kc ks P = P kc ks := propext ⟨fun h => h.2.2, fun h => ⟨h1, h2, h⟩⟩
theorem ok_MX7_drop : am_ok MX7_drop = true := by decide
theorem ml_MX7_drop : ML MX7_drop = 2 := (rfl)
theorem co_MX7_drop : Mcc MX7_drop = 0 ∧ Mss MX7_drop = 0 := ⟨rfl, rfl⟩
theorem mp_MX7_get : Mp MX7_get = 7 := (rfl)
theorem mr_MX7_get : Mr MX7_get = (some .int) := (rfl)
theorem cc_MX7_get {M : Mt} {kc ks : Nat} (h1 : kc ≤ Mcc M) (h2 : ks ≤ Mss M) {P : Nat → Nat → Prop} : w_cc M MX7_get kc ks P = P kc ks := propext ⟨fun h => h.2.2, fun h => ⟨h1, h2, h⟩⟩
theorem ok_MX7_get : am_ok MX7_get = true := by decide
theorem ml_MX7_get : ML MX7_get = 3 := (rfl)
theorem co_MX7_get : Mcc MX7_get = 0 ∧ Mss MX7_get = 0 := ⟨rfl, rfl⟩
theorem mp_MX7_design : Mp MX7_design = 7 := (rfl)
theorem mr_MX7_design : Mr MX7_design = (some .int) := (rfl)
theorem cc_MX7_design {M : Mt} {kc ks : Nat} (h1 : kc ≤ Mcc M) (h2 : ks ≤ Mss M) {P : Nat → Nat → Prop} : w_cc M MX7_design kc ks P = P kc ks := propext ⟨fun h => h.2.2, fun h => ⟨h1, h2, h⟩⟩
theorem ok_MX7_design : am_ok MX7_design = true := by decide
theorem ml_MX7_design : ML MX7_design = 5 := (rfl)
theorem co_MX7_design : Mcc MX7_design = 0 ∧ Mss MX7_design = 0 := ⟨rfl, rfl⟩
theorem mp_MX7_about : Mp MX7_about = 7 := (rfl)
theorem mr_MX7_about : Mr MX7_about = (some .int) := (rfl)
theorem cc_MX7_about {M : Mt} {kc ks : Nat} (h1 : kc ≤ Mcc M) (h2 : ks ≤ Mss M) {P : Nat → Nat → Prop} : w_cc M MX7_about kc ks P = P kc ks := propext ⟨fun h => h.2.2, fun h => ⟨h1, h2, h⟩⟩
theorem ok_MX7_about : am_ok MX7_about = true := by decide
theorem ml_MX7_about : ML MX7_about = 4 := (rfl)
theorem co_MX7_about : Mcc MX7_about = 0 ∧ Mss MX7_about = 0 := ⟨rfl, rfl⟩
theorem mp_MX7_vector : Mp MX7_vector = 7 := (rfl)
theorem mr_MX7_vector : Mr MX7_vector = (some .long) := (rfl)
theorem cc_MX7_vector {M : Mt} {kc ks : Nat} (h1 : kc ≤ Mcc M) (h2 : ks ≤ Mss M) {P : Nat → Nat → Prop} : w_cc M MX7_vector kc ks P = P kc ks := propext ⟨fun h => h.2.2, fun h => ⟨h1, h2, h⟩⟩
theorem ok_MX7_vector : am_ok MX7_vector = true := by decide
theorem ml_MX7_vector : ML MX7_vector = 6 := (rfl)
theorem co_MX7_vector : Mcc MX7_vector = 0 ∧ Mss MX7_vector = 0 := ⟨rfl, rfl⟩
theorem mp_MX7_reads : Mp MX7_reads = 7 := (rfl)
theorem mr_MX7_reads : Mr MX7_reads = (some .long) := (rfl)
theorem cc_MX7_reads {M : Mt} {kc ks : Nat} (h1 : kc ≤ Mcc M) (h2 : ks ≤ Mss M) {P : Nat → Nat → Prop} : w_cc M MX7_reads kc ks P = P kc ks := propext ⟨fun h => h.2.2, fun h => ⟨h1, h2, h⟩⟩
theorem ok_MX7_reads : am_ok MX7_reads = true := by decide
theorem ml_MX7_reads : ML MX7_reads = 4 := (rfl)
theorem co_MX7_reads : Mcc MX7_reads = 0 ∧ Mss MX7_reads = 0 := ⟨rfl, rfl⟩
theorem mp_MX7_cost : Mp MX7_cost = 7 := (rfl)
theorem mr_MX7_cost : Mr MX7_cost = (some .int) := (rfl)
theorem cc_MX7_cost {M : Mt} {kc ks : Nat} (h1 : kc ≤ Mcc M) (h2 : ks ≤ Mss M) {P : Nat → Nat → Prop} : w_cc M MX7_cost kc ks P = P kc ks := propext ⟨fun h => h.2.2, fun h => ⟨h1, h2, h⟩⟩
theorem ok_MX7_cost : am_ok MX7_cost = true := by decide
theorem ml_MX7_cost : ML MX7_cost = 4 := (rfl)
theorem co_MX7_cost : Mcc MX7_cost = 0 ∧ Mss MX7_cost = 0 := ⟨rfl, rfl⟩
theorem mp_MX7_best : Mp MX7_best = 7 := (rfl)
theorem mr_MX7_best : Mr MX7_best = (some .int) := (rfl)
theorem cc_MX7_best {M : Mt} {kc ks : Nat} (h1 : kc ≤ Mcc M) (h2 : ks ≤ Mss M) {P : Nat → Nat → Prop} : w_cc M MX7_best kc ks P = P kc ks := propext ⟨fun h => h.2.2, fun h => ⟨h1, h2, h⟩⟩
theorem ok_MX7_best : am_ok MX7_best = true := by decide
theorem ml_MX7_best : ML MX7_best = 6 := (rfl)
theorem co_MX7_best : Mcc MX7_best = 0 ∧ Mss MX7_best = 0 := ⟨rfl, rfl⟩
theorem mp_MX7_letters : Mp MX7_letters = 7 := (rfl)
theorem mr_MX7_letters : Mr MX7_letters = (some .int) := (rfl)
theorem cc_MX7_letters {M : Mt} {kc ks : Nat} (h1 : kc ≤ Mcc M) (h2 : ks ≤ Mss M) {P : Nat → Nat → Prop} : w_cc M MX7_letters kc ks P = P kc ks := propext ⟨fun h => h.2.2, fun h => ⟨h1, h2, h⟩⟩
theorem ok_MX7_letters : am_ok MX7_letters = true := by decide
theorem ml_MX7_letters : ML MX7_letters = 4 := (rfl)
theorem co_MX7_letters : Mcc MX7_letters = 0 ∧ Mss MX7_letters = 0 := ⟨rfl, rfl⟩
theorem mp_MX7_blank : Mp MX7_blank = 7 := (rfl)
theorem mr_MX7_blank : Mr MX7_blank = (some .int) := (rfl)
theorem cc_MX7_blank {M : Mt} {kc ks : Nat} (h1 : kc ≤ Mcc M) (h2 : ks ≤ Mss M) {P : Nat → Nat → Prop} : w_cc M MX7_blank kc ks P = P kc ks := propext ⟨fun h => h.2.2, fun h => ⟨h1, h2, h⟩⟩
theorem ok_MX7_blank : am_ok MX7_blank = true := by decide
theorem ml_MX7_blank : ML MX7_blank = 2 := (rfl)
theorem co_MX7_blank : Mcc MX7_blank = 0 ∧ Mss MX7_blank = 0 := ⟨rfl, rfl⟩
theorem mp_MX7_good : Mp MX7_good = 7 := (rfl)
theorem mr_MX7_good : Mr MX7_good = (some .int) := (rfl)
theorem cc_MX7_good {M : Mt} {kc ks : Nat} (h1 : kc ≤ Mcc M) (h2 : ks ≤ Mss M) {P : Nat → Nat → Prop} : w_cc M MX7_good kc ks P = P kc ks := propext ⟨fun h => h.2.2, fun h => ⟨h1, h2, h⟩⟩
theorem ok_MX7_good : am_ok MX7_good = true := by decide
theorem ml_MX7_good : ML MX7_good = 1 := (rfl)
theorem co_MX7_good : Mcc MX7_good = 0 ∧ Mss MX7_good = 0 := ⟨rfl, rfl⟩
theorem mp_MX7_ask : Mp MX7_ask = 7 := (rfl)
theorem mr_MX7_ask : Mr MX7_ask = (some .int) := (rfl)
theorem ok_MX7_ask : am_ok MX7_ask = true := by decide
theorem ml_MX7_ask : ML MX7_ask = 1 := (rfl)
theorem co_MX7_ask : Mcc MX7_ask = 4 ∧ Mss MX7_ask = 186 := ⟨rfl, rfl⟩
theorem mp_MX7_leaves : Mp MX7_leaves = 7 := (rfl)
theorem mr_MX7_leaves : Mr MX7_leaves = (some .long) := (rfl)
theorem cc_MX7_leaves {M : Mt} {kc ks : Nat} (h1 : kc ≤ Mcc M) (h2 : ks ≤ Mss M) {P : Nat → Nat → Prop} : w_cc M MX7_leaves kc ks P = P kc ks := propext ⟨fun h => h.2.2, fun h => ⟨h1, h2, h⟩⟩
theorem ok_MX7_leaves : am_ok MX7_leaves = true := by decide
theorem ml_MX7_leaves : ML MX7_leaves = 2 := (rfl)
theorem co_MX7_leaves : Mcc MX7_leaves = 0 ∧ Mss MX7_leaves = 0 := ⟨rfl, rfl⟩
theorem mp_MX7_asked : Mp MX7_asked = 7 := (rfl)
theorem mr_MX7_asked : Mr MX7_asked = (some .int) := (rfl)
theorem cc_MX7_asked {M : Mt} {kc ks : Nat} (h1 : kc ≤ Mcc M) (h2 : ks ≤ Mss M) {P : Nat → Nat → Prop} : w_cc M MX7_asked kc ks P = P kc ks := propext ⟨fun h => h.2.2, fun h => ⟨h1, h2, h⟩⟩
theorem ok_MX7_asked : am_ok MX7_asked = true := by decide
theorem ml_MX7_asked : ML MX7_asked = 3 := (rfl)
theorem co_MX7_asked : Mcc MX7_asked = 0 ∧ Mss MX7_asked = 0 := ⟨rfl, rfl⟩
theorem mp_MX7_sum : Mp MX7_sum = 7 := (rfl)
theorem mr_MX7_sum : Mr MX7_sum = (some .int) := (rfl)
theorem cc_MX7_sum {M : Mt} {kc ks : Nat} (h1 : kc ≤ Mcc M) (h2 : ks ≤ Mss M) {P : Nat → Nat → Prop} : w_cc M MX7_sum kc ks P = P kc ks := propext ⟨fun h => h.2.2, fun h => ⟨h1, h2, h⟩⟩
theorem ok_MX7_sum : am_ok MX7_sum = true := by decide
theorem ml_MX7_sum : ML MX7_sum = 7 := (rfl)
theorem co_MX7_sum : Mcc MX7_sum = 0 ∧ Mss MX7_sum = 0 := ⟨rfl, rfl⟩
theorem mp_MX7_least : Mp MX7_least = 7 := (rfl)
theorem mr_MX7_least : Mr MX7_least = (some .int) := (rfl)
theorem cc_MX7_least {M : Mt} {kc ks : Nat} (h1 : kc ≤ Mcc M) (h2 : ks ≤ Mss M) {P : Nat → Nat → Prop} : w_cc M MX7_least kc ks P = P kc ks := propext ⟨fun h => h.2.2, fun h => ⟨h1, h2, h⟩⟩
theorem ok_MX7_least : am_ok MX7_least = true := by decide
theorem ml_MX7_least : ML MX7_least = 11 := (rfl)
theorem co_MX7_least : Mcc MX7_least = 0 ∧ Mss MX7_least = 0 := ⟨rfl, rfl⟩
theorem mp_MX7_group : Mp MX7_group = 7 := (rfl)
theorem mr_MX7_group : Mr MX7_group = (some .int) := (rfl)
theorem cc_MX7_group {M : Mt} {kc ks : Nat} (h1 : kc ≤ Mcc M) (h2 : ks ≤ Mss M) {P : Nat → Nat → Prop} : w_cc M MX7_group kc ks P = P kc ks := propext ⟨fun h => h.2.2, fun h => ⟨h1, h2, h⟩⟩
theorem ok_MX7_group : am_ok MX7_group = true := by decide
theorem ml_MX7_group : ML MX7_group = 4 := (rfl)
theorem co_MX7_group : Mcc MX7_group = 0 ∧ Mss MX7_group = 0 := ⟨rfl, rfl⟩
theorem mp_MX7_tear : Mp MX7_tear = 7 := (rfl)
theorem mr_MX7_tear : Mr MX7_tear = (some .int) := (rfl)
theorem cc_MX7_tear {M : Mt} {kc ks : Nat} (h1 : kc ≤ Mcc M) (h2 : ks ≤ Mss M) {P : Nat → Nat → Prop} : w_cc M MX7_tear kc ks P = P kc ks := propext ⟨fun h => h.2.2, fun h => ⟨h1, h2, h⟩⟩
theorem ok_MX7_tear : am_ok MX7_tear = true := by decide
theorem ml_MX7_tear : ML MX7_tear = 3 := (rfl)
theorem co_MX7_tear : Mcc MX7_tear = 0 ∧ Mss MX7_tear = 0 := ⟨rfl, rfl⟩
theorem mp_MX7_mend : Mp MX7_mend = 7 := (rfl)
theorem mr_MX7_mend : Mr MX7_mend = (some .int) := (rfl)
theorem cc_MX7_mend {M : Mt} {kc ks : Nat} (h1 : kc ≤ Mcc M) (h2 : ks ≤ Mss M) {P : Nat → Nat → Prop} : w_cc M MX7_mend kc ks P = P kc ks := propext ⟨fun h => h.2.2, fun h => ⟨h1, h2, h⟩⟩
theorem ok_MX7_mend : am_ok MX7_mend = true := by decide
theorem ml_MX7_mend : ML MX7_mend = 3 := (rfl)
theorem co_MX7_mend : Mcc MX7_mend = 0 ∧ Mss MX7_mend = 0 := ⟨rfl, rfl⟩
theorem mp_MX7_parity : Mp MX7_parity = 7 := (rfl)
theorem mr_MX7_parity : Mr MX7_parity = (some .long) := (rfl)
theorem cc_MX7_parity {M : Mt} {kc ks : Nat} (h1 : kc ≤ Mcc M) (h2 : ks ≤ Mss M) {P : Nat → Nat → Prop} : w_cc M MX7_parity kc ks P = P kc ks := propext ⟨fun h => h.2.2, fun h => ⟨h1, h2, h⟩⟩
theorem ok_MX7_parity : am_ok MX7_parity = true := by decide
theorem ml_MX7_parity : ML MX7_parity = 5 := (rfl)
theorem co_MX7_parity : Mcc MX7_parity = 0 ∧ Mss MX7_parity = 0 := ⟨rfl, rfl⟩
theorem mp_MX7_words : Mp MX7_words = 7 := (rfl)
theorem mr_MX7_words : Mr MX7_words = (some .int) := (rfl)
theorem cc_MX7_words {M : Mt} {kc ks : Nat} (h1 : kc ≤ Mcc M) (h2 : ks ≤ Mss M) {P : Nat → Nat → Prop} : w_cc M MX7_words kc ks P = P kc ks := propext ⟨fun h => h.2.2, fun h => ⟨h1, h2, h⟩⟩
theorem ok_MX7_words : am_ok MX7_words = true := by decide
theorem ml_MX7_words : ML MX7_words = 5 := (rfl)
theorem co_MX7_words : Mcc MX7_words = 0 ∧ Mss MX7_words = 0 := ⟨rfl, rfl⟩
theorem mp_MX7_all : Mp MX7_all = 7 := (rfl)
theorem mr_MX7_all : Mr MX7_all = (some .int) := (rfl)
theorem cc_MX7_all {M : Mt} {kc ks : Nat} (h1 : kc ≤ Mcc M) (h2 : ks ≤ Mss M) {P : Nat → Nat → Prop} : w_cc M MX7_all kc ks P = P kc ks := propext ⟨fun h => h.2.2, fun h => ⟨h1, h2, h⟩⟩
theorem ok_MX7_all : am_ok MX7_all = true := by decide
theorem ml_MX7_all : ML MX7_all = 3 := (rfl)
theorem co_MX7_all : Mcc MX7_all = 0 ∧ Mss MX7_all = 0 := ⟨rfl, rfl⟩
theorem mp_MX7_placed : Mp MX7_placed = 7 := (rfl)
theorem mr_MX7_placed : Mr MX7_placed = (some .int) := (rfl)
theorem cc_MX7_placed {M : Mt} {kc ks : Nat} (h1 : kc ≤ Mcc M) (h2 : ks ≤ Mss M) {P : Nat → Nat → Prop} : w_cc M MX7_placed kc ks P = P kc ks := propext ⟨fun h => h.2.2, fun h => ⟨h1, h2, h⟩⟩
theorem ok_MX7_placed : am_ok MX7_placed = true := by decide
theorem ml_MX7_placed : ML MX7_placed = 4 := (rfl)
theorem co_MX7_placed : Mcc MX7_placed = 0 ∧ Mss MX7_placed = 0 := ⟨rfl, rfl⟩
theorem mp_MX7_order : Mp MX7_order = 7 := (rfl)
theorem mr_MX7_order : Mr MX7_order = (some .int) := (rfl)
theorem cc_MX7_order {M : Mt} {kc ks : Nat} (h1 : kc ≤ Mcc M) (h2 : ks ≤ Mss M) {P : Nat → Nat → Prop} : w_cc M MX7_order kc ks P = P kc ks := propext ⟨fun h => h.2.2, fun h => ⟨h1, h2, h⟩⟩
theorem ok_MX7_order : am_ok MX7_order = true := by decide
theorem ml_MX7_order : ML MX7_order = 8 := (rfl)
theorem co_MX7_order : Mcc MX7_order = 0 ∧ Mss MX7_order = 0 := ⟨rfl, rfl⟩
theorem mp_MX7_undo : Mp MX7_undo = 7 := (rfl)
theorem mr_MX7_undo : Mr MX7_undo = (some .int) := (rfl)
theorem cc_MX7_undo {M : Mt} {kc ks : Nat} (h1 : kc ≤ Mcc M) (h2 : ks ≤ Mss M) {P : Nat → Nat → Prop} : w_cc M MX7_undo kc ks P = P kc ks := propext ⟨fun h => h.2.2, fun h => ⟨h1, h2, h⟩⟩
theorem ok_MX7_undo : am_ok MX7_undo = true := by decide
theorem ml_MX7_undo : ML MX7_undo = 1 := (rfl)
theorem co_MX7_undo : Mcc MX7_undo = 0 ∧ Mss MX7_undo = 0 := ⟨rfl, rfl⟩
theorem mp_MX7_mark : Mp MX7_mark = 7 := (rfl)
theorem mr_MX7_mark : Mr MX7_mark = (some .int) := (rfl)
theorem cc_MX7_mark {M : Mt} {kc ks : Nat} (h1 : kc ≤ Mcc M) (h2 : ks ≤ Mss M) {P : Nat → Nat → Prop} : w_cc M MX7_mark kc ks P = P kc ks := propext ⟨fun h => h.2.2, fun h => ⟨h1, h2, h⟩⟩
theorem ok_MX7_mark : am_ok MX7_mark = true := by decide
theorem ml_MX7_mark : ML MX7_mark = 1 := (rfl)
theorem co_MX7_mark : Mcc MX7_mark = 0 ∧ Mss MX7_mark = 0 := ⟨rfl, rfl⟩
theorem mp_MX7_back : Mp MX7_back = 7 := (rfl)
theorem mr_MX7_back : Mr MX7_back = (some .int) := (rfl)
theorem cc_MX7_back {M : Mt} {kc ks : Nat} (h1 : kc ≤ Mcc M) (h2 : ks ≤ Mss M) {P : Nat → Nat → Prop} : w_cc M MX7_back kc ks P = P kc ks := propext ⟨fun h => h.2.2, fun h => ⟨h1, h2, h⟩⟩
theorem ok_MX7_back : am_ok MX7_back = true := by decide
theorem ml_MX7_back : ML MX7_back = 2 := (rfl)
theorem co_MX7_back : Mcc MX7_back = 0 ∧ Mss MX7_back = 0 := ⟨rfl, rfl⟩
theorem mp_MX7_count : Mp MX7_count = 7 := (rfl)
theorem mr_MX7_count : Mr MX7_count = (some .int) := (rfl)
theorem cc_MX7_count {M : Mt} {kc ks : Nat} (h1 : kc ≤ Mcc M) (h2 : ks ≤ Mss M) {P : Nat → Nat → Prop} : w_cc M MX7_count kc ks P = P kc ks := propext ⟨fun h => h.2.2, fun h => ⟨h1, h2, h⟩⟩
theorem ok_MX7_count : am_ok MX7_count = true := by decide
theorem ml_MX7_count : ML MX7_count = 2 := (rfl)
theorem co_MX7_count : Mcc MX7_count = 0 ∧ Mss MX7_count = 0 := ⟨rfl, rfl⟩
theorem mp_MX7_digest : Mp MX7_digest = 7 := (rfl)
theorem mr_MX7_digest : Mr MX7_digest = (some .long) := (rfl)
theorem cc_MX7_digest {M : Mt} {kc ks : Nat} (h1 : kc ≤ Mcc M) (h2 : ks ≤ Mss M) {P : Nat → Nat → Prop} : w_cc M MX7_digest kc ks P = P kc ks := propext ⟨fun h => h.2.2, fun h => ⟨h1, h2, h⟩⟩
theorem ok_MX7_digest : am_ok MX7_digest = true := by decide
theorem ml_MX7_digest : ML MX7_digest = 5 := (rfl)
theorem co_MX7_digest : Mcc MX7_digest = 0 ∧ Mss MX7_digest = 0 := ⟨rfl, rfl⟩
theorem mp_MX7_isColumn : Mp MX7_isColumn = 7 := (rfl)
theorem mr_MX7_isColumn : Mr MX7_isColumn = (some .boolean) := (rfl)
theorem cc_MX7_isColumn {M : Mt} {kc ks : Nat} (h1 : kc ≤ Mcc M) (h2 : ks ≤ Mss M) {P : Nat → Nat → Prop} : w_cc M MX7_isColumn kc ks P = P kc ks := propext ⟨fun h => h.2.2, fun h => ⟨h1, h2, h⟩⟩
theorem ok_MX7_isColumn : am_ok MX7_isColumn = true := by decide
theorem ml_MX7_isColumn : ML MX7_isColumn = 1 := (rfl)
theorem co_MX7_isColumn : Mcc MX7_isColumn = 0 ∧ Mss MX7_isColumn = 0 := ⟨rfl, rfl⟩
theorem mp_MX7_isVector : Mp MX7_isVector = 7 := (rfl)
theorem mr_MX7_isVector : Mr MX7_isVector = (some .boolean) := (rfl)
theorem cc_MX7_isVector {M : Mt} {kc ks : Nat} (h1 : kc ≤ Mcc M) (h2 : ks ≤ Mss M) {P : Nat → Nat → Prop} : w_cc M MX7_isVector kc ks P = P kc ks := propext ⟨fun h => h.2.2, fun h => ⟨h1, h2, h⟩⟩
theorem ok_MX7_isVector : am_ok MX7_isVector = true := by decide
theorem ml_MX7_isVector : ML MX7_isVector = 3 := (rfl)
theorem co_MX7_isVector : Mcc MX7_isVector = 0 ∧ Mss MX7_isVector = 0 := ⟨rfl, rfl⟩
theorem mp_MX7_isQuestion : Mp MX7_isQuestion = 7 := (rfl)
theorem mr_MX7_isQuestion : Mr MX7_isQuestion = (some .boolean) := (rfl)
theorem cc_MX7_isQuestion {M : Mt} {kc ks : Nat} (h1 : kc ≤ Mcc M) (h2 : ks ≤ Mss M) {P : Nat → Nat → Prop} : w_cc M MX7_isQuestion kc ks P = P kc ks := propext ⟨fun h => h.2.2, fun h => ⟨h1, h2, h⟩⟩
theorem ok_MX7_isQuestion : am_ok MX7_isQuestion = true := by decide
theorem ml_MX7_isQuestion : ML MX7_isQuestion = 2 := (rfl)
theorem co_MX7_isQuestion : Mcc MX7_isQuestion = 0 ∧ Mss MX7_isQuestion = 0 := ⟨rfl, rfl⟩
theorem mp_MX7_isWeight : Mp MX7_isWeight = 7 := (rfl)
theorem mr_MX7_isWeight : Mr MX7_isWeight = (some .boolean) := (rfl)
theorem cc_MX7_isWeight {M : Mt} {kc ks : Nat} (h1 : kc ≤ Mcc M) (h2 : ks ≤ Mss M) {P : Nat → Nat → Prop} : w_cc M MX7_isWeight kc ks P = P kc ks := propext ⟨fun h => h.2.2, fun h => ⟨h1, h2, h⟩⟩
theorem ok_MX7_isWeight : am_ok MX7_isWeight = true := by decide
theorem ml_MX7_isWeight : ML MX7_isWeight = 1 := (rfl)
theorem co_MX7_isWeight : Mcc MX7_isWeight = 0 ∧ Mss MX7_isWeight = 0 := ⟨rfl, rfl⟩
theorem mp_MX7_asksForBase : Mp MX7_asksForBase = 7 := (rfl)
theorem mr_MX7_asksForBase : Mr MX7_asksForBase = (some .boolean) := (rfl)
theorem cc_MX7_asksForBase {M : Mt} {kc ks : Nat} (h1 : kc ≤ Mcc M) (h2 : ks ≤ Mss M) {P : Nat → Nat → Prop} : w_cc M MX7_asksForBase kc ks P = P kc ks := propext ⟨fun h => h.2.2, fun h => ⟨h1, h2, h⟩⟩
theorem ok_MX7_asksForBase : am_ok MX7_asksForBase = true := by decide
theorem ml_MX7_asksForBase : ML MX7_asksForBase = 1 := (rfl)
theorem co_MX7_asksForBase : Mcc MX7_asksForBase = 0 ∧ Mss MX7_asksForBase = 0 := ⟨rfl, rfl⟩
theorem mp_MX7_baseOrNone : Mp MX7_baseOrNone = 7 := (rfl)
theorem mr_MX7_baseOrNone : Mr MX7_baseOrNone = (some .int) := (rfl)
theorem cc_MX7_baseOrNone {M : Mt} {kc ks : Nat} (h1 : kc ≤ Mcc M) (h2 : ks ≤ Mss M) {P : Nat → Nat → Prop} : w_cc M MX7_baseOrNone kc ks P = P kc ks := propext ⟨fun h => h.2.2, fun h => ⟨h1, h2, h⟩⟩
theorem ok_MX7_baseOrNone : am_ok MX7_baseOrNone = true := by decide
theorem ml_MX7_baseOrNone : ML MX7_baseOrNone = 3 := (rfl)
theorem co_MX7_baseOrNone : Mcc MX7_baseOrNone = 0 ∧ Mss MX7_baseOrNone = 0 := ⟨rfl, rfl⟩
theorem mp_MX7_lowBits : Mp MX7_lowBits = 7 := (rfl)
theorem mr_MX7_lowBits : Mr MX7_lowBits = (some .long) := (rfl)
theorem cc_MX7_lowBits {M : Mt} {kc ks : Nat} (h1 : kc ≤ Mcc M) (h2 : ks ≤ Mss M) {P : Nat → Nat → Prop} : w_cc M MX7_lowBits kc ks P = P kc ks := propext ⟨fun h => h.2.2, fun h => ⟨h1, h2, h⟩⟩
theorem ok_MX7_lowBits : am_ok MX7_lowBits = true := by decide
theorem ml_MX7_lowBits : ML MX7_lowBits = 1 := (rfl)
theorem co_MX7_lowBits : Mcc MX7_lowBits = 0 ∧ Mss MX7_lowBits = 0 := ⟨rfl, rfl⟩
theorem mp_MX7_bitAt : Mp MX7_bitAt = 7 := (rfl)
theorem mr_MX7_bitAt : Mr MX7_bitAt = (some .int) := (rfl)
theorem cc_MX7_bitAt {M : Mt} {kc ks : Nat} (h1 : kc ≤ Mcc M) (h2 : ks ≤ Mss M) {P : Nat → Nat → Prop} : w_cc M MX7_bitAt kc ks P = P kc ks := propext ⟨fun h => h.2.2, fun h => ⟨h1, h2, h⟩⟩
theorem ok_MX7_bitAt : am_ok MX7_bitAt = true := by decide
theorem ml_MX7_bitAt : ML MX7_bitAt = 5 := (rfl)
theorem co_MX7_bitAt : Mcc MX7_bitAt = 0 ∧ Mss MX7_bitAt = 0 := ⟨rfl, rfl⟩
theorem mp_MX7_slicesAt : Mp MX7_slicesAt = 7 := (rfl)
theorem mr_MX7_slicesAt : Mr MX7_slicesAt = (some .long) := (rfl)
theorem cc_MX7_slicesAt {M : Mt} {kc ks : Nat} (h1 : kc ≤ Mcc M) (h2 : ks ≤ Mss M) {P : Nat → Nat → Prop} : w_cc M MX7_slicesAt kc ks P = P kc ks := propext ⟨fun h => h.2.2, fun h => ⟨h1, h2, h⟩⟩
theorem ok_MX7_slicesAt : am_ok MX7_slicesAt = true := by decide
theorem ml_MX7_slicesAt : ML MX7_slicesAt = 3 := (rfl)
theorem co_MX7_slicesAt : Mcc MX7_slicesAt = 0 ∧ Mss MX7_slicesAt = 0 := ⟨rfl, rfl⟩
theorem mp_MX7_vectorsRead : Mp MX7_vectorsRead = 7 := (rfl)
theorem mr_MX7_vectorsRead : Mr MX7_vectorsRead = (some .int) := (rfl)
theorem cc_MX7_vectorsRead {M : Mt} {kc ks : Nat} (h1 : kc ≤ Mcc M) (h2 : ks ≤ Mss M) {P : Nat → Nat → Prop} : w_cc M MX7_vectorsRead kc ks P = P kc ks := propext ⟨fun h => h.2.2, fun h => ⟨h1, h2, h⟩⟩
theorem ok_MX7_vectorsRead : am_ok MX7_vectorsRead = true := by decide
theorem ml_MX7_vectorsRead : ML MX7_vectorsRead = 4 := (rfl)
theorem co_MX7_vectorsRead : Mcc MX7_vectorsRead = 0 ∧ Mss MX7_vectorsRead = 0 := ⟨rfl, rfl⟩
theorem mp_MX7_fails : Mp MX7_fails = 7 := (rfl)
theorem mr_MX7_fails : Mr MX7_fails = (some .boolean) := (rfl)
theorem cc_MX7_fails {M : Mt} {kc ks : Nat} (h1 : kc ≤ Mcc M) (h2 : ks ≤ Mss M) {P : Nat → Nat → Prop} : w_cc M MX7_fails kc ks P = P kc ks := propext ⟨fun h => h.2.2, fun h => ⟨h1, h2, h⟩⟩
theorem ok_MX7_fails : am_ok MX7_fails = true := by decide
theorem ml_MX7_fails : ML MX7_fails = 3 := (rfl)
theorem co_MX7_fails : Mcc MX7_fails = 0 ∧ Mss MX7_fails = 0 := ⟨rfl, rfl⟩
theorem mp_MX7_vectorsOfAll : Mp MX7_vectorsOfAll = 7 := (rfl)
theorem mr_MX7_vectorsOfAll : Mr MX7_vectorsOfAll = (some .int) := (rfl)
theorem cc_MX7_vectorsOfAll {M : Mt} {kc ks : Nat} (h1 : kc ≤ Mcc M) (h2 : ks ≤ Mss M) {P : Nat → Nat → Prop} : w_cc M MX7_vectorsOfAll kc ks P = P kc ks := propext ⟨fun h => h.2.2, fun h => ⟨h1, h2, h⟩⟩
theorem ok_MX7_vectorsOfAll : am_ok MX7_vectorsOfAll = true := by decide
theorem ml_MX7_vectorsOfAll : ML MX7_vectorsOfAll = 3 := (rfl)
theorem co_MX7_vectorsOfAll : Mcc MX7_vectorsOfAll = 0 ∧ Mss MX7_vectorsOfAll = 0 := ⟨rfl, rfl⟩
theorem mp_MX7_tornOfAll : Mp MX7_tornOfAll = 7 := (rfl)
theorem mr_MX7_tornOfAll : Mr MX7_tornOfAll = (some .int) := (rfl)
theorem cc_MX7_tornOfAll {M : Mt} {kc ks : Nat} (h1 : kc ≤ Mcc M) (h2 : ks ≤ Mss M) {P : Nat → Nat → Prop} : w_cc M MX7_tornOfAll kc ks P = P kc ks := propext ⟨fun h => h.2.2, fun h => ⟨h1, h2, h⟩⟩
theorem ok_MX7_tornOfAll : am_ok MX7_tornOfAll = true := by decide
theorem ml_MX7_tornOfAll : ML MX7_tornOfAll = 3 := (rfl)
theorem co_MX7_tornOfAll : Mcc MX7_tornOfAll = 0 ∧ Mss MX7_tornOfAll = 0 := ⟨rfl, rfl⟩
theorem mp_MX7_tableWords : Mp MX7_tableWords = 7 := (rfl)
theorem mr_MX7_tableWords : Mr MX7_tableWords = (some .int) := (rfl)
theorem cc_MX7_tableWords {M : Mt} {kc ks : Nat} (h1 : kc ≤ Mcc M) (h2 : ks ≤ Mss M) {P : Nat → Nat → Prop} : w_cc M MX7_tableWords kc ks P = P kc ks := propext ⟨fun h => h.2.2, fun h => ⟨h1, h2, h⟩⟩
theorem ok_MX7_tableWords : am_ok MX7_tableWords = true := by decide
theorem ml_MX7_tableWords : ML MX7_tableWords = 5 := (rfl)
theorem co_MX7_tableWords : Mcc MX7_tableWords = 0 ∧ Mss MX7_tableWords = 0 := ⟨rfl, rfl⟩
theorem mp_MX7_squeezedWords : Mp MX7_squeezedWords = 7 := (rfl)
theorem mr_MX7_squeezedWords : Mr MX7_squeezedWords = (some .int) := (rfl)
theorem cc_MX7_squeezedWords {M : Mt} {kc ks : Nat} (h1 : kc ≤ Mcc M) (h2 : ks ≤ Mss M) {P : Nat → Nat → Prop} : w_cc M MX7_squeezedWords kc ks P = P kc ks := propext ⟨fun h => h.2.2, fun h => ⟨h1, h2, h⟩⟩
theorem ok_MX7_squeezedWords : am_ok MX7_squeezedWords = true := by decide
theorem ml_MX7_squeezedWords : ML MX7_squeezedWords = 17 := (rfl)
theorem co_MX7_squeezedWords : Mcc MX7_squeezedWords = 0 ∧ Mss MX7_squeezedWords = 0 := ⟨rfl, rfl⟩
theorem mp_MX8_init : Mp MX8_init = 8 := (rfl)
theorem mr_MX8_init : Mr MX8_init = none := (rfl)
theorem ok_MX8_init : am_ok MX8_init = true := by decide
theorem ml_MX8_init : ML MX8_init = 2 := (rfl)
theorem co_MX8_init : Mcc MX8_init = 40 ∧ Mss MX8_init = 5000 := ⟨rfl, rfl⟩
theorem mp_MX8_in : Mp MX8_in = 8 := (rfl)
theorem mr_MX8_in : Mr MX8_in = (some .boolean) := (rfl)
theorem cc_MX8_in {M : Mt} {kc ks : Nat} (h1 : kc ≤ Mcc M) (h2 : ks ≤ Mss M) {P : Nat → Nat → Prop} : w_cc M MX8_in kc ks P = P kc ks := propext ⟨fun h => h.2.2, fun h => ⟨h1, h2, h⟩⟩
theorem ok_MX8_in : am_ok MX8_in = true := by decide
theorem ml_MX8_in : ML MX8_in = 6 := (rfl)
theorem co_MX8_in : Mcc MX8_in = 0 ∧ Mss MX8_in = 0 := ⟨rfl, rfl⟩
theorem mp_MX8_isColumn : Mp MX8_isColumn = 8 := (rfl)
theorem mr_MX8_isColumn : Mr MX8_isColumn = (some .boolean) := (rfl)
theorem cc_MX8_isColumn {M : Mt} {kc ks : Nat} (h1 : kc ≤ Mcc M) (h2 : ks ≤ Mss M) {P : Nat → Nat → Prop} : w_cc M MX8_isColumn kc ks P = P kc ks := propext ⟨fun h => h.2.2, fun h => ⟨h1, h2, h⟩⟩
theorem ok_MX8_isColumn : am_ok MX8_isColumn = true := by decide
theorem ml_MX8_isColumn : ML MX8_isColumn = 1 := (rfl)
theorem co_MX8_isColumn : Mcc MX8_isColumn = 0 ∧ Mss MX8_isColumn = 0 := ⟨rfl, rfl⟩
theorem mp_MX8_isRow : Mp MX8_isRow = 8 := (rfl)
theorem mr_MX8_isRow : Mr MX8_isRow = (some .boolean) := (rfl)
theorem cc_MX8_isRow {M : Mt} {kc ks : Nat} (h1 : kc ≤ Mcc M) (h2 : ks ≤ Mss M) {P : Nat → Nat → Prop} : w_cc M MX8_isRow kc ks P = P kc ks := propext ⟨fun h => h.2.2, fun h => ⟨h1, h2, h⟩⟩
theorem ok_MX8_isRow : am_ok MX8_isRow = true := by decide
theorem ml_MX8_isRow : ML MX8_isRow = 2 := (rfl)
theorem co_MX8_isRow : Mcc MX8_isRow = 0 ∧ Mss MX8_isRow = 0 := ⟨rfl, rfl⟩
theorem mp_MX8_rows : Mp MX8_rows = 8 := (rfl)
theorem mr_MX8_rows : Mr MX8_rows = (some .int) := (rfl)
theorem cc_MX8_rows {M : Mt} {kc ks : Nat} (h1 : kc ≤ Mcc M) (h2 : ks ≤ Mss M) {P : Nat → Nat → Prop} : w_cc M MX8_rows kc ks P = P kc ks := propext ⟨fun h => h.2.2, fun h => ⟨h1, h2, h⟩⟩
theorem ok_MX8_rows : am_ok MX8_rows = true := by decide
theorem ml_MX8_rows : ML MX8_rows = 3 := (rfl)
theorem co_MX8_rows : Mcc MX8_rows = 0 ∧ Mss MX8_rows = 0 := ⟨rfl, rfl⟩
theorem mp_MX8_size : Mp MX8_size = 8 := (rfl)
theorem mr_MX8_size : Mr MX8_size = (some .int) := (rfl)
theorem cc_MX8_size {M : Mt} {kc ks : Nat} (h1 : kc ≤ Mcc M) (h2 : ks ≤ Mss M) {P : Nat → Nat → Prop} : w_cc M MX8_size kc ks P = P kc ks := propext ⟨fun h => h.2.2, fun h => ⟨h1, h2, h⟩⟩
theorem ok_MX8_size : am_ok MX8_size = true := by decide
theorem ml_MX8_size : ML MX8_size = 4 := (rfl)
theorem co_MX8_size : Mcc MX8_size = 0 ∧ Mss MX8_size = 0 := ⟨rfl, rfl⟩
theorem mp_MX8_keep : Mp MX8_keep = 8 := (rfl)
theorem mr_MX8_keep : Mr MX8_keep = none := (rfl)
theorem cc_MX8_keep {M : Mt} {kc ks : Nat} (h1 : kc ≤ Mcc M) (h2 : ks ≤ Mss M) {P : Nat → Nat → Prop} : w_cc M MX8_keep kc ks P = P kc ks := propext ⟨fun h => h.2.2, fun h => ⟨h1, h2, h⟩⟩
theorem ok_MX8_keep : am_ok MX8_keep = true := by decide
theorem ml_MX8_keep : ML MX8_keep = 3 := (rfl)
theorem co_MX8_keep : Mcc MX8_keep = 0 ∧ Mss MX8_keep = 0 := ⟨rfl, rfl⟩
theorem mp_MX8_emptyLine : Mp MX8_emptyLine = 8 := (rfl)
theorem mr_MX8_emptyLine : Mr MX8_emptyLine = (some .int) := (rfl)
theorem cc_MX8_emptyLine {M : Mt} {kc ks : Nat} (h1 : kc ≤ Mcc M) (h2 : ks ≤ Mss M) {P : Nat → Nat → Prop} : w_cc M MX8_emptyLine kc ks P = P kc ks := propext ⟨fun h => h.2.2, fun h => ⟨h1, h2, h⟩⟩
theorem ok_MX8_emptyLine : am_ok MX8_emptyLine = true := by decide
theorem ml_MX8_emptyLine : ML MX8_emptyLine = 2 := (rfl)
theorem co_MX8_emptyLine : Mcc MX8_emptyLine = 0 ∧ Mss MX8_emptyLine = 0 := ⟨rfl, rfl⟩
theorem mp_MX8_come : Mp MX8_come = 8 := (rfl)
theorem mr_MX8_come : Mr MX8_come = (some .int) := (rfl)
theorem cc_MX8_come {M : Mt} {kc ks : Nat} (h1 : kc ≤ Mcc M) (h2 : ks ≤ Mss M) {P : Nat → Nat → Prop} : w_cc M MX8_come kc ks P = P kc ks := propext ⟨fun h => h.2.2, fun h => ⟨h1, h2, h⟩⟩
theorem ok_MX8_come : am_ok MX8_come = true := by decide
theorem ml_MX8_come : ML MX8_come = 6 := (rfl)
theorem co_MX8_come : Mcc MX8_come = 0 ∧ Mss MX8_come = 0 := ⟨rfl, rfl⟩
theorem mp_MX8_row : Mp MX8_row = 8 := (rfl)
theorem mr_MX8_row : Mr MX8_row = (some .int) := (rfl)
theorem cc_MX8_row {M : Mt} {kc ks : Nat} (h1 : kc ≤ Mcc M) (h2 : ks ≤ Mss M) {P : Nat → Nat → Prop} : w_cc M MX8_row kc ks P = P kc ks := propext ⟨fun h => h.2.2, fun h => ⟨h1, h2, h⟩⟩
theorem ok_MX8_row : am_ok MX8_row = true := by decide
theorem ml_MX8_row : ML MX8_row = 5 := (rfl)
theorem co_MX8_row : Mcc MX8_row = 0 ∧ Mss MX8_row = 0 := ⟨rfl, rfl⟩
theorem mp_MX8_fill : Mp MX8_fill = 8 := (rfl)
theorem mr_MX8_fill : Mr MX8_fill = (some .int) := (rfl)
theorem cc_MX8_fill {M : Mt} {kc ks : Nat} (h1 : kc ≤ Mcc M) (h2 : ks ≤ Mss M) {P : Nat → Nat → Prop} : w_cc M MX8_fill kc ks P = P kc ks := propext ⟨fun h => h.2.2, fun h => ⟨h1, h2, h⟩⟩
theorem ok_MX8_fill : am_ok MX8_fill = true := by decide
theorem ml_MX8_fill : ML MX8_fill = 7 := (rfl)
theorem co_MX8_fill : Mcc MX8_fill = 0 ∧ Mss MX8_fill = 0 := ⟨rfl, rfl⟩
theorem mp_MX8_set : Mp MX8_set = 8 := (rfl)
theorem mr_MX8_set : Mr MX8_set = (some .int) := (rfl)
theorem cc_MX8_set {M : Mt} {kc ks : Nat} (h1 : kc ≤ Mcc M) (h2 : ks ≤ Mss M) {P : Nat → Nat → Prop} : w_cc M MX8_set kc ks P = P kc ks := propext ⟨fun h => h.2.2, fun h => ⟨h1, h2, h⟩⟩
theorem ok_MX8_set : am_ok MX8_set = true := by decide
theorem ml_MX8_set : ML MX8_set = 5 := (rfl)
theorem co_MX8_set : Mcc MX8_set = 0 ∧ Mss MX8_set = 0 := ⟨rfl, rfl⟩
theorem mp_MX8_drop : Mp MX8_drop = 8 := (rfl)
theorem mr_MX8_drop : Mr MX8_drop = (some .int) := (rfl)
theorem cc_MX8_drop {M : Mt} {kc ks : Nat} (h1 : kc ≤ Mcc M) (h2 : ks ≤ Mss M) {P : Nat → Nat → Prop} : w_cc M MX8_drop kc ks P = P kc ks := propext ⟨fun h => h.2.2, fun h => ⟨h1, h2, h⟩⟩
theorem ok_MX8_drop : am_ok MX8_drop = true := by decide
theorem ml_MX8_drop : ML MX8_drop = 2 := (rfl)
theorem co_MX8_drop : Mcc MX8_drop = 0 ∧ Mss MX8_drop = 0 := ⟨rfl, rfl⟩
theorem mp_MX8_getOf : Mp MX8_getOf = 8 := (rfl)
theorem mr_MX8_getOf : Mr MX8_getOf = (some .int) := (rfl)
theorem cc_MX8_getOf {M : Mt} {kc ks : Nat} (h1 : kc ≤ Mcc M) (h2 : ks ≤ Mss M) {P : Nat → Nat → Prop} : w_cc M MX8_getOf kc ks P = P kc ks := propext ⟨fun h => h.2.2, fun h => ⟨h1, h2, h⟩⟩
theorem ok_MX8_getOf : am_ok MX8_getOf = true := by decide
theorem ml_MX8_getOf : ML MX8_getOf = 3 := (rfl)
theorem co_MX8_getOf : Mcc MX8_getOf = 0 ∧ Mss MX8_getOf = 0 := ⟨rfl, rfl⟩
theorem mp_MX8_get : Mp MX8_get = 8 := (rfl)
theorem mr_MX8_get : Mr MX8_get = (some .int) := (rfl)
theorem cc_MX8_get {M : Mt} {kc ks : Nat} (h1 : kc ≤ Mcc M) (h2 : ks ≤ Mss M) {P : Nat → Nat → Prop} : w_cc M MX8_get kc ks P = P kc ks := propext ⟨fun h => h.2.2, fun h => ⟨h1, h2, h⟩⟩
theorem ok_MX8_get : am_ok MX8_get = true := by decide
theorem ml_MX8_get : ML MX8_get = 3 := (rfl)
theorem co_MX8_get : Mcc MX8_get = 0 ∧ Mss MX8_get = 0 := ⟨rfl, rfl⟩
theorem mp_MX8_untear : Mp MX8_untear = 8 := (rfl)
theorem mr_MX8_untear : Mr MX8_untear = none := (rfl)
theorem cc_MX8_untear {M : Mt} {kc ks : Nat} (h1 : kc ≤ Mcc M) (h2 : ks ≤ Mss M) {P : Nat → Nat → Prop} : w_cc M MX8_untear kc ks P = P kc ks := propext ⟨fun h => h.2.2, fun h => ⟨h1, h2, h⟩⟩
theorem ok_MX8_untear : am_ok MX8_untear = true := by decide
theorem ml_MX8_untear : ML MX8_untear = 3 := (rfl)
theorem co_MX8_untear : Mcc MX8_untear = 0 ∧ Mss MX8_untear = 0 := ⟨rfl, rfl⟩
theorem mp_MX8_vectorsOf : Mp MX8_vectorsOf = 8 := (rfl)
theorem mr_MX8_vectorsOf : Mr MX8_vectorsOf = (some .int) := (rfl)
theorem cc_MX8_vectorsOf {M : Mt} {kc ks : Nat} (h1 : kc ≤ Mcc M) (h2 : ks ≤ Mss M) {P : Nat → Nat → Prop} : w_cc M MX8_vectorsOf kc ks P = P kc ks := propext ⟨fun h => h.2.2, fun h => ⟨h1, h2, h⟩⟩
theorem ok_MX8_vectorsOf : am_ok MX8_vectorsOf = true := by decide
theorem ml_MX8_vectorsOf : ML MX8_vectorsOf = 2 := (rfl)
theorem co_MX8_vectorsOf : Mcc MX8_vectorsOf = 0 ∧ Mss MX8_vectorsOf = 0 := ⟨rfl, rfl⟩
theorem mp_MX8_roomOf : Mp MX8_roomOf = 8 := (rfl)
theorem mr_MX8_roomOf : Mr MX8_roomOf = (some .int) := (rfl)
theorem cc_MX8_roomOf {M : Mt} {kc ks : Nat} (h1 : kc ≤ Mcc M) (h2 : ks ≤ Mss M) {P : Nat → Nat → Prop} : w_cc M MX8_roomOf kc ks P = P kc ks := propext ⟨fun h => h.2.2, fun h => ⟨h1, h2, h⟩⟩
theorem ok_MX8_roomOf : am_ok MX8_roomOf = true := by decide
theorem ml_MX8_roomOf : ML MX8_roomOf = 4 := (rfl)
theorem co_MX8_roomOf : Mcc MX8_roomOf = 0 ∧ Mss MX8_roomOf = 0 := ⟨rfl, rfl⟩
theorem mp_MX8_isDesign : Mp MX8_isDesign = 8 := (rfl)
theorem mr_MX8_isDesign : Mr MX8_isDesign = (some .boolean) := (rfl)
theorem cc_MX8_isDesign {M : Mt} {kc ks : Nat} (h1 : kc ≤ Mcc M) (h2 : ks ≤ Mss M) {P : Nat → Nat → Prop} : w_cc M MX8_isDesign kc ks P = P kc ks := propext ⟨fun h => h.2.2, fun h => ⟨h1, h2, h⟩⟩
theorem ok_MX8_isDesign : am_ok MX8_isDesign = true := by decide
theorem ml_MX8_isDesign : ML MX8_isDesign = 8 := (rfl)
theorem co_MX8_isDesign : Mcc MX8_isDesign = 0 ∧ Mss MX8_isDesign = 0 := ⟨rfl, rfl⟩
theorem mp_MX8_design : Mp MX8_design = 8 := (rfl)
theorem mr_MX8_design : Mr MX8_design = (some .int) := (rfl)
theorem cc_MX8_design {M : Mt} {kc ks : Nat} (h1 : kc ≤ Mcc M) (h2 : ks ≤ Mss M) {P : Nat → Nat → Prop} : w_cc M MX8_design kc ks P = P kc ks := propext ⟨fun h => h.2.2, fun h => ⟨h1, h2, h⟩⟩
theorem ok_MX8_design : am_ok MX8_design = true := by decide
theorem ml_MX8_design : ML MX8_design = 9 := (rfl)
theorem co_MX8_design : Mcc MX8_design = 0 ∧ Mss MX8_design = 0 := ⟨rfl, rfl⟩
theorem mp_MX8_tornOf : Mp MX8_tornOf = 8 := (rfl)
theorem mr_MX8_tornOf : Mr MX8_tornOf = (some .int) := (rfl)
theorem cc_MX8_tornOf {M : Mt} {kc ks : Nat} (h1 : kc ≤ Mcc M) (h2 : ks ≤ Mss M) {P : Nat → Nat → Prop} : w_cc M MX8_tornOf kc ks P = P kc ks := propext ⟨fun h => h.2.2, fun h => ⟨h1, h2, h⟩⟩
theorem ok_MX8_tornOf : am_ok MX8_tornOf = true := by decide
theorem ml_MX8_tornOf : ML MX8_tornOf = 4 := (rfl)
theorem co_MX8_tornOf : Mcc MX8_tornOf = 0 ∧ Mss MX8_tornOf = 0 := ⟨rfl, rfl⟩
theorem mp_MX8_aboutOf : Mp MX8_aboutOf = 8 := (rfl)
theorem mr_MX8_aboutOf : Mr MX8_aboutOf = (some .int) := (rfl)
theorem cc_MX8_aboutOf {M : Mt} {kc ks : Nat} (h1 : kc ≤ Mcc M) (h2 : ks ≤ Mss M) {P : Nat → Nat → Prop} : w_cc M MX8_aboutOf kc ks P = P kc ks := propext ⟨fun h => h.2.2, fun h => ⟨h1, h2, h⟩⟩
theorem ok_MX8_aboutOf : am_ok MX8_aboutOf = true := by decide
theorem ml_MX8_aboutOf : ML MX8_aboutOf = 3 := (rfl)
theorem co_MX8_aboutOf : Mcc MX8_aboutOf = 0 ∧ Mss MX8_aboutOf = 0 := ⟨rfl, rfl⟩
theorem mp_MX8_about : Mp MX8_about = 8 := (rfl)
theorem mr_MX8_about : Mr MX8_about = (some .int) := (rfl)
theorem cc_MX8_about {M : Mt} {kc ks : Nat} (h1 : kc ≤ Mcc M) (h2 : ks ≤ Mss M) {P : Nat → Nat → Prop} : w_cc M MX8_about kc ks P = P kc ks := propext ⟨fun h => h.2.2, fun h => ⟨h1, h2, h⟩⟩
theorem ok_MX8_about : am_ok MX8_about = true := by decide
theorem ml_MX8_about : ML MX8_about = 3 := (rfl)
theorem co_MX8_about : Mcc MX8_about = 0 ∧ Mss MX8_about = 0 := ⟨rfl, rfl⟩
theorem mp_MX8_findVector : Mp MX8_findVector = 8 := (rfl)
theorem mr_MX8_findVector : Mr MX8_findVector = none := (rfl)
theorem cc_MX8_findVector {M : Mt} {kc ks : Nat} (h1 : kc ≤ Mcc M) (h2 : ks ≤ Mss M) {P : Nat → Nat → Prop} : w_cc M MX8_findVector kc ks P = P kc ks := propext ⟨fun h => h.2.2, fun h => ⟨h1, h2, h⟩⟩
theorem ok_MX8_findVector : am_ok MX8_findVector = true := by decide
theorem ml_MX8_findVector : ML MX8_findVector = 3 := (rfl)
theorem co_MX8_findVector : Mcc MX8_findVector = 0 ∧ Mss MX8_findVector = 0 := ⟨rfl, rfl⟩
theorem mp_MX8_figure : Mp MX8_figure = 8 := (rfl)
theorem mr_MX8_figure : Mr MX8_figure = (some .int) := (rfl)
theorem cc_MX8_figure {M : Mt} {kc ks : Nat} (h1 : kc ≤ Mcc M) (h2 : ks ≤ Mss M) {P : Nat → Nat → Prop} : w_cc M MX8_figure kc ks P = P kc ks := propext ⟨fun h => h.2.2, fun h => ⟨h1, h2, h⟩⟩
theorem ok_MX8_figure : am_ok MX8_figure = true := by decide
theorem ml_MX8_figure : ML MX8_figure = 6 := (rfl)
theorem co_MX8_figure : Mcc MX8_figure = 0 ∧ Mss MX8_figure = 0 := ⟨rfl, rfl⟩
theorem mp_MX8_bit : Mp MX8_bit = 8 := (rfl)
theorem mr_MX8_bit : Mr MX8_bit = (some .boolean) := (rfl)
theorem cc_MX8_bit {M : Mt} {kc ks : Nat} (h1 : kc ≤ Mcc M) (h2 : ks ≤ Mss M) {P : Nat → Nat → Prop} : w_cc M MX8_bit kc ks P = P kc ks := propext ⟨fun h => h.2.2, fun h => ⟨h1, h2, h⟩⟩
theorem ok_MX8_bit : am_ok MX8_bit = true := by decide
theorem ml_MX8_bit : ML MX8_bit = 6 := (rfl)
theorem co_MX8_bit : Mcc MX8_bit = 0 ∧ Mss MX8_bit = 0 := ⟨rfl, rfl⟩
theorem mp_MX8_vectorBits : Mp MX8_vectorBits = 8 := (rfl)
theorem mr_MX8_vectorBits : Mr MX8_vectorBits = (some .long) := (rfl)
theorem cc_MX8_vectorBits {M : Mt} {kc ks : Nat} (h1 : kc ≤ Mcc M) (h2 : ks ≤ Mss M) {P : Nat → Nat → Prop} : w_cc M MX8_vectorBits kc ks P = P kc ks := propext ⟨fun h => h.2.2, fun h => ⟨h1, h2, h⟩⟩
theorem ok_MX8_vectorBits : am_ok MX8_vectorBits = true := by decide
theorem ml_MX8_vectorBits : ML MX8_vectorBits = 6 := (rfl)
theorem co_MX8_vectorBits : Mcc MX8_vectorBits = 0 ∧ Mss MX8_vectorBits = 0 := ⟨rfl, rfl⟩
theorem mp_MX8_isVector : Mp MX8_isVector = 8 := (rfl)
theorem mr_MX8_isVector : Mr MX8_isVector = (some .boolean) := (rfl)
theorem cc_MX8_isVector {M : Mt} {kc ks : Nat} (h1 : kc ≤ Mcc M) (h2 : ks ≤ Mss M) {P : Nat → Nat → Prop} : w_cc M MX8_isVector kc ks P = P kc ks := propext ⟨fun h => h.2.2, fun h => ⟨h1, h2, h⟩⟩
theorem ok_MX8_isVector : am_ok MX8_isVector = true := by decide
theorem ml_MX8_isVector : ML MX8_isVector = 3 := (rfl)
theorem co_MX8_isVector : Mcc MX8_isVector = 0 ∧ Mss MX8_isVector = 0 := ⟨rfl, rfl⟩
theorem mp_MX8_vector : Mp MX8_vector = 8 := (rfl)
theorem mr_MX8_vector : Mr MX8_vector = (some .long) := (rfl)
theorem cc_MX8_vector {M : Mt} {kc ks : Nat} (h1 : kc ≤ Mcc M) (h2 : ks ≤ Mss M) {P : Nat → Nat → Prop} : w_cc M MX8_vector kc ks P = P kc ks := propext ⟨fun h => h.2.2, fun h => ⟨h1, h2, h⟩⟩
theorem ok_MX8_vector : am_ok MX8_vector = true := by decide
theorem ml_MX8_vector : ML MX8_vector = 3 := (rfl)
theorem co_MX8_vector : Mcc MX8_vector = 0 ∧ Mss MX8_vector = 0 := ⟨rfl, rfl⟩
theorem mp_MX8_span : Mp MX8_span = 8 := (rfl)
theorem mr_MX8_span : Mr MX8_span = (some .long) := (rfl)
theorem cc_MX8_span {M : Mt} {kc ks : Nat} (h1 : kc ≤ Mcc M) (h2 : ks ≤ Mss M) {P : Nat → Nat → Prop} : w_cc M MX8_span kc ks P = P kc ks := propext ⟨fun h => h.2.2, fun h => ⟨h1, h2, h⟩⟩
theorem ok_MX8_span : am_ok MX8_span = true := by decide
theorem ml_MX8_span : ML MX8_span = 5 := (rfl)
theorem co_MX8_span : Mcc MX8_span = 0 ∧ Mss MX8_span = 0 := ⟨rfl, rfl⟩
theorem mp_MX8_equalReads : Mp MX8_equalReads = 8 := (rfl)
theorem mr_MX8_equalReads : Mr MX8_equalReads = (some .long) := (rfl)
theorem cc_MX8_equalReads {M : Mt} {kc ks : Nat} (h1 : kc ≤ Mcc M) (h2 : ks ≤ Mss M) {P : Nat → Nat → Prop} : w_cc M MX8_equalReads kc ks P = P kc ks := propext ⟨fun h => h.2.2, fun h => ⟨h1, h2, h⟩⟩
theorem ok_MX8_equalReads : am_ok MX8_equalReads = true := by decide
theorem ml_MX8_equalReads : ML MX8_equalReads = 3 := (rfl)
theorem co_MX8_equalReads : Mcc MX8_equalReads = 0 ∧ Mss MX8_equalReads = 0 := ⟨rfl, rfl⟩
theorem mp_MX8_lessReads : Mp MX8_lessReads = 8 := (rfl)
theorem mr_MX8_lessReads : Mr MX8_lessReads = (some .long) := (rfl)
theorem cc_MX8_lessReads {M : Mt} {kc ks : Nat} (h1 : kc ≤ Mcc M) (h2 : ks ≤ Mss M) {P : Nat → Nat → Prop} : w_cc M MX8_lessReads kc ks P = P kc ks := propext ⟨fun h => h.2.2, fun h => ⟨h1, h2, h⟩⟩
theorem ok_MX8_lessReads : am_ok MX8_lessReads = true := by decide
theorem ml_MX8_lessReads : ML MX8_lessReads = 3 := (rfl)
theorem co_MX8_lessReads : Mcc MX8_lessReads = 0 ∧ Mss MX8_lessReads = 0 := ⟨rfl, rfl⟩
theorem mp_MX8_readBy : Mp MX8_readBy = 8 := (rfl)
theorem mr_MX8_readBy : Mr MX8_readBy = (some .long) := (rfl)
theorem cc_MX8_readBy {M : Mt} {kc ks : Nat} (h1 : kc ≤ Mcc M) (h2 : ks ≤ Mss M) {P : Nat → Nat → Prop} : w_cc M MX8_readBy kc ks P = P kc ks := propext ⟨fun h => h.2.2, fun h => ⟨h1, h2, h⟩⟩
theorem ok_MX8_readBy : am_ok MX8_readBy = true := by decide
theorem ml_MX8_readBy : ML MX8_readBy = 13 := (rfl)
theorem co_MX8_readBy : Mcc MX8_readBy = 0 ∧ Mss MX8_readBy = 0 := ⟨rfl, rfl⟩
theorem mp_MX8_takeBases : Mp MX8_takeBases = 8 := (rfl)
theorem mr_MX8_takeBases : Mr MX8_takeBases = none := (rfl)
theorem cc_MX8_takeBases {M : Mt} {kc ks : Nat} (h1 : kc ≤ Mcc M) (h2 : ks ≤ Mss M) {P : Nat → Nat → Prop} : w_cc M MX8_takeBases kc ks P = P kc ks := propext ⟨fun h => h.2.2, fun h => ⟨h1, h2, h⟩⟩
theorem ok_MX8_takeBases : am_ok MX8_takeBases = true := by decide
theorem ml_MX8_takeBases : ML MX8_takeBases = 3 := (rfl)
theorem co_MX8_takeBases : Mcc MX8_takeBases = 0 ∧ Mss MX8_takeBases = 0 := ⟨rfl, rfl⟩
theorem mp_MX8_readsOf : Mp MX8_readsOf = 8 := (rfl)
theorem mr_MX8_readsOf : Mr MX8_readsOf = (some .long) := (rfl)
theorem cc_MX8_readsOf {M : Mt} {kc ks : Nat} (h1 : kc ≤ Mcc M) (h2 : ks ≤ Mss M) {P : Nat → Nat → Prop} : w_cc M MX8_readsOf kc ks P = P kc ks := propext ⟨fun h => h.2.2, fun h => ⟨h1, h2, h⟩⟩
theorem ok_MX8_readsOf : am_ok MX8_readsOf = true := by decide
theorem ml_MX8_readsOf : ML MX8_readsOf = 4 := (rfl)
theorem co_MX8_readsOf : Mcc MX8_readsOf = 0 ∧ Mss MX8_readsOf = 0 := ⟨rfl, rfl⟩
theorem mp_MX8_reads : Mp MX8_reads = 8 := (rfl)
theorem mr_MX8_reads : Mr MX8_reads = (some .long) := (rfl)
theorem cc_MX8_reads {M : Mt} {kc ks : Nat} (h1 : kc ≤ Mcc M) (h2 : ks ≤ Mss M) {P : Nat → Nat → Prop} : w_cc M MX8_reads kc ks P = P kc ks := propext ⟨fun h => h.2.2, fun h => ⟨h1, h2, h⟩⟩
theorem ok_MX8_reads : am_ok MX8_reads = true := by decide
theorem ml_MX8_reads : ML MX8_reads = 4 := (rfl)
theorem co_MX8_reads : Mcc MX8_reads = 0 ∧ Mss MX8_reads = 0 := ⟨rfl, rfl⟩
theorem mp_MX8_bitsOf : Mp MX8_bitsOf = 8 := (rfl)
theorem mr_MX8_bitsOf : Mr MX8_bitsOf = (some .int) := (rfl)
theorem cc_MX8_bitsOf {M : Mt} {kc ks : Nat} (h1 : kc ≤ Mcc M) (h2 : ks ≤ Mss M) {P : Nat → Nat → Prop} : w_cc M MX8_bitsOf kc ks P = P kc ks := propext ⟨fun h => h.2.2, fun h => ⟨h1, h2, h⟩⟩
theorem ok_MX8_bitsOf : am_ok MX8_bitsOf = true := by decide
theorem ml_MX8_bitsOf : ML MX8_bitsOf = 5 := (rfl)
theorem co_MX8_bitsOf : Mcc MX8_bitsOf = 0 ∧ Mss MX8_bitsOf = 0 := ⟨rfl, rfl⟩
theorem mp_MX8_costBy : Mp MX8_costBy = 8 := (rfl)
theorem mr_MX8_costBy : Mr MX8_costBy = (some .int) := (rfl)
theorem cc_MX8_costBy {M : Mt} {kc ks : Nat} (h1 : kc ≤ Mcc M) (h2 : ks ≤ Mss M) {P : Nat → Nat → Prop} : w_cc M MX8_costBy kc ks P = P kc ks := propext ⟨fun h => h.2.2, fun h => ⟨h1, h2, h⟩⟩
theorem ok_MX8_costBy : am_ok MX8_costBy = true := by decide
theorem ml_MX8_costBy : ML MX8_costBy = 7 := (rfl)
theorem co_MX8_costBy : Mcc MX8_costBy = 0 ∧ Mss MX8_costBy = 0 := ⟨rfl, rfl⟩
theorem mp_MX8_isWeight : Mp MX8_isWeight = 8 := (rfl)
theorem mr_MX8_isWeight : Mr MX8_isWeight = (some .boolean) := (rfl)
theorem cc_MX8_isWeight {M : Mt} {kc ks : Nat} (h1 : kc ≤ Mcc M) (h2 : ks ≤ Mss M) {P : Nat → Nat → Prop} : w_cc M MX8_isWeight kc ks P = P kc ks := propext ⟨fun h => h.2.2, fun h => ⟨h1, h2, h⟩⟩
theorem ok_MX8_isWeight : am_ok MX8_isWeight = true := by decide
theorem ml_MX8_isWeight : ML MX8_isWeight = 1 := (rfl)
theorem co_MX8_isWeight : Mcc MX8_isWeight = 0 ∧ Mss MX8_isWeight = 0 := ⟨rfl, rfl⟩
theorem mp_MX8_cost : Mp MX8_cost = 8 := (rfl)
theorem mr_MX8_cost : Mr MX8_cost = (some .int) := (rfl)
theorem cc_MX8_cost {M : Mt} {kc ks : Nat} (h1 : kc ≤ Mcc M) (h2 : ks ≤ Mss M) {P : Nat → Nat → Prop} : w_cc M MX8_cost kc ks P = P kc ks := propext ⟨fun h => h.2.2, fun h => ⟨h1, h2, h⟩⟩
theorem ok_MX8_cost : am_ok MX8_cost = true := by decide
theorem ml_MX8_cost : ML MX8_cost = 4 := (rfl)
theorem co_MX8_cost : Mcc MX8_cost = 0 ∧ Mss MX8_cost = 0 := ⟨rfl, rfl⟩
theorem mp_MX8_isEarlier : Mp MX8_isEarlier = 8 := (rfl)
theorem mr_MX8_isEarlier : Mr MX8_isEarlier = (some .boolean) := (rfl)
theorem cc_MX8_isEarlier {M : Mt} {kc ks : Nat} (h1 : kc ≤ Mcc M) (h2 : ks ≤ Mss M) {P : Nat → Nat → Prop} : w_cc M MX8_isEarlier kc ks P = P kc ks := propext ⟨fun h => h.2.2, fun h => ⟨h1, h2, h⟩⟩
theorem ok_MX8_isEarlier : am_ok MX8_isEarlier = true := by decide
theorem ml_MX8_isEarlier : ML MX8_isEarlier = 2 := (rfl)
theorem co_MX8_isEarlier : Mcc MX8_isEarlier = 0 ∧ Mss MX8_isEarlier = 0 := ⟨rfl, rfl⟩
theorem mp_MX8_weigh : Mp MX8_weigh = 8 := (rfl)
theorem mr_MX8_weigh : Mr MX8_weigh = none := (rfl)
theorem cc_MX8_weigh {M : Mt} {kc ks : Nat} (h1 : kc ≤ Mcc M) (h2 : ks ≤ Mss M) {P : Nat → Nat → Prop} : w_cc M MX8_weigh kc ks P = P kc ks := propext ⟨fun h => h.2.2, fun h => ⟨h1, h2, h⟩⟩
theorem ok_MX8_weigh : am_ok MX8_weigh = true := by decide
theorem ml_MX8_weigh : ML MX8_weigh = 10 := (rfl)
theorem co_MX8_weigh : Mcc MX8_weigh = 0 ∧ Mss MX8_weigh = 0 := ⟨rfl, rfl⟩
theorem mp_MX8_findBest : Mp MX8_findBest = 8 := (rfl)
theorem mr_MX8_findBest : Mr MX8_findBest = none := (rfl)
theorem cc_MX8_findBest {M : Mt} {kc ks : Nat} (h1 : kc ≤ Mcc M) (h2 : ks ≤ Mss M) {P : Nat → Nat → Prop} : w_cc M MX8_findBest kc ks P = P kc ks := propext ⟨fun h => h.2.2, fun h => ⟨h1, h2, h⟩⟩
theorem ok_MX8_findBest : am_ok MX8_findBest = true := by decide
theorem ml_MX8_findBest : ML MX8_findBest = 7 := (rfl)
theorem co_MX8_findBest : Mcc MX8_findBest = 0 ∧ Mss MX8_findBest = 0 := ⟨rfl, rfl⟩
theorem mp_MX8_best : Mp MX8_best = 8 := (rfl)
theorem mr_MX8_best : Mr MX8_best = (some .int) := (rfl)
theorem cc_MX8_best {M : Mt} {kc ks : Nat} (h1 : kc ≤ Mcc M) (h2 : ks ≤ Mss M) {P : Nat → Nat → Prop} : w_cc M MX8_best kc ks P = P kc ks := propext ⟨fun h => h.2.2, fun h => ⟨h1, h2, h⟩⟩
theorem ok_MX8_best : am_ok MX8_best = true := by decide
theorem ml_MX8_best : ML MX8_best = 6 := (rfl)
theorem co_MX8_best : Mcc MX8_best = 0 ∧ Mss MX8_best = 0 := ⟨rfl, rfl⟩
theorem mp_MX8_letters : Mp MX8_letters = 8 := (rfl)
theorem mr_MX8_letters : Mr MX8_letters = (some .int) := (rfl)
theorem cc_MX8_letters {M : Mt} {kc ks : Nat} (h1 : kc ≤ Mcc M) (h2 : ks ≤ Mss M) {P : Nat → Nat → Prop} : w_cc M MX8_letters kc ks P = P kc ks := propext ⟨fun h => h.2.2, fun h => ⟨h1, h2, h⟩⟩
theorem ok_MX8_letters : am_ok MX8_letters = true := by decide
theorem ml_MX8_letters : ML MX8_letters = 9 := (rfl)
theorem co_MX8_letters : Mcc MX8_letters = 0 ∧ Mss MX8_letters = 0 := ⟨rfl, rfl⟩
theorem mp_MX8_blank : Mp MX8_blank = 8 := (rfl)
theorem mr_MX8_blank : Mr MX8_blank = (some .int) := (rfl)
theorem cc_MX8_blank {M : Mt} {kc ks : Nat} (h1 : kc ≤ Mcc M) (h2 : ks ≤ Mss M) {P : Nat → Nat → Prop} : w_cc M MX8_blank kc ks P = P kc ks := propext ⟨fun h => h.2.2, fun h => ⟨h1, h2, h⟩⟩
theorem ok_MX8_blank : am_ok MX8_blank = true := by decide
theorem ml_MX8_blank : ML MX8_blank = 2 := (rfl)
theorem co_MX8_blank : Mcc MX8_blank = 0 ∧ Mss MX8_blank = 0 := ⟨rfl, rfl⟩
theorem mp_MX8_lay : Mp MX8_lay = 8 := (rfl)
theorem mr_MX8_lay : Mr MX8_lay = none := (rfl)
theorem cc_MX8_lay {M : Mt} {kc ks : Nat} (h1 : kc ≤ Mcc M) (h2 : ks ≤ Mss M) {P : Nat → Nat → Prop} : w_cc M MX8_lay kc ks P = P kc ks := propext ⟨fun h => h.2.2, fun h => ⟨h1, h2, h⟩⟩
theorem ok_MX8_lay : am_ok MX8_lay = true := by decide
theorem ml_MX8_lay : ML MX8_lay = 3 := (rfl)
theorem co_MX8_lay : Mcc MX8_lay = 0 ∧ Mss MX8_lay = 0 := ⟨rfl, rfl⟩
theorem mp_MX8_layDown : Mp MX8_layDown = 8 := (rfl)
theorem mr_MX8_layDown : Mr MX8_layDown = none := (rfl)
theorem cc_MX8_layDown {M : Mt} {kc ks : Nat} (h1 : kc ≤ Mcc M) (h2 : ks ≤ Mss M) {P : Nat → Nat → Prop} : w_cc M MX8_layDown kc ks P = P kc ks := propext ⟨fun h => h.2.2, fun h => ⟨h1, h2, h⟩⟩
theorem ok_MX8_layDown : am_ok MX8_layDown = true := by decide
theorem ml_MX8_layDown : ML MX8_layDown = 2 := (rfl)
theorem co_MX8_layDown : Mcc MX8_layDown = 0 ∧ Mss MX8_layDown = 0 := ⟨rfl, rfl⟩
theorem mp_MX8_endNumber : Mp MX8_endNumber = 8 := (rfl)
theorem mr_MX8_endNumber : Mr MX8_endNumber = none := (rfl)
theorem cc_MX8_endNumber {M : Mt} {kc ks : Nat} (h1 : kc ≤ Mcc M) (h2 : ks ≤ Mss M) {P : Nat → Nat → Prop} : w_cc M MX8_endNumber kc ks P = P kc ks := propext ⟨fun h => h.2.2, fun h => ⟨h1, h2, h⟩⟩
theorem ok_MX8_endNumber : am_ok MX8_endNumber = true := by decide
theorem ml_MX8_endNumber : ML MX8_endNumber = 1 := (rfl)
theorem co_MX8_endNumber : Mcc MX8_endNumber = 0 ∧ Mss MX8_endNumber = 0 := ⟨rfl, rfl⟩
theorem mp_MX8_goBehind : Mp MX8_goBehind = 8 := (rfl)
theorem mr_MX8_goBehind : Mr MX8_goBehind = (some .boolean) := (rfl)
theorem cc_MX8_goBehind {M : Mt} {kc ks : Nat} (h1 : kc ≤ Mcc M) (h2 : ks ≤ Mss M) {P : Nat → Nat → Prop} : w_cc M MX8_goBehind kc ks P = P kc ks := propext ⟨fun h => h.2.2, fun h => ⟨h1, h2, h⟩⟩
theorem ok_MX8_goBehind : am_ok MX8_goBehind = true := by decide
theorem ml_MX8_goBehind : ML MX8_goBehind = 2 := (rfl)
theorem co_MX8_goBehind : Mcc MX8_goBehind = 0 ∧ Mss MX8_goBehind = 0 := ⟨rfl, rfl⟩
theorem mp_MX8_go : Mp MX8_go = 8 := (rfl)
theorem mr_MX8_go : Mr MX8_go = (some .boolean) := (rfl)
theorem cc_MX8_go {M : Mt} {kc ks : Nat} (h1 : kc ≤ Mcc M) (h2 : ks ≤ Mss M) {P : Nat → Nat → Prop} : w_cc M MX8_go kc ks P = P kc ks := propext ⟨fun h => h.2.2, fun h => ⟨h1, h2, h⟩⟩
theorem ok_MX8_go : am_ok MX8_go = true := by decide
theorem ml_MX8_go : ML MX8_go = 2 := (rfl)
theorem co_MX8_go : Mcc MX8_go = 0 ∧ Mss MX8_go = 0 := ⟨rfl, rfl⟩
theorem mp_MX8_goodOf : Mp MX8_goodOf = 8 := (rfl)
theorem mr_MX8_goodOf : Mr MX8_goodOf = (some .int) := (rfl)
theorem cc_MX8_goodOf {M : Mt} {kc ks : Nat} (h1 : kc ≤ Mcc M) (h2 : ks ≤ Mss M) {P : Nat → Nat → Prop} : w_cc M MX8_goodOf kc ks P = P kc ks := propext ⟨fun h => h.2.2, fun h => ⟨h1, h2, h⟩⟩
theorem ok_MX8_goodOf : am_ok MX8_goodOf = true := by decide
theorem ml_MX8_goodOf : ML MX8_goodOf = 2 := (rfl)
theorem co_MX8_goodOf : Mcc MX8_goodOf = 0 ∧ Mss MX8_goodOf = 0 := ⟨rfl, rfl⟩
theorem mp_MX8_good : Mp MX8_good = 8 := (rfl)
theorem mr_MX8_good : Mr MX8_good = (some .int) := (rfl)
theorem cc_MX8_good {M : Mt} {kc ks : Nat} (h1 : kc ≤ Mcc M) (h2 : ks ≤ Mss M) {P : Nat → Nat → Prop} : w_cc M MX8_good kc ks P = P kc ks := propext ⟨fun h => h.2.2, fun h => ⟨h1, h2, h⟩⟩
theorem ok_MX8_good : am_ok MX8_good = true := by decide
theorem ml_MX8_good : ML MX8_good = 1 := (rfl)
theorem co_MX8_good : Mcc MX8_good = 0 ∧ Mss MX8_good = 0 := ⟨rfl, rfl⟩
theorem mp_MX8_ask : Mp MX8_ask = 8 := (rfl)
theorem mr_MX8_ask : Mr MX8_ask = (some .int) := (rfl)
theorem cc_MX8_ask {M : Mt} {kc ks : Nat} (h1 : kc ≤ Mcc M) (h2 : ks ≤ Mss M) {P : Nat → Nat → Prop} : w_cc M MX8_ask kc ks P = P kc ks := propext ⟨fun h => h.2.2, fun h => ⟨h1, h2, h⟩⟩
theorem ok_MX8_ask : am_ok MX8_ask = true := by decide
theorem ml_MX8_ask : ML MX8_ask = 2 := (rfl)
theorem co_MX8_ask : Mcc MX8_ask = 0 ∧ Mss MX8_ask = 0 := ⟨rfl, rfl⟩
theorem mp_MX8_isQuestion : Mp MX8_isQuestion = 8 := (rfl)
theorem mr_MX8_isQuestion : Mr MX8_isQuestion = (some .boolean) := (rfl)
theorem cc_MX8_isQuestion {M : Mt} {kc ks : Nat} (h1 : kc ≤ Mcc M) (h2 : ks ≤ Mss M) {P : Nat → Nat → Prop} : w_cc M MX8_isQuestion kc ks P = P kc ks := propext ⟨fun h => h.2.2, fun h => ⟨h1, h2, h⟩⟩
theorem ok_MX8_isQuestion : am_ok MX8_isQuestion = true := by decide
theorem ml_MX8_isQuestion : ML MX8_isQuestion = 2 := (rfl)
theorem co_MX8_isQuestion : Mcc MX8_isQuestion = 0 ∧ Mss MX8_isQuestion = 0 := ⟨rfl, rfl⟩
theorem mp_MX8_holdsFor : Mp MX8_holdsFor = 8 := (rfl)
theorem mr_MX8_holdsFor : Mr MX8_holdsFor = (some .boolean) := (rfl)
theorem cc_MX8_holdsFor {M : Mt} {kc ks : Nat} (h1 : kc ≤ Mcc M) (h2 : ks ≤ Mss M) {P : Nat → Nat → Prop} : w_cc M MX8_holdsFor kc ks P = P kc ks := propext ⟨fun h => h.2.2, fun h => ⟨h1, h2, h⟩⟩
theorem ok_MX8_holdsFor : am_ok MX8_holdsFor = true := by decide
theorem ml_MX8_holdsFor : ML MX8_holdsFor = 8 := (rfl)
theorem co_MX8_holdsFor : Mcc MX8_holdsFor = 0 ∧ Mss MX8_holdsFor = 0 := ⟨rfl, rfl⟩
theorem mp_MX8_readsBy : Mp MX8_readsBy = 8 := (rfl)
theorem mr_MX8_readsBy : Mr MX8_readsBy = (some .long) := (rfl)
theorem cc_MX8_readsBy {M : Mt} {kc ks : Nat} (h1 : kc ≤ Mcc M) (h2 : ks ≤ Mss M) {P : Nat → Nat → Prop} : w_cc M MX8_readsBy kc ks P = P kc ks := propext ⟨fun h => h.2.2, fun h => ⟨h1, h2, h⟩⟩
theorem ok_MX8_readsBy : am_ok MX8_readsBy = true := by decide
theorem ml_MX8_readsBy : ML MX8_readsBy = 8 := (rfl)
theorem co_MX8_readsBy : Mcc MX8_readsBy = 0 ∧ Mss MX8_readsBy = 0 := ⟨rfl, rfl⟩
theorem mp_MX8_fails : Mp MX8_fails = 8 := (rfl)
theorem mr_MX8_fails : Mr MX8_fails = (some .boolean) := (rfl)
theorem cc_MX8_fails {M : Mt} {kc ks : Nat} (h1 : kc ≤ Mcc M) (h2 : ks ≤ Mss M) {P : Nat → Nat → Prop} : w_cc M MX8_fails kc ks P = P kc ks := propext ⟨fun h => h.2.2, fun h => ⟨h1, h2, h⟩⟩
theorem ok_MX8_fails : am_ok MX8_fails = true := by decide
theorem ml_MX8_fails : ML MX8_fails = 7 := (rfl)
theorem co_MX8_fails : Mcc MX8_fails = 0 ∧ Mss MX8_fails = 0 := ⟨rfl, rfl⟩
theorem mp_MX8_isLeft : Mp MX8_isLeft = 8 := (rfl)
theorem mr_MX8_isLeft : Mr MX8_isLeft = (some .boolean) := (rfl)
theorem cc_MX8_isLeft {M : Mt} {kc ks : Nat} (h1 : kc ≤ Mcc M) (h2 : ks ≤ Mss M) {P : Nat → Nat → Prop} : w_cc M MX8_isLeft kc ks P = P kc ks := propext ⟨fun h => h.2.2, fun h => ⟨h1, h2, h⟩⟩
theorem ok_MX8_isLeft : am_ok MX8_isLeft = true := by decide
theorem ml_MX8_isLeft : ML MX8_isLeft = 3 := (rfl)
theorem co_MX8_isLeft : Mcc MX8_isLeft = 0 ∧ Mss MX8_isLeft = 0 := ⟨rfl, rfl⟩
theorem mp_MX8_leaves : Mp MX8_leaves = 8 := (rfl)
theorem mr_MX8_leaves : Mr MX8_leaves = (some .long) := (rfl)
theorem cc_MX8_leaves {M : Mt} {kc ks : Nat} (h1 : kc ≤ Mcc M) (h2 : ks ≤ Mss M) {P : Nat → Nat → Prop} : w_cc M MX8_leaves kc ks P = P kc ks := propext ⟨fun h => h.2.2, fun h => ⟨h1, h2, h⟩⟩
theorem ok_MX8_leaves : am_ok MX8_leaves = true := by decide
theorem ml_MX8_leaves : ML MX8_leaves = 5 := (rfl)
theorem co_MX8_leaves : Mcc MX8_leaves = 0 ∧ Mss MX8_leaves = 0 := ⟨rfl, rfl⟩
theorem mp_MX8_askedOf : Mp MX8_askedOf = 8 := (rfl)
theorem mr_MX8_askedOf : Mr MX8_askedOf = (some .int) := (rfl)
theorem cc_MX8_askedOf {M : Mt} {kc ks : Nat} (h1 : kc ≤ Mcc M) (h2 : ks ≤ Mss M) {P : Nat → Nat → Prop} : w_cc M MX8_askedOf kc ks P = P kc ks := propext ⟨fun h => h.2.2, fun h => ⟨h1, h2, h⟩⟩
theorem ok_MX8_askedOf : am_ok MX8_askedOf = true := by decide
theorem ml_MX8_askedOf : ML MX8_askedOf = 5 := (rfl)
theorem co_MX8_askedOf : Mcc MX8_askedOf = 0 ∧ Mss MX8_askedOf = 0 := ⟨rfl, rfl⟩
theorem mp_MX8_asked : Mp MX8_asked = 8 := (rfl)
theorem mr_MX8_asked : Mr MX8_asked = (some .int) := (rfl)
theorem cc_MX8_asked {M : Mt} {kc ks : Nat} (h1 : kc ≤ Mcc M) (h2 : ks ≤ Mss M) {P : Nat → Nat → Prop} : w_cc M MX8_asked kc ks P = P kc ks := propext ⟨fun h => h.2.2, fun h => ⟨h1, h2, h⟩⟩
theorem ok_MX8_asked : am_ok MX8_asked = true := by decide
theorem ml_MX8_asked : ML MX8_asked = 3 := (rfl)
theorem co_MX8_asked : Mcc MX8_asked = 0 ∧ Mss MX8_asked = 0 := ⟨rfl, rfl⟩
theorem mp_MX8_sum : Mp MX8_sum = 8 := (rfl)
theorem mr_MX8_sum : Mr MX8_sum = (some .int) := (rfl)
theorem cc_MX8_sum {M : Mt} {kc ks : Nat} (h1 : kc ≤ Mcc M) (h2 : ks ≤ Mss M) {P : Nat → Nat → Prop} : w_cc M MX8_sum kc ks P = P kc ks := propext ⟨fun h => h.2.2, fun h => ⟨h1, h2, h⟩⟩
theorem ok_MX8_sum : am_ok MX8_sum = true := by decide
theorem ml_MX8_sum : ML MX8_sum = 5 := (rfl)
theorem co_MX8_sum : Mcc MX8_sum = 0 ∧ Mss MX8_sum = 0 := ⟨rfl, rfl⟩
theorem mp_MX8_least : Mp MX8_least = 8 := (rfl)
theorem mr_MX8_least : Mr MX8_least = (some .int) := (rfl)
theorem cc_MX8_least {M : Mt} {kc ks : Nat} (h1 : kc ≤ Mcc M) (h2 : ks ≤ Mss M) {P : Nat → Nat → Prop} : w_cc M MX8_least kc ks P = P kc ks := propext ⟨fun h => h.2.2, fun h => ⟨h1, h2, h⟩⟩
theorem ok_MX8_least : am_ok MX8_least = true := by decide
theorem ml_MX8_least : ML MX8_least = 7 := (rfl)
theorem co_MX8_least : Mcc MX8_least = 0 ∧ Mss MX8_least = 0 := ⟨rfl, rfl⟩
theorem mp_MX8_group : Mp MX8_group = 8 := (rfl)
theorem mr_MX8_group : Mr MX8_group = (some .int) := (rfl)
theorem cc_MX8_group {M : Mt} {kc ks : Nat} (h1 : kc ≤ Mcc M) (h2 : ks ≤ Mss M) {P : Nat → Nat → Prop} : w_cc M MX8_group kc ks P = P kc ks := propext ⟨fun h => h.2.2, fun h => ⟨h1, h2, h⟩⟩
theorem ok_MX8_group : am_ok MX8_group = true := by decide
theorem ml_MX8_group : ML MX8_group = 6 := (rfl)
theorem co_MX8_group : Mcc MX8_group = 0 ∧ Mss MX8_group = 0 := ⟨rfl, rfl⟩
theorem mp_MX8_tear : Mp MX8_tear = 8 := (rfl)
theorem mr_MX8_tear : Mr MX8_tear = (some .int) := (rfl)
theorem cc_MX8_tear {M : Mt} {kc ks : Nat} (h1 : kc ≤ Mcc M) (h2 : ks ≤ Mss M) {P : Nat → Nat → Prop} : w_cc M MX8_tear kc ks P = P kc ks := propext ⟨fun h => h.2.2, fun h => ⟨h1, h2, h⟩⟩
theorem ok_MX8_tear : am_ok MX8_tear = true := by decide
theorem ml_MX8_tear : ML MX8_tear = 3 := (rfl)
theorem co_MX8_tear : Mcc MX8_tear = 0 ∧ Mss MX8_tear = 0 := ⟨rfl, rfl⟩
theorem mp_MX8_mend : Mp MX8_mend = 8 := (rfl)
theorem mr_MX8_mend : Mr MX8_mend = (some .int) := (rfl)
theorem cc_MX8_mend {M : Mt} {kc ks : Nat} (h1 : kc ≤ Mcc M) (h2 : ks ≤ Mss M) {P : Nat → Nat → Prop} : w_cc M MX8_mend kc ks P = P kc ks := propext ⟨fun h => h.2.2, fun h => ⟨h1, h2, h⟩⟩
theorem ok_MX8_mend : am_ok MX8_mend = true := by decide
theorem ml_MX8_mend : ML MX8_mend = 3 := (rfl)
theorem co_MX8_mend : Mcc MX8_mend = 0 ∧ Mss MX8_mend = 0 := ⟨rfl, rfl⟩
theorem mp_MX8_parityOf : Mp MX8_parityOf = 8 := (rfl)
theorem mr_MX8_parityOf : Mr MX8_parityOf = (some .long) := (rfl)
theorem cc_MX8_parityOf {M : Mt} {kc ks : Nat} (h1 : kc ≤ Mcc M) (h2 : ks ≤ Mss M) {P : Nat → Nat → Prop} : w_cc M MX8_parityOf kc ks P = P kc ks := propext ⟨fun h => h.2.2, fun h => ⟨h1, h2, h⟩⟩
theorem ok_MX8_parityOf : am_ok MX8_parityOf = true := by decide
theorem ml_MX8_parityOf : ML MX8_parityOf = 5 := (rfl)
theorem co_MX8_parityOf : Mcc MX8_parityOf = 0 ∧ Mss MX8_parityOf = 0 := ⟨rfl, rfl⟩
theorem mp_MX8_parity : Mp MX8_parity = 8 := (rfl)
theorem mr_MX8_parity : Mr MX8_parity = (some .long) := (rfl)
theorem cc_MX8_parity {M : Mt} {kc ks : Nat} (h1 : kc ≤ Mcc M) (h2 : ks ≤ Mss M) {P : Nat → Nat → Prop} : w_cc M MX8_parity kc ks P = P kc ks := propext ⟨fun h => h.2.2, fun h => ⟨h1, h2, h⟩⟩
theorem ok_MX8_parity : am_ok MX8_parity = true := by decide
theorem ml_MX8_parity : ML MX8_parity = 2 := (rfl)
theorem co_MX8_parity : Mcc MX8_parity = 0 ∧ Mss MX8_parity = 0 := ⟨rfl, rfl⟩
theorem mp_MX8_takeOrder : Mp MX8_takeOrder = 8 := (rfl)
theorem mr_MX8_takeOrder : Mr MX8_takeOrder = (some .boolean) := (rfl)
theorem cc_MX8_takeOrder {M : Mt} {kc ks : Nat} (h1 : kc ≤ Mcc M) (h2 : ks ≤ Mss M) {P : Nat → Nat → Prop} : w_cc M MX8_takeOrder kc ks P = P kc ks := propext ⟨fun h => h.2.2, fun h => ⟨h1, h2, h⟩⟩
theorem ok_MX8_takeOrder : am_ok MX8_takeOrder = true := by decide
theorem ml_MX8_takeOrder : ML MX8_takeOrder = 5 := (rfl)
theorem co_MX8_takeOrder : Mcc MX8_takeOrder = 0 ∧ Mss MX8_takeOrder = 0 := ⟨rfl, rfl⟩
theorem mp_MX8_sameTo : Mp MX8_sameTo = 8 := (rfl)
theorem mr_MX8_sameTo : Mr MX8_sameTo = (some .boolean) := (rfl)
theorem cc_MX8_sameTo {M : Mt} {kc ks : Nat} (h1 : kc ≤ Mcc M) (h2 : ks ≤ Mss M) {P : Nat → Nat → Prop} : w_cc M MX8_sameTo kc ks P = P kc ks := propext ⟨fun h => h.2.2, fun h => ⟨h1, h2, h⟩⟩
theorem ok_MX8_sameTo : am_ok MX8_sameTo = true := by decide
theorem ml_MX8_sameTo : ML MX8_sameTo = 6 := (rfl)
theorem co_MX8_sameTo : Mcc MX8_sameTo = 0 ∧ Mss MX8_sameTo = 0 := ⟨rfl, rfl⟩
theorem mp_MX8_sortRun : Mp MX8_sortRun = 8 := (rfl)
theorem mr_MX8_sortRun : Mr MX8_sortRun = none := (rfl)
theorem cc_MX8_sortRun {M : Mt} {kc ks : Nat} (h1 : kc ≤ Mcc M) (h2 : ks ≤ Mss M) {P : Nat → Nat → Prop} : w_cc M MX8_sortRun kc ks P = P kc ks := propext ⟨fun h => h.2.2, fun h => ⟨h1, h2, h⟩⟩
theorem ok_MX8_sortRun : am_ok MX8_sortRun = true := by decide
theorem ml_MX8_sortRun : ML MX8_sortRun = 11 := (rfl)
theorem co_MX8_sortRun : Mcc MX8_sortRun = 0 ∧ Mss MX8_sortRun = 0 := ⟨rfl, rfl⟩
theorem mp_MX8_layOrder : Mp MX8_layOrder = 8 := (rfl)
theorem mr_MX8_layOrder : Mr MX8_layOrder = none := (rfl)
theorem cc_MX8_layOrder {M : Mt} {kc ks : Nat} (h1 : kc ≤ Mcc M) (h2 : ks ≤ Mss M) {P : Nat → Nat → Prop} : w_cc M MX8_layOrder kc ks P = P kc ks := propext ⟨fun h => h.2.2, fun h => ⟨h1, h2, h⟩⟩
theorem ok_MX8_layOrder : am_ok MX8_layOrder = true := by decide
theorem ml_MX8_layOrder : ML MX8_layOrder = 8 := (rfl)
theorem co_MX8_layOrder : Mcc MX8_layOrder = 0 ∧ Mss MX8_layOrder = 0 := ⟨rfl, rfl⟩
theorem mp_MX8_wordsOf : Mp MX8_wordsOf = 8 := (rfl)
theorem mr_MX8_wordsOf : Mr MX8_wordsOf = (some .int) := (rfl)
theorem cc_MX8_wordsOf {M : Mt} {kc ks : Nat} (h1 : kc ≤ Mcc M) (h2 : ks ≤ Mss M) {P : Nat → Nat → Prop} : w_cc M MX8_wordsOf kc ks P = P kc ks := propext ⟨fun h => h.2.2, fun h => ⟨h1, h2, h⟩⟩
theorem ok_MX8_wordsOf : am_ok MX8_wordsOf = true := by decide
theorem ml_MX8_wordsOf : ML MX8_wordsOf = 9 := (rfl)
theorem co_MX8_wordsOf : Mcc MX8_wordsOf = 0 ∧ Mss MX8_wordsOf = 0 := ⟨rfl, rfl⟩
theorem mp_MX8_allWords : Mp MX8_allWords = 8 := (rfl)
theorem mr_MX8_allWords : Mr MX8_allWords = (some .int) := (rfl)
theorem cc_MX8_allWords {M : Mt} {kc ks : Nat} (h1 : kc ≤ Mcc M) (h2 : ks ≤ Mss M) {P : Nat → Nat → Prop} : w_cc M MX8_allWords kc ks P = P kc ks := propext ⟨fun h => h.2.2, fun h => ⟨h1, h2, h⟩⟩
theorem ok_MX8_allWords : am_ok MX8_allWords = true := by decide
theorem ml_MX8_allWords : ML MX8_allWords = 4 := (rfl)
theorem co_MX8_allWords : Mcc MX8_allWords = 0 ∧ Mss MX8_allWords = 0 := ⟨rfl, rfl⟩
theorem mp_MX8_words : Mp MX8_words = 8 := (rfl)
theorem mr_MX8_words : Mr MX8_words = (some .int) := (rfl)
theorem cc_MX8_words {M : Mt} {kc ks : Nat} (h1 : kc ≤ Mcc M) (h2 : ks ≤ Mss M) {P : Nat → Nat → Prop} : w_cc M MX8_words kc ks P = P kc ks := propext ⟨fun h => h.2.2, fun h => ⟨h1, h2, h⟩⟩
theorem ok_MX8_words : am_ok MX8_words = true := by decide
theorem ml_MX8_words : ML MX8_words = 5 := (rfl)
theorem co_MX8_words : Mcc MX8_words = 0 ∧ Mss MX8_words = 0 := ⟨rfl, rfl⟩
theorem mp_MX8_all : Mp MX8_all = 8 := (rfl)
theorem mr_MX8_all : Mr MX8_all = (some .int) := (rfl)
theorem cc_MX8_all {M : Mt} {kc ks : Nat} (h1 : kc ≤ Mcc M) (h2 : ks ≤ Mss M) {P : Nat → Nat → Prop} : w_cc M MX8_all kc ks P = P kc ks := propext ⟨fun h => h.2.2, fun h => ⟨h1, h2, h⟩⟩
theorem ok_MX8_all : am_ok MX8_all = true := by decide
theorem ml_MX8_all : ML MX8_all = 3 := (rfl)
theorem co_MX8_all : Mcc MX8_all = 0 ∧ Mss MX8_all = 0 := ⟨rfl, rfl⟩
theorem mp_MX8_placed : Mp MX8_placed = 8 := (rfl)
theorem mr_MX8_placed : Mr MX8_placed = (some .int) := (rfl)
theorem cc_MX8_placed {M : Mt} {kc ks : Nat} (h1 : kc ≤ Mcc M) (h2 : ks ≤ Mss M) {P : Nat → Nat → Prop} : w_cc M MX8_placed kc ks P = P kc ks := propext ⟨fun h => h.2.2, fun h => ⟨h1, h2, h⟩⟩
theorem ok_MX8_placed : am_ok MX8_placed = true := by decide
theorem ml_MX8_placed : ML MX8_placed = 4 := (rfl)
theorem co_MX8_placed : Mcc MX8_placed = 0 ∧ Mss MX8_placed = 0 := ⟨rfl, rfl⟩
theorem mp_MX8_order : Mp MX8_order = 8 := (rfl)
theorem mr_MX8_order : Mr MX8_order = (some .int) := (rfl)
theorem cc_MX8_order {M : Mt} {kc ks : Nat} (h1 : kc ≤ Mcc M) (h2 : ks ≤ Mss M) {P : Nat → Nat → Prop} : w_cc M MX8_order kc ks P = P kc ks := propext ⟨fun h => h.2.2, fun h => ⟨h1, h2, h⟩⟩
theorem ok_MX8_order : am_ok MX8_order = true := by decide
theorem ml_MX8_order : ML MX8_order = 8 := (rfl)
theorem co_MX8_order : Mcc MX8_order = 0 ∧ Mss MX8_order = 0 := ⟨rfl, rfl⟩
theorem mp_MX8_undo : Mp MX8_undo = 8 := (rfl)
theorem mr_MX8_undo : Mr MX8_undo = (some .int) := (rfl)
theorem cc_MX8_undo {M : Mt} {kc ks : Nat} (h1 : kc ≤ Mcc M) (h2 : ks ≤ Mss M) {P : Nat → Nat → Prop} : w_cc M MX8_undo kc ks P = P kc ks := propext ⟨fun h => h.2.2, fun h => ⟨h1, h2, h⟩⟩
theorem ok_MX8_undo : am_ok MX8_undo = true := by decide
theorem ml_MX8_undo : ML MX8_undo = 3 := (rfl)
theorem co_MX8_undo : Mcc MX8_undo = 0 ∧ Mss MX8_undo = 0 := ⟨rfl, rfl⟩
theorem mp_MX8_mark : Mp MX8_mark = 8 := (rfl)
theorem mr_MX8_mark : Mr MX8_mark = (some .int) := (rfl)
theorem cc_MX8_mark {M : Mt} {kc ks : Nat} (h1 : kc ≤ Mcc M) (h2 : ks ≤ Mss M) {P : Nat → Nat → Prop} : w_cc M MX8_mark kc ks P = P kc ks := propext ⟨fun h => h.2.2, fun h => ⟨h1, h2, h⟩⟩
theorem ok_MX8_mark : am_ok MX8_mark = true := by decide
theorem ml_MX8_mark : ML MX8_mark = 2 := (rfl)
theorem co_MX8_mark : Mcc MX8_mark = 0 ∧ Mss MX8_mark = 0 := ⟨rfl, rfl⟩
theorem mp_MX8_back : Mp MX8_back = 8 := (rfl)
theorem mr_MX8_back : Mr MX8_back = (some .int) := (rfl)
theorem cc_MX8_back {M : Mt} {kc ks : Nat} (h1 : kc ≤ Mcc M) (h2 : ks ≤ Mss M) {P : Nat → Nat → Prop} : w_cc M MX8_back kc ks P = P kc ks := propext ⟨fun h => h.2.2, fun h => ⟨h1, h2, h⟩⟩
theorem ok_MX8_back : am_ok MX8_back = true := by decide
theorem ml_MX8_back : ML MX8_back = 3 := (rfl)
theorem co_MX8_back : Mcc MX8_back = 0 ∧ Mss MX8_back = 0 := ⟨rfl, rfl⟩
theorem mp_MX8_countOf : Mp MX8_countOf = 8 := (rfl)
theorem mr_MX8_countOf : Mr MX8_countOf = (some .int) := (rfl)
theorem cc_MX8_countOf {M : Mt} {kc ks : Nat} (h1 : kc ≤ Mcc M) (h2 : ks ≤ Mss M) {P : Nat → Nat → Prop} : w_cc M MX8_countOf kc ks P = P kc ks := propext ⟨fun h => h.2.2, fun h => ⟨h1, h2, h⟩⟩
theorem ok_MX8_countOf : am_ok MX8_countOf = true := by decide
theorem ml_MX8_countOf : ML MX8_countOf = 4 := (rfl)
theorem co_MX8_countOf : Mcc MX8_countOf = 0 ∧ Mss MX8_countOf = 0 := ⟨rfl, rfl⟩
theorem mp_MX8_count : Mp MX8_count = 8 := (rfl)
theorem mr_MX8_count : Mr MX8_count = (some .int) := (rfl)
theorem cc_MX8_count {M : Mt} {kc ks : Nat} (h1 : kc ≤ Mcc M) (h2 : ks ≤ Mss M) {P : Nat → Nat → Prop} : w_cc M MX8_count kc ks P = P kc ks := propext ⟨fun h => h.2.2, fun h => ⟨h1, h2, h⟩⟩
theorem ok_MX8_count : am_ok MX8_count = true := by decide
theorem ml_MX8_count : ML MX8_count = 2 := (rfl)
theorem co_MX8_count : Mcc MX8_count = 0 ∧ Mss MX8_count = 0 := ⟨rfl, rfl⟩
theorem mp_MX8_digest : Mp MX8_digest = 8 := (rfl)
theorem mr_MX8_digest : Mr MX8_digest = (some .long) := (rfl)
theorem cc_MX8_digest {M : Mt} {kc ks : Nat} (h1 : kc ≤ Mcc M) (h2 : ks ≤ Mss M) {P : Nat → Nat → Prop} : w_cc M MX8_digest kc ks P = P kc ks := propext ⟨fun h => h.2.2, fun h => ⟨h1, h2, h⟩⟩
theorem ok_MX8_digest : am_ok MX8_digest = true := by decide
theorem ml_MX8_digest : ML MX8_digest = 5 := (rfl)
theorem co_MX8_digest : Mcc MX8_digest = 0 ∧ Mss MX8_digest = 0 := ⟨rfl, rfl⟩
theorem mp_MJ13_bitCount_95d88 : Mp MJ13_bitCount_95d88 = 9 := (rfl)
theorem mr_MJ13_bitCount_95d88 : Mr MJ13_bitCount_95d88 = (some .int) := (rfl)
theorem cc_MJ13_bitCount_95d88 {M : Mt} {kc ks : Nat} (h1 : kc ≤ Mcc M) (h2 : ks ≤ Mss M) {P : Nat → Nat → Prop} : w_cc M MJ13_bitCount_95d88 kc ks P = P kc ks := propext ⟨fun h => h.2.2, fun h => ⟨h1, h2, h⟩⟩
theorem ok_MJ13_bitCount_95d88 : am_ok MJ13_bitCount_95d88 = true := by decide
theorem ml_MJ13_bitCount_95d88 : ML MJ13_bitCount_95d88 = 2 := (rfl)
theorem co_MJ13_bitCount_95d88 : Mcc MJ13_bitCount_95d88 = 0 ∧ Mss MJ13_bitCount_95d88 = 0 := ⟨rfl, rfl⟩
theorem mp_MJ9_max_7cf53 : Mp MJ9_max_7cf53 = 10 := (rfl)
theorem mr_MJ9_max_7cf53 : Mr MJ9_max_7cf53 = (some .int) := (rfl)
theorem cc_MJ9_max_7cf53 {M : Mt} {kc ks : Nat} (h1 : kc ≤ Mcc M) (h2 : ks ≤ Mss M) {P : Nat → Nat → Prop} : w_cc M MJ9_max_7cf53 kc ks P = P kc ks := propext ⟨fun h => h.2.2, fun h => ⟨h1, h2, h⟩⟩
theorem ml_MJ9_max_7cf53 : ML MJ9_max_7cf53 = 2 := (rfl)
theorem co_MJ9_max_7cf53 : Mcc MJ9_max_7cf53 = 0 ∧ Mss MJ9_max_7cf53 = 0 := ⟨rfl, rfl⟩
theorem mp_MJ9_min_7cf53 : Mp MJ9_min_7cf53 = 10 := (rfl)
theorem mr_MJ9_min_7cf53 : Mr MJ9_min_7cf53 = (some .int) := (rfl)
theorem cc_MJ9_min_7cf53 {M : Mt} {kc ks : Nat} (h1 : kc ≤ Mcc M) (h2 : ks ≤ Mss M) {P : Nat → Nat → Prop} : w_cc M MJ9_min_7cf53 kc ks P = P kc ks := propext ⟨fun h => h.2.2, fun h => ⟨h1, h2, h⟩⟩
theorem ml_MJ9_min_7cf53 : ML MJ9_min_7cf53 = 2 := (rfl)
theorem co_MJ9_min_7cf53 : Mcc MJ9_min_7cf53 = 0 ∧ Mss MJ9_min_7cf53 = 0 := ⟨rfl, rfl⟩
theorem mp_ML_law {X : Nat × (Nat → Int32)} : Mp (ML_law X) = 11 := (rfl)
theorem mr_ML_law {X : Nat × (Nat → Int32)} : Mr (ML_law X) = some .boolean := (rfl)
