def am_len : Instr → Nat
  | .bipush _ | .iload _ | .lload _ | .aload _ | .istore _ | .lstore _ | .astore _ | .ldc _ | .newarray _ => 2
  | .sipush _ | .ldc2_w _ | .iinc _ _ | .ifCond _ _ | .if_icmp _ _ | .goto _ | .ifnull _ | .getfield _ | .putfield _ | .new _ | .anewarray _ | .invokevirtual _ | .invokestatic _ | .invokespecial _ => 3
  | _ => 1
def am_sok (M : Mt) (pc : Nat) (i : Instr) : Bool := decide (Mo M = am_own (Mp M)) && (match i with
  | .istore j => decide (j < ML M)
  | .astore j => decide (j < ML M)
  | .lstore j => decide (j + 1 < ML M)
  | .istore_n j => decide ((j : Nat) < ML M)
  | .astore_n j => decide ((j : Nat) < ML M)
  | .lstore_n j => decide ((j : Nat) + 1 < ML M)
  | .iinc j _ => decide (j < ML M)
  | .ifCond _ off => decide (0 ≤ (pc : Int) + off)
  | .if_icmp _ off => decide (0 ≤ (pc : Int) + off)
  | .goto off => decide (0 ≤ (pc : Int) + off)
  | .ifnull off => decide (0 ≤ (pc : Int) + off)
  | .putfield idx => (match lkp (pf (Mp M)) idx with
    | some (ci, _, nb, _, fin) => !fin || (!nb && decide ((My M).name = "<init>") && decide ((vwCl[ci]?).map (fun q => q.1) = some (Mo M)))
    | none => false)
  | .tableswitch df lo hi offs => decide ((offs.size : Int) = hi - lo + 1) && decide (0 ≤ (pc : Int) + df) && offs.toList.all (fun q => decide (0 ≤ (pc : Int) + q))
  | .lookupswitch df ps => (ps.toList.zip (ps.toList.drop 1)).all (fun (a, next) => a.1 < next.1) && decide (0 ≤ (pc : Int) + df) && ps.toList.all (fun q => decide (0 ≤ (pc : Int) + q.2))
  | _ => true)
def am_var : Instr → Bool
  | .tableswitch _ _ _ _ => true
  | .lookupswitch _ _ => true
  | _ => false
def ins (M : Mt) (pc : Nat) : Option Instr := match decode (Mc M) pc with
  | .ok (i, l) => if (am_sok M pc i && (am_var i || l == am_len i)) = true then some i else none
  | .error _ => none
theorem ins_spec {M : Mt} {pc : Nat} {i : Instr} (h : ins M pc = some i) : (∃ l, decode (Mc M) pc = .ok (i, l) ∧ (am_var i = false → l = am_len i)) ∧ am_sok M pc i = true := by
  unfold ins at h
  split at h
  · rename_i i' l hd
    split at h
    · rename_i hc
      cases h
      simp only [Bool.and_eq_true, Bool.or_eq_true, beq_iff_eq] at hc
      exact ⟨⟨l, hd, fun q => by rcases hc.2 with z | z; · rw [q] at z; cases z
                                 · exact z⟩, hc.1⟩
    · cases h
  · cases h
theorem am_sok_own {M : Mt} {pc : Nat} {i : Instr} (h : am_sok M pc i = true) : Mo M = am_own (Mp M) := by
  unfold am_sok at h
  rw [Bool.and_eq_true] at h
  exact of_decide_eq_true h.1
