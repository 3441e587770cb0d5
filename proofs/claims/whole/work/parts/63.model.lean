/-! ===== the model's object: a row a field ===== -/
def s40 (m : Mm) (j : Nat) (x : Int32) : Mm := (va_up (mI m) 40 (upd (mI m 40) j x), mA m, mL m, mT m, mq m, ml m)
def l40 (m : Mm) : List Value := [.ref 41, .ref 42, .ref 43, .int (mI m 40 3), .ref 44, .ref 45, .ref 46, .int (mI m 40 7), .ref 47, .ref 48, .ref 49, .ref 50, .ref 51, .ref 52, .ref 53, .ref 54, .int (mI m 40 16), .int (mI m 40 17), .int (mI m 40 18), .int (mI m 40 19), .int (mI m 40 20), .int (mI m 40 21), .int (mI m 40 22), .int (mI m 40 23), .ref 55, .ref 56, .int (mI m 40 26), .int (mI m 40 27), .ref 57, .ref 58, .ref 59, .int (mI m 40 31), .int (mI m 40 32), .int (mI m 40 33), .int (mI m 40 34), .int (mI m 40 35), .int (mI m 40 36), .ref 60, .ref 61, .int (mI m 40 39), .ref 62, .int (mI m 40 41), .ref 63, .ref 64, .ref 65, .int (mI m 40 45)]
section M40
variable {m : Mm} {Cf : Nat → Mt → Nat → List Value → Nat → (Nat → Ac) → (Option Value → Nat → (Nat → Ac) → Prop) → Prop} {M : Mt} {d : Nat} {pc : Nat} {K : Nat → Nat → Nat → Lo → List Value → Nat → (Nat → Ac) → Prop} {Q : Po} {kc ks : Nat} {ls : Lo} {st : List Value} {n : Nat}
theorem w40_l : vw m 40 = .inr (7, l40 m) := (rfl)
theorem c40 {P : Prop} : w_obj (vw m 40) 7 (fun _ => P) = P := by rw [w40_l, wobj_e]
theorem sg_7 (h : Mp M = 8) : stepW Cf M d (.getfield 7) pc K Q kc ks ls (.ref 40 :: st) n (vw m) = K kc ks (pc + 3) ls (.ref 41 :: st) n (vw m) := by
  rw [sw_get, h, pf_8_7, wlkp_s, w40_l, wobj_e]; rfl
theorem sg_13 (h : Mp M = 8) : stepW Cf M d (.getfield 13) pc K Q kc ks ls (.ref 40 :: st) n (vw m) = K kc ks (pc + 3) ls (.ref 42 :: st) n (vw m) := by
  rw [sw_get, h, pf_8_13, wlkp_s, w40_l, wobj_e]; rfl
theorem sg_16 (h : Mp M = 8) : stepW Cf M d (.getfield 16) pc K Q kc ks ls (.ref 40 :: st) n (vw m) = K kc ks (pc + 3) ls (.ref 43 :: st) n (vw m) := by
  rw [sw_get, h, pf_8_16, wlkp_s, w40_l, wobj_e]; rfl
theorem sg_20 (h : Mp M = 8) : stepW Cf M d (.getfield 20) pc K Q kc ks ls (.ref 40 :: st) n (vw m) = K kc ks (pc + 3) ls (.ref 44 :: st) n (vw m) := by
  rw [sw_get, h, pf_8_20, wlkp_s, w40_l, wobj_e]; rfl
theorem sg_23 (h : Mp M = 8) : stepW Cf M d (.getfield 23) pc K Q kc ks ls (.ref 40 :: st) n (vw m) = K kc ks (pc + 3) ls (.ref 45 :: st) n (vw m) := by
  rw [sw_get, h, pf_8_23, wlkp_s, w40_l, wobj_e]; rfl
theorem sg_26 (h : Mp M = 8) : stepW Cf M d (.getfield 26) pc K Q kc ks ls (.ref 40 :: st) n (vw m) = K kc ks (pc + 3) ls (.ref 46 :: st) n (vw m) := by
  rw [sw_get, h, pf_8_26, wlkp_s, w40_l, wobj_e]; rfl
theorem sg_29 (h : Mp M = 8) : stepW Cf M d (.getfield 29) pc K Q kc ks ls (.ref 40 :: st) n (vw m) = K kc ks (pc + 3) ls (.ref 47 :: st) n (vw m) := by
  rw [sw_get, h, pf_8_29, wlkp_s, w40_l, wobj_e]; rfl
theorem sg_32 (h : Mp M = 8) : stepW Cf M d (.getfield 32) pc K Q kc ks ls (.ref 40 :: st) n (vw m) = K kc ks (pc + 3) ls (.ref 48 :: st) n (vw m) := by
  rw [sw_get, h, pf_8_32, wlkp_s, w40_l, wobj_e]; rfl
theorem sg_35 (h : Mp M = 8) : stepW Cf M d (.getfield 35) pc K Q kc ks ls (.ref 40 :: st) n (vw m) = K kc ks (pc + 3) ls (.ref 49 :: st) n (vw m) := by
  rw [sw_get, h, pf_8_35, wlkp_s, w40_l, wobj_e]; rfl
theorem sg_38 (h : Mp M = 8) : stepW Cf M d (.getfield 38) pc K Q kc ks ls (.ref 40 :: st) n (vw m) = K kc ks (pc + 3) ls (.ref 50 :: st) n (vw m) := by
  rw [sw_get, h, pf_8_38, wlkp_s, w40_l, wobj_e]; rfl
theorem sg_41 (h : Mp M = 8) : stepW Cf M d (.getfield 41) pc K Q kc ks ls (.ref 40 :: st) n (vw m) = K kc ks (pc + 3) ls (.ref 51 :: st) n (vw m) := by
  rw [sw_get, h, pf_8_41, wlkp_s, w40_l, wobj_e]; rfl
theorem sg_44 (h : Mp M = 8) : stepW Cf M d (.getfield 44) pc K Q kc ks ls (.ref 40 :: st) n (vw m) = K kc ks (pc + 3) ls (.ref 52 :: st) n (vw m) := by
  rw [sw_get, h, pf_8_44, wlkp_s, w40_l, wobj_e]; rfl
theorem sg_47 (h : Mp M = 8) : stepW Cf M d (.getfield 47) pc K Q kc ks ls (.ref 40 :: st) n (vw m) = K kc ks (pc + 3) ls (.ref 53 :: st) n (vw m) := by
  rw [sw_get, h, pf_8_47, wlkp_s, w40_l, wobj_e]; rfl
theorem sg_50 (h : Mp M = 8) : stepW Cf M d (.getfield 50) pc K Q kc ks ls (.ref 40 :: st) n (vw m) = K kc ks (pc + 3) ls (.ref 54 :: st) n (vw m) := by
  rw [sw_get, h, pf_8_50, wlkp_s, w40_l, wobj_e]; rfl
theorem sg_53 (h : Mp M = 8) : stepW Cf M d (.getfield 53) pc K Q kc ks ls (.ref 40 :: st) n (vw m) = K kc ks (pc + 3) ls (.ref 55 :: st) n (vw m) := by
  rw [sw_get, h, pf_8_53, wlkp_s, w40_l, wobj_e]; rfl
theorem sg_56 (h : Mp M = 8) : stepW Cf M d (.getfield 56) pc K Q kc ks ls (.ref 40 :: st) n (vw m) = K kc ks (pc + 3) ls (.ref 56 :: st) n (vw m) := by
  rw [sw_get, h, pf_8_56, wlkp_s, w40_l, wobj_e]; rfl
theorem sg_59 (h : Mp M = 8) : stepW Cf M d (.getfield 59) pc K Q kc ks ls (.ref 40 :: st) n (vw m) = K kc ks (pc + 3) ls (.ref 57 :: st) n (vw m) := by
  rw [sw_get, h, pf_8_59, wlkp_s, w40_l, wobj_e]; rfl
theorem sg_62 (h : Mp M = 8) : stepW Cf M d (.getfield 62) pc K Q kc ks ls (.ref 40 :: st) n (vw m) = K kc ks (pc + 3) ls (.ref 58 :: st) n (vw m) := by
  rw [sw_get, h, pf_8_62, wlkp_s, w40_l, wobj_e]; rfl
theorem sg_65 (h : Mp M = 8) : stepW Cf M d (.getfield 65) pc K Q kc ks ls (.ref 40 :: st) n (vw m) = K kc ks (pc + 3) ls (.ref 59 :: st) n (vw m) := by
  rw [sw_get, h, pf_8_65, wlkp_s, w40_l, wobj_e]; rfl
theorem sg_68 (h : Mp M = 8) : stepW Cf M d (.getfield 68) pc K Q kc ks ls (.ref 40 :: st) n (vw m) = K kc ks (pc + 3) ls (.ref 60 :: st) n (vw m) := by
  rw [sw_get, h, pf_8_68, wlkp_s, w40_l, wobj_e]; rfl
theorem sg_71 (h : Mp M = 8) : stepW Cf M d (.getfield 71) pc K Q kc ks ls (.ref 40 :: st) n (vw m) = K kc ks (pc + 3) ls (.ref 61 :: st) n (vw m) := by
  rw [sw_get, h, pf_8_71, wlkp_s, w40_l, wobj_e]; rfl
theorem sg_74 (h : Mp M = 8) : stepW Cf M d (.getfield 74) pc K Q kc ks ls (.ref 40 :: st) n (vw m) = K kc ks (pc + 3) ls (.ref 62 :: st) n (vw m) := by
  rw [sw_get, h, pf_8_74, wlkp_s, w40_l, wobj_e]; rfl
theorem sg_77 (h : Mp M = 8) : stepW Cf M d (.getfield 77) pc K Q kc ks ls (.ref 40 :: st) n (vw m) = K kc ks (pc + 3) ls (.ref 63 :: st) n (vw m) := by
  rw [sw_get, h, pf_8_77, wlkp_s, w40_l, wobj_e]; rfl
theorem sg_80 (h : Mp M = 8) : stepW Cf M d (.getfield 80) pc K Q kc ks ls (.ref 40 :: st) n (vw m) = K kc ks (pc + 3) ls (.ref 64 :: st) n (vw m) := by
  rw [sw_get, h, pf_8_80, wlkp_s, w40_l, wobj_e]; rfl
theorem sg_83 (h : Mp M = 8) : stepW Cf M d (.getfield 83) pc K Q kc ks ls (.ref 40 :: st) n (vw m) = K kc ks (pc + 3) ls (.ref 65 :: st) n (vw m) := by
  rw [sw_get, h, pf_8_83, wlkp_s, w40_l, wobj_e]; rfl
theorem sg_106 (h : Mp M = 8) : stepW Cf M d (.getfield 106) pc K Q kc ks ls (.ref 40 :: st) n (vw m) = K kc ks (pc + 3) ls (.int (mI m 40 7) :: st) n (vw m) := by
  rw [sw_get, h, pf_8_106, wlkp_s, w40_l, wobj_e]; rfl
theorem u40_7 {x : Int32} : va_up (vw m) 40 (.inr (7, sv (l40 m) 7 (.int x))) = vw (s40 m 7 x) := vw_up (rfl) (fun k hk => va_up_ne _ _ hk) (fun _ _ => rfl) (fun _ _ => rfl) (fun _ _ => rfl) rfl rfl
theorem sp_106 {x : Int32} (h : Mp M = 8) : stepW Cf M d (.putfield 106) pc K Q kc ks ls (.int x :: .ref 40 :: st) n (vw m) = K kc ks (pc + 3) ls st n (vw (s40 m 7 x)) := by
  rw [sw_put, h, pf_8_106, wlkp_s, w40_l, wobj_e]; show (7 < _ ∧ am_fit 0 _ ∧ K kc ks (pc + 3) ls st n (va_up (vw m) 40 (.inr (7, sv (l40 m) 7 (.int x))))) = _; rw [u40_7]; exact propext ⟨fun h => h.2.2, fun h => ⟨Nat.le_of_ble_eq_true rfl, trivial, h⟩⟩
theorem sg_110 (h : Mp M = 8) : stepW Cf M d (.getfield 110) pc K Q kc ks ls (.ref 40 :: st) n (vw m) = K kc ks (pc + 3) ls (.int (mI m 40 3) :: st) n (vw m) := by
  rw [sw_get, h, pf_8_110, wlkp_s, w40_l, wobj_e]; rfl
theorem u40_3 {x : Int32} : va_up (vw m) 40 (.inr (7, sv (l40 m) 3 (.int x))) = vw (s40 m 3 x) := vw_up (rfl) (fun k hk => va_up_ne _ _ hk) (fun _ _ => rfl) (fun _ _ => rfl) (fun _ _ => rfl) rfl rfl
theorem sp_110 {x : Int32} (h : Mp M = 8) : stepW Cf M d (.putfield 110) pc K Q kc ks ls (.int x :: .ref 40 :: st) n (vw m) = K kc ks (pc + 3) ls st n (vw (s40 m 3 x)) := by
  rw [sw_put, h, pf_8_110, wlkp_s, w40_l, wobj_e]; show (3 < _ ∧ am_fit 0 _ ∧ K kc ks (pc + 3) ls st n (va_up (vw m) 40 (.inr (7, sv (l40 m) 3 (.int x))))) = _; rw [u40_3]; exact propext ⟨fun h => h.2.2, fun h => ⟨Nat.le_of_ble_eq_true rfl, trivial, h⟩⟩
theorem sg_147 (h : Mp M = 8) : stepW Cf M d (.getfield 147) pc K Q kc ks ls (.ref 40 :: st) n (vw m) = K kc ks (pc + 3) ls (.int (mI m 40 16) :: st) n (vw m) := by
  rw [sw_get, h, pf_8_147, wlkp_s, w40_l, wobj_e]; rfl
theorem u40_16 {x : Int32} : va_up (vw m) 40 (.inr (7, sv (l40 m) 16 (.int x))) = vw (s40 m 16 x) := vw_up (rfl) (fun k hk => va_up_ne _ _ hk) (fun _ _ => rfl) (fun _ _ => rfl) (fun _ _ => rfl) rfl rfl
theorem sp_147 {x : Int32} (h : Mp M = 8) : stepW Cf M d (.putfield 147) pc K Q kc ks ls (.int x :: .ref 40 :: st) n (vw m) = K kc ks (pc + 3) ls st n (vw (s40 m 16 x)) := by
  rw [sw_put, h, pf_8_147, wlkp_s, w40_l, wobj_e]; show (16 < _ ∧ am_fit 0 _ ∧ K kc ks (pc + 3) ls st n (va_up (vw m) 40 (.inr (7, sv (l40 m) 16 (.int x))))) = _; rw [u40_16]; exact propext ⟨fun h => h.2.2, fun h => ⟨Nat.le_of_ble_eq_true rfl, trivial, h⟩⟩
theorem sg_172 (h : Mp M = 8) : stepW Cf M d (.getfield 172) pc K Q kc ks ls (.ref 40 :: st) n (vw m) = K kc ks (pc + 3) ls (.int (mI m 40 17) :: st) n (vw m) := by
  rw [sw_get, h, pf_8_172, wlkp_s, w40_l, wobj_e]; rfl
theorem u40_17 {x : Int32} : va_up (vw m) 40 (.inr (7, sv (l40 m) 17 (.int x))) = vw (s40 m 17 x) := vw_up (rfl) (fun k hk => va_up_ne _ _ hk) (fun _ _ => rfl) (fun _ _ => rfl) (fun _ _ => rfl) rfl rfl
theorem sp_172 {x : Int32} (h : Mp M = 8) : stepW Cf M d (.putfield 172) pc K Q kc ks ls (.int x :: .ref 40 :: st) n (vw m) = K kc ks (pc + 3) ls st n (vw (s40 m 17 x)) := by
  rw [sw_put, h, pf_8_172, wlkp_s, w40_l, wobj_e]; show (17 < _ ∧ am_fit 0 _ ∧ K kc ks (pc + 3) ls st n (va_up (vw m) 40 (.inr (7, sv (l40 m) 17 (.int x))))) = _; rw [u40_17]; exact propext ⟨fun h => h.2.2, fun h => ⟨Nat.le_of_ble_eq_true rfl, trivial, h⟩⟩
theorem sg_175 (h : Mp M = 8) : stepW Cf M d (.getfield 175) pc K Q kc ks ls (.ref 40 :: st) n (vw m) = K kc ks (pc + 3) ls (.int (mI m 40 18) :: st) n (vw m) := by
  rw [sw_get, h, pf_8_175, wlkp_s, w40_l, wobj_e]; rfl
theorem u40_18 {x : Int32} : va_up (vw m) 40 (.inr (7, sv (l40 m) 18 (.int x))) = vw (s40 m 18 x) := vw_up (rfl) (fun k hk => va_up_ne _ _ hk) (fun _ _ => rfl) (fun _ _ => rfl) (fun _ _ => rfl) rfl rfl
theorem sp_175 {x : Int32} (h : Mp M = 8) : stepW Cf M d (.putfield 175) pc K Q kc ks ls (.int x :: .ref 40 :: st) n (vw m) = K kc ks (pc + 3) ls st n (vw (s40 m 18 x)) := by
  rw [sw_put, h, pf_8_175, wlkp_s, w40_l, wobj_e]; show (18 < _ ∧ am_fit 0 _ ∧ K kc ks (pc + 3) ls st n (va_up (vw m) 40 (.inr (7, sv (l40 m) 18 (.int x))))) = _; rw [u40_18]; exact propext ⟨fun h => h.2.2, fun h => ⟨Nat.le_of_ble_eq_true rfl, trivial, h⟩⟩
theorem sg_231 (h : Mp M = 8) : stepW Cf M d (.getfield 231) pc K Q kc ks ls (.ref 40 :: st) n (vw m) = K kc ks (pc + 3) ls (.int (mI m 40 20) :: st) n (vw m) := by
  rw [sw_get, h, pf_8_231, wlkp_s, w40_l, wobj_e]; rfl
theorem u40_20 {x : Int32} : va_up (vw m) 40 (.inr (7, sv (l40 m) 20 (.int x))) = vw (s40 m 20 x) := vw_up (rfl) (fun k hk => va_up_ne _ _ hk) (fun _ _ => rfl) (fun _ _ => rfl) (fun _ _ => rfl) rfl rfl
theorem sp_231 {x : Int32} (h : Mp M = 8) : stepW Cf M d (.putfield 231) pc K Q kc ks ls (.int x :: .ref 40 :: st) n (vw m) = K kc ks (pc + 3) ls st n (vw (s40 m 20 x)) := by
  rw [sw_put, h, pf_8_231, wlkp_s, w40_l, wobj_e]; show (20 < _ ∧ am_fit 0 _ ∧ K kc ks (pc + 3) ls st n (va_up (vw m) 40 (.inr (7, sv (l40 m) 20 (.int x))))) = _; rw [u40_20]; exact propext ⟨fun h => h.2.2, fun h => ⟨Nat.le_of_ble_eq_true rfl, trivial, h⟩⟩
theorem sg_234 (h : Mp M = 8) : stepW Cf M d (.getfield 234) pc K Q kc ks ls (.ref 40 :: st) n (vw m) = K kc ks (pc + 3) ls (.int (mI m 40 21) :: st) n (vw m) := by
  rw [sw_get, h, pf_8_234, wlkp_s, w40_l, wobj_e]; rfl
theorem u40_21 {x : Int32} : va_up (vw m) 40 (.inr (7, sv (l40 m) 21 (.int x))) = vw (s40 m 21 x) := vw_up (rfl) (fun k hk => va_up_ne _ _ hk) (fun _ _ => rfl) (fun _ _ => rfl) (fun _ _ => rfl) rfl rfl
theorem sp_234 {x : Int32} (h : Mp M = 8) : stepW Cf M d (.putfield 234) pc K Q kc ks ls (.int x :: .ref 40 :: st) n (vw m) = K kc ks (pc + 3) ls st n (vw (s40 m 21 x)) := by
  rw [sw_put, h, pf_8_234, wlkp_s, w40_l, wobj_e]; show (21 < _ ∧ am_fit 0 _ ∧ K kc ks (pc + 3) ls st n (va_up (vw m) 40 (.inr (7, sv (l40 m) 21 (.int x))))) = _; rw [u40_21]; exact propext ⟨fun h => h.2.2, fun h => ⟨Nat.le_of_ble_eq_true rfl, trivial, h⟩⟩
theorem sg_237 (h : Mp M = 8) : stepW Cf M d (.getfield 237) pc K Q kc ks ls (.ref 40 :: st) n (vw m) = K kc ks (pc + 3) ls (.int (mI m 40 22) :: st) n (vw m) := by
  rw [sw_get, h, pf_8_237, wlkp_s, w40_l, wobj_e]; rfl
theorem u40_22 {x : Int32} : va_up (vw m) 40 (.inr (7, sv (l40 m) 22 (.int x))) = vw (s40 m 22 x) := vw_up (rfl) (fun k hk => va_up_ne _ _ hk) (fun _ _ => rfl) (fun _ _ => rfl) (fun _ _ => rfl) rfl rfl
theorem sp_237 {x : Int32} (h : Mp M = 8) : stepW Cf M d (.putfield 237) pc K Q kc ks ls (.int x :: .ref 40 :: st) n (vw m) = K kc ks (pc + 3) ls st n (vw (s40 m 22 x)) := by
  rw [sw_put, h, pf_8_237, wlkp_s, w40_l, wobj_e]; show (22 < _ ∧ am_fit 0 _ ∧ K kc ks (pc + 3) ls st n (va_up (vw m) 40 (.inr (7, sv (l40 m) 22 (.int x))))) = _; rw [u40_22]; exact propext ⟨fun h => h.2.2, fun h => ⟨Nat.le_of_ble_eq_true rfl, trivial, h⟩⟩
theorem sg_240 (h : Mp M = 8) : stepW Cf M d (.getfield 240) pc K Q kc ks ls (.ref 40 :: st) n (vw m) = K kc ks (pc + 3) ls (.int (mI m 40 23) :: st) n (vw m) := by
  rw [sw_get, h, pf_8_240, wlkp_s, w40_l, wobj_e]; rfl
theorem u40_23 {x : Int32} : va_up (vw m) 40 (.inr (7, sv (l40 m) 23 (.int x))) = vw (s40 m 23 x) := vw_up (rfl) (fun k hk => va_up_ne _ _ hk) (fun _ _ => rfl) (fun _ _ => rfl) (fun _ _ => rfl) rfl rfl
theorem sp_240 {x : Int32} (h : Mp M = 8) : stepW Cf M d (.putfield 240) pc K Q kc ks ls (.int x :: .ref 40 :: st) n (vw m) = K kc ks (pc + 3) ls st n (vw (s40 m 23 x)) := by
  rw [sw_put, h, pf_8_240, wlkp_s, w40_l, wobj_e]; show (23 < _ ∧ am_fit 0 _ ∧ K kc ks (pc + 3) ls st n (va_up (vw m) 40 (.inr (7, sv (l40 m) 23 (.int x))))) = _; rw [u40_23]; exact propext ⟨fun h => h.2.2, fun h => ⟨Nat.le_of_ble_eq_true rfl, trivial, h⟩⟩
theorem sg_251 (h : Mp M = 8) : stepW Cf M d (.getfield 251) pc K Q kc ks ls (.ref 40 :: st) n (vw m) = K kc ks (pc + 3) ls (.int (mI m 40 19) :: st) n (vw m) := by
  rw [sw_get, h, pf_8_251, wlkp_s, w40_l, wobj_e]; rfl
theorem u40_19 {x : Int32} : va_up (vw m) 40 (.inr (7, sv (l40 m) 19 (.int x))) = vw (s40 m 19 x) := vw_up (rfl) (fun k hk => va_up_ne _ _ hk) (fun _ _ => rfl) (fun _ _ => rfl) (fun _ _ => rfl) rfl rfl
theorem sp_251 {x : Int32} (h : Mp M = 8) : stepW Cf M d (.putfield 251) pc K Q kc ks ls (.int x :: .ref 40 :: st) n (vw m) = K kc ks (pc + 3) ls st n (vw (s40 m 19 x)) := by
  rw [sw_put, h, pf_8_251, wlkp_s, w40_l, wobj_e]; show (19 < _ ∧ am_fit 0 _ ∧ K kc ks (pc + 3) ls st n (va_up (vw m) 40 (.inr (7, sv (l40 m) 19 (.int x))))) = _; rw [u40_19]; exact propext ⟨fun h => h.2.2, fun h => ⟨Nat.le_of_ble_eq_true rfl, trivial, h⟩⟩
theorem sg_259 (h : Mp M = 8) : stepW Cf M d (.getfield 259) pc K Q kc ks ls (.ref 40 :: st) n (vw m) = K kc ks (pc + 3) ls (.int (mI m 40 26) :: st) n (vw m) := by
  rw [sw_get, h, pf_8_259, wlkp_s, w40_l, wobj_e]; rfl
theorem u40_26 {x : Int32} : va_up (vw m) 40 (.inr (7, sv (l40 m) 26 (.int x))) = vw (s40 m 26 x) := vw_up (rfl) (fun k hk => va_up_ne _ _ hk) (fun _ _ => rfl) (fun _ _ => rfl) (fun _ _ => rfl) rfl rfl
theorem sp_259 {x : Int32} (h : Mp M = 8) : stepW Cf M d (.putfield 259) pc K Q kc ks ls (.int x :: .ref 40 :: st) n (vw m) = K kc ks (pc + 3) ls st n (vw (s40 m 26 x)) := by
  rw [sw_put, h, pf_8_259, wlkp_s, w40_l, wobj_e]; show (26 < _ ∧ am_fit 0 _ ∧ K kc ks (pc + 3) ls st n (va_up (vw m) 40 (.inr (7, sv (l40 m) 26 (.int x))))) = _; rw [u40_26]; exact propext ⟨fun h => h.2.2, fun h => ⟨Nat.le_of_ble_eq_true rfl, trivial, h⟩⟩
theorem sg_262 (h : Mp M = 8) : stepW Cf M d (.getfield 262) pc K Q kc ks ls (.ref 40 :: st) n (vw m) = K kc ks (pc + 3) ls (.int (mI m 40 39) :: st) n (vw m) := by
  rw [sw_get, h, pf_8_262, wlkp_s, w40_l, wobj_e]; rfl
theorem u40_39 {x : Int32} : va_up (vw m) 40 (.inr (7, sv (l40 m) 39 (.int x))) = vw (s40 m 39 x) := vw_up (rfl) (fun k hk => va_up_ne _ _ hk) (fun _ _ => rfl) (fun _ _ => rfl) (fun _ _ => rfl) rfl rfl
theorem sp_262 {x : Int32} (h : Mp M = 8) : stepW Cf M d (.putfield 262) pc K Q kc ks ls (.int x :: .ref 40 :: st) n (vw m) = K kc ks (pc + 3) ls st n (vw (s40 m 39 x)) := by
  rw [sw_put, h, pf_8_262, wlkp_s, w40_l, wobj_e]; show (39 < _ ∧ am_fit 0 _ ∧ K kc ks (pc + 3) ls st n (va_up (vw m) 40 (.inr (7, sv (l40 m) 39 (.int x))))) = _; rw [u40_39]; exact propext ⟨fun h => h.2.2, fun h => ⟨Nat.le_of_ble_eq_true rfl, trivial, h⟩⟩
theorem sg_265 (h : Mp M = 8) : stepW Cf M d (.getfield 265) pc K Q kc ks ls (.ref 40 :: st) n (vw m) = K kc ks (pc + 3) ls (.int (mI m 40 41) :: st) n (vw m) := by
  rw [sw_get, h, pf_8_265, wlkp_s, w40_l, wobj_e]; rfl
theorem u40_41 {x : Int32} : va_up (vw m) 40 (.inr (7, sv (l40 m) 41 (.int x))) = vw (s40 m 41 x) := vw_up (rfl) (fun k hk => va_up_ne _ _ hk) (fun _ _ => rfl) (fun _ _ => rfl) (fun _ _ => rfl) rfl rfl
theorem sp_265 {x : Int32} (h : Mp M = 8) : stepW Cf M d (.putfield 265) pc K Q kc ks ls (.int x :: .ref 40 :: st) n (vw m) = K kc ks (pc + 3) ls st n (vw (s40 m 41 x)) := by
  rw [sw_put, h, pf_8_265, wlkp_s, w40_l, wobj_e]; show (41 < _ ∧ am_fit 0 _ ∧ K kc ks (pc + 3) ls st n (va_up (vw m) 40 (.inr (7, sv (l40 m) 41 (.int x))))) = _; rw [u40_41]; exact propext ⟨fun h => h.2.2, fun h => ⟨Nat.le_of_ble_eq_true rfl, trivial, h⟩⟩
theorem sg_271 (h : Mp M = 8) : stepW Cf M d (.getfield 271) pc K Q kc ks ls (.ref 40 :: st) n (vw m) = K kc ks (pc + 3) ls (.int (mI m 40 36) :: st) n (vw m) := by
  rw [sw_get, h, pf_8_271, wlkp_s, w40_l, wobj_e]; rfl
theorem u40_36 {x : Int32} : va_up (vw m) 40 (.inr (7, sv (l40 m) 36 (.int x))) = vw (s40 m 36 x) := vw_up (rfl) (fun k hk => va_up_ne _ _ hk) (fun _ _ => rfl) (fun _ _ => rfl) (fun _ _ => rfl) rfl rfl
theorem sp_271 {x : Int32} (h : Mp M = 8) : stepW Cf M d (.putfield 271) pc K Q kc ks ls (.int x :: .ref 40 :: st) n (vw m) = ((x = 0 ∨ x = 1) ∧ K kc ks (pc + 3) ls st n (vw (s40 m 36 x))) := by
  rw [sw_put, h, pf_8_271, wlkp_s, w40_l, wobj_e]; show (36 < _ ∧ am_fit 1 _ ∧ K kc ks (pc + 3) ls st n (va_up (vw m) 40 (.inr (7, sv (l40 m) 36 (.int x))))) = _; rw [u40_36]; exact propext ⟨fun h => h.2, fun h => ⟨Nat.le_of_ble_eq_true rfl, h⟩⟩
theorem sg_275 (h : Mp M = 8) : stepW Cf M d (.getfield 275) pc K Q kc ks ls (.ref 40 :: st) n (vw m) = K kc ks (pc + 3) ls (.int (mI m 40 33) :: st) n (vw m) := by
  rw [sw_get, h, pf_8_275, wlkp_s, w40_l, wobj_e]; rfl
theorem u40_33 {x : Int32} : va_up (vw m) 40 (.inr (7, sv (l40 m) 33 (.int x))) = vw (s40 m 33 x) := vw_up (rfl) (fun k hk => va_up_ne _ _ hk) (fun _ _ => rfl) (fun _ _ => rfl) (fun _ _ => rfl) rfl rfl
theorem sp_275 {x : Int32} (h : Mp M = 8) : stepW Cf M d (.putfield 275) pc K Q kc ks ls (.int x :: .ref 40 :: st) n (vw m) = K kc ks (pc + 3) ls st n (vw (s40 m 33 x)) := by
  rw [sw_put, h, pf_8_275, wlkp_s, w40_l, wobj_e]; show (33 < _ ∧ am_fit 0 _ ∧ K kc ks (pc + 3) ls st n (va_up (vw m) 40 (.inr (7, sv (l40 m) 33 (.int x))))) = _; rw [u40_33]; exact propext ⟨fun h => h.2.2, fun h => ⟨Nat.le_of_ble_eq_true rfl, trivial, h⟩⟩
theorem sg_278 (h : Mp M = 8) : stepW Cf M d (.getfield 278) pc K Q kc ks ls (.ref 40 :: st) n (vw m) = K kc ks (pc + 3) ls (.int (mI m 40 34) :: st) n (vw m) := by
  rw [sw_get, h, pf_8_278, wlkp_s, w40_l, wobj_e]; rfl
theorem u40_34 {x : Int32} : va_up (vw m) 40 (.inr (7, sv (l40 m) 34 (.int x))) = vw (s40 m 34 x) := vw_up (rfl) (fun k hk => va_up_ne _ _ hk) (fun _ _ => rfl) (fun _ _ => rfl) (fun _ _ => rfl) rfl rfl
theorem sp_278 {x : Int32} (h : Mp M = 8) : stepW Cf M d (.putfield 278) pc K Q kc ks ls (.int x :: .ref 40 :: st) n (vw m) = K kc ks (pc + 3) ls st n (vw (s40 m 34 x)) := by
  rw [sw_put, h, pf_8_278, wlkp_s, w40_l, wobj_e]; show (34 < _ ∧ am_fit 0 _ ∧ K kc ks (pc + 3) ls st n (va_up (vw m) 40 (.inr (7, sv (l40 m) 34 (.int x))))) = _; rw [u40_34]; exact propext ⟨fun h => h.2.2, fun h => ⟨Nat.le_of_ble_eq_true rfl, trivial, h⟩⟩
theorem sg_281 (h : Mp M = 8) : stepW Cf M d (.getfield 281) pc K Q kc ks ls (.ref 40 :: st) n (vw m) = K kc ks (pc + 3) ls (.int (mI m 40 35) :: st) n (vw m) := by
  rw [sw_get, h, pf_8_281, wlkp_s, w40_l, wobj_e]; rfl
theorem u40_35 {x : Int32} : va_up (vw m) 40 (.inr (7, sv (l40 m) 35 (.int x))) = vw (s40 m 35 x) := vw_up (rfl) (fun k hk => va_up_ne _ _ hk) (fun _ _ => rfl) (fun _ _ => rfl) (fun _ _ => rfl) rfl rfl
theorem sp_281 {x : Int32} (h : Mp M = 8) : stepW Cf M d (.putfield 281) pc K Q kc ks ls (.int x :: .ref 40 :: st) n (vw m) = K kc ks (pc + 3) ls st n (vw (s40 m 35 x)) := by
  rw [sw_put, h, pf_8_281, wlkp_s, w40_l, wobj_e]; show (35 < _ ∧ am_fit 0 _ ∧ K kc ks (pc + 3) ls st n (va_up (vw m) 40 (.inr (7, sv (l40 m) 35 (.int x))))) = _; rw [u40_35]; exact propext ⟨fun h => h.2.2, fun h => ⟨Nat.le_of_ble_eq_true rfl, trivial, h⟩⟩
theorem sg_290 (h : Mp M = 8) : stepW Cf M d (.getfield 290) pc K Q kc ks ls (.ref 40 :: st) n (vw m) = K kc ks (pc + 3) ls (.int (mI m 40 31) :: st) n (vw m) := by
  rw [sw_get, h, pf_8_290, wlkp_s, w40_l, wobj_e]; rfl
theorem u40_31 {x : Int32} : va_up (vw m) 40 (.inr (7, sv (l40 m) 31 (.int x))) = vw (s40 m 31 x) := vw_up (rfl) (fun k hk => va_up_ne _ _ hk) (fun _ _ => rfl) (fun _ _ => rfl) (fun _ _ => rfl) rfl rfl
theorem sp_290 {x : Int32} (h : Mp M = 8) : stepW Cf M d (.putfield 290) pc K Q kc ks ls (.int x :: .ref 40 :: st) n (vw m) = K kc ks (pc + 3) ls st n (vw (s40 m 31 x)) := by
  rw [sw_put, h, pf_8_290, wlkp_s, w40_l, wobj_e]; show (31 < _ ∧ am_fit 0 _ ∧ K kc ks (pc + 3) ls st n (va_up (vw m) 40 (.inr (7, sv (l40 m) 31 (.int x))))) = _; rw [u40_31]; exact propext ⟨fun h => h.2.2, fun h => ⟨Nat.le_of_ble_eq_true rfl, trivial, h⟩⟩
theorem sg_293 (h : Mp M = 8) : stepW Cf M d (.getfield 293) pc K Q kc ks ls (.ref 40 :: st) n (vw m) = K kc ks (pc + 3) ls (.int (mI m 40 32) :: st) n (vw m) := by
  rw [sw_get, h, pf_8_293, wlkp_s, w40_l, wobj_e]; rfl
theorem u40_32 {x : Int32} : va_up (vw m) 40 (.inr (7, sv (l40 m) 32 (.int x))) = vw (s40 m 32 x) := vw_up (rfl) (fun k hk => va_up_ne _ _ hk) (fun _ _ => rfl) (fun _ _ => rfl) (fun _ _ => rfl) rfl rfl
theorem sp_293 {x : Int32} (h : Mp M = 8) : stepW Cf M d (.putfield 293) pc K Q kc ks ls (.int x :: .ref 40 :: st) n (vw m) = K kc ks (pc + 3) ls st n (vw (s40 m 32 x)) := by
  rw [sw_put, h, pf_8_293, wlkp_s, w40_l, wobj_e]; show (32 < _ ∧ am_fit 0 _ ∧ K kc ks (pc + 3) ls st n (va_up (vw m) 40 (.inr (7, sv (l40 m) 32 (.int x))))) = _; rw [u40_32]; exact propext ⟨fun h => h.2.2, fun h => ⟨Nat.le_of_ble_eq_true rfl, trivial, h⟩⟩
theorem sg_309 (h : Mp M = 8) : stepW Cf M d (.getfield 309) pc K Q kc ks ls (.ref 40 :: st) n (vw m) = K kc ks (pc + 3) ls (.int (mI m 40 27) :: st) n (vw m) := by
  rw [sw_get, h, pf_8_309, wlkp_s, w40_l, wobj_e]; rfl
theorem u40_27 {x : Int32} : va_up (vw m) 40 (.inr (7, sv (l40 m) 27 (.int x))) = vw (s40 m 27 x) := vw_up (rfl) (fun k hk => va_up_ne _ _ hk) (fun _ _ => rfl) (fun _ _ => rfl) (fun _ _ => rfl) rfl rfl
theorem sp_309 {x : Int32} (h : Mp M = 8) : stepW Cf M d (.putfield 309) pc K Q kc ks ls (.int x :: .ref 40 :: st) n (vw m) = K kc ks (pc + 3) ls st n (vw (s40 m 27 x)) := by
  rw [sw_put, h, pf_8_309, wlkp_s, w40_l, wobj_e]; show (27 < _ ∧ am_fit 0 _ ∧ K kc ks (pc + 3) ls st n (va_up (vw m) 40 (.inr (7, sv (l40 m) 27 (.int x))))) = _; rw [u40_27]; exact propext ⟨fun h => h.2.2, fun h => ⟨Nat.le_of_ble_eq_true rfl, trivial, h⟩⟩
theorem sg_355 (h : Mp M = 8) : stepW Cf M d (.getfield 355) pc K Q kc ks ls (.ref 40 :: st) n (vw m) = K kc ks (pc + 3) ls (.int (mI m 40 45) :: st) n (vw m) := by
  rw [sw_get, h, pf_8_355, wlkp_s, w40_l, wobj_e]; rfl
theorem u40_45 {x : Int32} : va_up (vw m) 40 (.inr (7, sv (l40 m) 45 (.int x))) = vw (s40 m 45 x) := vw_up (rfl) (fun k hk => va_up_ne _ _ hk) (fun _ _ => rfl) (fun _ _ => rfl) (fun _ _ => rfl) rfl rfl
theorem sp_355 {x : Int32} (h : Mp M = 8) : stepW Cf M d (.putfield 355) pc K Q kc ks ls (.int x :: .ref 40 :: st) n (vw m) = K kc ks (pc + 3) ls st n (vw (s40 m 45 x)) := by
  rw [sw_put, h, pf_8_355, wlkp_s, w40_l, wobj_e]; show (45 < _ ∧ am_fit 0 _ ∧ K kc ks (pc + 3) ls st n (va_up (vw m) 40 (.inr (7, sv (l40 m) 45 (.int x))))) = _; rw [u40_45]; exact propext ⟨fun h => h.2.2, fun h => ⟨Nat.le_of_ble_eq_true rfl, trivial, h⟩⟩
theorem s40_I {j : Nat} {x : Int32} : mI (s40 m j x) 40 = upd (mI m 40) j x := by show va_up (mI m) 40 (upd (mI m 40) j x) 40 = _; rw [va_up_self]
theorem s40_In {j k : Nat} {x : Int32} (h : ¬ k = 40) : mI (s40 m j x) k = mI m k := va_up_ne _ _ h
theorem s40_mA {j : Nat} {x : Int32} : mA (s40 m j x) = mA m := (rfl)
theorem s40_mL {j : Nat} {x : Int32} : mL (s40 m j x) = mL m := (rfl)
theorem s40_mT {j : Nat} {x : Int32} : mT (s40 m j x) = mT m := (rfl)
theorem s40_mq {j : Nat} {x : Int32} : mq (s40 m j x) = mq m := (rfl)
theorem s40_ml {j : Nat} {x : Int32} : ml (s40 m j x) = ml m := (rfl)
theorem s40_nn {j : Nat} {x : Int32} : nn (s40 m j x) = nn m := (rfl)
end M40
theorem ud_e {g : Nat → Int32} {j : Nat} {x : Int32} : upd g j x j = x := pk_us
theorem ud_n {g : Nat → Int32} {j k : Nat} {x : Int32} (h : ¬ k = j) : upd g j x k = g k := pk_un h
