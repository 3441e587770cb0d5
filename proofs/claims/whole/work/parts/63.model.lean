/-! ===== the model's object: a row a field ===== -/
def s40 (m : Mm) (j : Nat) (x : Int32) : Mm := (va_up (mI m) 40 (upd (mI m 40) j x), mA m, mL m, mT m, mq m, ml m)
def l40 (m : Mm) : List Value := [.ref 41, .ref 42, .ref 43, .int (mI m 40 3), .ref 44, .ref 45, .ref 46, .int (mI m 40 7), .ref 47, .ref 48, .ref 49, .ref 50, .ref 51, .ref 52, .ref 53, .ref 54, .int (mI m 40 16), .int (mI m 40 17), .int (mI m 40 18), .int (mI m 40 19), .int (mI m 40 20), .int (mI m 40 21), .int (mI m 40 22), .int (mI m 40 23), .ref 55, .ref 56, .int (mI m 40 26), .int (mI m 40 27), .ref 57, .ref 58, .ref 59, .int (mI m 40 31), .int (mI m 40 32), .int (mI m 40 33), .int (mI m 40 34), .int (mI m 40 35), .int (mI m 40 36), .ref 60, .ref 61, .int (mI m 40 39), .ref 62, .int (mI m 40 41), .ref 63, .ref 64, .ref 65, .int (mI m 40 45)]
section M40
variable {m : Mm}
theorem w40_l : vw m 40 = .inr (7, l40 m) := (rfl)
theorem c40 {P : Prop} : w_obj (vw m 40) 7 (fun _ => P) = P := by rw [w40_l, wobj_e]
theorem g40_0 {P : Value → Prop} : w_obj (vw m 40) 7 (fun fs => w_lkp (gv fs 0) P) = P (.ref 41) := by rw [w40_l, wobj_e]; rfl
theorem g40_1 {P : Value → Prop} : w_obj (vw m 40) 7 (fun fs => w_lkp (gv fs 1) P) = P (.ref 42) := by rw [w40_l, wobj_e]; rfl
theorem g40_2 {P : Value → Prop} : w_obj (vw m 40) 7 (fun fs => w_lkp (gv fs 2) P) = P (.ref 43) := by rw [w40_l, wobj_e]; rfl
theorem g40_3 {P : Value → Prop} : w_obj (vw m 40) 7 (fun fs => w_lkp (gv fs 3) P) = P (.int (mI m 40 3)) := by rw [w40_l, wobj_e]; rfl
theorem u40_3 {x : Int32} : va_up (vw m) 40 (.inr (7, sv (l40 m) 3 (.int x))) = vw (s40 m 3 x) := vw_up (rfl) (fun k hk => va_up_ne _ _ hk) (fun _ _ => rfl) (fun _ _ => rfl) (fun _ _ => rfl) rfl rfl
theorem p40_3 {x : Int32} {N k : Nat} {P : (Nat → Ac) → Prop} : w_obj (vw m 40) 7 (fun fs => 3 < fs.length ∧ am_fit k (.int x) ∧ P (va_up (vw m) 40 (.inr (7, sv fs 3 (.int x))))) = (am_fit k (.int x) ∧ P (vw (s40 m 3 x))) := by rw [w40_l, wobj_e, u40_3]; exact propext ⟨fun h => h.2, fun h => ⟨Nat.le_of_ble_eq_true rfl, h⟩⟩
theorem g40_4 {P : Value → Prop} : w_obj (vw m 40) 7 (fun fs => w_lkp (gv fs 4) P) = P (.ref 44) := by rw [w40_l, wobj_e]; rfl
theorem g40_5 {P : Value → Prop} : w_obj (vw m 40) 7 (fun fs => w_lkp (gv fs 5) P) = P (.ref 45) := by rw [w40_l, wobj_e]; rfl
theorem g40_6 {P : Value → Prop} : w_obj (vw m 40) 7 (fun fs => w_lkp (gv fs 6) P) = P (.ref 46) := by rw [w40_l, wobj_e]; rfl
theorem g40_7 {P : Value → Prop} : w_obj (vw m 40) 7 (fun fs => w_lkp (gv fs 7) P) = P (.int (mI m 40 7)) := by rw [w40_l, wobj_e]; rfl
theorem u40_7 {x : Int32} : va_up (vw m) 40 (.inr (7, sv (l40 m) 7 (.int x))) = vw (s40 m 7 x) := vw_up (rfl) (fun k hk => va_up_ne _ _ hk) (fun _ _ => rfl) (fun _ _ => rfl) (fun _ _ => rfl) rfl rfl
theorem p40_7 {x : Int32} {N k : Nat} {P : (Nat → Ac) → Prop} : w_obj (vw m 40) 7 (fun fs => 7 < fs.length ∧ am_fit k (.int x) ∧ P (va_up (vw m) 40 (.inr (7, sv fs 7 (.int x))))) = (am_fit k (.int x) ∧ P (vw (s40 m 7 x))) := by rw [w40_l, wobj_e, u40_7]; exact propext ⟨fun h => h.2, fun h => ⟨Nat.le_of_ble_eq_true rfl, h⟩⟩
theorem g40_8 {P : Value → Prop} : w_obj (vw m 40) 7 (fun fs => w_lkp (gv fs 8) P) = P (.ref 47) := by rw [w40_l, wobj_e]; rfl
theorem g40_9 {P : Value → Prop} : w_obj (vw m 40) 7 (fun fs => w_lkp (gv fs 9) P) = P (.ref 48) := by rw [w40_l, wobj_e]; rfl
theorem g40_10 {P : Value → Prop} : w_obj (vw m 40) 7 (fun fs => w_lkp (gv fs 10) P) = P (.ref 49) := by rw [w40_l, wobj_e]; rfl
theorem g40_11 {P : Value → Prop} : w_obj (vw m 40) 7 (fun fs => w_lkp (gv fs 11) P) = P (.ref 50) := by rw [w40_l, wobj_e]; rfl
theorem g40_12 {P : Value → Prop} : w_obj (vw m 40) 7 (fun fs => w_lkp (gv fs 12) P) = P (.ref 51) := by rw [w40_l, wobj_e]; rfl
theorem g40_13 {P : Value → Prop} : w_obj (vw m 40) 7 (fun fs => w_lkp (gv fs 13) P) = P (.ref 52) := by rw [w40_l, wobj_e]; rfl
theorem g40_14 {P : Value → Prop} : w_obj (vw m 40) 7 (fun fs => w_lkp (gv fs 14) P) = P (.ref 53) := by rw [w40_l, wobj_e]; rfl
theorem g40_15 {P : Value → Prop} : w_obj (vw m 40) 7 (fun fs => w_lkp (gv fs 15) P) = P (.ref 54) := by rw [w40_l, wobj_e]; rfl
theorem g40_16 {P : Value → Prop} : w_obj (vw m 40) 7 (fun fs => w_lkp (gv fs 16) P) = P (.int (mI m 40 16)) := by rw [w40_l, wobj_e]; rfl
theorem u40_16 {x : Int32} : va_up (vw m) 40 (.inr (7, sv (l40 m) 16 (.int x))) = vw (s40 m 16 x) := vw_up (rfl) (fun k hk => va_up_ne _ _ hk) (fun _ _ => rfl) (fun _ _ => rfl) (fun _ _ => rfl) rfl rfl
theorem p40_16 {x : Int32} {N k : Nat} {P : (Nat → Ac) → Prop} : w_obj (vw m 40) 7 (fun fs => 16 < fs.length ∧ am_fit k (.int x) ∧ P (va_up (vw m) 40 (.inr (7, sv fs 16 (.int x))))) = (am_fit k (.int x) ∧ P (vw (s40 m 16 x))) := by rw [w40_l, wobj_e, u40_16]; exact propext ⟨fun h => h.2, fun h => ⟨Nat.le_of_ble_eq_true rfl, h⟩⟩
theorem g40_17 {P : Value → Prop} : w_obj (vw m 40) 7 (fun fs => w_lkp (gv fs 17) P) = P (.int (mI m 40 17)) := by rw [w40_l, wobj_e]; rfl
theorem u40_17 {x : Int32} : va_up (vw m) 40 (.inr (7, sv (l40 m) 17 (.int x))) = vw (s40 m 17 x) := vw_up (rfl) (fun k hk => va_up_ne _ _ hk) (fun _ _ => rfl) (fun _ _ => rfl) (fun _ _ => rfl) rfl rfl
theorem p40_17 {x : Int32} {N k : Nat} {P : (Nat → Ac) → Prop} : w_obj (vw m 40) 7 (fun fs => 17 < fs.length ∧ am_fit k (.int x) ∧ P (va_up (vw m) 40 (.inr (7, sv fs 17 (.int x))))) = (am_fit k (.int x) ∧ P (vw (s40 m 17 x))) := by rw [w40_l, wobj_e, u40_17]; exact propext ⟨fun h => h.2, fun h => ⟨Nat.le_of_ble_eq_true rfl, h⟩⟩
theorem g40_18 {P : Value → Prop} : w_obj (vw m 40) 7 (fun fs => w_lkp (gv fs 18) P) = P (.int (mI m 40 18)) := by rw [w40_l, wobj_e]; rfl
theorem u40_18 {x : Int32} : va_up (vw m) 40 (.inr (7, sv (l40 m) 18 (.int x))) = vw (s40 m 18 x) := vw_up (rfl) (fun k hk => va_up_ne _ _ hk) (fun _ _ => rfl) (fun _ _ => rfl) (fun _ _ => rfl) rfl rfl
theorem p40_18 {x : Int32} {N k : Nat} {P : (Nat → Ac) → Prop} : w_obj (vw m 40) 7 (fun fs => 18 < fs.length ∧ am_fit k (.int x) ∧ P (va_up (vw m) 40 (.inr (7, sv fs 18 (.int x))))) = (am_fit k (.int x) ∧ P (vw (s40 m 18 x))) := by rw [w40_l, wobj_e, u40_18]; exact propext ⟨fun h => h.2, fun h => ⟨Nat.le_of_ble_eq_true rfl, h⟩⟩
theorem g40_19 {P : Value → Prop} : w_obj (vw m 40) 7 (fun fs => w_lkp (gv fs 19) P) = P (.int (mI m 40 19)) := by rw [w40_l, wobj_e]; rfl
theorem u40_19 {x : Int32} : va_up (vw m) 40 (.inr (7, sv (l40 m) 19 (.int x))) = vw (s40 m 19 x) := vw_up (rfl) (fun k hk => va_up_ne _ _ hk) (fun _ _ => rfl) (fun _ _ => rfl) (fun _ _ => rfl) rfl rfl
theorem p40_19 {x : Int32} {N k : Nat} {P : (Nat → Ac) → Prop} : w_obj (vw m 40) 7 (fun fs => 19 < fs.length ∧ am_fit k (.int x) ∧ P (va_up (vw m) 40 (.inr (7, sv fs 19 (.int x))))) = (am_fit k (.int x) ∧ P (vw (s40 m 19 x))) := by rw [w40_l, wobj_e, u40_19]; exact propext ⟨fun h => h.2, fun h => ⟨Nat.le_of_ble_eq_true rfl, h⟩⟩
theorem g40_20 {P : Value → Prop} : w_obj (vw m 40) 7 (fun fs => w_lkp (gv fs 20) P) = P (.int (mI m 40 20)) := by rw [w40_l, wobj_e]; rfl
theorem u40_20 {x : Int32} : va_up (vw m) 40 (.inr (7, sv (l40 m) 20 (.int x))) = vw (s40 m 20 x) := vw_up (rfl) (fun k hk => va_up_ne _ _ hk) (fun _ _ => rfl) (fun _ _ => rfl) (fun _ _ => rfl) rfl rfl
theorem p40_20 {x : Int32} {N k : Nat} {P : (Nat → Ac) → Prop} : w_obj (vw m 40) 7 (fun fs => 20 < fs.length ∧ am_fit k (.int x) ∧ P (va_up (vw m) 40 (.inr (7, sv fs 20 (.int x))))) = (am_fit k (.int x) ∧ P (vw (s40 m 20 x))) := by rw [w40_l, wobj_e, u40_20]; exact propext ⟨fun h => h.2, fun h => ⟨Nat.le_of_ble_eq_true rfl, h⟩⟩
theorem g40_21 {P : Value → Prop} : w_obj (vw m 40) 7 (fun fs => w_lkp (gv fs 21) P) = P (.int (mI m 40 21)) := by rw [w40_l, wobj_e]; rfl
theorem u40_21 {x : Int32} : va_up (vw m) 40 (.inr (7, sv (l40 m) 21 (.int x))) = vw (s40 m 21 x) := vw_up (rfl) (fun k hk => va_up_ne _ _ hk) (fun _ _ => rfl) (fun _ _ => rfl) (fun _ _ => rfl) rfl rfl
theorem p40_21 {x : Int32} {N k : Nat} {P : (Nat → Ac) → Prop} : w_obj (vw m 40) 7 (fun fs => 21 < fs.length ∧ am_fit k (.int x) ∧ P (va_up (vw m) 40 (.inr (7, sv fs 21 (.int x))))) = (am_fit k (.int x) ∧ P (vw (s40 m 21 x))) := by rw [w40_l, wobj_e, u40_21]; exact propext ⟨fun h => h.2, fun h => ⟨Nat.le_of_ble_eq_true rfl, h⟩⟩
theorem g40_22 {P : Value → Prop} : w_obj (vw m 40) 7 (fun fs => w_lkp (gv fs 22) P) = P (.int (mI m 40 22)) := by rw [w40_l, wobj_e]; rfl
theorem u40_22 {x : Int32} : va_up (vw m) 40 (.inr (7, sv (l40 m) 22 (.int x))) = vw (s40 m 22 x) := vw_up (rfl) (fun k hk => va_up_ne _ _ hk) (fun _ _ => rfl) (fun _ _ => rfl) (fun _ _ => rfl) rfl rfl
theorem p40_22 {x : Int32} {N k : Nat} {P : (Nat → Ac) → Prop} : w_obj (vw m 40) 7 (fun fs => 22 < fs.length ∧ am_fit k (.int x) ∧ P (va_up (vw m) 40 (.inr (7, sv fs 22 (.int x))))) = (am_fit k (.int x) ∧ P (vw (s40 m 22 x))) := by rw [w40_l, wobj_e, u40_22]; exact propext ⟨fun h => h.2, fun h => ⟨Nat.le_of_ble_eq_true rfl, h⟩⟩
theorem g40_23 {P : Value → Prop} : w_obj (vw m 40) 7 (fun fs => w_lkp (gv fs 23) P) = P (.int (mI m 40 23)) := by rw [w40_l, wobj_e]; rfl
theorem u40_23 {x : Int32} : va_up (vw m) 40 (.inr (7, sv (l40 m) 23 (.int x))) = vw (s40 m 23 x) := vw_up (rfl) (fun k hk => va_up_ne _ _ hk) (fun _ _ => rfl) (fun _ _ => rfl) (fun _ _ => rfl) rfl rfl
theorem p40_23 {x : Int32} {N k : Nat} {P : (Nat → Ac) → Prop} : w_obj (vw m 40) 7 (fun fs => 23 < fs.length ∧ am_fit k (.int x) ∧ P (va_up (vw m) 40 (.inr (7, sv fs 23 (.int x))))) = (am_fit k (.int x) ∧ P (vw (s40 m 23 x))) := by rw [w40_l, wobj_e, u40_23]; exact propext ⟨fun h => h.2, fun h => ⟨Nat.le_of_ble_eq_true rfl, h⟩⟩
theorem g40_24 {P : Value → Prop} : w_obj (vw m 40) 7 (fun fs => w_lkp (gv fs 24) P) = P (.ref 55) := by rw [w40_l, wobj_e]; rfl
theorem g40_25 {P : Value → Prop} : w_obj (vw m 40) 7 (fun fs => w_lkp (gv fs 25) P) = P (.ref 56) := by rw [w40_l, wobj_e]; rfl
theorem g40_26 {P : Value → Prop} : w_obj (vw m 40) 7 (fun fs => w_lkp (gv fs 26) P) = P (.int (mI m 40 26)) := by rw [w40_l, wobj_e]; rfl
theorem u40_26 {x : Int32} : va_up (vw m) 40 (.inr (7, sv (l40 m) 26 (.int x))) = vw (s40 m 26 x) := vw_up (rfl) (fun k hk => va_up_ne _ _ hk) (fun _ _ => rfl) (fun _ _ => rfl) (fun _ _ => rfl) rfl rfl
theorem p40_26 {x : Int32} {N k : Nat} {P : (Nat → Ac) → Prop} : w_obj (vw m 40) 7 (fun fs => 26 < fs.length ∧ am_fit k (.int x) ∧ P (va_up (vw m) 40 (.inr (7, sv fs 26 (.int x))))) = (am_fit k (.int x) ∧ P (vw (s40 m 26 x))) := by rw [w40_l, wobj_e, u40_26]; exact propext ⟨fun h => h.2, fun h => ⟨Nat.le_of_ble_eq_true rfl, h⟩⟩
theorem g40_27 {P : Value → Prop} : w_obj (vw m 40) 7 (fun fs => w_lkp (gv fs 27) P) = P (.int (mI m 40 27)) := by rw [w40_l, wobj_e]; rfl
theorem u40_27 {x : Int32} : va_up (vw m) 40 (.inr (7, sv (l40 m) 27 (.int x))) = vw (s40 m 27 x) := vw_up (rfl) (fun k hk => va_up_ne _ _ hk) (fun _ _ => rfl) (fun _ _ => rfl) (fun _ _ => rfl) rfl rfl
theorem p40_27 {x : Int32} {N k : Nat} {P : (Nat → Ac) → Prop} : w_obj (vw m 40) 7 (fun fs => 27 < fs.length ∧ am_fit k (.int x) ∧ P (va_up (vw m) 40 (.inr (7, sv fs 27 (.int x))))) = (am_fit k (.int x) ∧ P (vw (s40 m 27 x))) := by rw [w40_l, wobj_e, u40_27]; exact propext ⟨fun h => h.2, fun h => ⟨Nat.le_of_ble_eq_true rfl, h⟩⟩
theorem g40_28 {P : Value → Prop} : w_obj (vw m 40) 7 (fun fs => w_lkp (gv fs 28) P) = P (.ref 57) := by rw [w40_l, wobj_e]; rfl
theorem g40_29 {P : Value → Prop} : w_obj (vw m 40) 7 (fun fs => w_lkp (gv fs 29) P) = P (.ref 58) := by rw [w40_l, wobj_e]; rfl
theorem g40_30 {P : Value → Prop} : w_obj (vw m 40) 7 (fun fs => w_lkp (gv fs 30) P) = P (.ref 59) := by rw [w40_l, wobj_e]; rfl
theorem g40_31 {P : Value → Prop} : w_obj (vw m 40) 7 (fun fs => w_lkp (gv fs 31) P) = P (.int (mI m 40 31)) := by rw [w40_l, wobj_e]; rfl
theorem u40_31 {x : Int32} : va_up (vw m) 40 (.inr (7, sv (l40 m) 31 (.int x))) = vw (s40 m 31 x) := vw_up (rfl) (fun k hk => va_up_ne _ _ hk) (fun _ _ => rfl) (fun _ _ => rfl) (fun _ _ => rfl) rfl rfl
theorem p40_31 {x : Int32} {N k : Nat} {P : (Nat → Ac) → Prop} : w_obj (vw m 40) 7 (fun fs => 31 < fs.length ∧ am_fit k (.int x) ∧ P (va_up (vw m) 40 (.inr (7, sv fs 31 (.int x))))) = (am_fit k (.int x) ∧ P (vw (s40 m 31 x))) := by rw [w40_l, wobj_e, u40_31]; exact propext ⟨fun h => h.2, fun h => ⟨Nat.le_of_ble_eq_true rfl, h⟩⟩
theorem g40_32 {P : Value → Prop} : w_obj (vw m 40) 7 (fun fs => w_lkp (gv fs 32) P) = P (.int (mI m 40 32)) := by rw [w40_l, wobj_e]; rfl
theorem u40_32 {x : Int32} : va_up (vw m) 40 (.inr (7, sv (l40 m) 32 (.int x))) = vw (s40 m 32 x) := vw_up (rfl) (fun k hk => va_up_ne _ _ hk) (fun _ _ => rfl) (fun _ _ => rfl) (fun _ _ => rfl) rfl rfl
theorem p40_32 {x : Int32} {N k : Nat} {P : (Nat → Ac) → Prop} : w_obj (vw m 40) 7 (fun fs => 32 < fs.length ∧ am_fit k (.int x) ∧ P (va_up (vw m) 40 (.inr (7, sv fs 32 (.int x))))) = (am_fit k (.int x) ∧ P (vw (s40 m 32 x))) := by rw [w40_l, wobj_e, u40_32]; exact propext ⟨fun h => h.2, fun h => ⟨Nat.le_of_ble_eq_true rfl, h⟩⟩
theorem g40_33 {P : Value → Prop} : w_obj (vw m 40) 7 (fun fs => w_lkp (gv fs 33) P) = P (.int (mI m 40 33)) := by rw [w40_l, wobj_e]; rfl
theorem u40_33 {x : Int32} : va_up (vw m) 40 (.inr (7, sv (l40 m) 33 (.int x))) = vw (s40 m 33 x) := vw_up (rfl) (fun k hk => va_up_ne _ _ hk) (fun _ _ => rfl) (fun _ _ => rfl) (fun _ _ => rfl) rfl rfl
theorem p40_33 {x : Int32} {N k : Nat} {P : (Nat → Ac) → Prop} : w_obj (vw m 40) 7 (fun fs => 33 < fs.length ∧ am_fit k (.int x) ∧ P (va_up (vw m) 40 (.inr (7, sv fs 33 (.int x))))) = (am_fit k (.int x) ∧ P (vw (s40 m 33 x))) := by rw [w40_l, wobj_e, u40_33]; exact propext ⟨fun h => h.2, fun h => ⟨Nat.le_of_ble_eq_true rfl, h⟩⟩
theorem g40_34 {P : Value → Prop} : w_obj (vw m 40) 7 (fun fs => w_lkp (gv fs 34) P) = P (.int (mI m 40 34)) := by rw [w40_l, wobj_e]; rfl
theorem u40_34 {x : Int32} : va_up (vw m) 40 (.inr (7, sv (l40 m) 34 (.int x))) = vw (s40 m 34 x) := vw_up (rfl) (fun k hk => va_up_ne _ _ hk) (fun _ _ => rfl) (fun _ _ => rfl) (fun _ _ => rfl) rfl rfl
theorem p40_34 {x : Int32} {N k : Nat} {P : (Nat → Ac) → Prop} : w_obj (vw m 40) 7 (fun fs => 34 < fs.length ∧ am_fit k (.int x) ∧ P (va_up (vw m) 40 (.inr (7, sv fs 34 (.int x))))) = (am_fit k (.int x) ∧ P (vw (s40 m 34 x))) := by rw [w40_l, wobj_e, u40_34]; exact propext ⟨fun h => h.2, fun h => ⟨Nat.le_of_ble_eq_true rfl, h⟩⟩
theorem g40_35 {P : Value → Prop} : w_obj (vw m 40) 7 (fun fs => w_lkp (gv fs 35) P) = P (.int (mI m 40 35)) := by rw [w40_l, wobj_e]; rfl
theorem u40_35 {x : Int32} : va_up (vw m) 40 (.inr (7, sv (l40 m) 35 (.int x))) = vw (s40 m 35 x) := vw_up (rfl) (fun k hk => va_up_ne _ _ hk) (fun _ _ => rfl) (fun _ _ => rfl) (fun _ _ => rfl) rfl rfl
theorem p40_35 {x : Int32} {N k : Nat} {P : (Nat → Ac) → Prop} : w_obj (vw m 40) 7 (fun fs => 35 < fs.length ∧ am_fit k (.int x) ∧ P (va_up (vw m) 40 (.inr (7, sv fs 35 (.int x))))) = (am_fit k (.int x) ∧ P (vw (s40 m 35 x))) := by rw [w40_l, wobj_e, u40_35]; exact propext ⟨fun h => h.2, fun h => ⟨Nat.le_of_ble_eq_true rfl, h⟩⟩
theorem g40_36 {P : Value → Prop} : w_obj (vw m 40) 7 (fun fs => w_lkp (gv fs 36) P) = P (.int (mI m 40 36)) := by rw [w40_l, wobj_e]; rfl
theorem u40_36 {x : Int32} : va_up (vw m) 40 (.inr (7, sv (l40 m) 36 (.int x))) = vw (s40 m 36 x) := vw_up (rfl) (fun k hk => va_up_ne _ _ hk) (fun _ _ => rfl) (fun _ _ => rfl) (fun _ _ => rfl) rfl rfl
theorem p40_36 {x : Int32} {N k : Nat} {P : (Nat → Ac) → Prop} : w_obj (vw m 40) 7 (fun fs => 36 < fs.length ∧ am_fit k (.int x) ∧ P (va_up (vw m) 40 (.inr (7, sv fs 36 (.int x))))) = (am_fit k (.int x) ∧ P (vw (s40 m 36 x))) := by rw [w40_l, wobj_e, u40_36]; exact propext ⟨fun h => h.2, fun h => ⟨Nat.le_of_ble_eq_true rfl, h⟩⟩
theorem g40_37 {P : Value → Prop} : w_obj (vw m 40) 7 (fun fs => w_lkp (gv fs 37) P) = P (.ref 60) := by rw [w40_l, wobj_e]; rfl
theorem g40_38 {P : Value → Prop} : w_obj (vw m 40) 7 (fun fs => w_lkp (gv fs 38) P) = P (.ref 61) := by rw [w40_l, wobj_e]; rfl
theorem g40_39 {P : Value → Prop} : w_obj (vw m 40) 7 (fun fs => w_lkp (gv fs 39) P) = P (.int (mI m 40 39)) := by rw [w40_l, wobj_e]; rfl
theorem u40_39 {x : Int32} : va_up (vw m) 40 (.inr (7, sv (l40 m) 39 (.int x))) = vw (s40 m 39 x) := vw_up (rfl) (fun k hk => va_up_ne _ _ hk) (fun _ _ => rfl) (fun _ _ => rfl) (fun _ _ => rfl) rfl rfl
theorem p40_39 {x : Int32} {N k : Nat} {P : (Nat → Ac) → Prop} : w_obj (vw m 40) 7 (fun fs => 39 < fs.length ∧ am_fit k (.int x) ∧ P (va_up (vw m) 40 (.inr (7, sv fs 39 (.int x))))) = (am_fit k (.int x) ∧ P (vw (s40 m 39 x))) := by rw [w40_l, wobj_e, u40_39]; exact propext ⟨fun h => h.2, fun h => ⟨Nat.le_of_ble_eq_true rfl, h⟩⟩
theorem g40_40 {P : Value → Prop} : w_obj (vw m 40) 7 (fun fs => w_lkp (gv fs 40) P) = P (.ref 62) := by rw [w40_l, wobj_e]; rfl
theorem g40_41 {P : Value → Prop} : w_obj (vw m 40) 7 (fun fs => w_lkp (gv fs 41) P) = P (.int (mI m 40 41)) := by rw [w40_l, wobj_e]; rfl
theorem u40_41 {x : Int32} : va_up (vw m) 40 (.inr (7, sv (l40 m) 41 (.int x))) = vw (s40 m 41 x) := vw_up (rfl) (fun k hk => va_up_ne _ _ hk) (fun _ _ => rfl) (fun _ _ => rfl) (fun _ _ => rfl) rfl rfl
theorem p40_41 {x : Int32} {N k : Nat} {P : (Nat → Ac) → Prop} : w_obj (vw m 40) 7 (fun fs => 41 < fs.length ∧ am_fit k (.int x) ∧ P (va_up (vw m) 40 (.inr (7, sv fs 41 (.int x))))) = (am_fit k (.int x) ∧ P (vw (s40 m 41 x))) := by rw [w40_l, wobj_e, u40_41]; exact propext ⟨fun h => h.2, fun h => ⟨Nat.le_of_ble_eq_true rfl, h⟩⟩
theorem g40_42 {P : Value → Prop} : w_obj (vw m 40) 7 (fun fs => w_lkp (gv fs 42) P) = P (.ref 63) := by rw [w40_l, wobj_e]; rfl
theorem g40_43 {P : Value → Prop} : w_obj (vw m 40) 7 (fun fs => w_lkp (gv fs 43) P) = P (.ref 64) := by rw [w40_l, wobj_e]; rfl
theorem g40_44 {P : Value → Prop} : w_obj (vw m 40) 7 (fun fs => w_lkp (gv fs 44) P) = P (.ref 65) := by rw [w40_l, wobj_e]; rfl
theorem g40_45 {P : Value → Prop} : w_obj (vw m 40) 7 (fun fs => w_lkp (gv fs 45) P) = P (.int (mI m 40 45)) := by rw [w40_l, wobj_e]; rfl
theorem u40_45 {x : Int32} : va_up (vw m) 40 (.inr (7, sv (l40 m) 45 (.int x))) = vw (s40 m 45 x) := vw_up (rfl) (fun k hk => va_up_ne _ _ hk) (fun _ _ => rfl) (fun _ _ => rfl) (fun _ _ => rfl) rfl rfl
theorem p40_45 {x : Int32} {N k : Nat} {P : (Nat → Ac) → Prop} : w_obj (vw m 40) 7 (fun fs => 45 < fs.length ∧ am_fit k (.int x) ∧ P (va_up (vw m) 40 (.inr (7, sv fs 45 (.int x))))) = (am_fit k (.int x) ∧ P (vw (s40 m 45 x))) := by rw [w40_l, wobj_e, u40_45]; exact propext ⟨fun h => h.2, fun h => ⟨Nat.le_of_ble_eq_true rfl, h⟩⟩
theorem s40_I {j : Nat} {x : Int32} : mI (s40 m j x) 40 = upd (mI m 40) j x := by show va_up (mI m) 40 (upd (mI m 40) j x) 40 = _; rw [va_up_self]
theorem s40_In {j k : Nat} {x : Int32} (h : ¬ k = 40) : mI (s40 m j x) k = mI m k := va_up_ne _ _ h
theorem s40_mA {j : Nat} {x : Int32} : mA (s40 m j x) = mA m := (rfl)
theorem s40_mL {j : Nat} {x : Int32} : mL (s40 m j x) = mL m := (rfl)
theorem s40_mT {j : Nat} {x : Int32} : mT (s40 m j x) = mT m := (rfl)
theorem s40_mq {j : Nat} {x : Int32} : mq (s40 m j x) = mq m := (rfl)
theorem s40_ml {j : Nat} {x : Int32} : ml (s40 m j x) = ml m := (rfl)
theorem s40_nn {j : Nat} {x : Int32} : nn (s40 m j x) = nn m := (rfl)
end M40
theorem ud_e {g : Nat → Int32} {j : Nat} {x : Int32} : upd g j x j = x := pk_us
theorem ud_n {g : Nat → Int32} {j k : Nat} {x : Int32} (h : ¬ k = j) : upd g j x k = g k := pk_un h
