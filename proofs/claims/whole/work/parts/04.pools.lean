def am_own (o : Nat) : String := match o with
  | 0 => RX0
  | 1 => RX1
  | 2 => RX2
  | 3 => RX3
  | 4 => RX4
  | 5 => RX5
  | 6 => RX6
  | 7 => RX7
  | 8 => RX8
  | 9 => RJ13
  | 10 => RJ9
  | 11 => RL
  | _ => ""
def am_ch (c : Nat) : List Cond := match c with
  | 0 => k2_sels lw_privs
  | 1 => tables_1_1
  | 2 => tables_1_2
  | 3 => tables_1_3
  | 4 => tables_1_4
  | 5 => tables_1_5
  | 6 => tables_1_6
  | _ => []
theorem am_ch_in (c : Nat) : ∀ w ∈ am_ch c, w ∈ lw_tbl := by
  intro w h
  unfold lw_tbl tables_1
  match c, h with
  | 0, h => exact List.mem_append_left _ h
  | 1, h => exact List.mem_append_right _ (List.mem_append_left _ h)
  | 2, h => exact List.mem_append_right _ (List.mem_append_right _ (List.mem_append_left _ h))
  | 3, h => exact List.mem_append_right _ (List.mem_append_right _ (List.mem_append_right _ (List.mem_append_left _ h)))
  | 4, h => exact List.mem_append_right _ (List.mem_append_right _ (List.mem_append_right _ (List.mem_append_right _ (List.mem_append_left _ h))))
  | 5, h => exact List.mem_append_right _ (List.mem_append_right _ (List.mem_append_right _ (List.mem_append_right _ (List.mem_append_right _ (List.mem_append_left _ h)))))
  | 6, h => exact List.mem_append_right _ (List.mem_append_right _ (List.mem_append_right _ (List.mem_append_right _ (List.mem_append_right _ (List.mem_append_right _ h)))))
  | _ + 7, h => cases h
theorem am_wd_mem {w : Cond} (c i : Nat) (h : (am_ch c)[i]? = some w) : w ∈ lw_tbl := am_ch_in c w (List.mem_of_getElem? h)
def am_tcok : Nat → FieldType → Bool
  | 0, .int => true
  | 1, .boolean => true
  | 2, .long => true
  | 3, .object _ => true
  | 3, .array _ => true
  | _, _ => false
/-- a field's entry of a pool: the link is among the words, place and type are the class's -/
def am_fokP (own : String) (e : Nat × (Nat × Nat × Bool × Nat × Bool)) : Prop := ∃ (C : String) (T : u_T) (N : Nat), vwCl[e.2.1]? = some (C, T, N) ∧ e.2.2.1 < N ∧ (T e.2.2.1).1 = C ∧ (match e.2.2.2.1 with | true => Cond.fieldLinkNest own e.1 C (T e.2.2.1).2.1 (T e.2.2.1).2.2.1 "SlicedRows" ∈ am_nw | false => Cond.fieldLink own e.1 C (T e.2.2.1).2.1 (T e.2.2.1).2.2.1 ∈ am_gw) ∧ (T e.2.2.1).2.2.2 = e.2.2.2.2.2 ∧ am_tcok e.2.2.2.2.1 (am_tf e.2.1 e.2.2.1) = true
def am_plain (y : MethodName) (n : Nat) : Prop := y.cls ≠ "java/lang/invoke/MethodHandle" ∧ y.cls ≠ "java/lang/invoke/VarHandle" ∧ (parseMethodDescriptor y.desc).map (fun d => d.parameters.length) = some n
/-- what holds of a method's tuple, however it is called -/
def am_mtk (M : Mt) (n : Nat) : Prop := am_plain (My M) n ∧ ML M ≤ 20 ∧ Cond.initialized (My M).cls ∈ am_gw ∧ Cond.code (My M) (Mc M) (ML M) (Mr M) ∈ am_gw
def am_mokP (own : String) (e : Nat × (Mt × Nat × Nat × Nat)) : Prop := match e.2.2.1 with
  | 0 => am_mtk e.2.1 e.2.2.2.1 ∧ (vwCl[e.2.2.2.2]?).map (fun q => q.1) = some (My e.2.1).cls ∧ Cond.methodLink own e.1 (My e.2.1) ∈ am_gw ∧ Cond.instanceMethod (My e.2.1) ∈ am_gw ∧ Cond.selects (My e.2.1).cls (My e.2.1) (My e.2.1) ∈ am_gw
  | 1 => am_mtk e.2.1 e.2.2.2.1 ∧ Cond.methodLink own e.1 (My e.2.1) ∈ am_gw ∧ Cond.static (My e.2.1) ∈ am_gw
  | 2 => am_mtk e.2.1 e.2.2.2.1 ∧ (My e.2.1).name = "<init>" ∧ Mr e.2.1 = none ∧ Cond.methodLink own e.1 (My e.2.1) ∈ am_gw ∧ Cond.instanceMethod (My e.2.1) ∈ am_gw
  | 3 => am_mtk e.2.1 e.2.2.2.1 ∧ Cond.methodLinkNest own e.1 (My e.2.1) "SlicedRows" ∈ am_nw ∧ Cond.static (My e.2.1) ∈ am_gw
  | 4 => Cond.methodLink own e.1 objectInit ∈ am_gw
  | 5 => Cond.methodLink own e.1 Lib.Math.max.name ∈ am_gw
  | 6 => Cond.methodLink own e.1 Lib.Math.min.name ∈ am_gw
  | _ => False
def am_cokP (own : String) (e : Nat × Nat) : Prop := ∃ (C : String) (T : u_T) (N : Nat), vwCl[e.2]? = some (C, T, N) ∧ Cond.classLink own e.1 C ∈ am_gw ∧ Cond.instantiable C N ∈ am_gw ∧ Cond.initialized C ∈ am_gw ∧ am_nf e.2 = N
theorem lkp_mem {α : Type} : ∀ {l : List (Nat × α)} {i : Nat} {v : α}, lkp l i = some v → (i, v) ∈ l
  | [], i, v, h => by simp [lkp] at h
  | (k, w) :: t, i, v, h => by
    unfold lkp at h
    by_cases hk : k = i
    · subst hk
      simp at h
      subst h
      exact List.mem_cons_self
    · have : (k == i) = false := by simpa using hk
      rw [this] at h
      exact List.mem_cons_of_mem _ (lkp_mem h)
theorem am_nw_in {w : Cond} (h : w ∈ lw_tbl) (g : am_nestW w = true) : w ∈ am_nw := List.mem_filter.mpr ⟨h, g⟩

theorem mt_X0_init : am_mtk MX0_init 0 := ⟨⟨by decide +kernel, by decide +kernel, by decide +kernel⟩, by decide, (am_gw_in (am_wd_mem 1 8 rfl) rfl), (am_gw_in (am_wd_mem 1 207 rfl) rfl)⟩
theorem mt_X0_isOrder : am_mtk MX0_isOrder 1 := ⟨⟨by decide +kernel, by decide +kernel, by decide +kernel⟩, by decide, (am_gw_in (am_wd_mem 1 8 rfl) rfl), (am_gw_in (am_wd_mem 3 152 rfl) rfl)⟩
theorem mt_X0_columnAt : am_mtk MX0_columnAt 2 := ⟨⟨by decide +kernel, by decide +kernel, by decide +kernel⟩, by decide, (am_gw_in (am_wd_mem 1 8 rfl) rfl), (am_gw_in (am_wd_mem 3 155 rfl) rfl)⟩
theorem mt_X0_arrange : am_mtk MX0_arrange 3 := ⟨⟨by decide +kernel, by decide +kernel, by decide +kernel⟩, by decide, (am_gw_in (am_wd_mem 1 8 rfl) rfl), (am_gw_in (am_wd_mem 3 159 rfl) rfl)⟩
theorem mt_X0_layByLine : am_mtk MX0_layByLine 1 := ⟨⟨by decide +kernel, by decide +kernel, by decide +kernel⟩, by decide, (am_gw_in (am_wd_mem 1 8 rfl) rfl), (am_gw_in (am_wd_mem 3 163 rfl) rfl)⟩
theorem mt_X0_runEnd : am_mtk MX0_runEnd 4 := ⟨⟨by decide +kernel, by decide +kernel, by decide +kernel⟩, by decide, (am_gw_in (am_wd_mem 1 8 rfl) rfl), (am_gw_in (am_wd_mem 3 177 rfl) rfl)⟩
theorem mt_X0_alike : am_mtk MX0_alike 5 := ⟨⟨by decide +kernel, by decide +kernel, by decide +kernel⟩, by decide, (am_gw_in (am_wd_mem 1 8 rfl) rfl), (am_gw_in (am_wd_mem 3 180 rfl) rfl)⟩
theorem mt_X0_sortRun : am_mtk MX0_sortRun 5 := ⟨⟨by decide +kernel, by decide +kernel, by decide +kernel⟩, by decide, (am_gw_in (am_wd_mem 1 8 rfl) rfl), (am_gw_in (am_wd_mem 3 169 rfl) rfl)⟩
theorem mt_X0_isBehind : am_mtk MX0_isBehind 3 := ⟨⟨by decide +kernel, by decide +kernel, by decide +kernel⟩, by decide, (am_gw_in (am_wd_mem 1 8 rfl) rfl), (am_gw_in (am_wd_mem 3 173 rfl) rfl)⟩
theorem mt_X1_init : am_mtk MX1_init 0 := ⟨⟨by decide +kernel, by decide +kernel, by decide +kernel⟩, by decide, (am_gw_in (am_wd_mem 1 3 rfl) rfl), (am_gw_in (am_wd_mem 1 57 rfl) rfl)⟩
theorem mt_X1_resize : am_mtk MX1_resize 1 := ⟨⟨by decide +kernel, by decide +kernel, by decide +kernel⟩, by decide, (am_gw_in (am_wd_mem 1 3 rfl) rfl), (am_gw_in (am_wd_mem 1 62 rfl) rfl)⟩
theorem mt_X1_has : am_mtk MX1_has 1 := ⟨⟨by decide +kernel, by decide +kernel, by decide +kernel⟩, by decide, (am_gw_in (am_wd_mem 1 3 rfl) rfl), (am_gw_in (am_wd_mem 2 32 rfl) rfl)⟩
theorem mt_X1_numberFrom : am_mtk MX1_numberFrom 1 := ⟨⟨by decide +kernel, by decide +kernel, by decide +kernel⟩, by decide, (am_gw_in (am_wd_mem 1 3 rfl) rfl), (am_gw_in (am_wd_mem 2 67 rfl) rfl)⟩
theorem mt_X1_isTorn : am_mtk MX1_isTorn 1 := ⟨⟨by decide +kernel, by decide +kernel, by decide +kernel⟩, by decide, (am_gw_in (am_wd_mem 1 3 rfl) rfl), (am_gw_in (am_wd_mem 2 139 rfl) rfl)⟩
theorem mt_X1_slicesOf : am_mtk MX1_slicesOf 1 := ⟨⟨by decide +kernel, by decide +kernel, by decide +kernel⟩, by decide, (am_gw_in (am_wd_mem 1 3 rfl) rfl), (am_gw_in (am_wd_mem 2 147 rfl) rfl)⟩
theorem mt_X1_redesign : am_mtk MX1_redesign 2 := ⟨⟨by decide +kernel, by decide +kernel, by decide +kernel⟩, by decide, (am_gw_in (am_wd_mem 1 3 rfl) rfl), (am_gw_in (am_wd_mem 2 98 rfl) rfl)⟩
theorem mt_X1_takeTold : am_mtk MX1_takeTold 1 := ⟨⟨by decide +kernel, by decide +kernel, by decide +kernel⟩, by decide, (am_gw_in (am_wd_mem 1 3 rfl) rfl), (am_gw_in (am_wd_mem 2 102 rfl) rfl)⟩
theorem mt_X1_isDesign : am_mtk MX1_isDesign 3 := ⟨⟨by decide +kernel, by decide +kernel, by decide +kernel⟩, by decide, (am_gw_in (am_wd_mem 1 3 rfl) rfl), (am_gw_in (am_wd_mem 2 107 rfl) rfl)⟩
theorem mt_X1_settle : am_mtk MX1_settle 0 := ⟨⟨by decide +kernel, by decide +kernel, by decide +kernel⟩, by decide, (am_gw_in (am_wd_mem 1 3 rfl) rfl), (am_gw_in (am_wd_mem 1 66 rfl) rfl)⟩
theorem mt_X1_figureOf : am_mtk MX1_figureOf 2 := ⟨⟨by decide +kernel, by decide +kernel, by decide +kernel⟩, by decide, (am_gw_in (am_wd_mem 1 3 rfl) rfl), (am_gw_in (am_wd_mem 1 77 rfl) rfl)⟩
theorem mt_X1_slicesByFigures : am_mtk MX1_slicesByFigures 1 := ⟨⟨by decide +kernel, by decide +kernel, by decide +kernel⟩, by decide, (am_gw_in (am_wd_mem 1 3 rfl) rfl), (am_gw_in (am_wd_mem 1 73 rfl) rfl)⟩
theorem mt_X1_readForEqual : am_mtk MX1_readForEqual 1 := ⟨⟨by decide +kernel, by decide +kernel, by decide +kernel⟩, by decide, (am_gw_in (am_wd_mem 1 3 rfl) rfl), (am_gw_in (am_wd_mem 2 156 rfl) rfl)⟩
theorem mt_X1_readForBelow : am_mtk MX1_readForBelow 1 := ⟨⟨by decide +kernel, by decide +kernel, by decide +kernel⟩, by decide, (am_gw_in (am_wd_mem 1 3 rfl) rfl), (am_gw_in (am_wd_mem 2 164 rfl) rfl)⟩
theorem mt_X1_designCost : am_mtk MX1_designCost 2 := ⟨⟨by decide +kernel, by decide +kernel, by decide +kernel⟩, by decide, (am_gw_in (am_wd_mem 1 3 rfl) rfl), (am_gw_in (am_wd_mem 2 178 rfl) rfl)⟩
theorem mt_X2_roomOf : am_mtk MX2_roomOf 2 := ⟨⟨by decide +kernel, by decide +kernel, by decide +kernel⟩, by decide, (am_gw_in (am_wd_mem 1 4 rfl) rfl), (am_gw_in (am_wd_mem 1 69 rfl) rfl)⟩
theorem mt_X2_slicesOfFigure : am_mtk MX2_slicesOfFigure 3 := ⟨⟨by decide +kernel, by decide +kernel, by decide +kernel⟩, by decide, (am_gw_in (am_wd_mem 1 4 rfl) rfl), (am_gw_in (am_wd_mem 1 83 rfl) rfl)⟩
theorem mt_X2_readForFigure : am_mtk MX2_readForFigure 3 := ⟨⟨by decide +kernel, by decide +kernel, by decide +kernel⟩, by decide, (am_gw_in (am_wd_mem 1 4 rfl) rfl), (am_gw_in (am_wd_mem 2 159 rfl) rfl)⟩
theorem mt_X2_readBelowFigure : am_mtk MX2_readBelowFigure 3 := ⟨⟨by decide +kernel, by decide +kernel, by decide +kernel⟩, by decide, (am_gw_in (am_wd_mem 1 4 rfl) rfl), (am_gw_in (am_wd_mem 2 167 rfl) rfl)⟩
theorem mt_X2_costOf : am_mtk MX2_costOf 6 := ⟨⟨by decide +kernel, by decide +kernel, by decide +kernel⟩, by decide, (am_gw_in (am_wd_mem 1 4 rfl) rfl), (am_gw_in (am_wd_mem 2 181 rfl) rfl)⟩
theorem mt_X2_tellJust : am_mtk MX2_tellJust 3 := ⟨⟨by decide +kernel, by decide +kernel, by decide +kernel⟩, by decide, (am_gw_in (am_wd_mem 1 4 rfl) rfl), (am_gw_in (am_wd_mem 2 110 rfl) rfl)⟩
theorem mt_X3_init : am_mtk MX3_init 0 := ⟨⟨by decide +kernel, by decide +kernel, by decide +kernel⟩, by decide, (am_gw_in (am_wd_mem 1 6 rfl) rfl), (am_gw_in (am_wd_mem 1 131 rfl) rfl)⟩
theorem mt_X3_lettersIn : am_mtk MX3_lettersIn 1 := ⟨⟨by decide +kernel, by decide +kernel, by decide +kernel⟩, by decide, (am_gw_in (am_wd_mem 1 6 rfl) rfl), (am_gw_in (am_wd_mem 2 214 rfl) rfl)⟩
theorem mt_X3_codeIn : am_mtk MX3_codeIn 2 := ⟨⟨by decide +kernel, by decide +kernel, by decide +kernel⟩, by decide, (am_gw_in (am_wd_mem 1 6 rfl) rfl), (am_gw_in (am_wd_mem 2 217 rfl) rfl)⟩
theorem mt_X3_append : am_mtk MX3_append 2 := ⟨⟨by decide +kernel, by decide +kernel, by decide +kernel⟩, by decide, (am_gw_in (am_wd_mem 1 6 rfl) rfl), (am_gw_in (am_wd_mem 2 221 rfl) rfl)⟩
theorem mt_X3_goodLetters : am_mtk MX3_goodLetters 0 := ⟨⟨by decide +kernel, by decide +kernel, by decide +kernel⟩, by decide, (am_gw_in (am_wd_mem 1 6 rfl) rfl), (am_gw_in (am_wd_mem 2 233 rfl) rfl)⟩
theorem mt_X3_isQuestion : am_mtk MX3_isQuestion 0 := ⟨⟨by decide +kernel, by decide +kernel, by decide +kernel⟩, by decide, (am_gw_in (am_wd_mem 1 6 rfl) rfl), (am_gw_in (am_wd_mem 3 16 rfl) rfl)⟩
theorem mt_X3_placeBehind : am_mtk MX3_placeBehind 1 := ⟨⟨by decide +kernel, by decide +kernel, by decide +kernel⟩, by decide, (am_gw_in (am_wd_mem 1 6 rfl) rfl), (am_gw_in (am_wd_mem 2 237 rfl) rfl)⟩
theorem mt_X3_behindFactorStart : am_mtk MX3_behindFactorStart 1 := ⟨⟨by decide +kernel, by decide +kernel, by decide +kernel⟩, by decide, (am_gw_in (am_wd_mem 1 6 rfl) rfl), (am_gw_in (am_wd_mem 3 1 rfl) rfl)⟩
theorem mt_X3_behindWholeFactor : am_mtk MX3_behindWholeFactor 1 := ⟨⟨by decide +kernel, by decide +kernel, by decide +kernel⟩, by decide, (am_gw_in (am_wd_mem 1 6 rfl) rfl), (am_gw_in (am_wd_mem 3 8 rfl) rfl)⟩
theorem mt_X3_isDigit : am_mtk MX3_isDigit 1 := ⟨⟨by decide +kernel, by decide +kernel, by decide +kernel⟩, by decide, (am_gw_in (am_wd_mem 1 6 rfl) rfl), (am_gw_in (am_wd_mem 3 4 rfl) rfl)⟩
theorem mt_X3_codeAt : am_mtk MX3_codeAt 1 := ⟨⟨by decide +kernel, by decide +kernel, by decide +kernel⟩, by decide, (am_gw_in (am_wd_mem 1 6 rfl) rfl), (am_gw_in (am_wd_mem 3 30 rfl) rfl)⟩
theorem mt_X3_numberBehind : am_mtk MX3_numberBehind 1 := ⟨⟨by decide +kernel, by decide +kernel, by decide +kernel⟩, by decide, (am_gw_in (am_wd_mem 1 6 rfl) rfl), (am_gw_in (am_wd_mem 3 49 rfl) rfl)⟩
theorem mt_X4_init : am_mtk MX4_init 1 := ⟨⟨by decide +kernel, by decide +kernel, by decide +kernel⟩, by decide, (am_gw_in (am_wd_mem 1 11 rfl) rfl), (am_gw_in (am_wd_mem 3 21 rfl) rfl)⟩
theorem mt_X4_takeLetter : am_mtk MX4_takeLetter 2 := ⟨⟨by decide +kernel, by decide +kernel, by decide +kernel⟩, by decide, (am_gw_in (am_wd_mem 1 11 rfl) rfl), (am_gw_in (am_wd_mem 3 26 rfl) rfl)⟩
theorem mt_X4_hold : am_mtk MX4_hold 1 := ⟨⟨by decide +kernel, by decide +kernel, by decide +kernel⟩, by decide, (am_gw_in (am_wd_mem 1 11 rfl) rfl), (am_gw_in (am_wd_mem 3 34 rfl) rfl)⟩
theorem mt_X4_write : am_mtk MX4_write 1 := ⟨⟨by decide +kernel, by decide +kernel, by decide +kernel⟩, by decide, (am_gw_in (am_wd_mem 1 11 rfl) rfl), (am_gw_in (am_wd_mem 3 42 rfl) rfl)⟩
theorem mt_X4_writeWaiting : am_mtk MX4_writeWaiting 1 := ⟨⟨by decide +kernel, by decide +kernel, by decide +kernel⟩, by decide, (am_gw_in (am_wd_mem 1 11 rfl) rfl), (am_gw_in (am_wd_mem 3 38 rfl) rfl)⟩
theorem mt_X4_comparisonAt : am_mtk MX4_comparisonAt 2 := ⟨⟨by decide +kernel, by decide +kernel, by decide +kernel⟩, by decide, (am_gw_in (am_wd_mem 1 11 rfl) rfl), (am_gw_in (am_wd_mem 3 45 rfl) rfl)⟩
theorem mt_X4_readOf : am_mtk MX4_readOf 2 := ⟨⟨by decide +kernel, by decide +kernel, by decide +kernel⟩, by decide, (am_gw_in (am_wd_mem 1 11 rfl) rfl), (am_gw_in (am_wd_mem 3 86 rfl) rfl)⟩
theorem mt_X4_leftLines : am_mtk MX4_leftLines 1 := ⟨⟨by decide +kernel, by decide +kernel, by decide +kernel⟩, by decide, (am_gw_in (am_wd_mem 1 11 rfl) rfl), (am_gw_in (am_wd_mem 3 92 rfl) rfl)⟩
theorem mt_X4_linesThatHold : am_mtk MX4_linesThatHold 3 := ⟨⟨by decide +kernel, by decide +kernel, by decide +kernel⟩, by decide, (am_gw_in (am_wd_mem 1 11 rfl) rfl), (am_gw_in (am_wd_mem 3 99 rfl) rfl)⟩
theorem mt_X5_init : am_mtk MX5_init 0 := ⟨⟨by decide +kernel, by decide +kernel, by decide +kernel⟩, by decide, (am_gw_in (am_wd_mem 1 7 rfl) rfl), (am_gw_in (am_wd_mem 1 155 rfl) rfl)⟩
theorem mt_X5_seek : am_mtk MX5_seek 4 := ⟨⟨by decide +kernel, by decide +kernel, by decide +kernel⟩, by decide, (am_gw_in (am_wd_mem 1 7 rfl) rfl), (am_gw_in (am_wd_mem 2 193 rfl) rfl)⟩
theorem mt_X5_extend : am_mtk MX5_extend 5 := ⟨⟨by decide +kernel, by decide +kernel, by decide +kernel⟩, by decide, (am_gw_in (am_wd_mem 1 7 rfl) rfl), (am_gw_in (am_wd_mem 2 196 rfl) rfl)⟩
theorem mt_X5_figureCost : am_mtk MX5_figureCost 2 := ⟨⟨by decide +kernel, by decide +kernel, by decide +kernel⟩, by decide, (am_gw_in (am_wd_mem 1 7 rfl) rfl), (am_gw_in (am_wd_mem 2 202 rfl) rfl)⟩
theorem mt_X5_consider : am_mtk MX5_consider 2 := ⟨⟨by decide +kernel, by decide +kernel, by decide +kernel⟩, by decide, (am_gw_in (am_wd_mem 1 7 rfl) rfl), (am_gw_in (am_wd_mem 2 207 rfl) rfl)⟩
theorem mt_X6_init : am_mtk MX6_init 0 := ⟨⟨by decide +kernel, by decide +kernel, by decide +kernel⟩, by decide, (am_gw_in (am_wd_mem 1 2 rfl) rfl), (am_gw_in (am_wd_mem 1 24 rfl) rfl)⟩
theorem mt_X6_packed : am_mtk MX6_packed 4 := ⟨⟨by decide +kernel, by decide +kernel, by decide +kernel⟩, by decide, (am_gw_in (am_wd_mem 1 2 rfl) rfl), (am_gw_in (am_wd_mem 2 43 rfl) rfl)⟩
theorem mt_X6_altered : am_mtk MX6_altered 3 := ⟨⟨by decide +kernel, by decide +kernel, by decide +kernel⟩, by decide, (am_gw_in (am_wd_mem 1 2 rfl) rfl), (am_gw_in (am_wd_mem 2 46 rfl) rfl)⟩
theorem mt_X6_hasRow : am_mtk MX6_hasRow 1 := ⟨⟨by decide +kernel, by decide +kernel, by decide +kernel⟩, by decide, (am_gw_in (am_wd_mem 1 2 rfl) rfl), (am_gw_in (am_wd_mem 2 40 rfl) rfl)⟩
theorem mt_X6_number : am_mtk MX6_number 2 := ⟨⟨by decide +kernel, by decide +kernel, by decide +kernel⟩, by decide, (am_gw_in (am_wd_mem 1 2 rfl) rfl), (am_gw_in (am_wd_mem 2 77 rfl) rfl)⟩
theorem mt_X6_rowCount : am_mtk MX6_rowCount 0 := ⟨⟨by decide +kernel, by decide +kernel, by decide +kernel⟩, by decide, (am_gw_in (am_wd_mem 1 2 rfl) rfl), (am_gw_in (am_wd_mem 2 15 rfl) rfl)⟩
theorem mt_X6_changesKept : am_mtk MX6_changesKept 0 := ⟨⟨by decide +kernel, by decide +kernel, by decide +kernel⟩, by decide, (am_gw_in (am_wd_mem 1 2 rfl) rfl), (am_gw_in (am_wd_mem 3 214 rfl) rfl)⟩
theorem mt_X6_markCount : am_mtk MX6_markCount 0 := ⟨⟨by decide +kernel, by decide +kernel, by decide +kernel⟩, by decide, (am_gw_in (am_wd_mem 1 2 rfl) rfl), (am_gw_in (am_wd_mem 2 19 rfl) rfl)⟩
theorem mt_X6_leastEmpty : am_mtk MX6_leastEmpty 0 := ⟨⟨by decide +kernel, by decide +kernel, by decide +kernel⟩, by decide, (am_gw_in (am_wd_mem 1 2 rfl) rfl), (am_gw_in (am_wd_mem 2 36 rfl) rfl)⟩
theorem mt_X6_linesWithRow : am_mtk MX6_linesWithRow 0 := ⟨⟨by decide +kernel, by decide +kernel, by decide +kernel⟩, by decide, (am_gw_in (am_wd_mem 1 2 rfl) rfl), (am_gw_in (am_wd_mem 3 96 rfl) rfl)⟩
theorem mt_X6_linesWith : am_mtk MX6_linesWith 2 := ⟨⟨by decide +kernel, by decide +kernel, by decide +kernel⟩, by decide, (am_gw_in (am_wd_mem 1 2 rfl) rfl), (am_gw_in (am_wd_mem 3 108 rfl) rfl)⟩
theorem mt_X6_linesBelow : am_mtk MX6_linesBelow 2 := ⟨⟨by decide +kernel, by decide +kernel, by decide +kernel⟩, by decide, (am_gw_in (am_wd_mem 1 2 rfl) rfl), (am_gw_in (am_wd_mem 3 103 rfl) rfl)⟩
theorem mt_X6_change : am_mtk MX6_change 2 := ⟨⟨by decide +kernel, by decide +kernel, by decide +kernel⟩, by decide, (am_gw_in (am_wd_mem 1 2 rfl) rfl), (am_gw_in (am_wd_mem 2 50 rfl) rfl)⟩
theorem mt_X6_changeNumber : am_mtk MX6_changeNumber 3 := ⟨⟨by decide +kernel, by decide +kernel, by decide +kernel⟩, by decide, (am_gw_in (am_wd_mem 1 2 rfl) rfl), (am_gw_in (am_wd_mem 2 81 rfl) rfl)⟩
theorem mt_X6_undoLatest : am_mtk MX6_undoLatest 0 := ⟨⟨by decide +kernel, by decide +kernel, by decide +kernel⟩, by decide, (am_gw_in (am_wd_mem 1 2 rfl) rfl), (am_gw_in (am_wd_mem 3 210 rfl) rfl)⟩
theorem mt_X6_forgetChanges : am_mtk MX6_forgetChanges 0 := ⟨⟨by decide +kernel, by decide +kernel, by decide +kernel⟩, by decide, (am_gw_in (am_wd_mem 1 2 rfl) rfl), (am_gw_in (am_wd_mem 2 24 rfl) rfl)⟩
theorem mt_X6_keepMark : am_mtk MX6_keepMark 0 := ⟨⟨by decide +kernel, by decide +kernel, by decide +kernel⟩, by decide, (am_gw_in (am_wd_mem 1 2 rfl) rfl), (am_gw_in (am_wd_mem 3 222 rfl) rfl)⟩
theorem mt_X6_returnTo : am_mtk MX6_returnTo 1 := ⟨⟨by decide +kernel, by decide +kernel, by decide +kernel⟩, by decide, (am_gw_in (am_wd_mem 1 2 rfl) rfl), (am_gw_in (am_wd_mem 3 230 rfl) rfl)⟩
theorem mt_X6_put : am_mtk MX6_put 2 := ⟨⟨by decide +kernel, by decide +kernel, by decide +kernel⟩, by decide, (am_gw_in (am_wd_mem 1 2 rfl) rfl), (am_gw_in (am_wd_mem 2 57 rfl) rfl)⟩
theorem mt_X7_init : am_mtk MX7_init 0 := ⟨⟨by decide +kernel, by decide +kernel, by decide +kernel⟩, by decide, (am_gw_in (am_wd_mem 1 1 rfl) rfl), (am_gw_in (am_wd_mem 1 16 rfl) rfl)⟩
theorem mt_X7_size : am_mtk MX7_size 2 := ⟨⟨by decide +kernel, by decide +kernel, by decide +kernel⟩, by decide, (am_gw_in (am_wd_mem 1 1 rfl) rfl), (am_gw_in (am_wd_mem 2 8 rfl) rfl)⟩
theorem mt_X7_row : am_mtk MX7_row 4 := ⟨⟨by decide +kernel, by decide +kernel, by decide +kernel⟩, by decide, (am_gw_in (am_wd_mem 1 1 rfl) rfl), (am_gw_in (am_wd_mem 2 28 rfl) rfl)⟩
theorem mt_X7_fill : am_mtk MX7_fill 2 := ⟨⟨by decide +kernel, by decide +kernel, by decide +kernel⟩, by decide, (am_gw_in (am_wd_mem 1 1 rfl) rfl), (am_gw_in (am_wd_mem 2 61 rfl) rfl)⟩
theorem mt_X7_set : am_mtk MX7_set 3 := ⟨⟨by decide +kernel, by decide +kernel, by decide +kernel⟩, by decide, (am_gw_in (am_wd_mem 1 1 rfl) rfl), (am_gw_in (am_wd_mem 2 72 rfl) rfl)⟩
theorem mt_X7_drop : am_mtk MX7_drop 1 := ⟨⟨by decide +kernel, by decide +kernel, by decide +kernel⟩, by decide, (am_gw_in (am_wd_mem 1 1 rfl) rfl), (am_gw_in (am_wd_mem 2 86 rfl) rfl)⟩
theorem mt_X7_get : am_mtk MX7_get 2 := ⟨⟨by decide +kernel, by decide +kernel, by decide +kernel⟩, by decide, (am_gw_in (am_wd_mem 1 1 rfl) rfl), (am_gw_in (am_wd_mem 2 90 rfl) rfl)⟩
theorem mt_X7_design : am_mtk MX7_design 3 := ⟨⟨by decide +kernel, by decide +kernel, by decide +kernel⟩, by decide, (am_gw_in (am_wd_mem 1 1 rfl) rfl), (am_gw_in (am_wd_mem 2 94 rfl) rfl)⟩
theorem mt_X7_about : am_mtk MX7_about 2 := ⟨⟨by decide +kernel, by decide +kernel, by decide +kernel⟩, by decide, (am_gw_in (am_wd_mem 1 1 rfl) rfl), (am_gw_in (am_wd_mem 2 115 rfl) rfl)⟩
theorem mt_X7_vector : am_mtk MX7_vector 2 := ⟨⟨by decide +kernel, by decide +kernel, by decide +kernel⟩, by decide, (am_gw_in (am_wd_mem 1 1 rfl) rfl), (am_gw_in (am_wd_mem 2 131 rfl) rfl)⟩
theorem mt_X7_reads : am_mtk MX7_reads 3 := ⟨⟨by decide +kernel, by decide +kernel, by decide +kernel⟩, by decide, (am_gw_in (am_wd_mem 1 1 rfl) rfl), (am_gw_in (am_wd_mem 2 152 rfl) rfl)⟩
theorem mt_X7_cost : am_mtk MX7_cost 3 := ⟨⟨by decide +kernel, by decide +kernel, by decide +kernel⟩, by decide, (am_gw_in (am_wd_mem 1 1 rfl) rfl), (am_gw_in (am_wd_mem 2 171 rfl) rfl)⟩
theorem mt_X7_best : am_mtk MX7_best 5 := ⟨⟨by decide +kernel, by decide +kernel, by decide +kernel⟩, by decide, (am_gw_in (am_wd_mem 1 1 rfl) rfl), (am_gw_in (am_wd_mem 2 189 rfl) rfl)⟩
theorem mt_X7_letters : am_mtk MX7_letters 1 := ⟨⟨by decide +kernel, by decide +kernel, by decide +kernel⟩, by decide, (am_gw_in (am_wd_mem 1 1 rfl) rfl), (am_gw_in (am_wd_mem 2 211 rfl) rfl)⟩
theorem mt_X7_blank : am_mtk MX7_blank 0 := ⟨⟨by decide +kernel, by decide +kernel, by decide +kernel⟩, by decide, (am_gw_in (am_wd_mem 1 1 rfl) rfl), (am_gw_in (am_wd_mem 2 225 rfl) rfl)⟩
theorem mt_X7_good : am_mtk MX7_good 0 := ⟨⟨by decide +kernel, by decide +kernel, by decide +kernel⟩, by decide, (am_gw_in (am_wd_mem 1 1 rfl) rfl), (am_gw_in (am_wd_mem 2 229 rfl) rfl)⟩
theorem mt_X7_ask : am_mtk MX7_ask 0 := ⟨⟨by decide +kernel, by decide +kernel, by decide +kernel⟩, by decide, (am_gw_in (am_wd_mem 1 1 rfl) rfl), (am_gw_in (am_wd_mem 3 12 rfl) rfl)⟩
theorem mt_X7_leaves : am_mtk MX7_leaves 1 := ⟨⟨by decide +kernel, by decide +kernel, by decide +kernel⟩, by decide, (am_gw_in (am_wd_mem 1 1 rfl) rfl), (am_gw_in (am_wd_mem 3 74 rfl) rfl)⟩
theorem mt_X7_asked : am_mtk MX7_asked 2 := ⟨⟨by decide +kernel, by decide +kernel, by decide +kernel⟩, by decide, (am_gw_in (am_wd_mem 1 1 rfl) rfl), (am_gw_in (am_wd_mem 3 113 rfl) rfl)⟩
theorem mt_X7_sum : am_mtk MX7_sum 2 := ⟨⟨by decide +kernel, by decide +kernel, by decide +kernel⟩, by decide, (am_gw_in (am_wd_mem 1 1 rfl) rfl), (am_gw_in (am_wd_mem 3 121 rfl) rfl)⟩
theorem mt_X7_least : am_mtk MX7_least 3 := ⟨⟨by decide +kernel, by decide +kernel, by decide +kernel⟩, by decide, (am_gw_in (am_wd_mem 1 1 rfl) rfl), (am_gw_in (am_wd_mem 3 125 rfl) rfl)⟩
theorem mt_X7_group : am_mtk MX7_group 3 := ⟨⟨by decide +kernel, by decide +kernel, by decide +kernel⟩, by decide, (am_gw_in (am_wd_mem 1 1 rfl) rfl), (am_gw_in (am_wd_mem 3 133 rfl) rfl)⟩
theorem mt_X7_tear : am_mtk MX7_tear 2 := ⟨⟨by decide +kernel, by decide +kernel, by decide +kernel⟩, by decide, (am_gw_in (am_wd_mem 1 1 rfl) rfl), (am_gw_in (am_wd_mem 3 137 rfl) rfl)⟩
theorem mt_X7_mend : am_mtk MX7_mend 1 := ⟨⟨by decide +kernel, by decide +kernel, by decide +kernel⟩, by decide, (am_gw_in (am_wd_mem 1 1 rfl) rfl), (am_gw_in (am_wd_mem 3 141 rfl) rfl)⟩
theorem mt_X7_parity : am_mtk MX7_parity 1 := ⟨⟨by decide +kernel, by decide +kernel, by decide +kernel⟩, by decide, (am_gw_in (am_wd_mem 1 1 rfl) rfl), (am_gw_in (am_wd_mem 3 145 rfl) rfl)⟩
theorem mt_X7_words : am_mtk MX7_words 4 := ⟨⟨by decide +kernel, by decide +kernel, by decide +kernel⟩, by decide, (am_gw_in (am_wd_mem 1 1 rfl) rfl), (am_gw_in (am_wd_mem 3 149 rfl) rfl)⟩
theorem mt_X7_all : am_mtk MX7_all 2 := ⟨⟨by decide +kernel, by decide +kernel, by decide +kernel⟩, by decide, (am_gw_in (am_wd_mem 1 1 rfl) rfl), (am_gw_in (am_wd_mem 3 189 rfl) rfl)⟩
theorem mt_X7_placed : am_mtk MX7_placed 3 := ⟨⟨by decide +kernel, by decide +kernel, by decide +kernel⟩, by decide, (am_gw_in (am_wd_mem 1 1 rfl) rfl), (am_gw_in (am_wd_mem 3 198 rfl) rfl)⟩
theorem mt_X7_order : am_mtk MX7_order 1 := ⟨⟨by decide +kernel, by decide +kernel, by decide +kernel⟩, by decide, (am_gw_in (am_wd_mem 1 1 rfl) rfl), (am_gw_in (am_wd_mem 3 202 rfl) rfl)⟩
theorem mt_X7_undo : am_mtk MX7_undo 0 := ⟨⟨by decide +kernel, by decide +kernel, by decide +kernel⟩, by decide, (am_gw_in (am_wd_mem 1 1 rfl) rfl), (am_gw_in (am_wd_mem 3 206 rfl) rfl)⟩
theorem mt_X7_mark : am_mtk MX7_mark 0 := ⟨⟨by decide +kernel, by decide +kernel, by decide +kernel⟩, by decide, (am_gw_in (am_wd_mem 1 1 rfl) rfl), (am_gw_in (am_wd_mem 3 218 rfl) rfl)⟩
theorem mt_X7_back : am_mtk MX7_back 1 := ⟨⟨by decide +kernel, by decide +kernel, by decide +kernel⟩, by decide, (am_gw_in (am_wd_mem 1 1 rfl) rfl), (am_gw_in (am_wd_mem 3 226 rfl) rfl)⟩
theorem mt_X7_count : am_mtk MX7_count 1 := ⟨⟨by decide +kernel, by decide +kernel, by decide +kernel⟩, by decide, (am_gw_in (am_wd_mem 1 1 rfl) rfl), (am_gw_in (am_wd_mem 3 235 rfl) rfl)⟩
theorem mt_X7_digest : am_mtk MX7_digest 0 := ⟨⟨by decide +kernel, by decide +kernel, by decide +kernel⟩, by decide, (am_gw_in (am_wd_mem 1 1 rfl) rfl), (am_gw_in (am_wd_mem 4 7 rfl) rfl)⟩
theorem mt_X7_isColumn : am_mtk MX7_isColumn 1 := ⟨⟨by decide +kernel, by decide +kernel, by decide +kernel⟩, by decide, (am_gw_in (am_wd_mem 1 1 rfl) rfl), (am_gw_in (am_wd_mem 2 11 rfl) rfl)⟩
theorem mt_X7_isVector : am_mtk MX7_isVector 2 := ⟨⟨by decide +kernel, by decide +kernel, by decide +kernel⟩, by decide, (am_gw_in (am_wd_mem 1 1 rfl) rfl), (am_gw_in (am_wd_mem 2 135 rfl) rfl)⟩
theorem mt_X7_isQuestion : am_mtk MX7_isQuestion 1 := ⟨⟨by decide +kernel, by decide +kernel, by decide +kernel⟩, by decide, (am_gw_in (am_wd_mem 1 1 rfl) rfl), (am_gw_in (am_wd_mem 3 78 rfl) rfl)⟩
theorem mt_X7_isWeight : am_mtk MX7_isWeight 1 := ⟨⟨by decide +kernel, by decide +kernel, by decide +kernel⟩, by decide, (am_gw_in (am_wd_mem 1 1 rfl) rfl), (am_gw_in (am_wd_mem 2 174 rfl) rfl)⟩
theorem mt_X7_asksForBase : am_mtk MX7_asksForBase 1 := ⟨⟨by decide +kernel, by decide +kernel, by decide +kernel⟩, by decide, (am_gw_in (am_wd_mem 1 1 rfl) rfl), (am_gw_in (am_wd_mem 2 124 rfl) rfl)⟩
theorem mt_X7_baseOrNone : am_mtk MX7_baseOrNone 3 := ⟨⟨by decide +kernel, by decide +kernel, by decide +kernel⟩, by decide, (am_gw_in (am_wd_mem 1 1 rfl) rfl), (am_gw_in (am_wd_mem 2 127 rfl) rfl)⟩
theorem mt_X7_lowBits : am_mtk MX7_lowBits 1 := ⟨⟨by decide +kernel, by decide +kernel, by decide +kernel⟩, by decide, (am_gw_in (am_wd_mem 1 1 rfl) rfl), (am_gw_in (am_wd_mem 1 86 rfl) rfl)⟩
theorem mt_X7_bitAt : am_mtk MX7_bitAt 2 := ⟨⟨by decide +kernel, by decide +kernel, by decide +kernel⟩, by decide, (am_gw_in (am_wd_mem 1 1 rfl) rfl), (am_gw_in (am_wd_mem 3 129 rfl) rfl)⟩
theorem mt_X7_slicesAt : am_mtk MX7_slicesAt 2 := ⟨⟨by decide +kernel, by decide +kernel, by decide +kernel⟩, by decide, (am_gw_in (am_wd_mem 1 1 rfl) rfl), (am_gw_in (am_wd_mem 2 143 rfl) rfl)⟩
theorem mt_X7_vectorsRead : am_mtk MX7_vectorsRead 1 := ⟨⟨by decide +kernel, by decide +kernel, by decide +kernel⟩, by decide, (am_gw_in (am_wd_mem 1 1 rfl) rfl), (am_gw_in (am_wd_mem 3 117 rfl) rfl)⟩
theorem mt_X7_fails : am_mtk MX7_fails 1 := ⟨⟨by decide +kernel, by decide +kernel, by decide +kernel⟩, by decide, (am_gw_in (am_wd_mem 1 1 rfl) rfl), (am_gw_in (am_wd_mem 3 82 rfl) rfl)⟩
theorem mt_X7_vectorsOfAll : am_mtk MX7_vectorsOfAll 0 := ⟨⟨by decide +kernel, by decide +kernel, by decide +kernel⟩, by decide, (am_gw_in (am_wd_mem 1 1 rfl) rfl), (am_gw_in (am_wd_mem 3 239 rfl) rfl)⟩
theorem mt_X7_tornOfAll : am_mtk MX7_tornOfAll 0 := ⟨⟨by decide +kernel, by decide +kernel, by decide +kernel⟩, by decide, (am_gw_in (am_wd_mem 1 1 rfl) rfl), (am_gw_in (am_wd_mem 4 3 rfl) rfl)⟩
theorem mt_X7_tableWords : am_mtk MX7_tableWords 2 := ⟨⟨by decide +kernel, by decide +kernel, by decide +kernel⟩, by decide, (am_gw_in (am_wd_mem 1 1 rfl) rfl), (am_gw_in (am_wd_mem 3 193 rfl) rfl)⟩
theorem mt_X7_squeezedWords : am_mtk MX7_squeezedWords 2 := ⟨⟨by decide +kernel, by decide +kernel, by decide +kernel⟩, by decide, (am_gw_in (am_wd_mem 1 1 rfl) rfl), (am_gw_in (am_wd_mem 3 185 rfl) rfl)⟩
theorem mt_X8_init : am_mtk MX8_init 0 := ⟨⟨by decide +kernel, by decide +kernel, by decide +kernel⟩, by decide, (am_gw_in (am_wd_mem 1 9 rfl) rfl), (am_gw_in (am_wd_mem 4 19 rfl) rfl)⟩
theorem mt_X8_in : am_mtk MX8_in 3 := ⟨⟨by decide +kernel, by decide +kernel, by decide +kernel⟩, by decide, (am_gw_in (am_wd_mem 1 9 rfl) rfl), (am_gw_in (am_wd_mem 4 171 rfl) rfl)⟩
theorem mt_X8_isColumn : am_mtk MX8_isColumn 1 := ⟨⟨by decide +kernel, by decide +kernel, by decide +kernel⟩, by decide, (am_gw_in (am_wd_mem 1 9 rfl) rfl), (am_gw_in (am_wd_mem 4 167 rfl) rfl)⟩
theorem mt_X8_isRow : am_mtk MX8_isRow 1 := ⟨⟨by decide +kernel, by decide +kernel, by decide +kernel⟩, by decide, (am_gw_in (am_wd_mem 1 9 rfl) rfl), (am_gw_in (am_wd_mem 4 214 rfl) rfl)⟩
theorem mt_X8_rows : am_mtk MX8_rows 0 := ⟨⟨by decide +kernel, by decide +kernel, by decide +kernel⟩, by decide, (am_gw_in (am_wd_mem 1 9 rfl) rfl), (am_gw_in (am_wd_mem 4 177 rfl) rfl)⟩
theorem mt_X8_size : am_mtk MX8_size 2 := ⟨⟨by decide +kernel, by decide +kernel, by decide +kernel⟩, by decide, (am_gw_in (am_wd_mem 1 9 rfl) rfl), (am_gw_in (am_wd_mem 4 164 rfl) rfl)⟩
theorem mt_X8_keep : am_mtk MX8_keep 1 := ⟨⟨by decide +kernel, by decide +kernel, by decide +kernel⟩, by decide, (am_gw_in (am_wd_mem 1 9 rfl) rfl), (am_gw_in (am_wd_mem 4 197 rfl) rfl)⟩
theorem mt_X8_emptyLine : am_mtk MX8_emptyLine 0 := ⟨⟨by decide +kernel, by decide +kernel, by decide +kernel⟩, by decide, (am_gw_in (am_wd_mem 1 9 rfl) rfl), (am_gw_in (am_wd_mem 4 189 rfl) rfl)⟩
theorem mt_X8_come : am_mtk MX8_come 4 := ⟨⟨by decide +kernel, by decide +kernel, by decide +kernel⟩, by decide, (am_gw_in (am_wd_mem 1 9 rfl) rfl), (am_gw_in (am_wd_mem 4 193 rfl) rfl)⟩
theorem mt_X8_row : am_mtk MX8_row 4 := ⟨⟨by decide +kernel, by decide +kernel, by decide +kernel⟩, by decide, (am_gw_in (am_wd_mem 1 9 rfl) rfl), (am_gw_in (am_wd_mem 4 185 rfl) rfl)⟩
theorem mt_X8_fill : am_mtk MX8_fill 2 := ⟨⟨by decide +kernel, by decide +kernel, by decide +kernel⟩, by decide, (am_gw_in (am_wd_mem 1 9 rfl) rfl), (am_gw_in (am_wd_mem 4 201 rfl) rfl)⟩
theorem mt_X8_set : am_mtk MX8_set 3 := ⟨⟨by decide +kernel, by decide +kernel, by decide +kernel⟩, by decide, (am_gw_in (am_wd_mem 1 9 rfl) rfl), (am_gw_in (am_wd_mem 4 210 rfl) rfl)⟩
theorem mt_X8_drop : am_mtk MX8_drop 1 := ⟨⟨by decide +kernel, by decide +kernel, by decide +kernel⟩, by decide, (am_gw_in (am_wd_mem 1 9 rfl) rfl), (am_gw_in (am_wd_mem 4 219 rfl) rfl)⟩
theorem mt_X8_getOf : am_mtk MX8_getOf 2 := ⟨⟨by decide +kernel, by decide +kernel, by decide +kernel⟩, by decide, (am_gw_in (am_wd_mem 1 9 rfl) rfl), (am_gw_in (am_wd_mem 4 227 rfl) rfl)⟩
theorem mt_X8_get : am_mtk MX8_get 2 := ⟨⟨by decide +kernel, by decide +kernel, by decide +kernel⟩, by decide, (am_gw_in (am_wd_mem 1 9 rfl) rfl), (am_gw_in (am_wd_mem 4 223 rfl) rfl)⟩
theorem mt_X8_untear : am_mtk MX8_untear 1 := ⟨⟨by decide +kernel, by decide +kernel, by decide +kernel⟩, by decide, (am_gw_in (am_wd_mem 1 9 rfl) rfl), (am_gw_in (am_wd_mem 4 181 rfl) rfl)⟩
theorem mt_X8_vectorsOf : am_mtk MX8_vectorsOf 2 := ⟨⟨by decide +kernel, by decide +kernel, by decide +kernel⟩, by decide, (am_gw_in (am_wd_mem 1 9 rfl) rfl), (am_gw_in (am_wd_mem 4 239 rfl) rfl)⟩
theorem mt_X8_roomOf : am_mtk MX8_roomOf 1 := ⟨⟨by decide +kernel, by decide +kernel, by decide +kernel⟩, by decide, (am_gw_in (am_wd_mem 1 9 rfl) rfl), (am_gw_in (am_wd_mem 5 3 rfl) rfl)⟩
theorem mt_X8_isDesign : am_mtk MX8_isDesign 2 := ⟨⟨by decide +kernel, by decide +kernel, by decide +kernel⟩, by decide, (am_gw_in (am_wd_mem 1 9 rfl) rfl), (am_gw_in (am_wd_mem 4 236 rfl) rfl)⟩
theorem mt_X8_design : am_mtk MX8_design 3 := ⟨⟨by decide +kernel, by decide +kernel, by decide +kernel⟩, by decide, (am_gw_in (am_wd_mem 1 9 rfl) rfl), (am_gw_in (am_wd_mem 4 231 rfl) rfl)⟩
theorem mt_X8_tornOf : am_mtk MX8_tornOf 1 := ⟨⟨by decide +kernel, by decide +kernel, by decide +kernel⟩, by decide, (am_gw_in (am_wd_mem 1 9 rfl) rfl), (am_gw_in (am_wd_mem 5 18 rfl) rfl)⟩
theorem mt_X8_aboutOf : am_mtk MX8_aboutOf 2 := ⟨⟨by decide +kernel, by decide +kernel, by decide +kernel⟩, by decide, (am_gw_in (am_wd_mem 1 9 rfl) rfl), (am_gw_in (am_wd_mem 5 14 rfl) rfl)⟩
theorem mt_X8_about : am_mtk MX8_about 2 := ⟨⟨by decide +kernel, by decide +kernel, by decide +kernel⟩, by decide, (am_gw_in (am_wd_mem 1 9 rfl) rfl), (am_gw_in (am_wd_mem 5 7 rfl) rfl)⟩
theorem mt_X8_findVector : am_mtk MX8_findVector 2 := ⟨⟨by decide +kernel, by decide +kernel, by decide +kernel⟩, by decide, (am_gw_in (am_wd_mem 1 9 rfl) rfl), (am_gw_in (am_wd_mem 5 34 rfl) rfl)⟩
theorem mt_X8_figure : am_mtk MX8_figure 3 := ⟨⟨by decide +kernel, by decide +kernel, by decide +kernel⟩, by decide, (am_gw_in (am_wd_mem 1 9 rfl) rfl), (am_gw_in (am_wd_mem 5 42 rfl) rfl)⟩
theorem mt_X8_bit : am_mtk MX8_bit 2 := ⟨⟨by decide +kernel, by decide +kernel, by decide +kernel⟩, by decide, (am_gw_in (am_wd_mem 1 9 rfl) rfl), (am_gw_in (am_wd_mem 5 38 rfl) rfl)⟩
theorem mt_X8_vectorBits : am_mtk MX8_vectorBits 2 := ⟨⟨by decide +kernel, by decide +kernel, by decide +kernel⟩, by decide, (am_gw_in (am_wd_mem 1 9 rfl) rfl), (am_gw_in (am_wd_mem 5 30 rfl) rfl)⟩
theorem mt_X8_isVector : am_mtk MX8_isVector 2 := ⟨⟨by decide +kernel, by decide +kernel, by decide +kernel⟩, by decide, (am_gw_in (am_wd_mem 1 9 rfl) rfl), (am_gw_in (am_wd_mem 5 26 rfl) rfl)⟩
theorem mt_X8_vector : am_mtk MX8_vector 2 := ⟨⟨by decide +kernel, by decide +kernel, by decide +kernel⟩, by decide, (am_gw_in (am_wd_mem 1 9 rfl) rfl), (am_gw_in (am_wd_mem 5 22 rfl) rfl)⟩
theorem mt_X8_span : am_mtk MX8_span 2 := ⟨⟨by decide +kernel, by decide +kernel, by decide +kernel⟩, by decide, (am_gw_in (am_wd_mem 1 9 rfl) rfl), (am_gw_in (am_wd_mem 5 65 rfl) rfl)⟩
theorem mt_X8_equalReads : am_mtk MX8_equalReads 3 := ⟨⟨by decide +kernel, by decide +kernel, by decide +kernel⟩, by decide, (am_gw_in (am_wd_mem 1 9 rfl) rfl), (am_gw_in (am_wd_mem 5 68 rfl) rfl)⟩
theorem mt_X8_lessReads : am_mtk MX8_lessReads 3 := ⟨⟨by decide +kernel, by decide +kernel, by decide +kernel⟩, by decide, (am_gw_in (am_wd_mem 1 9 rfl) rfl), (am_gw_in (am_wd_mem 5 62 rfl) rfl)⟩
theorem mt_X8_readBy : am_mtk MX8_readBy 4 := ⟨⟨by decide +kernel, by decide +kernel, by decide +kernel⟩, by decide, (am_gw_in (am_wd_mem 1 9 rfl) rfl), (am_gw_in (am_wd_mem 5 59 rfl) rfl)⟩
theorem mt_X8_takeBases : am_mtk MX8_takeBases 1 := ⟨⟨by decide +kernel, by decide +kernel, by decide +kernel⟩, by decide, (am_gw_in (am_wd_mem 1 9 rfl) rfl), (am_gw_in (am_wd_mem 5 55 rfl) rfl)⟩
theorem mt_X8_readsOf : am_mtk MX8_readsOf 3 := ⟨⟨by decide +kernel, by decide +kernel, by decide +kernel⟩, by decide, (am_gw_in (am_wd_mem 1 9 rfl) rfl), (am_gw_in (am_wd_mem 5 51 rfl) rfl)⟩
theorem mt_X8_reads : am_mtk MX8_reads 3 := ⟨⟨by decide +kernel, by decide +kernel, by decide +kernel⟩, by decide, (am_gw_in (am_wd_mem 1 9 rfl) rfl), (am_gw_in (am_wd_mem 5 46 rfl) rfl)⟩
theorem mt_X8_bitsOf : am_mtk MX8_bitsOf 1 := ⟨⟨by decide +kernel, by decide +kernel, by decide +kernel⟩, by decide, (am_gw_in (am_wd_mem 1 9 rfl) rfl), (am_gw_in (am_wd_mem 5 83 rfl) rfl)⟩
theorem mt_X8_costBy : am_mtk MX8_costBy 4 := ⟨⟨by decide +kernel, by decide +kernel, by decide +kernel⟩, by decide, (am_gw_in (am_wd_mem 1 9 rfl) rfl), (am_gw_in (am_wd_mem 5 80 rfl) rfl)⟩
theorem mt_X8_isWeight : am_mtk MX8_isWeight 1 := ⟨⟨by decide +kernel, by decide +kernel, by decide +kernel⟩, by decide, (am_gw_in (am_wd_mem 1 9 rfl) rfl), (am_gw_in (am_wd_mem 5 75 rfl) rfl)⟩
theorem mt_X8_cost : am_mtk MX8_cost 3 := ⟨⟨by decide +kernel, by decide +kernel, by decide +kernel⟩, by decide, (am_gw_in (am_wd_mem 1 9 rfl) rfl), (am_gw_in (am_wd_mem 5 72 rfl) rfl)⟩
theorem mt_X8_isEarlier : am_mtk MX8_isEarlier 0 := ⟨⟨by decide +kernel, by decide +kernel, by decide +kernel⟩, by decide, (am_gw_in (am_wd_mem 1 9 rfl) rfl), (am_gw_in (am_wd_mem 5 99 rfl) rfl)⟩
theorem mt_X8_weigh : am_mtk MX8_weigh 4 := ⟨⟨by decide +kernel, by decide +kernel, by decide +kernel⟩, by decide, (am_gw_in (am_wd_mem 1 9 rfl) rfl), (am_gw_in (am_wd_mem 5 95 rfl) rfl)⟩
theorem mt_X8_findBest : am_mtk MX8_findBest 4 := ⟨⟨by decide +kernel, by decide +kernel, by decide +kernel⟩, by decide, (am_gw_in (am_wd_mem 1 9 rfl) rfl), (am_gw_in (am_wd_mem 5 91 rfl) rfl)⟩
theorem mt_X8_best : am_mtk MX8_best 5 := ⟨⟨by decide +kernel, by decide +kernel, by decide +kernel⟩, by decide, (am_gw_in (am_wd_mem 1 9 rfl) rfl), (am_gw_in (am_wd_mem 5 87 rfl) rfl)⟩
theorem mt_X8_letters : am_mtk MX8_letters 1 := ⟨⟨by decide +kernel, by decide +kernel, by decide +kernel⟩, by decide, (am_gw_in (am_wd_mem 1 9 rfl) rfl), (am_gw_in (am_wd_mem 5 103 rfl) rfl)⟩
theorem mt_X8_blank : am_mtk MX8_blank 0 := ⟨⟨by decide +kernel, by decide +kernel, by decide +kernel⟩, by decide, (am_gw_in (am_wd_mem 1 9 rfl) rfl), (am_gw_in (am_wd_mem 5 108 rfl) rfl)⟩
theorem mt_X8_lay : am_mtk MX8_lay 2 := ⟨⟨by decide +kernel, by decide +kernel, by decide +kernel⟩, by decide, (am_gw_in (am_wd_mem 1 9 rfl) rfl), (am_gw_in (am_wd_mem 5 134 rfl) rfl)⟩
theorem mt_X8_layDown : am_mtk MX8_layDown 1 := ⟨⟨by decide +kernel, by decide +kernel, by decide +kernel⟩, by decide, (am_gw_in (am_wd_mem 1 9 rfl) rfl), (am_gw_in (am_wd_mem 5 138 rfl) rfl)⟩
theorem mt_X8_endNumber : am_mtk MX8_endNumber 0 := ⟨⟨by decide +kernel, by decide +kernel, by decide +kernel⟩, by decide, (am_gw_in (am_wd_mem 1 9 rfl) rfl), (am_gw_in (am_wd_mem 5 130 rfl) rfl)⟩
theorem mt_X8_goBehind : am_mtk MX8_goBehind 1 := ⟨⟨by decide +kernel, by decide +kernel, by decide +kernel⟩, by decide, (am_gw_in (am_wd_mem 1 9 rfl) rfl), (am_gw_in (am_wd_mem 5 126 rfl) rfl)⟩
theorem mt_X8_go : am_mtk MX8_go 1 := ⟨⟨by decide +kernel, by decide +kernel, by decide +kernel⟩, by decide, (am_gw_in (am_wd_mem 1 9 rfl) rfl), (am_gw_in (am_wd_mem 5 120 rfl) rfl)⟩
theorem mt_X8_goodOf : am_mtk MX8_goodOf 0 := ⟨⟨by decide +kernel, by decide +kernel, by decide +kernel⟩, by decide, (am_gw_in (am_wd_mem 1 9 rfl) rfl), (am_gw_in (am_wd_mem 5 116 rfl) rfl)⟩
theorem mt_X8_good : am_mtk MX8_good 0 := ⟨⟨by decide +kernel, by decide +kernel, by decide +kernel⟩, by decide, (am_gw_in (am_wd_mem 1 9 rfl) rfl), (am_gw_in (am_wd_mem 5 112 rfl) rfl)⟩
theorem mt_X8_ask : am_mtk MX8_ask 0 := ⟨⟨by decide +kernel, by decide +kernel, by decide +kernel⟩, by decide, (am_gw_in (am_wd_mem 1 9 rfl) rfl), (am_gw_in (am_wd_mem 5 142 rfl) rfl)⟩
theorem mt_X8_isQuestion : am_mtk MX8_isQuestion 1 := ⟨⟨by decide +kernel, by decide +kernel, by decide +kernel⟩, by decide, (am_gw_in (am_wd_mem 1 9 rfl) rfl), (am_gw_in (am_wd_mem 5 150 rfl) rfl)⟩
theorem mt_X8_holdsFor : am_mtk MX8_holdsFor 2 := ⟨⟨by decide +kernel, by decide +kernel, by decide +kernel⟩, by decide, (am_gw_in (am_wd_mem 1 9 rfl) rfl), (am_gw_in (am_wd_mem 5 166 rfl) rfl)⟩
theorem mt_X8_readsBy : am_mtk MX8_readsBy 2 := ⟨⟨by decide +kernel, by decide +kernel, by decide +kernel⟩, by decide, (am_gw_in (am_wd_mem 1 9 rfl) rfl), (am_gw_in (am_wd_mem 5 158 rfl) rfl)⟩
theorem mt_X8_fails : am_mtk MX8_fails 1 := ⟨⟨by decide +kernel, by decide +kernel, by decide +kernel⟩, by decide, (am_gw_in (am_wd_mem 1 9 rfl) rfl), (am_gw_in (am_wd_mem 5 154 rfl) rfl)⟩
theorem mt_X8_isLeft : am_mtk MX8_isLeft 2 := ⟨⟨by decide +kernel, by decide +kernel, by decide +kernel⟩, by decide, (am_gw_in (am_wd_mem 1 9 rfl) rfl), (am_gw_in (am_wd_mem 5 162 rfl) rfl)⟩
theorem mt_X8_leaves : am_mtk MX8_leaves 1 := ⟨⟨by decide +kernel, by decide +kernel, by decide +kernel⟩, by decide, (am_gw_in (am_wd_mem 1 9 rfl) rfl), (am_gw_in (am_wd_mem 5 146 rfl) rfl)⟩
theorem mt_X8_askedOf : am_mtk MX8_askedOf 2 := ⟨⟨by decide +kernel, by decide +kernel, by decide +kernel⟩, by decide, (am_gw_in (am_wd_mem 1 9 rfl) rfl), (am_gw_in (am_wd_mem 5 174 rfl) rfl)⟩
theorem mt_X8_asked : am_mtk MX8_asked 2 := ⟨⟨by decide +kernel, by decide +kernel, by decide +kernel⟩, by decide, (am_gw_in (am_wd_mem 1 9 rfl) rfl), (am_gw_in (am_wd_mem 5 170 rfl) rfl)⟩
theorem mt_X8_sum : am_mtk MX8_sum 2 := ⟨⟨by decide +kernel, by decide +kernel, by decide +kernel⟩, by decide, (am_gw_in (am_wd_mem 1 9 rfl) rfl), (am_gw_in (am_wd_mem 5 178 rfl) rfl)⟩
theorem mt_X8_least : am_mtk MX8_least 3 := ⟨⟨by decide +kernel, by decide +kernel, by decide +kernel⟩, by decide, (am_gw_in (am_wd_mem 1 9 rfl) rfl), (am_gw_in (am_wd_mem 5 182 rfl) rfl)⟩
theorem mt_X8_group : am_mtk MX8_group 3 := ⟨⟨by decide +kernel, by decide +kernel, by decide +kernel⟩, by decide, (am_gw_in (am_wd_mem 1 9 rfl) rfl), (am_gw_in (am_wd_mem 5 186 rfl) rfl)⟩
theorem mt_X8_tear : am_mtk MX8_tear 2 := ⟨⟨by decide +kernel, by decide +kernel, by decide +kernel⟩, by decide, (am_gw_in (am_wd_mem 1 9 rfl) rfl), (am_gw_in (am_wd_mem 5 190 rfl) rfl)⟩
theorem mt_X8_mend : am_mtk MX8_mend 1 := ⟨⟨by decide +kernel, by decide +kernel, by decide +kernel⟩, by decide, (am_gw_in (am_wd_mem 1 9 rfl) rfl), (am_gw_in (am_wd_mem 5 194 rfl) rfl)⟩
theorem mt_X8_parityOf : am_mtk MX8_parityOf 1 := ⟨⟨by decide +kernel, by decide +kernel, by decide +kernel⟩, by decide, (am_gw_in (am_wd_mem 1 9 rfl) rfl), (am_gw_in (am_wd_mem 5 202 rfl) rfl)⟩
theorem mt_X8_parity : am_mtk MX8_parity 1 := ⟨⟨by decide +kernel, by decide +kernel, by decide +kernel⟩, by decide, (am_gw_in (am_wd_mem 1 9 rfl) rfl), (am_gw_in (am_wd_mem 5 198 rfl) rfl)⟩
theorem mt_X8_takeOrder : am_mtk MX8_takeOrder 1 := ⟨⟨by decide +kernel, by decide +kernel, by decide +kernel⟩, by decide, (am_gw_in (am_wd_mem 1 9 rfl) rfl), (am_gw_in (am_wd_mem 5 210 rfl) rfl)⟩
theorem mt_X8_sameTo : am_mtk MX8_sameTo 3 := ⟨⟨by decide +kernel, by decide +kernel, by decide +kernel⟩, by decide, (am_gw_in (am_wd_mem 1 9 rfl) rfl), (am_gw_in (am_wd_mem 5 218 rfl) rfl)⟩
theorem mt_X8_sortRun : am_mtk MX8_sortRun 4 := ⟨⟨by decide +kernel, by decide +kernel, by decide +kernel⟩, by decide, (am_gw_in (am_wd_mem 1 9 rfl) rfl), (am_gw_in (am_wd_mem 5 222 rfl) rfl)⟩
theorem mt_X8_layOrder : am_mtk MX8_layOrder 1 := ⟨⟨by decide +kernel, by decide +kernel, by decide +kernel⟩, by decide, (am_gw_in (am_wd_mem 1 9 rfl) rfl), (am_gw_in (am_wd_mem 5 214 rfl) rfl)⟩
theorem mt_X8_wordsOf : am_mtk MX8_wordsOf 2 := ⟨⟨by decide +kernel, by decide +kernel, by decide +kernel⟩, by decide, (am_gw_in (am_wd_mem 1 9 rfl) rfl), (am_gw_in (am_wd_mem 5 226 rfl) rfl)⟩
theorem mt_X8_allWords : am_mtk MX8_allWords 0 := ⟨⟨by decide +kernel, by decide +kernel, by decide +kernel⟩, by decide, (am_gw_in (am_wd_mem 1 9 rfl) rfl), (am_gw_in (am_wd_mem 5 234 rfl) rfl)⟩
theorem mt_X8_words : am_mtk MX8_words 4 := ⟨⟨by decide +kernel, by decide +kernel, by decide +kernel⟩, by decide, (am_gw_in (am_wd_mem 1 9 rfl) rfl), (am_gw_in (am_wd_mem 5 206 rfl) rfl)⟩
theorem mt_X8_all : am_mtk MX8_all 2 := ⟨⟨by decide +kernel, by decide +kernel, by decide +kernel⟩, by decide, (am_gw_in (am_wd_mem 1 9 rfl) rfl), (am_gw_in (am_wd_mem 5 230 rfl) rfl)⟩
theorem mt_X8_placed : am_mtk MX8_placed 3 := ⟨⟨by decide +kernel, by decide +kernel, by decide +kernel⟩, by decide, (am_gw_in (am_wd_mem 1 9 rfl) rfl), (am_gw_in (am_wd_mem 5 238 rfl) rfl)⟩
theorem mt_X8_order : am_mtk MX8_order 1 := ⟨⟨by decide +kernel, by decide +kernel, by decide +kernel⟩, by decide, (am_gw_in (am_wd_mem 1 9 rfl) rfl), (am_gw_in (am_wd_mem 6 2 rfl) rfl)⟩
theorem mt_X8_undo : am_mtk MX8_undo 0 := ⟨⟨by decide +kernel, by decide +kernel, by decide +kernel⟩, by decide, (am_gw_in (am_wd_mem 1 9 rfl) rfl), (am_gw_in (am_wd_mem 6 6 rfl) rfl)⟩
theorem mt_X8_mark : am_mtk MX8_mark 0 := ⟨⟨by decide +kernel, by decide +kernel, by decide +kernel⟩, by decide, (am_gw_in (am_wd_mem 1 9 rfl) rfl), (am_gw_in (am_wd_mem 6 10 rfl) rfl)⟩
theorem mt_X8_back : am_mtk MX8_back 1 := ⟨⟨by decide +kernel, by decide +kernel, by decide +kernel⟩, by decide, (am_gw_in (am_wd_mem 1 9 rfl) rfl), (am_gw_in (am_wd_mem 6 14 rfl) rfl)⟩
theorem mt_X8_countOf : am_mtk MX8_countOf 1 := ⟨⟨by decide +kernel, by decide +kernel, by decide +kernel⟩, by decide, (am_gw_in (am_wd_mem 1 9 rfl) rfl), (am_gw_in (am_wd_mem 6 22 rfl) rfl)⟩
theorem mt_X8_count : am_mtk MX8_count 1 := ⟨⟨by decide +kernel, by decide +kernel, by decide +kernel⟩, by decide, (am_gw_in (am_wd_mem 1 9 rfl) rfl), (am_gw_in (am_wd_mem 6 18 rfl) rfl)⟩
theorem mt_X8_digest : am_mtk MX8_digest 0 := ⟨⟨by decide +kernel, by decide +kernel, by decide +kernel⟩, by decide, (am_gw_in (am_wd_mem 1 9 rfl) rfl), (am_gw_in (am_wd_mem 6 26 rfl) rfl)⟩
theorem mt_J13_bitCount_95d88 : am_mtk MJ13_bitCount_95d88 1 := ⟨⟨by decide +kernel, by decide +kernel, by decide +kernel⟩, by decide, (am_gw_in (am_wd_mem 1 10 rfl) rfl), (am_gw_in (am_wd_mem 2 118 rfl) rfl)⟩
theorem mt_J9_max_7cf53 : am_mtk MJ9_max_7cf53 2 := ⟨⟨by decide +kernel, by decide +kernel, by decide +kernel⟩, by decide, (am_gw_in (am_wd_mem 1 5 rfl) rfl), (am_gw_in (am_wd_mem 1 80 rfl) rfl)⟩
theorem mt_J9_min_7cf53 : am_mtk MJ9_min_7cf53 2 := ⟨⟨by decide +kernel, by decide +kernel, by decide +kernel⟩, by decide, (am_gw_in (am_wd_mem 1 5 rfl) rfl), (am_gw_in (am_wd_mem 2 53 rfl) rfl)⟩
theorem pfk_0_9 : am_fokP RX0 (9, (0, 0, false, 3, true)) := ⟨_, _, _, rfl, by decide, rfl, (am_gw_in (am_wd_mem 1 209 rfl) rfl), rfl, rfl⟩
theorem pfk_0_23 : am_fokP RX0 (23, (0, 1, false, 0, false)) := ⟨_, _, _, rfl, by decide, rfl, (am_gw_in (am_wd_mem 1 211 rfl) rfl), rfl, rfl⟩
theorem am_pf_ok_0 : ∀ e ∈ pf0, am_fokP RX0 e := List.forall_mem_cons.mpr ⟨pfk_0_9, List.forall_mem_cons.mpr ⟨pfk_0_23, (fun _ h => absurd h List.not_mem_nil)⟩⟩
theorem pfk_1_9 : am_fokP RX1 (9, (1, 5, false, 3, true)) := ⟨_, _, _, rfl, by decide, rfl, (am_gw_in (am_wd_mem 1 99 rfl) rfl), rfl, rfl⟩
theorem pfk_1_15 : am_fokP RX1 (15, (1, 6, false, 3, true)) := ⟨_, _, _, rfl, by decide, rfl, (am_gw_in (am_wd_mem 1 101 rfl) rfl), rfl, rfl⟩
theorem pfk_1_18 : am_fokP RX1 (18, (1, 7, false, 3, true)) := ⟨_, _, _, rfl, by decide, rfl, (am_gw_in (am_wd_mem 1 102 rfl) rfl), rfl, rfl⟩
theorem pfk_1_21 : am_fokP RX1 (21, (1, 8, false, 3, true)) := ⟨_, _, _, rfl, by decide, rfl, (am_gw_in (am_wd_mem 1 103 rfl) rfl), rfl, rfl⟩
theorem pfk_1_24 : am_fokP RX1 (24, (1, 9, false, 3, true)) := ⟨_, _, _, rfl, by decide, rfl, (am_gw_in (am_wd_mem 1 104 rfl) rfl), rfl, rfl⟩
theorem pfk_1_32 : am_fokP RX1 (32, (1, 0, false, 0, false)) := ⟨_, _, _, rfl, by decide, rfl, (am_gw_in (am_wd_mem 1 89 rfl) rfl), rfl, rfl⟩
theorem pfk_1_36 : am_fokP RX1 (36, (1, 1, false, 0, false)) := ⟨_, _, _, rfl, by decide, rfl, (am_gw_in (am_wd_mem 1 91 rfl) rfl), rfl, rfl⟩
theorem pfk_1_39 : am_fokP RX1 (39, (1, 2, false, 0, false)) := ⟨_, _, _, rfl, by decide, rfl, (am_gw_in (am_wd_mem 1 93 rfl) rfl), rfl, rfl⟩
theorem pfk_1_51 : am_fokP RX1 (51, (1, 4, false, 2, false)) := ⟨_, _, _, rfl, by decide, rfl, (am_gw_in (am_wd_mem 1 97 rfl) rfl), rfl, rfl⟩
theorem pfk_1_77 : am_fokP RX1 (77, (1, 3, false, 0, false)) := ⟨_, _, _, rfl, by decide, rfl, (am_gw_in (am_wd_mem 1 96 rfl) rfl), rfl, rfl⟩
theorem am_pf_ok_1 : ∀ e ∈ pf1, am_fokP RX1 e := List.forall_mem_cons.mpr ⟨pfk_1_9, List.forall_mem_cons.mpr ⟨pfk_1_15, List.forall_mem_cons.mpr ⟨pfk_1_18, List.forall_mem_cons.mpr ⟨pfk_1_21, List.forall_mem_cons.mpr ⟨pfk_1_24, List.forall_mem_cons.mpr ⟨pfk_1_32, List.forall_mem_cons.mpr ⟨pfk_1_36, List.forall_mem_cons.mpr ⟨pfk_1_39, List.forall_mem_cons.mpr ⟨pfk_1_51, List.forall_mem_cons.mpr ⟨pfk_1_77, (fun _ h => absurd h List.not_mem_nil)⟩⟩⟩⟩⟩⟩⟩⟩⟩⟩
theorem am_pf_ok_2 : ∀ e ∈ pf2, am_fokP RX2 e := (fun _ h => absurd h List.not_mem_nil)
theorem pfk_3_9 : am_fokP RX3 (9, (2, 0, false, 3, true)) := ⟨_, _, _, rfl, by decide, rfl, (am_gw_in (am_wd_mem 1 133 rfl) rfl), rfl, rfl⟩
theorem pfk_3_19 : am_fokP RX3 (19, (2, 1, false, 0, false)) := ⟨_, _, _, rfl, by decide, rfl, (am_gw_in (am_wd_mem 1 136 rfl) rfl), rfl, rfl⟩
theorem pfk_3_23 : am_fokP RX3 (23, (2, 2, false, 0, false)) := ⟨_, _, _, rfl, by decide, rfl, (am_gw_in (am_wd_mem 1 138 rfl) rfl), rfl, rfl⟩
theorem pfk_3_26 : am_fokP RX3 (26, (2, 3, false, 0, false)) := ⟨_, _, _, rfl, by decide, rfl, (am_gw_in (am_wd_mem 1 139 rfl) rfl), rfl, rfl⟩
theorem am_pf_ok_3 : ∀ e ∈ pf3, am_fokP RX3 e := List.forall_mem_cons.mpr ⟨pfk_3_9, List.forall_mem_cons.mpr ⟨pfk_3_19, List.forall_mem_cons.mpr ⟨pfk_3_23, List.forall_mem_cons.mpr ⟨pfk_3_26, (fun _ h => absurd h List.not_mem_nil)⟩⟩⟩⟩
theorem pfk_4_7 : am_fokP RX4 (7, (2, 1, true, 0, false)) := ⟨_, _, _, rfl, by decide, rfl, am_nw_in (am_wd_mem 1 135 rfl) rfl, rfl, rfl⟩
theorem pfk_4_13 : am_fokP RX4 (13, (3, 0, false, 3, true)) := ⟨_, _, _, rfl, by decide, rfl, (am_gw_in (am_wd_mem 3 51 rfl) rfl), rfl, rfl⟩
theorem pfk_4_19 : am_fokP RX4 (19, (3, 1, false, 3, true)) := ⟨_, _, _, rfl, by decide, rfl, (am_gw_in (am_wd_mem 3 52 rfl) rfl), rfl, rfl⟩
theorem pfk_4_22 : am_fokP RX4 (22, (3, 2, false, 3, true)) := ⟨_, _, _, rfl, by decide, rfl, (am_gw_in (am_wd_mem 3 53 rfl) rfl), rfl, rfl⟩
theorem pfk_4_41 : am_fokP RX4 (41, (3, 4, false, 0, false)) := ⟨_, _, _, rfl, by decide, rfl, (am_gw_in (am_wd_mem 3 55 rfl) rfl), rfl, rfl⟩
theorem pfk_4_51 : am_fokP RX4 (51, (3, 5, false, 0, false)) := ⟨_, _, _, rfl, by decide, rfl, (am_gw_in (am_wd_mem 3 56 rfl) rfl), rfl, rfl⟩
theorem pfk_4_54 : am_fokP RX4 (54, (3, 3, false, 0, false)) := ⟨_, _, _, rfl, by decide, rfl, (am_gw_in (am_wd_mem 3 54 rfl) rfl), rfl, rfl⟩
theorem am_pf_ok_4 : ∀ e ∈ pf4, am_fokP RX4 e := List.forall_mem_cons.mpr ⟨pfk_4_7, List.forall_mem_cons.mpr ⟨pfk_4_13, List.forall_mem_cons.mpr ⟨pfk_4_19, List.forall_mem_cons.mpr ⟨pfk_4_22, List.forall_mem_cons.mpr ⟨pfk_4_41, List.forall_mem_cons.mpr ⟨pfk_4_51, List.forall_mem_cons.mpr ⟨pfk_4_54, (fun _ h => absurd h List.not_mem_nil)⟩⟩⟩⟩⟩⟩⟩
theorem pfk_5_9 : am_fokP RX5 (9, (4, 5, false, 3, true)) := ⟨_, _, _, rfl, by decide, rfl, (am_gw_in (am_wd_mem 1 167 rfl) rfl), rfl, rfl⟩
theorem pfk_5_15 : am_fokP RX5 (15, (4, 6, false, 3, true)) := ⟨_, _, _, rfl, by decide, rfl, (am_gw_in (am_wd_mem 1 169 rfl) rfl), rfl, rfl⟩
theorem pfk_5_18 : am_fokP RX5 (18, (4, 7, false, 0, false)) := ⟨_, _, _, rfl, by decide, rfl, (am_gw_in (am_wd_mem 1 170 rfl) rfl), rfl, rfl⟩
theorem pfk_5_22 : am_fokP RX5 (22, (4, 8, false, 0, false)) := ⟨_, _, _, rfl, by decide, rfl, (am_gw_in (am_wd_mem 1 171 rfl) rfl), rfl, rfl⟩
theorem pfk_5_25 : am_fokP RX5 (25, (4, 9, false, 0, false)) := ⟨_, _, _, rfl, by decide, rfl, (am_gw_in (am_wd_mem 1 172 rfl) rfl), rfl, rfl⟩
theorem pfk_5_28 : am_fokP RX5 (28, (4, 10, false, 0, false)) := ⟨_, _, _, rfl, by decide, rfl, (am_gw_in (am_wd_mem 1 173 rfl) rfl), rfl, rfl⟩
theorem pfk_5_31 : am_fokP RX5 (31, (4, 0, false, 1, false)) := ⟨_, _, _, rfl, by decide, rfl, (am_gw_in (am_wd_mem 1 157 rfl) rfl), rfl, rfl⟩
theorem pfk_5_35 : am_fokP RX5 (35, (4, 11, false, 0, false)) := ⟨_, _, _, rfl, by decide, rfl, (am_gw_in (am_wd_mem 1 174 rfl) rfl), rfl, rfl⟩
theorem pfk_5_38 : am_fokP RX5 (38, (4, 12, false, 0, false)) := ⟨_, _, _, rfl, by decide, rfl, (am_gw_in (am_wd_mem 1 175 rfl) rfl), rfl, rfl⟩
theorem pfk_5_58 : am_fokP RX5 (58, (4, 1, false, 0, false)) := ⟨_, _, _, rfl, by decide, rfl, (am_gw_in (am_wd_mem 1 159 rfl) rfl), rfl, rfl⟩
theorem pfk_5_69 : am_fokP RX5 (69, (4, 2, false, 0, false)) := ⟨_, _, _, rfl, by decide, rfl, (am_gw_in (am_wd_mem 1 161 rfl) rfl), rfl, rfl⟩
theorem pfk_5_72 : am_fokP RX5 (72, (4, 3, false, 0, false)) := ⟨_, _, _, rfl, by decide, rfl, (am_gw_in (am_wd_mem 1 163 rfl) rfl), rfl, rfl⟩
theorem pfk_5_75 : am_fokP RX5 (75, (4, 4, false, 0, false)) := ⟨_, _, _, rfl, by decide, rfl, (am_gw_in (am_wd_mem 1 165 rfl) rfl), rfl, rfl⟩
theorem am_pf_ok_5 : ∀ e ∈ pf5, am_fokP RX5 e := List.forall_mem_cons.mpr ⟨pfk_5_9, List.forall_mem_cons.mpr ⟨pfk_5_15, List.forall_mem_cons.mpr ⟨pfk_5_18, List.forall_mem_cons.mpr ⟨pfk_5_22, List.forall_mem_cons.mpr ⟨pfk_5_25, List.forall_mem_cons.mpr ⟨pfk_5_28, List.forall_mem_cons.mpr ⟨pfk_5_31, List.forall_mem_cons.mpr ⟨pfk_5_35, List.forall_mem_cons.mpr ⟨pfk_5_38, List.forall_mem_cons.mpr ⟨pfk_5_58, List.forall_mem_cons.mpr ⟨pfk_5_69, List.forall_mem_cons.mpr ⟨pfk_5_72, List.forall_mem_cons.mpr ⟨pfk_5_75, (fun _ h => absurd h List.not_mem_nil)⟩⟩⟩⟩⟩⟩⟩⟩⟩⟩⟩⟩⟩
theorem pfk_6_9 : am_fokP RX6 (9, (5, 0, false, 3, true)) := ⟨_, _, _, rfl, by decide, rfl, (am_gw_in (am_wd_mem 1 26 rfl) rfl), rfl, rfl⟩
theorem pfk_6_15 : am_fokP RX6 (15, (5, 1, false, 3, true)) := ⟨_, _, _, rfl, by decide, rfl, (am_gw_in (am_wd_mem 1 27 rfl) rfl), rfl, rfl⟩
theorem pfk_6_18 : am_fokP RX6 (18, (5, 2, false, 3, true)) := ⟨_, _, _, rfl, by decide, rfl, (am_gw_in (am_wd_mem 1 28 rfl) rfl), rfl, rfl⟩
theorem pfk_6_21 : am_fokP RX6 (21, (5, 3, false, 3, true)) := ⟨_, _, _, rfl, by decide, rfl, (am_gw_in (am_wd_mem 1 29 rfl) rfl), rfl, rfl⟩
theorem pfk_6_32 : am_fokP RX6 (32, (5, 4, false, 0, false)) := ⟨_, _, _, rfl, by decide, rfl, (am_gw_in (am_wd_mem 1 30 rfl) rfl), rfl, rfl⟩
theorem pfk_6_36 : am_fokP RX6 (36, (5, 6, false, 0, false)) := ⟨_, _, _, rfl, by decide, rfl, (am_gw_in (am_wd_mem 1 32 rfl) rfl), rfl, rfl⟩
theorem pfk_6_39 : am_fokP RX6 (39, (5, 7, false, 0, false)) := ⟨_, _, _, rfl, by decide, rfl, (am_gw_in (am_wd_mem 1 33 rfl) rfl), rfl, rfl⟩
theorem pfk_6_46 : am_fokP RX6 (46, (5, 5, false, 0, false)) := ⟨_, _, _, rfl, by decide, rfl, (am_gw_in (am_wd_mem 1 31 rfl) rfl), rfl, rfl⟩
theorem am_pf_ok_6 : ∀ e ∈ pf6, am_fokP RX6 e := List.forall_mem_cons.mpr ⟨pfk_6_9, List.forall_mem_cons.mpr ⟨pfk_6_15, List.forall_mem_cons.mpr ⟨pfk_6_18, List.forall_mem_cons.mpr ⟨pfk_6_21, List.forall_mem_cons.mpr ⟨pfk_6_32, List.forall_mem_cons.mpr ⟨pfk_6_36, List.forall_mem_cons.mpr ⟨pfk_6_39, List.forall_mem_cons.mpr ⟨pfk_6_46, (fun _ h => absurd h List.not_mem_nil)⟩⟩⟩⟩⟩⟩⟩⟩
theorem pfk_7_10 : am_fokP RX7 (10, (6, 0, false, 3, true)) := ⟨_, _, _, rfl, by decide, rfl, (am_gw_in (am_wd_mem 1 217 rfl) rfl), rfl, rfl⟩
theorem pfk_7_18 : am_fokP RX7 (18, (6, 1, false, 3, true)) := ⟨_, _, _, rfl, by decide, rfl, (am_gw_in (am_wd_mem 1 218 rfl) rfl), rfl, rfl⟩
theorem pfk_7_26 : am_fokP RX7 (26, (6, 2, false, 3, true)) := ⟨_, _, _, rfl, by decide, rfl, (am_gw_in (am_wd_mem 1 219 rfl) rfl), rfl, rfl⟩
theorem pfk_7_32 : am_fokP RX7 (32, (6, 3, false, 3, true)) := ⟨_, _, _, rfl, by decide, rfl, (am_gw_in (am_wd_mem 1 220 rfl) rfl), rfl, rfl⟩
theorem pfk_7_39 : am_fokP RX7 (39, (6, 4, false, 3, true)) := ⟨_, _, _, rfl, by decide, rfl, (am_gw_in (am_wd_mem 1 221 rfl) rfl), rfl, rfl⟩
theorem pfk_7_46 : am_fokP RX7 (46, (6, 5, false, 3, true)) := ⟨_, _, _, rfl, by decide, rfl, (am_gw_in (am_wd_mem 1 222 rfl) rfl), rfl, rfl⟩
theorem pfk_7_61 : am_fokP RX7 (61, (1, 0, true, 0, false)) := ⟨_, _, _, rfl, by decide, rfl, am_nw_in (am_wd_mem 1 90 rfl) rfl, rfl, rfl⟩
theorem pfk_7_111 : am_fokP RX7 (111, (1, 3, true, 0, false)) := ⟨_, _, _, rfl, by decide, rfl, am_nw_in (am_wd_mem 1 95 rfl) rfl, rfl, rfl⟩
theorem pfk_7_114 : am_fokP RX7 (114, (1, 1, true, 0, false)) := ⟨_, _, _, rfl, by decide, rfl, am_nw_in (am_wd_mem 1 92 rfl) rfl, rfl, rfl⟩
theorem pfk_7_117 : am_fokP RX7 (117, (1, 2, true, 0, false)) := ⟨_, _, _, rfl, by decide, rfl, am_nw_in (am_wd_mem 1 94 rfl) rfl, rfl, rfl⟩
theorem pfk_7_120 : am_fokP RX7 (120, (1, 4, true, 2, false)) := ⟨_, _, _, rfl, by decide, rfl, am_nw_in (am_wd_mem 1 98 rfl) rfl, rfl, rfl⟩
theorem pfk_7_133 : am_fokP RX7 (133, (1, 5, true, 3, true)) := ⟨_, _, _, rfl, by decide, rfl, am_nw_in (am_wd_mem 1 100 rfl) rfl, rfl, rfl⟩
theorem pfk_7_165 : am_fokP RX7 (165, (6, 7, false, 0, false)) := ⟨_, _, _, rfl, by decide, rfl, (am_gw_in (am_wd_mem 1 224 rfl) rfl), rfl, rfl⟩
theorem pfk_7_172 : am_fokP RX7 (172, (4, 0, true, 1, false)) := ⟨_, _, _, rfl, by decide, rfl, am_nw_in (am_wd_mem 1 158 rfl) rfl, rfl, rfl⟩
theorem pfk_7_176 : am_fokP RX7 (176, (4, 1, true, 0, false)) := ⟨_, _, _, rfl, by decide, rfl, am_nw_in (am_wd_mem 1 160 rfl) rfl, rfl, rfl⟩
theorem pfk_7_179 : am_fokP RX7 (179, (4, 2, true, 0, false)) := ⟨_, _, _, rfl, by decide, rfl, am_nw_in (am_wd_mem 1 162 rfl) rfl, rfl, rfl⟩
theorem pfk_7_182 : am_fokP RX7 (182, (4, 3, true, 0, false)) := ⟨_, _, _, rfl, by decide, rfl, am_nw_in (am_wd_mem 1 164 rfl) rfl, rfl, rfl⟩
theorem pfk_7_185 : am_fokP RX7 (185, (4, 4, true, 0, false)) := ⟨_, _, _, rfl, by decide, rfl, am_nw_in (am_wd_mem 1 166 rfl) rfl, rfl, rfl⟩
theorem pfk_7_188 : am_fokP RX7 (188, (4, 5, true, 3, true)) := ⟨_, _, _, rfl, by decide, rfl, am_nw_in (am_wd_mem 1 168 rfl) rfl, rfl, rfl⟩
theorem pfk_7_194 : am_fokP RX7 (194, (2, 1, true, 0, false)) := ⟨_, _, _, rfl, by decide, rfl, am_nw_in (am_wd_mem 1 137 rfl) rfl, rfl, rfl⟩
theorem pfk_7_208 : am_fokP RX7 (208, (6, 6, false, 0, false)) := ⟨_, _, _, rfl, by decide, rfl, (am_gw_in (am_wd_mem 1 223 rfl) rfl), rfl, rfl⟩
theorem pfk_7_226 : am_fokP RX7 (226, (3, 5, true, 0, false)) := ⟨_, _, _, rfl, by decide, rfl, am_nw_in (am_wd_mem 3 57 rfl) rfl, rfl, rfl⟩
theorem pfk_7_251 : am_fokP RX7 (251, (0, 0, true, 3, true)) := ⟨_, _, _, rfl, by decide, rfl, am_nw_in (am_wd_mem 1 210 rfl) rfl, rfl, rfl⟩
theorem pfk_7_254 : am_fokP RX7 (254, (6, 8, false, 0, false)) := ⟨_, _, _, rfl, by decide, rfl, (am_gw_in (am_wd_mem 1 225 rfl) rfl), rfl, rfl⟩
theorem pfk_7_291 : am_fokP RX7 (291, (2, 0, true, 3, true)) := ⟨_, _, _, rfl, by decide, rfl, am_nw_in (am_wd_mem 1 134 rfl) rfl, rfl, rfl⟩
theorem am_pf_ok_7 : ∀ e ∈ pf7, am_fokP RX7 e := List.forall_mem_cons.mpr ⟨pfk_7_10, List.forall_mem_cons.mpr ⟨pfk_7_18, List.forall_mem_cons.mpr ⟨pfk_7_26, List.forall_mem_cons.mpr ⟨pfk_7_32, List.forall_mem_cons.mpr ⟨pfk_7_39, List.forall_mem_cons.mpr ⟨pfk_7_46, List.forall_mem_cons.mpr ⟨pfk_7_61, List.forall_mem_cons.mpr ⟨pfk_7_111, List.forall_mem_cons.mpr ⟨pfk_7_114, List.forall_mem_cons.mpr ⟨pfk_7_117, List.forall_mem_cons.mpr ⟨pfk_7_120, List.forall_mem_cons.mpr ⟨pfk_7_133, List.forall_mem_cons.mpr ⟨pfk_7_165, List.forall_mem_cons.mpr ⟨pfk_7_172, List.forall_mem_cons.mpr ⟨pfk_7_176, List.forall_mem_cons.mpr ⟨pfk_7_179, List.forall_mem_cons.mpr ⟨pfk_7_182, List.forall_mem_cons.mpr ⟨pfk_7_185, List.forall_mem_cons.mpr ⟨pfk_7_188, List.forall_mem_cons.mpr ⟨pfk_7_194, List.forall_mem_cons.mpr ⟨pfk_7_208, List.forall_mem_cons.mpr ⟨pfk_7_226, List.forall_mem_cons.mpr ⟨pfk_7_251, List.forall_mem_cons.mpr ⟨pfk_7_254, List.forall_mem_cons.mpr ⟨pfk_7_291, (fun _ h => absurd h List.not_mem_nil)⟩⟩⟩⟩⟩⟩⟩⟩⟩⟩⟩⟩⟩⟩⟩⟩⟩⟩⟩⟩⟩⟩⟩⟩⟩
theorem pfk_8_7 : am_fokP RX8 (7, (7, 0, false, 3, true)) := ⟨_, _, _, rfl, by decide, rfl, (am_gw_in (am_wd_mem 4 21 rfl) rfl), rfl, rfl⟩
theorem pfk_8_13 : am_fokP RX8 (13, (7, 1, false, 3, true)) := ⟨_, _, _, rfl, by decide, rfl, (am_gw_in (am_wd_mem 4 22 rfl) rfl), rfl, rfl⟩
theorem pfk_8_16 : am_fokP RX8 (16, (7, 2, false, 3, true)) := ⟨_, _, _, rfl, by decide, rfl, (am_gw_in (am_wd_mem 4 23 rfl) rfl), rfl, rfl⟩
theorem pfk_8_20 : am_fokP RX8 (20, (7, 4, false, 3, true)) := ⟨_, _, _, rfl, by decide, rfl, (am_gw_in (am_wd_mem 4 25 rfl) rfl), rfl, rfl⟩
theorem pfk_8_23 : am_fokP RX8 (23, (7, 5, false, 3, true)) := ⟨_, _, _, rfl, by decide, rfl, (am_gw_in (am_wd_mem 4 26 rfl) rfl), rfl, rfl⟩
theorem pfk_8_26 : am_fokP RX8 (26, (7, 6, false, 3, true)) := ⟨_, _, _, rfl, by decide, rfl, (am_gw_in (am_wd_mem 4 27 rfl) rfl), rfl, rfl⟩
theorem pfk_8_29 : am_fokP RX8 (29, (7, 8, false, 3, true)) := ⟨_, _, _, rfl, by decide, rfl, (am_gw_in (am_wd_mem 4 29 rfl) rfl), rfl, rfl⟩
theorem pfk_8_32 : am_fokP RX8 (32, (7, 9, false, 3, true)) := ⟨_, _, _, rfl, by decide, rfl, (am_gw_in (am_wd_mem 4 30 rfl) rfl), rfl, rfl⟩
theorem pfk_8_35 : am_fokP RX8 (35, (7, 10, false, 3, true)) := ⟨_, _, _, rfl, by decide, rfl, (am_gw_in (am_wd_mem 4 31 rfl) rfl), rfl, rfl⟩
theorem pfk_8_38 : am_fokP RX8 (38, (7, 11, false, 3, true)) := ⟨_, _, _, rfl, by decide, rfl, (am_gw_in (am_wd_mem 4 32 rfl) rfl), rfl, rfl⟩
theorem pfk_8_41 : am_fokP RX8 (41, (7, 12, false, 3, true)) := ⟨_, _, _, rfl, by decide, rfl, (am_gw_in (am_wd_mem 4 33 rfl) rfl), rfl, rfl⟩
theorem pfk_8_44 : am_fokP RX8 (44, (7, 13, false, 3, true)) := ⟨_, _, _, rfl, by decide, rfl, (am_gw_in (am_wd_mem 4 34 rfl) rfl), rfl, rfl⟩
theorem pfk_8_47 : am_fokP RX8 (47, (7, 14, false, 3, true)) := ⟨_, _, _, rfl, by decide, rfl, (am_gw_in (am_wd_mem 4 35 rfl) rfl), rfl, rfl⟩
theorem pfk_8_50 : am_fokP RX8 (50, (7, 15, false, 3, true)) := ⟨_, _, _, rfl, by decide, rfl, (am_gw_in (am_wd_mem 4 36 rfl) rfl), rfl, rfl⟩
theorem pfk_8_53 : am_fokP RX8 (53, (7, 24, false, 3, true)) := ⟨_, _, _, rfl, by decide, rfl, (am_gw_in (am_wd_mem 4 45 rfl) rfl), rfl, rfl⟩
theorem pfk_8_56 : am_fokP RX8 (56, (7, 25, false, 3, true)) := ⟨_, _, _, rfl, by decide, rfl, (am_gw_in (am_wd_mem 4 46 rfl) rfl), rfl, rfl⟩
theorem pfk_8_59 : am_fokP RX8 (59, (7, 28, false, 3, true)) := ⟨_, _, _, rfl, by decide, rfl, (am_gw_in (am_wd_mem 4 49 rfl) rfl), rfl, rfl⟩
theorem pfk_8_62 : am_fokP RX8 (62, (7, 29, false, 3, true)) := ⟨_, _, _, rfl, by decide, rfl, (am_gw_in (am_wd_mem 4 50 rfl) rfl), rfl, rfl⟩
theorem pfk_8_65 : am_fokP RX8 (65, (7, 30, false, 3, true)) := ⟨_, _, _, rfl, by decide, rfl, (am_gw_in (am_wd_mem 4 51 rfl) rfl), rfl, rfl⟩
theorem pfk_8_68 : am_fokP RX8 (68, (7, 37, false, 3, true)) := ⟨_, _, _, rfl, by decide, rfl, (am_gw_in (am_wd_mem 4 58 rfl) rfl), rfl, rfl⟩
theorem pfk_8_71 : am_fokP RX8 (71, (7, 38, false, 3, true)) := ⟨_, _, _, rfl, by decide, rfl, (am_gw_in (am_wd_mem 4 59 rfl) rfl), rfl, rfl⟩
theorem pfk_8_74 : am_fokP RX8 (74, (7, 40, false, 3, true)) := ⟨_, _, _, rfl, by decide, rfl, (am_gw_in (am_wd_mem 4 61 rfl) rfl), rfl, rfl⟩
theorem pfk_8_77 : am_fokP RX8 (77, (7, 42, false, 3, true)) := ⟨_, _, _, rfl, by decide, rfl, (am_gw_in (am_wd_mem 4 63 rfl) rfl), rfl, rfl⟩
theorem pfk_8_80 : am_fokP RX8 (80, (7, 43, false, 3, true)) := ⟨_, _, _, rfl, by decide, rfl, (am_gw_in (am_wd_mem 4 64 rfl) rfl), rfl, rfl⟩
theorem pfk_8_83 : am_fokP RX8 (83, (7, 44, false, 3, true)) := ⟨_, _, _, rfl, by decide, rfl, (am_gw_in (am_wd_mem 4 65 rfl) rfl), rfl, rfl⟩
theorem pfk_8_106 : am_fokP RX8 (106, (7, 7, false, 0, false)) := ⟨_, _, _, rfl, by decide, rfl, (am_gw_in (am_wd_mem 4 28 rfl) rfl), rfl, rfl⟩
theorem pfk_8_110 : am_fokP RX8 (110, (7, 3, false, 0, false)) := ⟨_, _, _, rfl, by decide, rfl, (am_gw_in (am_wd_mem 4 24 rfl) rfl), rfl, rfl⟩
theorem pfk_8_147 : am_fokP RX8 (147, (7, 16, false, 0, false)) := ⟨_, _, _, rfl, by decide, rfl, (am_gw_in (am_wd_mem 4 37 rfl) rfl), rfl, rfl⟩
theorem pfk_8_172 : am_fokP RX8 (172, (7, 17, false, 0, false)) := ⟨_, _, _, rfl, by decide, rfl, (am_gw_in (am_wd_mem 4 38 rfl) rfl), rfl, rfl⟩
theorem pfk_8_175 : am_fokP RX8 (175, (7, 18, false, 0, false)) := ⟨_, _, _, rfl, by decide, rfl, (am_gw_in (am_wd_mem 4 39 rfl) rfl), rfl, rfl⟩
theorem pfk_8_231 : am_fokP RX8 (231, (7, 20, false, 0, false)) := ⟨_, _, _, rfl, by decide, rfl, (am_gw_in (am_wd_mem 4 41 rfl) rfl), rfl, rfl⟩
theorem pfk_8_234 : am_fokP RX8 (234, (7, 21, false, 0, false)) := ⟨_, _, _, rfl, by decide, rfl, (am_gw_in (am_wd_mem 4 42 rfl) rfl), rfl, rfl⟩
theorem pfk_8_237 : am_fokP RX8 (237, (7, 22, false, 0, false)) := ⟨_, _, _, rfl, by decide, rfl, (am_gw_in (am_wd_mem 4 43 rfl) rfl), rfl, rfl⟩
theorem pfk_8_240 : am_fokP RX8 (240, (7, 23, false, 0, false)) := ⟨_, _, _, rfl, by decide, rfl, (am_gw_in (am_wd_mem 4 44 rfl) rfl), rfl, rfl⟩
theorem pfk_8_251 : am_fokP RX8 (251, (7, 19, false, 0, false)) := ⟨_, _, _, rfl, by decide, rfl, (am_gw_in (am_wd_mem 4 40 rfl) rfl), rfl, rfl⟩
theorem pfk_8_259 : am_fokP RX8 (259, (7, 26, false, 0, false)) := ⟨_, _, _, rfl, by decide, rfl, (am_gw_in (am_wd_mem 4 47 rfl) rfl), rfl, rfl⟩
theorem pfk_8_262 : am_fokP RX8 (262, (7, 39, false, 0, false)) := ⟨_, _, _, rfl, by decide, rfl, (am_gw_in (am_wd_mem 4 60 rfl) rfl), rfl, rfl⟩
theorem pfk_8_265 : am_fokP RX8 (265, (7, 41, false, 0, false)) := ⟨_, _, _, rfl, by decide, rfl, (am_gw_in (am_wd_mem 4 62 rfl) rfl), rfl, rfl⟩
theorem pfk_8_271 : am_fokP RX8 (271, (7, 36, false, 1, false)) := ⟨_, _, _, rfl, by decide, rfl, (am_gw_in (am_wd_mem 4 57 rfl) rfl), rfl, rfl⟩
theorem pfk_8_275 : am_fokP RX8 (275, (7, 33, false, 0, false)) := ⟨_, _, _, rfl, by decide, rfl, (am_gw_in (am_wd_mem 4 54 rfl) rfl), rfl, rfl⟩
theorem pfk_8_278 : am_fokP RX8 (278, (7, 34, false, 0, false)) := ⟨_, _, _, rfl, by decide, rfl, (am_gw_in (am_wd_mem 4 55 rfl) rfl), rfl, rfl⟩
theorem pfk_8_281 : am_fokP RX8 (281, (7, 35, false, 0, false)) := ⟨_, _, _, rfl, by decide, rfl, (am_gw_in (am_wd_mem 4 56 rfl) rfl), rfl, rfl⟩
theorem pfk_8_290 : am_fokP RX8 (290, (7, 31, false, 0, false)) := ⟨_, _, _, rfl, by decide, rfl, (am_gw_in (am_wd_mem 4 52 rfl) rfl), rfl, rfl⟩
theorem pfk_8_293 : am_fokP RX8 (293, (7, 32, false, 0, false)) := ⟨_, _, _, rfl, by decide, rfl, (am_gw_in (am_wd_mem 4 53 rfl) rfl), rfl, rfl⟩
theorem pfk_8_309 : am_fokP RX8 (309, (7, 27, false, 0, false)) := ⟨_, _, _, rfl, by decide, rfl, (am_gw_in (am_wd_mem 4 48 rfl) rfl), rfl, rfl⟩
theorem pfk_8_355 : am_fokP RX8 (355, (7, 45, false, 0, false)) := ⟨_, _, _, rfl, by decide, rfl, (am_gw_in (am_wd_mem 4 66 rfl) rfl), rfl, rfl⟩
theorem am_pf_ok_8 : ∀ e ∈ pf8, am_fokP RX8 e := List.forall_mem_cons.mpr ⟨pfk_8_7, List.forall_mem_cons.mpr ⟨pfk_8_13, List.forall_mem_cons.mpr ⟨pfk_8_16, List.forall_mem_cons.mpr ⟨pfk_8_20, List.forall_mem_cons.mpr ⟨pfk_8_23, List.forall_mem_cons.mpr ⟨pfk_8_26, List.forall_mem_cons.mpr ⟨pfk_8_29, List.forall_mem_cons.mpr ⟨pfk_8_32, List.forall_mem_cons.mpr ⟨pfk_8_35, List.forall_mem_cons.mpr ⟨pfk_8_38, List.forall_mem_cons.mpr ⟨pfk_8_41, List.forall_mem_cons.mpr ⟨pfk_8_44, List.forall_mem_cons.mpr ⟨pfk_8_47, List.forall_mem_cons.mpr ⟨pfk_8_50, List.forall_mem_cons.mpr ⟨pfk_8_53, List.forall_mem_cons.mpr ⟨pfk_8_56, List.forall_mem_cons.mpr ⟨pfk_8_59, List.forall_mem_cons.mpr ⟨pfk_8_62, List.forall_mem_cons.mpr ⟨pfk_8_65, List.forall_mem_cons.mpr ⟨pfk_8_68, List.forall_mem_cons.mpr ⟨pfk_8_71, List.forall_mem_cons.mpr ⟨pfk_8_74, List.forall_mem_cons.mpr ⟨pfk_8_77, List.forall_mem_cons.mpr ⟨pfk_8_80, List.forall_mem_cons.mpr ⟨pfk_8_83, List.forall_mem_cons.mpr ⟨pfk_8_106, List.forall_mem_cons.mpr ⟨pfk_8_110, List.forall_mem_cons.mpr ⟨pfk_8_147, List.forall_mem_cons.mpr ⟨pfk_8_172, List.forall_mem_cons.mpr ⟨pfk_8_175, List.forall_mem_cons.mpr ⟨pfk_8_231, List.forall_mem_cons.mpr ⟨pfk_8_234, List.forall_mem_cons.mpr ⟨pfk_8_237, List.forall_mem_cons.mpr ⟨pfk_8_240, List.forall_mem_cons.mpr ⟨pfk_8_251, List.forall_mem_cons.mpr ⟨pfk_8_259, List.forall_mem_cons.mpr ⟨pfk_8_262, List.forall_mem_cons.mpr ⟨pfk_8_265, List.forall_mem_cons.mpr ⟨pfk_8_271, List.forall_mem_cons.mpr ⟨pfk_8_275, List.forall_mem_cons.mpr ⟨pfk_8_278, List.forall_mem_cons.mpr ⟨pfk_8_281, List.forall_mem_cons.mpr ⟨pfk_8_290, List.forall_mem_cons.mpr ⟨pfk_8_293, List.forall_mem_cons.mpr ⟨pfk_8_309, List.forall_mem_cons.mpr ⟨pfk_8_355, (fun _ h => absurd h List.not_mem_nil)⟩⟩⟩⟩⟩⟩⟩⟩⟩⟩⟩⟩⟩⟩⟩⟩⟩⟩⟩⟩⟩⟩⟩⟩⟩⟩⟩⟩⟩⟩⟩⟩⟩⟩⟩⟩⟩⟩⟩⟩⟩⟩⟩⟩⟩⟩
theorem am_pf_ok_9 : ∀ e ∈ pf9, am_fokP RJ13 e := (fun _ h => absurd h List.not_mem_nil)
theorem am_pf_ok_10 : ∀ e ∈ pf10, am_fokP RJ9 e := (fun _ h => absurd h List.not_mem_nil)
theorem am_pf_ok_11 : ∀ e ∈ pf11, am_fokP RL e := (fun _ h => absurd h List.not_mem_nil)
theorem am_pf_ok (o : Nat) : ∀ e ∈ pf o, am_fokP (am_own o) e := by
  match o with
  | 0 => exact am_pf_ok_0
  | 1 => exact am_pf_ok_1
  | 2 => exact am_pf_ok_2
  | 3 => exact am_pf_ok_3
  | 4 => exact am_pf_ok_4
  | 5 => exact am_pf_ok_5
  | 6 => exact am_pf_ok_6
  | 7 => exact am_pf_ok_7
  | 8 => exact am_pf_ok_8
  | 9 => exact am_pf_ok_9
  | 10 => exact am_pf_ok_10
  | 11 => exact am_pf_ok_11
  | _ + 12 => exact fun _ h => absurd h List.not_mem_nil
theorem pmk_0_3 : am_mokP RX0 (3, (M_obj, 4, 0, 0)) := (am_gw_in (am_wd_mem 1 208 rfl) rfl)
theorem pmk_0_15 : am_mokP RX0 (15, (MX0_columnAt, 1, 2, 0)) := ⟨mt_X0_columnAt, (am_gw_in (am_wd_mem 3 153 rfl) rfl), (am_gw_in (am_wd_mem 3 154 rfl) rfl)⟩
theorem pmk_0_19 : am_mokP RX0 (19, (MX0_layByLine, 0, 1, 0)) := ⟨mt_X0_layByLine, rfl, (am_gw_in (am_wd_mem 3 160 rfl) rfl), (am_gw_in (am_wd_mem 3 162 rfl) rfl), (am_gw_in (am_wd_mem 0 20 rfl) rfl)⟩
theorem pmk_0_27 : am_mokP RX0 (27, (MX0_sortRun, 0, 5, 0)) := ⟨mt_X0_sortRun, rfl, (am_gw_in (am_wd_mem 3 166 rfl) rfl), (am_gw_in (am_wd_mem 3 168 rfl) rfl), (am_gw_in (am_wd_mem 0 21 rfl) rfl)⟩
theorem pmk_0_31 : am_mokP RX0 (31, (MX0_runEnd, 0, 4, 0)) := ⟨mt_X0_runEnd, rfl, (am_gw_in (am_wd_mem 3 174 rfl) rfl), (am_gw_in (am_wd_mem 3 176 rfl) rfl), (am_gw_in (am_wd_mem 0 22 rfl) rfl)⟩
theorem pmk_0_35 : am_mokP RX0 (35, (MJ9_max_7cf53, 5, 2, 0)) := (am_gw_in (am_wd_mem 3 181 rfl) rfl)
theorem pmk_0_40 : am_mokP RX0 (40, (MX6_rowCount, 0, 0, 5)) := ⟨mt_X6_rowCount, rfl, (am_gw_in (am_wd_mem 3 164 rfl) rfl), (am_gw_in (am_wd_mem 2 13 rfl) rfl), (am_gw_in (am_wd_mem 2 14 rfl) rfl)⟩
theorem pmk_0_45 : am_mokP RX0 (45, (MX6_hasRow, 0, 1, 5)) := ⟨mt_X6_hasRow, rfl, (am_gw_in (am_wd_mem 3 165 rfl) rfl), (am_gw_in (am_wd_mem 2 38 rfl) rfl), (am_gw_in (am_wd_mem 2 39 rfl) rfl)⟩
theorem pmk_0_49 : am_mokP RX0 (49, (MX0_alike, 1, 5, 0)) := ⟨mt_X0_alike, (am_gw_in (am_wd_mem 3 178 rfl) rfl), (am_gw_in (am_wd_mem 3 179 rfl) rfl)⟩
theorem pmk_0_53 : am_mokP RX0 (53, (MX6_number, 0, 2, 5)) := ⟨mt_X6_number, rfl, (am_gw_in (am_wd_mem 3 170 rfl) rfl), (am_gw_in (am_wd_mem 2 75 rfl) rfl), (am_gw_in (am_wd_mem 2 76 rfl) rfl)⟩
theorem pmk_0_56 : am_mokP RX0 (56, (MX0_isBehind, 1, 3, 0)) := ⟨mt_X0_isBehind, (am_gw_in (am_wd_mem 3 171 rfl) rfl), (am_gw_in (am_wd_mem 3 172 rfl) rfl)⟩
theorem am_pm_ok_0 : ∀ e ∈ pm0, am_mokP RX0 e := List.forall_mem_cons.mpr ⟨pmk_0_3, List.forall_mem_cons.mpr ⟨pmk_0_15, List.forall_mem_cons.mpr ⟨pmk_0_19, List.forall_mem_cons.mpr ⟨pmk_0_27, List.forall_mem_cons.mpr ⟨pmk_0_31, List.forall_mem_cons.mpr ⟨pmk_0_35, List.forall_mem_cons.mpr ⟨pmk_0_40, List.forall_mem_cons.mpr ⟨pmk_0_45, List.forall_mem_cons.mpr ⟨pmk_0_49, List.forall_mem_cons.mpr ⟨pmk_0_53, List.forall_mem_cons.mpr ⟨pmk_0_56, (fun _ h => absurd h List.not_mem_nil)⟩⟩⟩⟩⟩⟩⟩⟩⟩⟩⟩
theorem pmk_1_3 : am_mokP RX1 (3, (M_obj, 4, 0, 0)) := (am_gw_in (am_wd_mem 1 58 rfl) rfl)
theorem pmk_1_28 : am_mokP RX1 (28, (MX1_resize, 0, 1, 1)) := ⟨mt_X1_resize, rfl, (am_gw_in (am_wd_mem 1 59 rfl) rfl), (am_gw_in (am_wd_mem 1 60 rfl) rfl), (am_gw_in (am_wd_mem 1 61 rfl) rfl)⟩
theorem pmk_1_42 : am_mokP RX1 (42, (MX1_settle, 0, 0, 1)) := ⟨mt_X1_settle, rfl, (am_gw_in (am_wd_mem 1 63 rfl) rfl), (am_gw_in (am_wd_mem 1 65 rfl) rfl), (am_gw_in (am_wd_mem 0 0 rfl) rfl)⟩
theorem pmk_1_45 : am_mokP RX1 (45, (MJ9_max_7cf53, 5, 2, 0)) := (am_gw_in (am_wd_mem 1 78 rfl) rfl)
theorem pmk_1_55 : am_mokP RX1 (55, (MX1_has, 0, 1, 1)) := ⟨mt_X1_has, rfl, (am_gw_in (am_wd_mem 2 148 rfl) rfl), (am_gw_in (am_wd_mem 2 30 rfl) rfl), (am_gw_in (am_wd_mem 2 31 rfl) rfl)⟩
theorem pmk_1_59 : am_mokP RX1 (59, (MX1_takeTold, 0, 1, 1)) := ⟨mt_X1_takeTold, rfl, (am_gw_in (am_wd_mem 2 99 rfl) rfl), (am_gw_in (am_wd_mem 2 101 rfl) rfl), (am_gw_in (am_wd_mem 0 4 rfl) rfl)⟩
theorem pmk_1_63 : am_mokP RX1 (63, (MX1_isDesign, 0, 3, 1)) := ⟨mt_X1_isDesign, rfl, (am_gw_in (am_wd_mem 2 104 rfl) rfl), (am_gw_in (am_wd_mem 2 106 rfl) rfl), (am_gw_in (am_wd_mem 0 5 rfl) rfl)⟩
theorem pmk_1_69 : am_mokP RX1 (69, (MX2_roomOf, 1, 2, 0)) := ⟨mt_X2_roomOf, (am_gw_in (am_wd_mem 1 67 rfl) rfl), (am_gw_in (am_wd_mem 1 68 rfl) rfl)⟩
theorem pmk_1_74 : am_mokP RX1 (74, (MX2_tellJust, 1, 3, 0)) := ⟨mt_X2_tellJust, (am_gw_in (am_wd_mem 2 108 rfl) rfl), (am_gw_in (am_wd_mem 2 109 rfl) rfl)⟩
theorem pmk_1_80 : am_mokP RX1 (80, (MX1_slicesByFigures, 0, 1, 1)) := ⟨mt_X1_slicesByFigures, rfl, (am_gw_in (am_wd_mem 1 70 rfl) rfl), (am_gw_in (am_wd_mem 1 72 rfl) rfl), (am_gw_in (am_wd_mem 0 1 rfl) rfl)⟩
theorem pmk_1_84 : am_mokP RX1 (84, (MX1_figureOf, 0, 2, 1)) := ⟨mt_X1_figureOf, rfl, (am_gw_in (am_wd_mem 1 74 rfl) rfl), (am_gw_in (am_wd_mem 1 76 rfl) rfl), (am_gw_in (am_wd_mem 0 2 rfl) rfl)⟩
theorem pmk_1_87 : am_mokP RX1 (87, (MX2_slicesOfFigure, 1, 3, 0)) := ⟨mt_X2_slicesOfFigure, (am_gw_in (am_wd_mem 1 81 rfl) rfl), (am_gw_in (am_wd_mem 1 82 rfl) rfl)⟩
theorem pmk_1_91 : am_mokP RX1 (91, (MX2_readForFigure, 1, 3, 0)) := ⟨mt_X2_readForFigure, (am_gw_in (am_wd_mem 2 157 rfl) rfl), (am_gw_in (am_wd_mem 2 158 rfl) rfl)⟩
theorem pmk_1_94 : am_mokP RX1 (94, (MX2_readBelowFigure, 1, 3, 0)) := ⟨mt_X2_readBelowFigure, (am_gw_in (am_wd_mem 2 165 rfl) rfl), (am_gw_in (am_wd_mem 2 166 rfl) rfl)⟩
theorem pmk_1_97 : am_mokP RX1 (97, (MX2_costOf, 1, 6, 0)) := ⟨mt_X2_costOf, (am_gw_in (am_wd_mem 2 179 rfl) rfl), (am_gw_in (am_wd_mem 2 180 rfl) rfl)⟩
theorem am_pm_ok_1 : ∀ e ∈ pm1, am_mokP RX1 e := List.forall_mem_cons.mpr ⟨pmk_1_3, List.forall_mem_cons.mpr ⟨pmk_1_28, List.forall_mem_cons.mpr ⟨pmk_1_42, List.forall_mem_cons.mpr ⟨pmk_1_45, List.forall_mem_cons.mpr ⟨pmk_1_55, List.forall_mem_cons.mpr ⟨pmk_1_59, List.forall_mem_cons.mpr ⟨pmk_1_63, List.forall_mem_cons.mpr ⟨pmk_1_69, List.forall_mem_cons.mpr ⟨pmk_1_74, List.forall_mem_cons.mpr ⟨pmk_1_80, List.forall_mem_cons.mpr ⟨pmk_1_84, List.forall_mem_cons.mpr ⟨pmk_1_87, List.forall_mem_cons.mpr ⟨pmk_1_91, List.forall_mem_cons.mpr ⟨pmk_1_94, List.forall_mem_cons.mpr ⟨pmk_1_97, (fun _ h => absurd h List.not_mem_nil)⟩⟩⟩⟩⟩⟩⟩⟩⟩⟩⟩⟩⟩⟩⟩
theorem pmk_2_9 : am_mokP RX2 (9, (MX7_lowBits, 3, 1, 6)) := ⟨mt_X7_lowBits, am_nw_in (am_wd_mem 1 84 rfl) rfl, (am_gw_in (am_wd_mem 1 85 rfl) rfl)⟩
theorem pmk_2_17 : am_mokP RX2 (17, (MJ9_max_7cf53, 5, 2, 0)) := (am_gw_in (am_wd_mem 2 111 rfl) rfl)
theorem pmk_2_23 : am_mokP RX2 (23, (MJ9_min_7cf53, 6, 2, 0)) := (am_gw_in (am_wd_mem 2 182 rfl) rfl)
theorem pmk_2_26 : am_mokP RX2 (26, (MX2_readForFigure, 1, 3, 0)) := ⟨mt_X2_readForFigure, (am_gw_in (am_wd_mem 2 183 rfl) rfl), (am_gw_in (am_wd_mem 2 158 rfl) rfl)⟩
theorem pmk_2_32 : am_mokP RX2 (32, (MX2_readBelowFigure, 1, 3, 0)) := ⟨mt_X2_readBelowFigure, (am_gw_in (am_wd_mem 2 184 rfl) rfl), (am_gw_in (am_wd_mem 2 166 rfl) rfl)⟩
theorem pmk_2_35 : am_mokP RX2 (35, (MJ13_bitCount_95d88, 1, 1, 0)) := ⟨mt_J13_bitCount_95d88, (am_gw_in (am_wd_mem 2 185 rfl) rfl), (am_gw_in (am_wd_mem 2 117 rfl) rfl)⟩
theorem am_pm_ok_2 : ∀ e ∈ pm2, am_mokP RX2 e := List.forall_mem_cons.mpr ⟨pmk_2_9, List.forall_mem_cons.mpr ⟨pmk_2_17, List.forall_mem_cons.mpr ⟨pmk_2_23, List.forall_mem_cons.mpr ⟨pmk_2_26, List.forall_mem_cons.mpr ⟨pmk_2_32, List.forall_mem_cons.mpr ⟨pmk_2_35, (fun _ h => absurd h List.not_mem_nil)⟩⟩⟩⟩⟩⟩
theorem pmk_3_3 : am_mokP RX3 (3, (M_obj, 4, 0, 0)) := (am_gw_in (am_wd_mem 1 132 rfl) rfl)
theorem pmk_3_15 : am_mokP RX3 (15, (MX3_codeIn, 1, 2, 2)) := ⟨mt_X3_codeIn, (am_gw_in (am_wd_mem 2 215 rfl) rfl), (am_gw_in (am_wd_mem 2 216 rfl) rfl)⟩
theorem pmk_3_29 : am_mokP RX3 (29, (MX3_placeBehind, 0, 1, 2)) := ⟨mt_X3_placeBehind, rfl, (am_gw_in (am_wd_mem 2 234 rfl) rfl), (am_gw_in (am_wd_mem 2 236 rfl) rfl), (am_gw_in (am_wd_mem 0 10 rfl) rfl)⟩
theorem pmk_3_33 : am_mokP RX3 (33, (MX3_goodLetters, 0, 0, 2)) := ⟨mt_X3_goodLetters, rfl, (am_gw_in (am_wd_mem 3 17 rfl) rfl), (am_gw_in (am_wd_mem 2 231 rfl) rfl), (am_gw_in (am_wd_mem 2 232 rfl) rfl)⟩
theorem pmk_3_37 : am_mokP RX3 (37, (MX3_behindFactorStart, 0, 1, 2)) := ⟨mt_X3_behindFactorStart, rfl, (am_gw_in (am_wd_mem 2 238 rfl) rfl), (am_gw_in (am_wd_mem 3 0 rfl) rfl), (am_gw_in (am_wd_mem 0 11 rfl) rfl)⟩
theorem pmk_3_40 : am_mokP RX3 (40, (MX3_isDigit, 1, 1, 2)) := ⟨mt_X3_isDigit, (am_gw_in (am_wd_mem 3 2 rfl) rfl), (am_gw_in (am_wd_mem 3 3 rfl) rfl)⟩
theorem pmk_3_44 : am_mokP RX3 (44, (MX3_behindWholeFactor, 0, 1, 2)) := ⟨mt_X3_behindWholeFactor, rfl, (am_gw_in (am_wd_mem 3 5 rfl) rfl), (am_gw_in (am_wd_mem 3 7 rfl) rfl), (am_gw_in (am_wd_mem 0 12 rfl) rfl)⟩
theorem pmk_3_47 : am_mokP RX3 (47, (MX3_codeAt, 0, 1, 2)) := ⟨mt_X3_codeAt, rfl, (am_gw_in (am_wd_mem 3 50 rfl) rfl), (am_gw_in (am_wd_mem 3 28 rfl) rfl), (am_gw_in (am_wd_mem 3 29 rfl) rfl)⟩
theorem am_pm_ok_3 : ∀ e ∈ pm3, am_mokP RX3 e := List.forall_mem_cons.mpr ⟨pmk_3_3, List.forall_mem_cons.mpr ⟨pmk_3_15, List.forall_mem_cons.mpr ⟨pmk_3_29, List.forall_mem_cons.mpr ⟨pmk_3_33, List.forall_mem_cons.mpr ⟨pmk_3_37, List.forall_mem_cons.mpr ⟨pmk_3_40, List.forall_mem_cons.mpr ⟨pmk_3_44, List.forall_mem_cons.mpr ⟨pmk_3_47, (fun _ h => absurd h List.not_mem_nil)⟩⟩⟩⟩⟩⟩⟩⟩
theorem pmk_4_1 : am_mokP RX4 (1, (M_obj, 4, 0, 0)) := (am_gw_in (am_wd_mem 3 22 rfl) rfl)
theorem pmk_4_26 : am_mokP RX4 (26, (MX4_takeLetter, 0, 2, 3)) := ⟨mt_X4_takeLetter, rfl, (am_gw_in (am_wd_mem 3 23 rfl) rfl), (am_gw_in (am_wd_mem 3 25 rfl) rfl), (am_gw_in (am_wd_mem 0 13 rfl) rfl)⟩
theorem pmk_4_30 : am_mokP RX4 (30, (MX4_writeWaiting, 0, 1, 3)) := ⟨mt_X4_writeWaiting, rfl, (am_gw_in (am_wd_mem 3 35 rfl) rfl), (am_gw_in (am_wd_mem 3 37 rfl) rfl), (am_gw_in (am_wd_mem 0 15 rfl) rfl)⟩
theorem pmk_4_34 : am_mokP RX4 (34, (MX3_codeAt, 0, 1, 2)) := ⟨mt_X3_codeAt, rfl, (am_gw_in (am_wd_mem 3 27 rfl) rfl), (am_gw_in (am_wd_mem 3 28 rfl) rfl), (am_gw_in (am_wd_mem 3 29 rfl) rfl)⟩
theorem pmk_4_38 : am_mokP RX4 (38, (MX4_hold, 0, 1, 3)) := ⟨mt_X4_hold, rfl, (am_gw_in (am_wd_mem 3 31 rfl) rfl), (am_gw_in (am_wd_mem 3 33 rfl) rfl), (am_gw_in (am_wd_mem 0 14 rfl) rfl)⟩
theorem pmk_4_44 : am_mokP RX4 (44, (MX4_comparisonAt, 1, 2, 3)) := ⟨mt_X4_comparisonAt, (am_gw_in (am_wd_mem 3 43 rfl) rfl), (am_gw_in (am_wd_mem 3 44 rfl) rfl)⟩
theorem pmk_4_48 : am_mokP RX4 (48, (MX4_write, 0, 1, 3)) := ⟨mt_X4_write, rfl, (am_gw_in (am_wd_mem 3 39 rfl) rfl), (am_gw_in (am_wd_mem 3 41 rfl) rfl), (am_gw_in (am_wd_mem 0 16 rfl) rfl)⟩
theorem pmk_4_57 : am_mokP RX4 (57, (MX3_numberBehind, 0, 1, 2)) := ⟨mt_X3_numberBehind, rfl, (am_gw_in (am_wd_mem 3 46 rfl) rfl), (am_gw_in (am_wd_mem 3 47 rfl) rfl), (am_gw_in (am_wd_mem 3 48 rfl) rfl)⟩
theorem pmk_4_60 : am_mokP RX4 (60, (MX1_readForEqual, 0, 1, 1)) := ⟨mt_X1_readForEqual, rfl, (am_gw_in (am_wd_mem 3 87 rfl) rfl), (am_gw_in (am_wd_mem 2 154 rfl) rfl), (am_gw_in (am_wd_mem 2 155 rfl) rfl)⟩
theorem pmk_4_66 : am_mokP RX4 (66, (MX1_readForBelow, 0, 1, 1)) := ⟨mt_X1_readForBelow, rfl, (am_gw_in (am_wd_mem 3 88 rfl) rfl), (am_gw_in (am_wd_mem 2 162 rfl) rfl), (am_gw_in (am_wd_mem 2 163 rfl) rfl)⟩
theorem pmk_4_69 : am_mokP RX4 (69, (MX6_linesWithRow, 0, 0, 5)) := ⟨mt_X6_linesWithRow, rfl, (am_gw_in (am_wd_mem 3 93 rfl) rfl), (am_gw_in (am_wd_mem 3 94 rfl) rfl), (am_gw_in (am_wd_mem 3 95 rfl) rfl)⟩
theorem pmk_4_75 : am_mokP RX4 (75, (MX4_linesThatHold, 1, 3, 3)) := ⟨mt_X4_linesThatHold, (am_gw_in (am_wd_mem 3 97 rfl) rfl), (am_gw_in (am_wd_mem 3 98 rfl) rfl)⟩
theorem pmk_4_81 : am_mokP RX4 (81, (MX6_linesBelow, 0, 2, 5)) := ⟨mt_X6_linesBelow, rfl, (am_gw_in (am_wd_mem 3 100 rfl) rfl), (am_gw_in (am_wd_mem 3 101 rfl) rfl), (am_gw_in (am_wd_mem 3 102 rfl) rfl)⟩
theorem pmk_4_85 : am_mokP RX4 (85, (MX6_linesWith, 0, 2, 5)) := ⟨mt_X6_linesWith, rfl, (am_gw_in (am_wd_mem 3 105 rfl) rfl), (am_gw_in (am_wd_mem 3 106 rfl) rfl), (am_gw_in (am_wd_mem 3 107 rfl) rfl)⟩
theorem am_pm_ok_4 : ∀ e ∈ pm4, am_mokP RX4 e := List.forall_mem_cons.mpr ⟨pmk_4_1, List.forall_mem_cons.mpr ⟨pmk_4_26, List.forall_mem_cons.mpr ⟨pmk_4_30, List.forall_mem_cons.mpr ⟨pmk_4_34, List.forall_mem_cons.mpr ⟨pmk_4_38, List.forall_mem_cons.mpr ⟨pmk_4_44, List.forall_mem_cons.mpr ⟨pmk_4_48, List.forall_mem_cons.mpr ⟨pmk_4_57, List.forall_mem_cons.mpr ⟨pmk_4_60, List.forall_mem_cons.mpr ⟨pmk_4_66, List.forall_mem_cons.mpr ⟨pmk_4_69, List.forall_mem_cons.mpr ⟨pmk_4_75, List.forall_mem_cons.mpr ⟨pmk_4_81, List.forall_mem_cons.mpr ⟨pmk_4_85, (fun _ h => absurd h List.not_mem_nil)⟩⟩⟩⟩⟩⟩⟩⟩⟩⟩⟩⟩⟩⟩
theorem pmk_5_3 : am_mokP RX5 (3, (M_obj, 4, 0, 0)) := (am_gw_in (am_wd_mem 1 156 rfl) rfl)
theorem pmk_5_41 : am_mokP RX5 (41, (MX5_extend, 1, 5, 4)) := ⟨mt_X5_extend, (am_gw_in (am_wd_mem 2 194 rfl) rfl), (am_gw_in (am_wd_mem 2 195 rfl) rfl)⟩
theorem pmk_5_45 : am_mokP RX5 (45, (MX2_roomOf, 1, 2, 0)) := ⟨mt_X2_roomOf, (am_gw_in (am_wd_mem 2 197 rfl) rfl), (am_gw_in (am_wd_mem 1 68 rfl) rfl)⟩
theorem pmk_5_51 : am_mokP RX5 (51, (MX2_tellJust, 1, 3, 0)) := ⟨mt_X2_tellJust, (am_gw_in (am_wd_mem 2 198 rfl) rfl), (am_gw_in (am_wd_mem 2 109 rfl) rfl)⟩
theorem pmk_5_55 : am_mokP RX5 (55, (MX5_figureCost, 0, 2, 4)) := ⟨mt_X5_figureCost, rfl, (am_gw_in (am_wd_mem 2 199 rfl) rfl), (am_gw_in (am_wd_mem 2 201 rfl) rfl), (am_gw_in (am_wd_mem 0 8 rfl) rfl)⟩
theorem pmk_5_61 : am_mokP RX5 (61, (MX5_consider, 0, 2, 4)) := ⟨mt_X5_consider, rfl, (am_gw_in (am_wd_mem 2 204 rfl) rfl), (am_gw_in (am_wd_mem 2 206 rfl) rfl), (am_gw_in (am_wd_mem 0 9 rfl) rfl)⟩
theorem pmk_5_65 : am_mokP RX5 (65, (MX2_costOf, 1, 6, 0)) := ⟨mt_X2_costOf, (am_gw_in (am_wd_mem 2 203 rfl) rfl), (am_gw_in (am_wd_mem 2 180 rfl) rfl)⟩
theorem am_pm_ok_5 : ∀ e ∈ pm5, am_mokP RX5 e := List.forall_mem_cons.mpr ⟨pmk_5_3, List.forall_mem_cons.mpr ⟨pmk_5_41, List.forall_mem_cons.mpr ⟨pmk_5_45, List.forall_mem_cons.mpr ⟨pmk_5_51, List.forall_mem_cons.mpr ⟨pmk_5_55, List.forall_mem_cons.mpr ⟨pmk_5_61, List.forall_mem_cons.mpr ⟨pmk_5_65, (fun _ h => absurd h List.not_mem_nil)⟩⟩⟩⟩⟩⟩⟩
theorem pmk_6_3 : am_mokP RX6 (3, (M_obj, 4, 0, 0)) := (am_gw_in (am_wd_mem 1 25 rfl) rfl)
theorem pmk_6_24 : am_mokP RX6 (24, (MX6_altered, 1, 3, 5)) := ⟨mt_X6_altered, (am_gw_in (am_wd_mem 2 44 rfl) rfl), (am_gw_in (am_wd_mem 2 45 rfl) rfl)⟩
theorem pmk_6_28 : am_mokP RX6 (28, (MX6_hasRow, 0, 1, 5)) := ⟨mt_X6_hasRow, rfl, (am_gw_in (am_wd_mem 2 37 rfl) rfl), (am_gw_in (am_wd_mem 2 38 rfl) rfl), (am_gw_in (am_wd_mem 2 39 rfl) rfl)⟩
theorem pmk_6_42 : am_mokP RX6 (42, (MX6_number, 0, 2, 5)) := ⟨mt_X6_number, rfl, (am_gw_in (am_wd_mem 3 104 rfl) rfl), (am_gw_in (am_wd_mem 2 75 rfl) rfl), (am_gw_in (am_wd_mem 2 76 rfl) rfl)⟩
theorem pmk_6_49 : am_mokP RX6 (49, (MJ9_min_7cf53, 6, 2, 0)) := (am_gw_in (am_wd_mem 2 51 rfl) rfl)
theorem pmk_6_54 : am_mokP RX6 (54, (MX6_put, 0, 2, 5)) := ⟨mt_X6_put, rfl, (am_gw_in (am_wd_mem 2 54 rfl) rfl), (am_gw_in (am_wd_mem 2 56 rfl) rfl), (am_gw_in (am_wd_mem 0 3 rfl) rfl)⟩
theorem pmk_6_58 : am_mokP RX6 (58, (MX6_change, 0, 2, 5)) := ⟨mt_X6_change, rfl, (am_gw_in (am_wd_mem 2 82 rfl) rfl), (am_gw_in (am_wd_mem 2 48 rfl) rfl), (am_gw_in (am_wd_mem 2 49 rfl) rfl)⟩
theorem pmk_6_61 : am_mokP RX6 (61, (MX6_forgetChanges, 0, 0, 5)) := ⟨mt_X6_forgetChanges, rfl, (am_gw_in (am_wd_mem 3 231 rfl) rfl), (am_gw_in (am_wd_mem 2 22 rfl) rfl), (am_gw_in (am_wd_mem 2 23 rfl) rfl)⟩
theorem am_pm_ok_6 : ∀ e ∈ pm6, am_mokP RX6 e := List.forall_mem_cons.mpr ⟨pmk_6_3, List.forall_mem_cons.mpr ⟨pmk_6_24, List.forall_mem_cons.mpr ⟨pmk_6_28, List.forall_mem_cons.mpr ⟨pmk_6_42, List.forall_mem_cons.mpr ⟨pmk_6_49, List.forall_mem_cons.mpr ⟨pmk_6_54, List.forall_mem_cons.mpr ⟨pmk_6_58, List.forall_mem_cons.mpr ⟨pmk_6_61, (fun _ h => absurd h List.not_mem_nil)⟩⟩⟩⟩⟩⟩⟩⟩
theorem pmk_7_1 : am_mokP RX7 (1, (M_obj, 4, 0, 0)) := (am_gw_in (am_wd_mem 1 17 rfl) rfl)
theorem pmk_7_9 : am_mokP RX7 (9, (MX6_init, 2, 0, 5)) := ⟨mt_X6_init, rfl, rfl, (am_gw_in (am_wd_mem 1 22 rfl) rfl), (am_gw_in (am_wd_mem 1 23 rfl) rfl)⟩
theorem pmk_7_22 : am_mokP RX7 (22, (MX1_init, 2, 0, 1)) := ⟨mt_X1_init, rfl, rfl, (am_gw_in (am_wd_mem 1 55 rfl) rfl), (am_gw_in (am_wd_mem 1 56 rfl) rfl)⟩
theorem pmk_7_25 : am_mokP RX7 (25, (MX3_init, 2, 0, 2)) := ⟨mt_X3_init, rfl, rfl, (am_gw_in (am_wd_mem 1 129 rfl) rfl), (am_gw_in (am_wd_mem 1 130 rfl) rfl)⟩
theorem pmk_7_38 : am_mokP RX7 (38, (MX5_init, 2, 0, 4)) := ⟨mt_X5_init, rfl, rfl, (am_gw_in (am_wd_mem 1 153 rfl) rfl), (am_gw_in (am_wd_mem 1 154 rfl) rfl)⟩
theorem pmk_7_45 : am_mokP RX7 (45, (MX0_init, 2, 0, 0)) := ⟨mt_X0_init, rfl, rfl, (am_gw_in (am_wd_mem 1 205 rfl) rfl), (am_gw_in (am_wd_mem 1 206 rfl) rfl)⟩
theorem pmk_7_50 : am_mokP RX7 (50, (MX7_isColumn, 1, 1, 6)) := ⟨mt_X7_isColumn, (am_gw_in (am_wd_mem 2 9 rfl) rfl), (am_gw_in (am_wd_mem 2 10 rfl) rfl)⟩
theorem pmk_7_54 : am_mokP RX7 (54, (MX6_rowCount, 0, 0, 5)) := ⟨mt_X6_rowCount, rfl, (am_gw_in (am_wd_mem 2 12 rfl) rfl), (am_gw_in (am_wd_mem 2 13 rfl) rfl), (am_gw_in (am_wd_mem 2 14 rfl) rfl)⟩
theorem pmk_7_58 : am_mokP RX7 (58, (MX6_markCount, 0, 0, 5)) := ⟨mt_X6_markCount, rfl, (am_gw_in (am_wd_mem 2 16 rfl) rfl), (am_gw_in (am_wd_mem 2 17 rfl) rfl), (am_gw_in (am_wd_mem 2 18 rfl) rfl)⟩
theorem pmk_7_65 : am_mokP RX7 (65, (MX1_resize, 0, 1, 1)) := ⟨mt_X1_resize, rfl, (am_gw_in (am_wd_mem 2 20 rfl) rfl), (am_gw_in (am_wd_mem 1 60 rfl) rfl), (am_gw_in (am_wd_mem 1 61 rfl) rfl)⟩
theorem pmk_7_69 : am_mokP RX7 (69, (MX6_forgetChanges, 0, 0, 5)) := ⟨mt_X6_forgetChanges, rfl, (am_gw_in (am_wd_mem 2 21 rfl) rfl), (am_gw_in (am_wd_mem 2 22 rfl) rfl), (am_gw_in (am_wd_mem 2 23 rfl) rfl)⟩
theorem pmk_7_72 : am_mokP RX7 (72, (MX1_has, 0, 1, 1)) := ⟨mt_X1_has, rfl, (am_gw_in (am_wd_mem 2 29 rfl) rfl), (am_gw_in (am_wd_mem 2 30 rfl) rfl), (am_gw_in (am_wd_mem 2 31 rfl) rfl)⟩
theorem pmk_7_75 : am_mokP RX7 (75, (MX6_leastEmpty, 0, 0, 5)) := ⟨mt_X6_leastEmpty, rfl, (am_gw_in (am_wd_mem 2 33 rfl) rfl), (am_gw_in (am_wd_mem 2 34 rfl) rfl), (am_gw_in (am_wd_mem 2 35 rfl) rfl)⟩
theorem pmk_7_78 : am_mokP RX7 (78, (MX6_packed, 1, 4, 5)) := ⟨mt_X6_packed, (am_gw_in (am_wd_mem 2 41 rfl) rfl), (am_gw_in (am_wd_mem 2 42 rfl) rfl)⟩
theorem pmk_7_82 : am_mokP RX7 (82, (MX6_change, 0, 2, 5)) := ⟨mt_X6_change, rfl, (am_gw_in (am_wd_mem 2 47 rfl) rfl), (am_gw_in (am_wd_mem 2 48 rfl) rfl), (am_gw_in (am_wd_mem 2 49 rfl) rfl)⟩
theorem pmk_7_88 : am_mokP RX7 (88, (MX1_numberFrom, 0, 1, 1)) := ⟨mt_X1_numberFrom, rfl, (am_gw_in (am_wd_mem 2 64 rfl) rfl), (am_gw_in (am_wd_mem 2 65 rfl) rfl), (am_gw_in (am_wd_mem 2 66 rfl) rfl)⟩
theorem pmk_7_92 : am_mokP RX7 (92, (MX6_altered, 1, 3, 5)) := ⟨mt_X6_altered, (am_gw_in (am_wd_mem 2 68 rfl) rfl), (am_gw_in (am_wd_mem 2 45 rfl) rfl)⟩
theorem pmk_7_96 : am_mokP RX7 (96, (MX6_hasRow, 0, 1, 5)) := ⟨mt_X6_hasRow, rfl, (am_gw_in (am_wd_mem 2 73 rfl) rfl), (am_gw_in (am_wd_mem 2 38 rfl) rfl), (am_gw_in (am_wd_mem 2 39 rfl) rfl)⟩
theorem pmk_7_99 : am_mokP RX7 (99, (MX6_number, 0, 2, 5)) := ⟨mt_X6_number, rfl, (am_gw_in (am_wd_mem 2 74 rfl) rfl), (am_gw_in (am_wd_mem 2 75 rfl) rfl), (am_gw_in (am_wd_mem 2 76 rfl) rfl)⟩
theorem pmk_7_103 : am_mokP RX7 (103, (MX6_changeNumber, 0, 3, 5)) := ⟨mt_X6_changeNumber, rfl, (am_gw_in (am_wd_mem 2 78 rfl) rfl), (am_gw_in (am_wd_mem 2 79 rfl) rfl), (am_gw_in (am_wd_mem 2 80 rfl) rfl)⟩
theorem pmk_7_107 : am_mokP RX7 (107, (MX1_redesign, 0, 2, 1)) := ⟨mt_X1_redesign, rfl, (am_gw_in (am_wd_mem 2 95 rfl) rfl), (am_gw_in (am_wd_mem 2 96 rfl) rfl), (am_gw_in (am_wd_mem 2 97 rfl) rfl)⟩
theorem pmk_7_124 : am_mokP RX7 (124, (MJ13_bitCount_95d88, 1, 1, 0)) := ⟨mt_J13_bitCount_95d88, (am_gw_in (am_wd_mem 2 116 rfl) rfl), (am_gw_in (am_wd_mem 2 117 rfl) rfl)⟩
theorem pmk_7_130 : am_mokP RX7 (130, (MX7_asksForBase, 1, 1, 6)) := ⟨mt_X7_asksForBase, (am_gw_in (am_wd_mem 2 122 rfl) rfl), (am_gw_in (am_wd_mem 2 123 rfl) rfl)⟩
theorem pmk_7_137 : am_mokP RX7 (137, (MX7_baseOrNone, 1, 3, 6)) := ⟨mt_X7_baseOrNone, (am_gw_in (am_wd_mem 2 125 rfl) rfl), (am_gw_in (am_wd_mem 2 126 rfl) rfl)⟩
theorem pmk_7_141 : am_mokP RX7 (141, (MX7_isVector, 0, 2, 6)) := ⟨mt_X7_isVector, rfl, (am_gw_in (am_wd_mem 2 132 rfl) rfl), (am_gw_in (am_wd_mem 2 134 rfl) rfl), (am_gw_in (am_wd_mem 0 6 rfl) rfl)⟩
theorem pmk_7_145 : am_mokP RX7 (145, (MX1_isTorn, 0, 1, 1)) := ⟨mt_X1_isTorn, rfl, (am_gw_in (am_wd_mem 2 136 rfl) rfl), (am_gw_in (am_wd_mem 2 137 rfl) rfl), (am_gw_in (am_wd_mem 2 138 rfl) rfl)⟩
theorem pmk_7_148 : am_mokP RX7 (148, (MX7_slicesAt, 0, 2, 6)) := ⟨mt_X7_slicesAt, rfl, (am_gw_in (am_wd_mem 2 140 rfl) rfl), (am_gw_in (am_wd_mem 2 142 rfl) rfl), (am_gw_in (am_wd_mem 0 7 rfl) rfl)⟩
theorem pmk_7_152 : am_mokP RX7 (152, (MX1_readForEqual, 0, 1, 1)) := ⟨mt_X1_readForEqual, rfl, (am_gw_in (am_wd_mem 2 153 rfl) rfl), (am_gw_in (am_wd_mem 2 154 rfl) rfl), (am_gw_in (am_wd_mem 2 155 rfl) rfl)⟩
theorem pmk_7_156 : am_mokP RX7 (156, (MX1_readForBelow, 0, 1, 1)) := ⟨mt_X1_readForBelow, rfl, (am_gw_in (am_wd_mem 2 161 rfl) rfl), (am_gw_in (am_wd_mem 2 162 rfl) rfl), (am_gw_in (am_wd_mem 2 163 rfl) rfl)⟩
theorem pmk_7_159 : am_mokP RX7 (159, (MX7_isWeight, 1, 1, 6)) := ⟨mt_X7_isWeight, (am_gw_in (am_wd_mem 2 172 rfl) rfl), (am_gw_in (am_wd_mem 2 173 rfl) rfl)⟩
theorem pmk_7_162 : am_mokP RX7 (162, (MX1_designCost, 0, 2, 1)) := ⟨mt_X1_designCost, rfl, (am_gw_in (am_wd_mem 2 175 rfl) rfl), (am_gw_in (am_wd_mem 2 176 rfl) rfl), (am_gw_in (am_wd_mem 2 177 rfl) rfl)⟩
theorem pmk_7_168 : am_mokP RX7 (168, (MX5_seek, 0, 4, 4)) := ⟨mt_X5_seek, rfl, (am_gw_in (am_wd_mem 2 190 rfl) rfl), (am_gw_in (am_wd_mem 2 191 rfl) rfl), (am_gw_in (am_wd_mem 2 192 rfl) rfl)⟩
theorem pmk_7_191 : am_mokP RX7 (191, (MX3_lettersIn, 1, 1, 2)) := ⟨mt_X3_lettersIn, (am_gw_in (am_wd_mem 2 212 rfl) rfl), (am_gw_in (am_wd_mem 2 213 rfl) rfl)⟩
theorem pmk_7_197 : am_mokP RX7 (197, (MX3_append, 0, 2, 2)) := ⟨mt_X3_append, rfl, (am_gw_in (am_wd_mem 2 218 rfl) rfl), (am_gw_in (am_wd_mem 2 219 rfl) rfl), (am_gw_in (am_wd_mem 2 220 rfl) rfl)⟩
theorem pmk_7_201 : am_mokP RX7 (201, (MX3_goodLetters, 0, 0, 2)) := ⟨mt_X3_goodLetters, rfl, (am_gw_in (am_wd_mem 2 230 rfl) rfl), (am_gw_in (am_wd_mem 2 231 rfl) rfl), (am_gw_in (am_wd_mem 2 232 rfl) rfl)⟩
theorem pmk_7_204 : am_mokP RX7 (204, (MX3_isQuestion, 0, 0, 2)) := ⟨mt_X3_isQuestion, rfl, (am_gw_in (am_wd_mem 3 13 rfl) rfl), (am_gw_in (am_wd_mem 3 14 rfl) rfl), (am_gw_in (am_wd_mem 3 15 rfl) rfl)⟩
theorem pmk_7_211 : am_mokP RX7 (211, (MX4_init, 2, 1, 3)) := ⟨mt_X4_init, rfl, rfl, (am_gw_in (am_wd_mem 3 19 rfl) rfl), (am_gw_in (am_wd_mem 3 20 rfl) rfl)⟩
theorem pmk_7_214 : am_mokP RX7 (214, (MX7_isQuestion, 0, 1, 6)) := ⟨mt_X7_isQuestion, rfl, (am_gw_in (am_wd_mem 3 75 rfl) rfl), (am_gw_in (am_wd_mem 3 77 rfl) rfl), (am_gw_in (am_wd_mem 0 17 rfl) rfl)⟩
theorem pmk_7_216 : am_mokP RX7 (216, (MX7_fails, 0, 1, 6)) := ⟨mt_X7_fails, rfl, (am_gw_in (am_wd_mem 3 79 rfl) rfl), (am_gw_in (am_wd_mem 3 81 rfl) rfl), (am_gw_in (am_wd_mem 0 18 rfl) rfl)⟩
theorem pmk_7_219 : am_mokP RX7 (219, (MX4_leftLines, 0, 1, 3)) := ⟨mt_X4_leftLines, rfl, (am_gw_in (am_wd_mem 3 89 rfl) rfl), (am_gw_in (am_wd_mem 3 90 rfl) rfl), (am_gw_in (am_wd_mem 3 91 rfl) rfl)⟩
theorem pmk_7_223 : am_mokP RX7 (223, (MX7_vectorsRead, 0, 1, 6)) := ⟨mt_X7_vectorsRead, rfl, (am_gw_in (am_wd_mem 3 114 rfl) rfl), (am_gw_in (am_wd_mem 3 116 rfl) rfl), (am_gw_in (am_wd_mem 0 19 rfl) rfl)⟩
theorem pmk_7_229 : am_mokP RX7 (229, (MX6_linesWith, 0, 2, 5)) := ⟨mt_X6_linesWith, rfl, (am_gw_in (am_wd_mem 3 126 rfl) rfl), (am_gw_in (am_wd_mem 3 106 rfl) rfl), (am_gw_in (am_wd_mem 3 107 rfl) rfl)⟩
theorem pmk_7_232 : am_mokP RX7 (232, (MX7_bitAt, 1, 2, 6)) := ⟨mt_X7_bitAt, (am_gw_in (am_wd_mem 3 127 rfl) rfl), (am_gw_in (am_wd_mem 3 128 rfl) rfl)⟩
theorem pmk_7_236 : am_mokP RX7 (236, (MX0_isOrder, 1, 1, 0)) := ⟨mt_X0_isOrder, (am_gw_in (am_wd_mem 3 150 rfl) rfl), (am_gw_in (am_wd_mem 3 151 rfl) rfl)⟩
theorem pmk_7_239 : am_mokP RX7 (239, (MX0_arrange, 0, 3, 0)) := ⟨mt_X0_arrange, rfl, (am_gw_in (am_wd_mem 3 156 rfl) rfl), (am_gw_in (am_wd_mem 3 157 rfl) rfl), (am_gw_in (am_wd_mem 3 158 rfl) rfl)⟩
theorem pmk_7_243 : am_mokP RX7 (243, (MX7_squeezedWords, 0, 2, 6)) := ⟨mt_X7_squeezedWords, rfl, (am_gw_in (am_wd_mem 3 182 rfl) rfl), (am_gw_in (am_wd_mem 3 184 rfl) rfl), (am_gw_in (am_wd_mem 0 23 rfl) rfl)⟩
theorem pmk_7_247 : am_mokP RX7 (247, (MX7_tableWords, 0, 2, 6)) := ⟨mt_X7_tableWords, rfl, (am_gw_in (am_wd_mem 3 190 rfl) rfl), (am_gw_in (am_wd_mem 3 192 rfl) rfl), (am_gw_in (am_wd_mem 0 24 rfl) rfl)⟩
theorem pmk_7_257 : am_mokP RX7 (257, (MX6_undoLatest, 0, 0, 5)) := ⟨mt_X6_undoLatest, rfl, (am_gw_in (am_wd_mem 3 207 rfl) rfl), (am_gw_in (am_wd_mem 3 208 rfl) rfl), (am_gw_in (am_wd_mem 3 209 rfl) rfl)⟩
theorem pmk_7_260 : am_mokP RX7 (260, (MX6_changesKept, 0, 0, 5)) := ⟨mt_X6_changesKept, rfl, (am_gw_in (am_wd_mem 3 211 rfl) rfl), (am_gw_in (am_wd_mem 3 212 rfl) rfl), (am_gw_in (am_wd_mem 3 213 rfl) rfl)⟩
theorem pmk_7_263 : am_mokP RX7 (263, (MX6_keepMark, 0, 0, 5)) := ⟨mt_X6_keepMark, rfl, (am_gw_in (am_wd_mem 3 219 rfl) rfl), (am_gw_in (am_wd_mem 3 220 rfl) rfl), (am_gw_in (am_wd_mem 3 221 rfl) rfl)⟩
theorem pmk_7_266 : am_mokP RX7 (266, (MX6_returnTo, 0, 1, 5)) := ⟨mt_X6_returnTo, rfl, (am_gw_in (am_wd_mem 3 227 rfl) rfl), (am_gw_in (am_wd_mem 3 228 rfl) rfl), (am_gw_in (am_wd_mem 3 229 rfl) rfl)⟩
theorem pmk_7_269 : am_mokP RX7 (269, (MX7_vectorsOfAll, 0, 0, 6)) := ⟨mt_X7_vectorsOfAll, rfl, (am_gw_in (am_wd_mem 3 236 rfl) rfl), (am_gw_in (am_wd_mem 3 238 rfl) rfl), (am_gw_in (am_wd_mem 0 25 rfl) rfl)⟩
theorem pmk_7_272 : am_mokP RX7 (272, (MX7_tornOfAll, 0, 0, 6)) := ⟨mt_X7_tornOfAll, rfl, (am_gw_in (am_wd_mem 4 0 rfl) rfl), (am_gw_in (am_wd_mem 4 2 rfl) rfl), (am_gw_in (am_wd_mem 0 26 rfl) rfl)⟩
theorem pmk_7_279 : am_mokP RX7 (279, (MX7_get, 0, 2, 6)) := ⟨mt_X7_get, rfl, (am_gw_in (am_wd_mem 4 10 rfl) rfl), (am_gw_in (am_wd_mem 2 88 rfl) rfl), (am_gw_in (am_wd_mem 2 89 rfl) rfl)⟩
theorem pmk_7_282 : am_mokP RX7 (282, (MX7_about, 0, 2, 6)) := ⟨mt_X7_about, rfl, (am_gw_in (am_wd_mem 4 11 rfl) rfl), (am_gw_in (am_wd_mem 2 113 rfl) rfl), (am_gw_in (am_wd_mem 2 114 rfl) rfl)⟩
theorem pmk_7_285 : am_mokP RX7 (285, (MX7_parity, 0, 1, 6)) := ⟨mt_X7_parity, rfl, (am_gw_in (am_wd_mem 4 12 rfl) rfl), (am_gw_in (am_wd_mem 3 143 rfl) rfl), (am_gw_in (am_wd_mem 3 144 rfl) rfl)⟩
theorem pmk_7_288 : am_mokP RX7 (288, (MX7_asked, 0, 2, 6)) := ⟨mt_X7_asked, rfl, (am_gw_in (am_wd_mem 4 13 rfl) rfl), (am_gw_in (am_wd_mem 3 111 rfl) rfl), (am_gw_in (am_wd_mem 3 112 rfl) rfl)⟩
theorem pmk_7_294 : am_mokP RX7 (294, (MX7_count, 0, 1, 6)) := ⟨mt_X7_count, rfl, (am_gw_in (am_wd_mem 4 14 rfl) rfl), (am_gw_in (am_wd_mem 3 233 rfl) rfl), (am_gw_in (am_wd_mem 3 234 rfl) rfl)⟩
theorem pmk_7_299 : am_mokP RX7 (299, (MX1_slicesOf, 0, 1, 1)) := ⟨mt_X1_slicesOf, rfl, (am_gw_in (am_wd_mem 2 144 rfl) rfl), (am_gw_in (am_wd_mem 2 145 rfl) rfl), (am_gw_in (am_wd_mem 2 146 rfl) rfl)⟩
theorem pmk_7_302 : am_mokP RX7 (302, (MX4_readOf, 0, 2, 3)) := ⟨mt_X4_readOf, rfl, (am_gw_in (am_wd_mem 3 83 rfl) rfl), (am_gw_in (am_wd_mem 3 84 rfl) rfl), (am_gw_in (am_wd_mem 3 85 rfl) rfl)⟩
theorem pmk_7_306 : am_mokP RX7 (306, (MX7_lowBits, 1, 1, 6)) := ⟨mt_X7_lowBits, (am_gw_in (am_wd_mem 3 194 rfl) rfl), (am_gw_in (am_wd_mem 1 85 rfl) rfl)⟩
theorem am_pm_ok_7 : ∀ e ∈ pm7, am_mokP RX7 e := List.forall_mem_cons.mpr ⟨pmk_7_1, List.forall_mem_cons.mpr ⟨pmk_7_9, List.forall_mem_cons.mpr ⟨pmk_7_22, List.forall_mem_cons.mpr ⟨pmk_7_25, List.forall_mem_cons.mpr ⟨pmk_7_38, List.forall_mem_cons.mpr ⟨pmk_7_45, List.forall_mem_cons.mpr ⟨pmk_7_50, List.forall_mem_cons.mpr ⟨pmk_7_54, List.forall_mem_cons.mpr ⟨pmk_7_58, List.forall_mem_cons.mpr ⟨pmk_7_65, List.forall_mem_cons.mpr ⟨pmk_7_69, List.forall_mem_cons.mpr ⟨pmk_7_72, List.forall_mem_cons.mpr ⟨pmk_7_75, List.forall_mem_cons.mpr ⟨pmk_7_78, List.forall_mem_cons.mpr ⟨pmk_7_82, List.forall_mem_cons.mpr ⟨pmk_7_88, List.forall_mem_cons.mpr ⟨pmk_7_92, List.forall_mem_cons.mpr ⟨pmk_7_96, List.forall_mem_cons.mpr ⟨pmk_7_99, List.forall_mem_cons.mpr ⟨pmk_7_103, List.forall_mem_cons.mpr ⟨pmk_7_107, List.forall_mem_cons.mpr ⟨pmk_7_124, List.forall_mem_cons.mpr ⟨pmk_7_130, List.forall_mem_cons.mpr ⟨pmk_7_137, List.forall_mem_cons.mpr ⟨pmk_7_141, List.forall_mem_cons.mpr ⟨pmk_7_145, List.forall_mem_cons.mpr ⟨pmk_7_148, List.forall_mem_cons.mpr ⟨pmk_7_152, List.forall_mem_cons.mpr ⟨pmk_7_156, List.forall_mem_cons.mpr ⟨pmk_7_159, List.forall_mem_cons.mpr ⟨pmk_7_162, List.forall_mem_cons.mpr ⟨pmk_7_168, List.forall_mem_cons.mpr ⟨pmk_7_191, List.forall_mem_cons.mpr ⟨pmk_7_197, List.forall_mem_cons.mpr ⟨pmk_7_201, List.forall_mem_cons.mpr ⟨pmk_7_204, List.forall_mem_cons.mpr ⟨pmk_7_211, List.forall_mem_cons.mpr ⟨pmk_7_214, List.forall_mem_cons.mpr ⟨pmk_7_216, List.forall_mem_cons.mpr ⟨pmk_7_219, List.forall_mem_cons.mpr ⟨pmk_7_223, List.forall_mem_cons.mpr ⟨pmk_7_229, List.forall_mem_cons.mpr ⟨pmk_7_232, List.forall_mem_cons.mpr ⟨pmk_7_236, List.forall_mem_cons.mpr ⟨pmk_7_239, List.forall_mem_cons.mpr ⟨pmk_7_243, List.forall_mem_cons.mpr ⟨pmk_7_247, List.forall_mem_cons.mpr ⟨pmk_7_257, List.forall_mem_cons.mpr ⟨pmk_7_260, List.forall_mem_cons.mpr ⟨pmk_7_263, List.forall_mem_cons.mpr ⟨pmk_7_266, List.forall_mem_cons.mpr ⟨pmk_7_269, List.forall_mem_cons.mpr ⟨pmk_7_272, List.forall_mem_cons.mpr ⟨pmk_7_279, List.forall_mem_cons.mpr ⟨pmk_7_282, List.forall_mem_cons.mpr ⟨pmk_7_285, List.forall_mem_cons.mpr ⟨pmk_7_288, List.forall_mem_cons.mpr ⟨pmk_7_294, List.forall_mem_cons.mpr ⟨pmk_7_299, List.forall_mem_cons.mpr ⟨pmk_7_302, List.forall_mem_cons.mpr ⟨pmk_7_306, (fun _ h => absurd h List.not_mem_nil)⟩⟩⟩⟩⟩⟩⟩⟩⟩⟩⟩⟩⟩⟩⟩⟩⟩⟩⟩⟩⟩⟩⟩⟩⟩⟩⟩⟩⟩⟩⟩⟩⟩⟩⟩⟩⟩⟩⟩⟩⟩⟩⟩⟩⟩⟩⟩⟩⟩⟩⟩⟩⟩⟩⟩⟩⟩⟩⟩⟩⟩
theorem pmk_8_1 : am_mokP RX8 (1, (M_obj, 4, 0, 0)) := (am_gw_in (am_wd_mem 4 20 rfl) rfl)
theorem pmk_8_88 : am_mokP RX8 (88, (MX8_in, 1, 3, 7)) := ⟨mt_X8_in, (am_gw_in (am_wd_mem 4 169 rfl) rfl), (am_gw_in (am_wd_mem 4 170 rfl) rfl)⟩
theorem pmk_8_94 : am_mokP RX8 (94, (MX8_isColumn, 1, 1, 7)) := ⟨mt_X8_isColumn, (am_gw_in (am_wd_mem 4 165 rfl) rfl), (am_gw_in (am_wd_mem 4 166 rfl) rfl)⟩
theorem pmk_8_102 : am_mokP RX8 (102, (MX8_rows, 0, 0, 7)) := ⟨mt_X8_rows, rfl, (am_gw_in (am_wd_mem 4 174 rfl) rfl), (am_gw_in (am_wd_mem 4 176 rfl) rfl), (am_gw_in (am_wd_mem 0 27 rfl) rfl)⟩
theorem pmk_8_113 : am_mokP RX8 (113, (MX8_untear, 0, 1, 7)) := ⟨mt_X8_untear, rfl, (am_gw_in (am_wd_mem 4 178 rfl) rfl), (am_gw_in (am_wd_mem 4 180 rfl) rfl), (am_gw_in (am_wd_mem 0 28 rfl) rfl)⟩
theorem pmk_8_117 : am_mokP RX8 (117, (MX8_emptyLine, 0, 0, 7)) := ⟨mt_X8_emptyLine, rfl, (am_gw_in (am_wd_mem 4 186 rfl) rfl), (am_gw_in (am_wd_mem 4 188 rfl) rfl), (am_gw_in (am_wd_mem 0 29 rfl) rfl)⟩
theorem pmk_8_120 : am_mokP RX8 (120, (MX8_keep, 0, 1, 7)) := ⟨mt_X8_keep, rfl, (am_gw_in (am_wd_mem 4 194 rfl) rfl), (am_gw_in (am_wd_mem 4 196 rfl) rfl), (am_gw_in (am_wd_mem 0 31 rfl) rfl)⟩
theorem pmk_8_123 : am_mokP RX8 (123, (MX8_come, 0, 4, 7)) := ⟨mt_X8_come, rfl, (am_gw_in (am_wd_mem 4 190 rfl) rfl), (am_gw_in (am_wd_mem 4 192 rfl) rfl), (am_gw_in (am_wd_mem 0 30 rfl) rfl)⟩
theorem pmk_8_137 : am_mokP RX8 (137, (MX8_isRow, 0, 1, 7)) := ⟨mt_X8_isRow, rfl, (am_gw_in (am_wd_mem 4 211 rfl) rfl), (am_gw_in (am_wd_mem 4 213 rfl) rfl), (am_gw_in (am_wd_mem 0 32 rfl) rfl)⟩
theorem pmk_8_140 : am_mokP RX8 (140, (MX8_getOf, 0, 2, 7)) := ⟨mt_X8_getOf, rfl, (am_gw_in (am_wd_mem 4 224 rfl) rfl), (am_gw_in (am_wd_mem 4 226 rfl) rfl), (am_gw_in (am_wd_mem 0 33 rfl) rfl)⟩
theorem pmk_8_144 : am_mokP RX8 (144, (MX8_vectorsOf, 1, 2, 7)) := ⟨mt_X8_vectorsOf, (am_gw_in (am_wd_mem 4 237 rfl) rfl), (am_gw_in (am_wd_mem 4 238 rfl) rfl)⟩
theorem pmk_8_152 : am_mokP RX8 (152, (MX8_isDesign, 0, 2, 7)) := ⟨mt_X8_isDesign, rfl, (am_gw_in (am_wd_mem 4 233 rfl) rfl), (am_gw_in (am_wd_mem 4 235 rfl) rfl), (am_gw_in (am_wd_mem 0 34 rfl) rfl)⟩
theorem pmk_8_156 : am_mokP RX8 (156, (MX8_roomOf, 0, 1, 7)) := ⟨mt_X8_roomOf, rfl, (am_gw_in (am_wd_mem 5 0 rfl) rfl), (am_gw_in (am_wd_mem 5 2 rfl) rfl), (am_gw_in (am_wd_mem 0 35 rfl) rfl)⟩
theorem pmk_8_160 : am_mokP RX8 (160, (MX8_tornOf, 0, 1, 7)) := ⟨mt_X8_tornOf, rfl, (am_gw_in (am_wd_mem 5 15 rfl) rfl), (am_gw_in (am_wd_mem 5 17 rfl) rfl), (am_gw_in (am_wd_mem 0 37 rfl) rfl)⟩
theorem pmk_8_169 : am_mokP RX8 (169, (MX8_aboutOf, 0, 2, 7)) := ⟨mt_X8_aboutOf, rfl, (am_gw_in (am_wd_mem 5 11 rfl) rfl), (am_gw_in (am_wd_mem 5 13 rfl) rfl), (am_gw_in (am_wd_mem 0 36 rfl) rfl)⟩
theorem pmk_8_178 : am_mokP RX8 (178, (MX8_figure, 0, 3, 7)) := ⟨mt_X8_figure, rfl, (am_gw_in (am_wd_mem 5 39 rfl) rfl), (am_gw_in (am_wd_mem 5 41 rfl) rfl), (am_gw_in (am_wd_mem 0 42 rfl) rfl)⟩
theorem pmk_8_182 : am_mokP RX8 (182, (MX8_findVector, 0, 2, 7)) := ⟨mt_X8_findVector, rfl, (am_gw_in (am_wd_mem 5 31 rfl) rfl), (am_gw_in (am_wd_mem 5 33 rfl) rfl), (am_gw_in (am_wd_mem 0 40 rfl) rfl)⟩
theorem pmk_8_186 : am_mokP RX8 (186, (MX8_bit, 0, 2, 7)) := ⟨mt_X8_bit, rfl, (am_gw_in (am_wd_mem 5 35 rfl) rfl), (am_gw_in (am_wd_mem 5 37 rfl) rfl), (am_gw_in (am_wd_mem 0 41 rfl) rfl)⟩
theorem pmk_8_189 : am_mokP RX8 (189, (MX8_isVector, 0, 2, 7)) := ⟨mt_X8_isVector, rfl, (am_gw_in (am_wd_mem 5 23 rfl) rfl), (am_gw_in (am_wd_mem 5 25 rfl) rfl), (am_gw_in (am_wd_mem 0 38 rfl) rfl)⟩
theorem pmk_8_192 : am_mokP RX8 (192, (MX8_vectorBits, 0, 2, 7)) := ⟨mt_X8_vectorBits, rfl, (am_gw_in (am_wd_mem 5 27 rfl) rfl), (am_gw_in (am_wd_mem 5 29 rfl) rfl), (am_gw_in (am_wd_mem 0 39 rfl) rfl)⟩
theorem pmk_8_196 : am_mokP RX8 (196, (MX8_span, 1, 2, 7)) := ⟨mt_X8_span, (am_gw_in (am_wd_mem 5 63 rfl) rfl), (am_gw_in (am_wd_mem 5 64 rfl) rfl)⟩
theorem pmk_8_199 : am_mokP RX8 (199, (MX8_lessReads, 1, 3, 7)) := ⟨mt_X8_lessReads, (am_gw_in (am_wd_mem 5 60 rfl) rfl), (am_gw_in (am_wd_mem 5 61 rfl) rfl)⟩
theorem pmk_8_203 : am_mokP RX8 (203, (MX8_equalReads, 1, 3, 7)) := ⟨mt_X8_equalReads, (am_gw_in (am_wd_mem 5 66 rfl) rfl), (am_gw_in (am_wd_mem 5 67 rfl) rfl)⟩
theorem pmk_8_206 : am_mokP RX8 (206, (MX8_takeBases, 0, 1, 7)) := ⟨mt_X8_takeBases, rfl, (am_gw_in (am_wd_mem 5 52 rfl) rfl), (am_gw_in (am_wd_mem 5 54 rfl) rfl), (am_gw_in (am_wd_mem 0 44 rfl) rfl)⟩
theorem pmk_8_209 : am_mokP RX8 (209, (MX8_readBy, 0, 4, 7)) := ⟨mt_X8_readBy, rfl, (am_gw_in (am_wd_mem 5 56 rfl) rfl), (am_gw_in (am_wd_mem 5 58 rfl) rfl), (am_gw_in (am_wd_mem 0 45 rfl) rfl)⟩
theorem pmk_8_215 : am_mokP RX8 (215, (MX8_readsOf, 0, 3, 7)) := ⟨mt_X8_readsOf, rfl, (am_gw_in (am_wd_mem 5 48 rfl) rfl), (am_gw_in (am_wd_mem 5 50 rfl) rfl), (am_gw_in (am_wd_mem 0 43 rfl) rfl)⟩
theorem pmk_8_219 : am_mokP RX8 (219, (MX8_bitsOf, 1, 1, 7)) := ⟨mt_X8_bitsOf, (am_gw_in (am_wd_mem 5 81 rfl) rfl), (am_gw_in (am_wd_mem 5 82 rfl) rfl)⟩
theorem pmk_8_225 : am_mokP RX8 (225, (MX8_isWeight, 1, 1, 7)) := ⟨mt_X8_isWeight, (am_gw_in (am_wd_mem 5 73 rfl) rfl), (am_gw_in (am_wd_mem 5 74 rfl) rfl)⟩
theorem pmk_8_228 : am_mokP RX8 (228, (MX8_costBy, 0, 4, 7)) := ⟨mt_X8_costBy, rfl, (am_gw_in (am_wd_mem 5 77 rfl) rfl), (am_gw_in (am_wd_mem 5 79 rfl) rfl), (am_gw_in (am_wd_mem 0 46 rfl) rfl)⟩
theorem pmk_8_243 : am_mokP RX8 (243, (MX8_isEarlier, 0, 0, 7)) := ⟨mt_X8_isEarlier, rfl, (am_gw_in (am_wd_mem 5 96 rfl) rfl), (am_gw_in (am_wd_mem 5 98 rfl) rfl), (am_gw_in (am_wd_mem 0 49 rfl) rfl)⟩
theorem pmk_8_247 : am_mokP RX8 (247, (MX8_weigh, 0, 4, 7)) := ⟨mt_X8_weigh, rfl, (am_gw_in (am_wd_mem 5 92 rfl) rfl), (am_gw_in (am_wd_mem 5 94 rfl) rfl), (am_gw_in (am_wd_mem 0 48 rfl) rfl)⟩
theorem pmk_8_254 : am_mokP RX8 (254, (MX8_findBest, 0, 4, 7)) := ⟨mt_X8_findBest, rfl, (am_gw_in (am_wd_mem 5 88 rfl) rfl), (am_gw_in (am_wd_mem 5 90 rfl) rfl), (am_gw_in (am_wd_mem 0 47 rfl) rfl)⟩
theorem pmk_8_268 : am_mokP RX8 (268, (MX8_lay, 0, 2, 7)) := ⟨mt_X8_lay, rfl, (am_gw_in (am_wd_mem 5 131 rfl) rfl), (am_gw_in (am_wd_mem 5 133 rfl) rfl), (am_gw_in (am_wd_mem 0 54 rfl) rfl)⟩
theorem pmk_8_284 : am_mokP RX8 (284, (MX8_endNumber, 0, 0, 7)) := ⟨mt_X8_endNumber, rfl, (am_gw_in (am_wd_mem 5 127 rfl) rfl), (am_gw_in (am_wd_mem 5 129 rfl) rfl), (am_gw_in (am_wd_mem 0 53 rfl) rfl)⟩
theorem pmk_8_287 : am_mokP RX8 (287, (MX8_layDown, 0, 1, 7)) := ⟨mt_X8_layDown, rfl, (am_gw_in (am_wd_mem 5 135 rfl) rfl), (am_gw_in (am_wd_mem 5 137 rfl) rfl), (am_gw_in (am_wd_mem 0 55 rfl) rfl)⟩
theorem pmk_8_300 : am_mokP RX8 (300, (MX8_goBehind, 0, 1, 7)) := ⟨mt_X8_goBehind, rfl, (am_gw_in (am_wd_mem 5 123 rfl) rfl), (am_gw_in (am_wd_mem 5 125 rfl) rfl), (am_gw_in (am_wd_mem 0 52 rfl) rfl)⟩
theorem pmk_8_303 : am_mokP RX8 (303, (MX8_go, 0, 1, 7)) := ⟨mt_X8_go, rfl, (am_gw_in (am_wd_mem 5 117 rfl) rfl), (am_gw_in (am_wd_mem 5 119 rfl) rfl), (am_gw_in (am_wd_mem 0 51 rfl) rfl)⟩
theorem pmk_8_306 : am_mokP RX8 (306, (MX8_goodOf, 0, 0, 7)) := ⟨mt_X8_goodOf, rfl, (am_gw_in (am_wd_mem 5 113 rfl) rfl), (am_gw_in (am_wd_mem 5 115 rfl) rfl), (am_gw_in (am_wd_mem 0 50 rfl) rfl)⟩
theorem pmk_8_312 : am_mokP RX8 (312, (MX8_readsBy, 0, 2, 7)) := ⟨mt_X8_readsBy, rfl, (am_gw_in (am_wd_mem 5 155 rfl) rfl), (am_gw_in (am_wd_mem 5 157 rfl) rfl), (am_gw_in (am_wd_mem 0 58 rfl) rfl)⟩
theorem pmk_8_315 : am_mokP RX8 (315, (MX8_holdsFor, 0, 2, 7)) := ⟨mt_X8_holdsFor, rfl, (am_gw_in (am_wd_mem 5 163 rfl) rfl), (am_gw_in (am_wd_mem 5 165 rfl) rfl), (am_gw_in (am_wd_mem 0 60 rfl) rfl)⟩
theorem pmk_8_318 : am_mokP RX8 (318, (MX8_isQuestion, 0, 1, 7)) := ⟨mt_X8_isQuestion, rfl, (am_gw_in (am_wd_mem 5 147 rfl) rfl), (am_gw_in (am_wd_mem 5 149 rfl) rfl), (am_gw_in (am_wd_mem 0 56 rfl) rfl)⟩
theorem pmk_8_321 : am_mokP RX8 (321, (MX8_fails, 0, 1, 7)) := ⟨mt_X8_fails, rfl, (am_gw_in (am_wd_mem 5 151 rfl) rfl), (am_gw_in (am_wd_mem 5 153 rfl) rfl), (am_gw_in (am_wd_mem 0 57 rfl) rfl)⟩
theorem pmk_8_324 : am_mokP RX8 (324, (MX8_isLeft, 0, 2, 7)) := ⟨mt_X8_isLeft, rfl, (am_gw_in (am_wd_mem 5 159 rfl) rfl), (am_gw_in (am_wd_mem 5 161 rfl) rfl), (am_gw_in (am_wd_mem 0 59 rfl) rfl)⟩
theorem pmk_8_327 : am_mokP RX8 (327, (MX8_askedOf, 0, 2, 7)) := ⟨mt_X8_askedOf, rfl, (am_gw_in (am_wd_mem 5 171 rfl) rfl), (am_gw_in (am_wd_mem 5 173 rfl) rfl), (am_gw_in (am_wd_mem 0 61 rfl) rfl)⟩
theorem pmk_8_330 : am_mokP RX8 (330, (MX8_parityOf, 0, 1, 7)) := ⟨mt_X8_parityOf, rfl, (am_gw_in (am_wd_mem 5 199 rfl) rfl), (am_gw_in (am_wd_mem 5 201 rfl) rfl), (am_gw_in (am_wd_mem 0 62 rfl) rfl)⟩
theorem pmk_8_334 : am_mokP RX8 (334, (MX8_sameTo, 0, 3, 7)) := ⟨mt_X8_sameTo, rfl, (am_gw_in (am_wd_mem 5 215 rfl) rfl), (am_gw_in (am_wd_mem 5 217 rfl) rfl), (am_gw_in (am_wd_mem 0 65 rfl) rfl)⟩
theorem pmk_8_338 : am_mokP RX8 (338, (MX8_sortRun, 0, 4, 7)) := ⟨mt_X8_sortRun, rfl, (am_gw_in (am_wd_mem 5 219 rfl) rfl), (am_gw_in (am_wd_mem 5 221 rfl) rfl), (am_gw_in (am_wd_mem 0 66 rfl) rfl)⟩
theorem pmk_8_342 : am_mokP RX8 (342, (MX8_wordsOf, 0, 2, 7)) := ⟨mt_X8_wordsOf, rfl, (am_gw_in (am_wd_mem 5 223 rfl) rfl), (am_gw_in (am_wd_mem 5 225 rfl) rfl), (am_gw_in (am_wd_mem 0 67 rfl) rfl)⟩
theorem pmk_8_345 : am_mokP RX8 (345, (MX8_takeOrder, 0, 1, 7)) := ⟨mt_X8_takeOrder, rfl, (am_gw_in (am_wd_mem 5 207 rfl) rfl), (am_gw_in (am_wd_mem 5 209 rfl) rfl), (am_gw_in (am_wd_mem 0 63 rfl) rfl)⟩
theorem pmk_8_348 : am_mokP RX8 (348, (MX8_layOrder, 0, 1, 7)) := ⟨mt_X8_layOrder, rfl, (am_gw_in (am_wd_mem 5 211 rfl) rfl), (am_gw_in (am_wd_mem 5 213 rfl) rfl), (am_gw_in (am_wd_mem 0 64 rfl) rfl)⟩
theorem pmk_8_352 : am_mokP RX8 (352, (MX8_allWords, 0, 0, 7)) := ⟨mt_X8_allWords, rfl, (am_gw_in (am_wd_mem 5 231 rfl) rfl), (am_gw_in (am_wd_mem 5 233 rfl) rfl), (am_gw_in (am_wd_mem 0 68 rfl) rfl)⟩
theorem pmk_8_358 : am_mokP RX8 (358, (MX8_countOf, 0, 1, 7)) := ⟨mt_X8_countOf, rfl, (am_gw_in (am_wd_mem 6 19 rfl) rfl), (am_gw_in (am_wd_mem 6 21 rfl) rfl), (am_gw_in (am_wd_mem 0 69 rfl) rfl)⟩
theorem am_pm_ok_8 : ∀ e ∈ pm8, am_mokP RX8 e := List.forall_mem_cons.mpr ⟨pmk_8_1, List.forall_mem_cons.mpr ⟨pmk_8_88, List.forall_mem_cons.mpr ⟨pmk_8_94, List.forall_mem_cons.mpr ⟨pmk_8_102, List.forall_mem_cons.mpr ⟨pmk_8_113, List.forall_mem_cons.mpr ⟨pmk_8_117, List.forall_mem_cons.mpr ⟨pmk_8_120, List.forall_mem_cons.mpr ⟨pmk_8_123, List.forall_mem_cons.mpr ⟨pmk_8_137, List.forall_mem_cons.mpr ⟨pmk_8_140, List.forall_mem_cons.mpr ⟨pmk_8_144, List.forall_mem_cons.mpr ⟨pmk_8_152, List.forall_mem_cons.mpr ⟨pmk_8_156, List.forall_mem_cons.mpr ⟨pmk_8_160, List.forall_mem_cons.mpr ⟨pmk_8_169, List.forall_mem_cons.mpr ⟨pmk_8_178, List.forall_mem_cons.mpr ⟨pmk_8_182, List.forall_mem_cons.mpr ⟨pmk_8_186, List.forall_mem_cons.mpr ⟨pmk_8_189, List.forall_mem_cons.mpr ⟨pmk_8_192, List.forall_mem_cons.mpr ⟨pmk_8_196, List.forall_mem_cons.mpr ⟨pmk_8_199, List.forall_mem_cons.mpr ⟨pmk_8_203, List.forall_mem_cons.mpr ⟨pmk_8_206, List.forall_mem_cons.mpr ⟨pmk_8_209, List.forall_mem_cons.mpr ⟨pmk_8_215, List.forall_mem_cons.mpr ⟨pmk_8_219, List.forall_mem_cons.mpr ⟨pmk_8_225, List.forall_mem_cons.mpr ⟨pmk_8_228, List.forall_mem_cons.mpr ⟨pmk_8_243, List.forall_mem_cons.mpr ⟨pmk_8_247, List.forall_mem_cons.mpr ⟨pmk_8_254, List.forall_mem_cons.mpr ⟨pmk_8_268, List.forall_mem_cons.mpr ⟨pmk_8_284, List.forall_mem_cons.mpr ⟨pmk_8_287, List.forall_mem_cons.mpr ⟨pmk_8_300, List.forall_mem_cons.mpr ⟨pmk_8_303, List.forall_mem_cons.mpr ⟨pmk_8_306, List.forall_mem_cons.mpr ⟨pmk_8_312, List.forall_mem_cons.mpr ⟨pmk_8_315, List.forall_mem_cons.mpr ⟨pmk_8_318, List.forall_mem_cons.mpr ⟨pmk_8_321, List.forall_mem_cons.mpr ⟨pmk_8_324, List.forall_mem_cons.mpr ⟨pmk_8_327, List.forall_mem_cons.mpr ⟨pmk_8_330, List.forall_mem_cons.mpr ⟨pmk_8_334, List.forall_mem_cons.mpr ⟨pmk_8_338, List.forall_mem_cons.mpr ⟨pmk_8_342, List.forall_mem_cons.mpr ⟨pmk_8_345, List.forall_mem_cons.mpr ⟨pmk_8_348, List.forall_mem_cons.mpr ⟨pmk_8_352, List.forall_mem_cons.mpr ⟨pmk_8_358, (fun _ h => absurd h List.not_mem_nil)⟩⟩⟩⟩⟩⟩⟩⟩⟩⟩⟩⟩⟩⟩⟩⟩⟩⟩⟩⟩⟩⟩⟩⟩⟩⟩⟩⟩⟩⟩⟩⟩⟩⟩⟩⟩⟩⟩⟩⟩⟩⟩⟩⟩⟩⟩⟩⟩⟩⟩⟩⟩
theorem am_pm_ok_9 : ∀ e ∈ pm9, am_mokP RJ13 e := (fun _ h => absurd h List.not_mem_nil)
theorem am_pm_ok_10 : ∀ e ∈ pm10, am_mokP RJ9 e := (fun _ h => absurd h List.not_mem_nil)
theorem pmk_11_9 : am_mokP RL (9, (MX7_init, 2, 0, 6)) := ⟨mt_X7_init, rfl, rfl, (am_gw_in (am_wd_mem 1 14 rfl) rfl), (am_gw_in (am_wd_mem 1 15 rfl) rfl)⟩
theorem pmk_11_12 : am_mokP RL (12, (MX8_init, 2, 0, 7)) := ⟨mt_X8_init, rfl, rfl, (am_gw_in (am_wd_mem 4 17 rfl) rfl), (am_gw_in (am_wd_mem 4 18 rfl) rfl)⟩
theorem pmk_11_13 : am_mokP RL (13, (MX7_size, 0, 2, 6)) := ⟨mt_X7_size, rfl, (am_gw_in (am_wd_mem 2 5 rfl) rfl), (am_gw_in (am_wd_mem 2 6 rfl) rfl), (am_gw_in (am_wd_mem 2 7 rfl) rfl)⟩
theorem pmk_11_17 : am_mokP RL (17, (MX8_size, 0, 2, 7)) := ⟨mt_X8_size, rfl, (am_gw_in (am_wd_mem 4 161 rfl) rfl), (am_gw_in (am_wd_mem 4 162 rfl) rfl), (am_gw_in (am_wd_mem 4 163 rfl) rfl)⟩
theorem pmk_11_18 : am_mokP RL (18, (MX7_row, 0, 4, 6)) := ⟨mt_X7_row, rfl, (am_gw_in (am_wd_mem 2 25 rfl) rfl), (am_gw_in (am_wd_mem 2 26 rfl) rfl), (am_gw_in (am_wd_mem 2 27 rfl) rfl)⟩
theorem pmk_11_22 : am_mokP RL (22, (MX8_row, 0, 4, 7)) := ⟨mt_X8_row, rfl, (am_gw_in (am_wd_mem 4 182 rfl) rfl), (am_gw_in (am_wd_mem 4 183 rfl) rfl), (am_gw_in (am_wd_mem 4 184 rfl) rfl)⟩
theorem pmk_11_23 : am_mokP RL (23, (MX7_fill, 0, 2, 6)) := ⟨mt_X7_fill, rfl, (am_gw_in (am_wd_mem 2 58 rfl) rfl), (am_gw_in (am_wd_mem 2 59 rfl) rfl), (am_gw_in (am_wd_mem 2 60 rfl) rfl)⟩
theorem pmk_11_26 : am_mokP RL (26, (MX8_fill, 0, 2, 7)) := ⟨mt_X8_fill, rfl, (am_gw_in (am_wd_mem 4 198 rfl) rfl), (am_gw_in (am_wd_mem 4 199 rfl) rfl), (am_gw_in (am_wd_mem 4 200 rfl) rfl)⟩
theorem pmk_11_27 : am_mokP RL (27, (MX7_set, 0, 3, 6)) := ⟨mt_X7_set, rfl, (am_gw_in (am_wd_mem 2 69 rfl) rfl), (am_gw_in (am_wd_mem 2 70 rfl) rfl), (am_gw_in (am_wd_mem 2 71 rfl) rfl)⟩
theorem pmk_11_31 : am_mokP RL (31, (MX8_set, 0, 3, 7)) := ⟨mt_X8_set, rfl, (am_gw_in (am_wd_mem 4 207 rfl) rfl), (am_gw_in (am_wd_mem 4 208 rfl) rfl), (am_gw_in (am_wd_mem 4 209 rfl) rfl)⟩
theorem pmk_11_32 : am_mokP RL (32, (MX7_drop, 0, 1, 6)) := ⟨mt_X7_drop, rfl, (am_gw_in (am_wd_mem 2 83 rfl) rfl), (am_gw_in (am_wd_mem 2 84 rfl) rfl), (am_gw_in (am_wd_mem 2 85 rfl) rfl)⟩
theorem pmk_11_36 : am_mokP RL (36, (MX8_drop, 0, 1, 7)) := ⟨mt_X8_drop, rfl, (am_gw_in (am_wd_mem 4 216 rfl) rfl), (am_gw_in (am_wd_mem 4 217 rfl) rfl), (am_gw_in (am_wd_mem 4 218 rfl) rfl)⟩
theorem pmk_11_37 : am_mokP RL (37, (MX7_get, 0, 2, 6)) := ⟨mt_X7_get, rfl, (am_gw_in (am_wd_mem 2 87 rfl) rfl), (am_gw_in (am_wd_mem 2 88 rfl) rfl), (am_gw_in (am_wd_mem 2 89 rfl) rfl)⟩
theorem pmk_11_40 : am_mokP RL (40, (MX8_get, 0, 2, 7)) := ⟨mt_X8_get, rfl, (am_gw_in (am_wd_mem 4 220 rfl) rfl), (am_gw_in (am_wd_mem 4 221 rfl) rfl), (am_gw_in (am_wd_mem 4 222 rfl) rfl)⟩
theorem pmk_11_43 : am_mokP RL (43, (MX7_design, 0, 3, 6)) := ⟨mt_X7_design, rfl, (am_gw_in (am_wd_mem 2 91 rfl) rfl), (am_gw_in (am_wd_mem 2 92 rfl) rfl), (am_gw_in (am_wd_mem 2 93 rfl) rfl)⟩
theorem pmk_11_47 : am_mokP RL (47, (MX8_design, 0, 3, 7)) := ⟨mt_X8_design, rfl, (am_gw_in (am_wd_mem 4 228 rfl) rfl), (am_gw_in (am_wd_mem 4 229 rfl) rfl), (am_gw_in (am_wd_mem 4 230 rfl) rfl)⟩
theorem pmk_11_48 : am_mokP RL (48, (MX7_about, 0, 2, 6)) := ⟨mt_X7_about, rfl, (am_gw_in (am_wd_mem 2 112 rfl) rfl), (am_gw_in (am_wd_mem 2 113 rfl) rfl), (am_gw_in (am_wd_mem 2 114 rfl) rfl)⟩
theorem pmk_11_51 : am_mokP RL (51, (MX8_about, 0, 2, 7)) := ⟨mt_X8_about, rfl, (am_gw_in (am_wd_mem 5 4 rfl) rfl), (am_gw_in (am_wd_mem 5 5 rfl) rfl), (am_gw_in (am_wd_mem 5 6 rfl) rfl)⟩
theorem pmk_11_52 : am_mokP RL (52, (MX7_vector, 0, 2, 6)) := ⟨mt_X7_vector, rfl, (am_gw_in (am_wd_mem 2 128 rfl) rfl), (am_gw_in (am_wd_mem 2 129 rfl) rfl), (am_gw_in (am_wd_mem 2 130 rfl) rfl)⟩
theorem pmk_11_56 : am_mokP RL (56, (MX8_vector, 0, 2, 7)) := ⟨mt_X8_vector, rfl, (am_gw_in (am_wd_mem 5 19 rfl) rfl), (am_gw_in (am_wd_mem 5 20 rfl) rfl), (am_gw_in (am_wd_mem 5 21 rfl) rfl)⟩
theorem pmk_11_57 : am_mokP RL (57, (MX7_reads, 0, 3, 6)) := ⟨mt_X7_reads, rfl, (am_gw_in (am_wd_mem 2 149 rfl) rfl), (am_gw_in (am_wd_mem 2 150 rfl) rfl), (am_gw_in (am_wd_mem 2 151 rfl) rfl)⟩
theorem pmk_11_61 : am_mokP RL (61, (MX8_reads, 0, 3, 7)) := ⟨mt_X8_reads, rfl, (am_gw_in (am_wd_mem 5 43 rfl) rfl), (am_gw_in (am_wd_mem 5 44 rfl) rfl), (am_gw_in (am_wd_mem 5 45 rfl) rfl)⟩
theorem pmk_11_62 : am_mokP RL (62, (MX7_cost, 0, 3, 6)) := ⟨mt_X7_cost, rfl, (am_gw_in (am_wd_mem 2 168 rfl) rfl), (am_gw_in (am_wd_mem 2 169 rfl) rfl), (am_gw_in (am_wd_mem 2 170 rfl) rfl)⟩
theorem pmk_11_65 : am_mokP RL (65, (MX8_cost, 0, 3, 7)) := ⟨mt_X8_cost, rfl, (am_gw_in (am_wd_mem 5 69 rfl) rfl), (am_gw_in (am_wd_mem 5 70 rfl) rfl), (am_gw_in (am_wd_mem 5 71 rfl) rfl)⟩
theorem pmk_11_66 : am_mokP RL (66, (MX7_best, 0, 5, 6)) := ⟨mt_X7_best, rfl, (am_gw_in (am_wd_mem 2 186 rfl) rfl), (am_gw_in (am_wd_mem 2 187 rfl) rfl), (am_gw_in (am_wd_mem 2 188 rfl) rfl)⟩
theorem pmk_11_70 : am_mokP RL (70, (MX8_best, 0, 5, 7)) := ⟨mt_X8_best, rfl, (am_gw_in (am_wd_mem 5 84 rfl) rfl), (am_gw_in (am_wd_mem 5 85 rfl) rfl), (am_gw_in (am_wd_mem 5 86 rfl) rfl)⟩
theorem pmk_11_71 : am_mokP RL (71, (MX7_letters, 0, 1, 6)) := ⟨mt_X7_letters, rfl, (am_gw_in (am_wd_mem 2 208 rfl) rfl), (am_gw_in (am_wd_mem 2 209 rfl) rfl), (am_gw_in (am_wd_mem 2 210 rfl) rfl)⟩
theorem pmk_11_75 : am_mokP RL (75, (MX8_letters, 0, 1, 7)) := ⟨mt_X8_letters, rfl, (am_gw_in (am_wd_mem 5 100 rfl) rfl), (am_gw_in (am_wd_mem 5 101 rfl) rfl), (am_gw_in (am_wd_mem 5 102 rfl) rfl)⟩
theorem pmk_11_76 : am_mokP RL (76, (MX7_blank, 0, 0, 6)) := ⟨mt_X7_blank, rfl, (am_gw_in (am_wd_mem 2 222 rfl) rfl), (am_gw_in (am_wd_mem 2 223 rfl) rfl), (am_gw_in (am_wd_mem 2 224 rfl) rfl)⟩
theorem pmk_11_80 : am_mokP RL (80, (MX8_blank, 0, 0, 7)) := ⟨mt_X8_blank, rfl, (am_gw_in (am_wd_mem 5 105 rfl) rfl), (am_gw_in (am_wd_mem 5 106 rfl) rfl), (am_gw_in (am_wd_mem 5 107 rfl) rfl)⟩
theorem pmk_11_81 : am_mokP RL (81, (MX7_good, 0, 0, 6)) := ⟨mt_X7_good, rfl, (am_gw_in (am_wd_mem 2 226 rfl) rfl), (am_gw_in (am_wd_mem 2 227 rfl) rfl), (am_gw_in (am_wd_mem 2 228 rfl) rfl)⟩
theorem pmk_11_84 : am_mokP RL (84, (MX8_good, 0, 0, 7)) := ⟨mt_X8_good, rfl, (am_gw_in (am_wd_mem 5 109 rfl) rfl), (am_gw_in (am_wd_mem 5 110 rfl) rfl), (am_gw_in (am_wd_mem 5 111 rfl) rfl)⟩
theorem pmk_11_85 : am_mokP RL (85, (MX7_ask, 0, 0, 6)) := ⟨mt_X7_ask, rfl, (am_gw_in (am_wd_mem 3 9 rfl) rfl), (am_gw_in (am_wd_mem 3 10 rfl) rfl), (am_gw_in (am_wd_mem 3 11 rfl) rfl)⟩
theorem pmk_11_88 : am_mokP RL (88, (MX8_ask, 0, 0, 7)) := ⟨mt_X8_ask, rfl, (am_gw_in (am_wd_mem 5 139 rfl) rfl), (am_gw_in (am_wd_mem 5 140 rfl) rfl), (am_gw_in (am_wd_mem 5 141 rfl) rfl)⟩
theorem pmk_11_89 : am_mokP RL (89, (MX7_leaves, 0, 1, 6)) := ⟨mt_X7_leaves, rfl, (am_gw_in (am_wd_mem 3 71 rfl) rfl), (am_gw_in (am_wd_mem 3 72 rfl) rfl), (am_gw_in (am_wd_mem 3 73 rfl) rfl)⟩
theorem pmk_11_93 : am_mokP RL (93, (MX8_leaves, 0, 1, 7)) := ⟨mt_X8_leaves, rfl, (am_gw_in (am_wd_mem 5 143 rfl) rfl), (am_gw_in (am_wd_mem 5 144 rfl) rfl), (am_gw_in (am_wd_mem 5 145 rfl) rfl)⟩
theorem pmk_11_94 : am_mokP RL (94, (MX7_asked, 0, 2, 6)) := ⟨mt_X7_asked, rfl, (am_gw_in (am_wd_mem 3 110 rfl) rfl), (am_gw_in (am_wd_mem 3 111 rfl) rfl), (am_gw_in (am_wd_mem 3 112 rfl) rfl)⟩
theorem pmk_11_97 : am_mokP RL (97, (MX8_asked, 0, 2, 7)) := ⟨mt_X8_asked, rfl, (am_gw_in (am_wd_mem 5 167 rfl) rfl), (am_gw_in (am_wd_mem 5 168 rfl) rfl), (am_gw_in (am_wd_mem 5 169 rfl) rfl)⟩
theorem pmk_11_98 : am_mokP RL (98, (MX7_sum, 0, 2, 6)) := ⟨mt_X7_sum, rfl, (am_gw_in (am_wd_mem 3 118 rfl) rfl), (am_gw_in (am_wd_mem 3 119 rfl) rfl), (am_gw_in (am_wd_mem 3 120 rfl) rfl)⟩
theorem pmk_11_101 : am_mokP RL (101, (MX8_sum, 0, 2, 7)) := ⟨mt_X8_sum, rfl, (am_gw_in (am_wd_mem 5 175 rfl) rfl), (am_gw_in (am_wd_mem 5 176 rfl) rfl), (am_gw_in (am_wd_mem 5 177 rfl) rfl)⟩
theorem pmk_11_102 : am_mokP RL (102, (MX7_least, 0, 3, 6)) := ⟨mt_X7_least, rfl, (am_gw_in (am_wd_mem 3 122 rfl) rfl), (am_gw_in (am_wd_mem 3 123 rfl) rfl), (am_gw_in (am_wd_mem 3 124 rfl) rfl)⟩
theorem pmk_11_105 : am_mokP RL (105, (MX8_least, 0, 3, 7)) := ⟨mt_X8_least, rfl, (am_gw_in (am_wd_mem 5 179 rfl) rfl), (am_gw_in (am_wd_mem 5 180 rfl) rfl), (am_gw_in (am_wd_mem 5 181 rfl) rfl)⟩
theorem pmk_11_106 : am_mokP RL (106, (MX7_group, 0, 3, 6)) := ⟨mt_X7_group, rfl, (am_gw_in (am_wd_mem 3 130 rfl) rfl), (am_gw_in (am_wd_mem 3 131 rfl) rfl), (am_gw_in (am_wd_mem 3 132 rfl) rfl)⟩
theorem pmk_11_109 : am_mokP RL (109, (MX8_group, 0, 3, 7)) := ⟨mt_X8_group, rfl, (am_gw_in (am_wd_mem 5 183 rfl) rfl), (am_gw_in (am_wd_mem 5 184 rfl) rfl), (am_gw_in (am_wd_mem 5 185 rfl) rfl)⟩
theorem pmk_11_110 : am_mokP RL (110, (MX7_tear, 0, 2, 6)) := ⟨mt_X7_tear, rfl, (am_gw_in (am_wd_mem 3 134 rfl) rfl), (am_gw_in (am_wd_mem 3 135 rfl) rfl), (am_gw_in (am_wd_mem 3 136 rfl) rfl)⟩
theorem pmk_11_113 : am_mokP RL (113, (MX8_tear, 0, 2, 7)) := ⟨mt_X8_tear, rfl, (am_gw_in (am_wd_mem 5 187 rfl) rfl), (am_gw_in (am_wd_mem 5 188 rfl) rfl), (am_gw_in (am_wd_mem 5 189 rfl) rfl)⟩
theorem pmk_11_114 : am_mokP RL (114, (MX7_mend, 0, 1, 6)) := ⟨mt_X7_mend, rfl, (am_gw_in (am_wd_mem 3 138 rfl) rfl), (am_gw_in (am_wd_mem 3 139 rfl) rfl), (am_gw_in (am_wd_mem 3 140 rfl) rfl)⟩
theorem pmk_11_117 : am_mokP RL (117, (MX8_mend, 0, 1, 7)) := ⟨mt_X8_mend, rfl, (am_gw_in (am_wd_mem 5 191 rfl) rfl), (am_gw_in (am_wd_mem 5 192 rfl) rfl), (am_gw_in (am_wd_mem 5 193 rfl) rfl)⟩
theorem pmk_11_118 : am_mokP RL (118, (MX7_parity, 0, 1, 6)) := ⟨mt_X7_parity, rfl, (am_gw_in (am_wd_mem 3 142 rfl) rfl), (am_gw_in (am_wd_mem 3 143 rfl) rfl), (am_gw_in (am_wd_mem 3 144 rfl) rfl)⟩
theorem pmk_11_121 : am_mokP RL (121, (MX8_parity, 0, 1, 7)) := ⟨mt_X8_parity, rfl, (am_gw_in (am_wd_mem 5 195 rfl) rfl), (am_gw_in (am_wd_mem 5 196 rfl) rfl), (am_gw_in (am_wd_mem 5 197 rfl) rfl)⟩
theorem pmk_11_122 : am_mokP RL (122, (MX7_words, 0, 4, 6)) := ⟨mt_X7_words, rfl, (am_gw_in (am_wd_mem 3 146 rfl) rfl), (am_gw_in (am_wd_mem 3 147 rfl) rfl), (am_gw_in (am_wd_mem 3 148 rfl) rfl)⟩
theorem pmk_11_126 : am_mokP RL (126, (MX8_words, 0, 4, 7)) := ⟨mt_X8_words, rfl, (am_gw_in (am_wd_mem 5 203 rfl) rfl), (am_gw_in (am_wd_mem 5 204 rfl) rfl), (am_gw_in (am_wd_mem 5 205 rfl) rfl)⟩
theorem pmk_11_127 : am_mokP RL (127, (MX7_all, 0, 2, 6)) := ⟨mt_X7_all, rfl, (am_gw_in (am_wd_mem 3 186 rfl) rfl), (am_gw_in (am_wd_mem 3 187 rfl) rfl), (am_gw_in (am_wd_mem 3 188 rfl) rfl)⟩
theorem pmk_11_131 : am_mokP RL (131, (MX8_all, 0, 2, 7)) := ⟨mt_X8_all, rfl, (am_gw_in (am_wd_mem 5 227 rfl) rfl), (am_gw_in (am_wd_mem 5 228 rfl) rfl), (am_gw_in (am_wd_mem 5 229 rfl) rfl)⟩
theorem pmk_11_132 : am_mokP RL (132, (MX7_placed, 0, 3, 6)) := ⟨mt_X7_placed, rfl, (am_gw_in (am_wd_mem 3 195 rfl) rfl), (am_gw_in (am_wd_mem 3 196 rfl) rfl), (am_gw_in (am_wd_mem 3 197 rfl) rfl)⟩
theorem pmk_11_136 : am_mokP RL (136, (MX8_placed, 0, 3, 7)) := ⟨mt_X8_placed, rfl, (am_gw_in (am_wd_mem 5 235 rfl) rfl), (am_gw_in (am_wd_mem 5 236 rfl) rfl), (am_gw_in (am_wd_mem 5 237 rfl) rfl)⟩
theorem pmk_11_137 : am_mokP RL (137, (MX7_order, 0, 1, 6)) := ⟨mt_X7_order, rfl, (am_gw_in (am_wd_mem 3 199 rfl) rfl), (am_gw_in (am_wd_mem 3 200 rfl) rfl), (am_gw_in (am_wd_mem 3 201 rfl) rfl)⟩
theorem pmk_11_140 : am_mokP RL (140, (MX8_order, 0, 1, 7)) := ⟨mt_X8_order, rfl, (am_gw_in (am_wd_mem 5 239 rfl) rfl), (am_gw_in (am_wd_mem 6 0 rfl) rfl), (am_gw_in (am_wd_mem 6 1 rfl) rfl)⟩
theorem pmk_11_141 : am_mokP RL (141, (MX7_undo, 0, 0, 6)) := ⟨mt_X7_undo, rfl, (am_gw_in (am_wd_mem 3 203 rfl) rfl), (am_gw_in (am_wd_mem 3 204 rfl) rfl), (am_gw_in (am_wd_mem 3 205 rfl) rfl)⟩
theorem pmk_11_144 : am_mokP RL (144, (MX8_undo, 0, 0, 7)) := ⟨mt_X8_undo, rfl, (am_gw_in (am_wd_mem 6 3 rfl) rfl), (am_gw_in (am_wd_mem 6 4 rfl) rfl), (am_gw_in (am_wd_mem 6 5 rfl) rfl)⟩
theorem pmk_11_145 : am_mokP RL (145, (MX7_mark, 0, 0, 6)) := ⟨mt_X7_mark, rfl, (am_gw_in (am_wd_mem 3 215 rfl) rfl), (am_gw_in (am_wd_mem 3 216 rfl) rfl), (am_gw_in (am_wd_mem 3 217 rfl) rfl)⟩
theorem pmk_11_148 : am_mokP RL (148, (MX8_mark, 0, 0, 7)) := ⟨mt_X8_mark, rfl, (am_gw_in (am_wd_mem 6 7 rfl) rfl), (am_gw_in (am_wd_mem 6 8 rfl) rfl), (am_gw_in (am_wd_mem 6 9 rfl) rfl)⟩
theorem pmk_11_149 : am_mokP RL (149, (MX7_back, 0, 1, 6)) := ⟨mt_X7_back, rfl, (am_gw_in (am_wd_mem 3 223 rfl) rfl), (am_gw_in (am_wd_mem 3 224 rfl) rfl), (am_gw_in (am_wd_mem 3 225 rfl) rfl)⟩
theorem pmk_11_152 : am_mokP RL (152, (MX8_back, 0, 1, 7)) := ⟨mt_X8_back, rfl, (am_gw_in (am_wd_mem 6 11 rfl) rfl), (am_gw_in (am_wd_mem 6 12 rfl) rfl), (am_gw_in (am_wd_mem 6 13 rfl) rfl)⟩
theorem pmk_11_153 : am_mokP RL (153, (MX7_count, 0, 1, 6)) := ⟨mt_X7_count, rfl, (am_gw_in (am_wd_mem 3 232 rfl) rfl), (am_gw_in (am_wd_mem 3 233 rfl) rfl), (am_gw_in (am_wd_mem 3 234 rfl) rfl)⟩
theorem pmk_11_156 : am_mokP RL (156, (MX8_count, 0, 1, 7)) := ⟨mt_X8_count, rfl, (am_gw_in (am_wd_mem 6 15 rfl) rfl), (am_gw_in (am_wd_mem 6 16 rfl) rfl), (am_gw_in (am_wd_mem 6 17 rfl) rfl)⟩
theorem pmk_11_157 : am_mokP RL (157, (MX7_digest, 0, 0, 6)) := ⟨mt_X7_digest, rfl, (am_gw_in (am_wd_mem 4 4 rfl) rfl), (am_gw_in (am_wd_mem 4 5 rfl) rfl), (am_gw_in (am_wd_mem 4 6 rfl) rfl)⟩
theorem pmk_11_161 : am_mokP RL (161, (MX8_digest, 0, 0, 7)) := ⟨mt_X8_digest, rfl, (am_gw_in (am_wd_mem 6 23 rfl) rfl), (am_gw_in (am_wd_mem 6 24 rfl) rfl), (am_gw_in (am_wd_mem 6 25 rfl) rfl)⟩
theorem am_pm_ok_11 : ∀ e ∈ pm11, am_mokP RL e := List.forall_mem_cons.mpr ⟨pmk_11_9, List.forall_mem_cons.mpr ⟨pmk_11_12, List.forall_mem_cons.mpr ⟨pmk_11_13, List.forall_mem_cons.mpr ⟨pmk_11_17, List.forall_mem_cons.mpr ⟨pmk_11_18, List.forall_mem_cons.mpr ⟨pmk_11_22, List.forall_mem_cons.mpr ⟨pmk_11_23, List.forall_mem_cons.mpr ⟨pmk_11_26, List.forall_mem_cons.mpr ⟨pmk_11_27, List.forall_mem_cons.mpr ⟨pmk_11_31, List.forall_mem_cons.mpr ⟨pmk_11_32, List.forall_mem_cons.mpr ⟨pmk_11_36, List.forall_mem_cons.mpr ⟨pmk_11_37, List.forall_mem_cons.mpr ⟨pmk_11_40, List.forall_mem_cons.mpr ⟨pmk_11_43, List.forall_mem_cons.mpr ⟨pmk_11_47, List.forall_mem_cons.mpr ⟨pmk_11_48, List.forall_mem_cons.mpr ⟨pmk_11_51, List.forall_mem_cons.mpr ⟨pmk_11_52, List.forall_mem_cons.mpr ⟨pmk_11_56, List.forall_mem_cons.mpr ⟨pmk_11_57, List.forall_mem_cons.mpr ⟨pmk_11_61, List.forall_mem_cons.mpr ⟨pmk_11_62, List.forall_mem_cons.mpr ⟨pmk_11_65, List.forall_mem_cons.mpr ⟨pmk_11_66, List.forall_mem_cons.mpr ⟨pmk_11_70, List.forall_mem_cons.mpr ⟨pmk_11_71, List.forall_mem_cons.mpr ⟨pmk_11_75, List.forall_mem_cons.mpr ⟨pmk_11_76, List.forall_mem_cons.mpr ⟨pmk_11_80, List.forall_mem_cons.mpr ⟨pmk_11_81, List.forall_mem_cons.mpr ⟨pmk_11_84, List.forall_mem_cons.mpr ⟨pmk_11_85, List.forall_mem_cons.mpr ⟨pmk_11_88, List.forall_mem_cons.mpr ⟨pmk_11_89, List.forall_mem_cons.mpr ⟨pmk_11_93, List.forall_mem_cons.mpr ⟨pmk_11_94, List.forall_mem_cons.mpr ⟨pmk_11_97, List.forall_mem_cons.mpr ⟨pmk_11_98, List.forall_mem_cons.mpr ⟨pmk_11_101, List.forall_mem_cons.mpr ⟨pmk_11_102, List.forall_mem_cons.mpr ⟨pmk_11_105, List.forall_mem_cons.mpr ⟨pmk_11_106, List.forall_mem_cons.mpr ⟨pmk_11_109, List.forall_mem_cons.mpr ⟨pmk_11_110, List.forall_mem_cons.mpr ⟨pmk_11_113, List.forall_mem_cons.mpr ⟨pmk_11_114, List.forall_mem_cons.mpr ⟨pmk_11_117, List.forall_mem_cons.mpr ⟨pmk_11_118, List.forall_mem_cons.mpr ⟨pmk_11_121, List.forall_mem_cons.mpr ⟨pmk_11_122, List.forall_mem_cons.mpr ⟨pmk_11_126, List.forall_mem_cons.mpr ⟨pmk_11_127, List.forall_mem_cons.mpr ⟨pmk_11_131, List.forall_mem_cons.mpr ⟨pmk_11_132, List.forall_mem_cons.mpr ⟨pmk_11_136, List.forall_mem_cons.mpr ⟨pmk_11_137, List.forall_mem_cons.mpr ⟨pmk_11_140, List.forall_mem_cons.mpr ⟨pmk_11_141, List.forall_mem_cons.mpr ⟨pmk_11_144, List.forall_mem_cons.mpr ⟨pmk_11_145, List.forall_mem_cons.mpr ⟨pmk_11_148, List.forall_mem_cons.mpr ⟨pmk_11_149, List.forall_mem_cons.mpr ⟨pmk_11_152, List.forall_mem_cons.mpr ⟨pmk_11_153, List.forall_mem_cons.mpr ⟨pmk_11_156, List.forall_mem_cons.mpr ⟨pmk_11_157, List.forall_mem_cons.mpr ⟨pmk_11_161, (fun _ h => absurd h List.not_mem_nil)⟩⟩⟩⟩⟩⟩⟩⟩⟩⟩⟩⟩⟩⟩⟩⟩⟩⟩⟩⟩⟩⟩⟩⟩⟩⟩⟩⟩⟩⟩⟩⟩⟩⟩⟩⟩⟩⟩⟩⟩⟩⟩⟩⟩⟩⟩⟩⟩⟩⟩⟩⟩⟩⟩⟩⟩⟩⟩⟩⟩⟩⟩⟩⟩⟩⟩⟩⟩
theorem am_pm_ok (o : Nat) : ∀ e ∈ pm o, am_mokP (am_own o) e := by
  match o with
  | 0 => exact am_pm_ok_0
  | 1 => exact am_pm_ok_1
  | 2 => exact am_pm_ok_2
  | 3 => exact am_pm_ok_3
  | 4 => exact am_pm_ok_4
  | 5 => exact am_pm_ok_5
  | 6 => exact am_pm_ok_6
  | 7 => exact am_pm_ok_7
  | 8 => exact am_pm_ok_8
  | 9 => exact am_pm_ok_9
  | 10 => exact am_pm_ok_10
  | 11 => exact am_pm_ok_11
  | _ + 12 => exact fun _ h => absurd h List.not_mem_nil
theorem am_pc_ok_0 : ∀ e ∈ pc_0, am_cokP RX0 e := (fun _ h => absurd h List.not_mem_nil)
theorem am_pc_ok_1 : ∀ e ∈ pc_1, am_cokP RX1 e := (fun _ h => absurd h List.not_mem_nil)
theorem am_pc_ok_2 : ∀ e ∈ pc_2, am_cokP RX2 e := (fun _ h => absurd h List.not_mem_nil)
theorem am_pc_ok_3 : ∀ e ∈ pc_3, am_cokP RX3 e := (fun _ h => absurd h List.not_mem_nil)
theorem am_pc_ok_4 : ∀ e ∈ pc_4, am_cokP RX4 e := (fun _ h => absurd h List.not_mem_nil)
theorem am_pc_ok_5 : ∀ e ∈ pc_5, am_cokP RX5 e := (fun _ h => absurd h List.not_mem_nil)
theorem am_pc_ok_6 : ∀ e ∈ pc_6, am_cokP RX6 e := (fun _ h => absurd h List.not_mem_nil)
theorem am_pc_ok_7 : ∀ e ∈ pc_7, am_cokP RX7 e := List.forall_mem_cons.mpr ⟨(⟨_, _, _, rfl, (am_gw_in (am_wd_mem 1 20 rfl) rfl), (am_gw_in (am_wd_mem 1 21 rfl) rfl), (am_gw_in (am_wd_mem 1 2 rfl) rfl), rfl⟩ : am_cokP RX7 (7, 5)), List.forall_mem_cons.mpr ⟨(⟨_, _, _, rfl, (am_gw_in (am_wd_mem 1 52 rfl) rfl), (am_gw_in (am_wd_mem 1 54 rfl) rfl), (am_gw_in (am_wd_mem 1 3 rfl) rfl), rfl⟩ : am_cokP RX7 (16, 1)), List.forall_mem_cons.mpr ⟨(⟨_, _, _, rfl, (am_gw_in (am_wd_mem 1 127 rfl) rfl), (am_gw_in (am_wd_mem 1 128 rfl) rfl), (am_gw_in (am_wd_mem 1 6 rfl) rfl), rfl⟩ : am_cokP RX7 (23, 2)), List.forall_mem_cons.mpr ⟨(⟨_, _, _, rfl, (am_gw_in (am_wd_mem 1 149 rfl) rfl), (am_gw_in (am_wd_mem 3 18 rfl) rfl), (am_gw_in (am_wd_mem 1 11 rfl) rfl), rfl⟩ : am_cokP RX7 (30, 3)), List.forall_mem_cons.mpr ⟨(⟨_, _, _, rfl, (am_gw_in (am_wd_mem 1 151 rfl) rfl), (am_gw_in (am_wd_mem 1 152 rfl) rfl), (am_gw_in (am_wd_mem 1 7 rfl) rfl), rfl⟩ : am_cokP RX7 (36, 4)), List.forall_mem_cons.mpr ⟨(⟨_, _, _, rfl, (am_gw_in (am_wd_mem 1 203 rfl) rfl), (am_gw_in (am_wd_mem 1 204 rfl) rfl), (am_gw_in (am_wd_mem 1 8 rfl) rfl), rfl⟩ : am_cokP RX7 (43, 0)), (fun _ h => absurd h List.not_mem_nil)⟩⟩⟩⟩⟩⟩
theorem am_pc_ok_8 : ∀ e ∈ pc_8, am_cokP RX8 e := (fun _ h => absurd h List.not_mem_nil)
theorem am_pc_ok_9 : ∀ e ∈ pc_9, am_cokP RJ13 e := (fun _ h => absurd h List.not_mem_nil)
theorem am_pc_ok_10 : ∀ e ∈ pc_10, am_cokP RJ9 e := (fun _ h => absurd h List.not_mem_nil)
theorem am_pc_ok_11 : ∀ e ∈ pc_11, am_cokP RL e := List.forall_mem_cons.mpr ⟨(⟨_, _, _, rfl, (am_gw_in (am_wd_mem 1 12 rfl) rfl), (am_gw_in (am_wd_mem 1 13 rfl) rfl), (am_gw_in (am_wd_mem 1 1 rfl) rfl), rfl⟩ : am_cokP RL (7, 6)), List.forall_mem_cons.mpr ⟨(⟨_, _, _, rfl, (am_gw_in (am_wd_mem 4 15 rfl) rfl), (am_gw_in (am_wd_mem 4 16 rfl) rfl), (am_gw_in (am_wd_mem 1 9 rfl) rfl), rfl⟩ : am_cokP RL (10, 7)), (fun _ h => absurd h List.not_mem_nil)⟩⟩
theorem am_pc_ok (o : Nat) : ∀ e ∈ pc_ o, am_cokP (am_own o) e := by
  match o with
  | 0 => exact am_pc_ok_0
  | 1 => exact am_pc_ok_1
  | 2 => exact am_pc_ok_2
  | 3 => exact am_pc_ok_3
  | 4 => exact am_pc_ok_4
  | 5 => exact am_pc_ok_5
  | 6 => exact am_pc_ok_6
  | 7 => exact am_pc_ok_7
  | 8 => exact am_pc_ok_8
  | 9 => exact am_pc_ok_9
  | 10 => exact am_pc_ok_10
  | 11 => exact am_pc_ok_11
  | _ + 12 => exact fun _ h => absurd h List.not_mem_nil
def am_iokP (own : String) (e : Nat × Int32) : Prop := Cond.constant own e.1 e.2 ∈ am_gw
def am_lokP (own : String) (e : Nat × Int64) : Prop := Cond.constantLong own e.1 e.2 ∈ am_gw
theorem am_pi_ok_0 : ∀ e ∈ pi0, am_iokP RX0 e := (fun _ h => absurd h List.not_mem_nil)
theorem am_pi_ok_1 : ∀ e ∈ pi1, am_iokP RX1 e := (fun _ h => absurd h List.not_mem_nil)
theorem am_pi_ok_2 : ∀ e ∈ pi2, am_iokP RX2 e := (fun _ h => absurd h List.not_mem_nil)
theorem am_pi_ok_3 : ∀ e ∈ pi3, am_iokP RX3 e := (fun _ h => absurd h List.not_mem_nil)
theorem am_pi_ok_4 : ∀ e ∈ pi4, am_iokP RX4 e := (fun _ h => absurd h List.not_mem_nil)
theorem am_pi_ok_5 : ∀ e ∈ pi5, am_iokP RX5 e := (fun _ h => absurd h List.not_mem_nil)
theorem am_pi_ok_6 : ∀ e ∈ pi6, am_iokP RX6 e := (fun _ h => absurd h List.not_mem_nil)
theorem am_pi_ok_7 : ∀ e ∈ pi7, am_iokP RX7 e := List.forall_mem_cons.mpr ⟨(am_gw_in (am_wd_mem 2 62 rfl) rfl), List.forall_mem_cons.mpr ⟨(am_gw_in (am_wd_mem 2 63 rfl) rfl), (fun _ h => absurd h List.not_mem_nil)⟩⟩
theorem am_pi_ok_8 : ∀ e ∈ pi8, am_iokP RX8 e := (fun _ h => absurd h List.not_mem_nil)
theorem am_pi_ok_9 : ∀ e ∈ pi9, am_iokP RJ13 e := (fun _ h => absurd h List.not_mem_nil)
theorem am_pi_ok_10 : ∀ e ∈ pi10, am_iokP RJ9 e := (fun _ h => absurd h List.not_mem_nil)
theorem am_pi_ok_11 : ∀ e ∈ pi11, am_iokP RL e := (fun _ h => absurd h List.not_mem_nil)
theorem am_pi_ok (o : Nat) : ∀ e ∈ pi o, am_iokP (am_own o) e := by
  match o with
  | 0 => exact am_pi_ok_0
  | 1 => exact am_pi_ok_1
  | 2 => exact am_pi_ok_2
  | 3 => exact am_pi_ok_3
  | 4 => exact am_pi_ok_4
  | 5 => exact am_pi_ok_5
  | 6 => exact am_pi_ok_6
  | 7 => exact am_pi_ok_7
  | 8 => exact am_pi_ok_8
  | 9 => exact am_pi_ok_9
  | 10 => exact am_pi_ok_10
  | 11 => exact am_pi_ok_11
  | _ + 12 => exact fun _ h => absurd h List.not_mem_nil
theorem am_pl_ok_0 : ∀ e ∈ pl0, am_lokP RX0 e := (fun _ h => absurd h List.not_mem_nil)
theorem am_pl_ok_1 : ∀ e ∈ pl1, am_lokP RX1 e := List.forall_mem_cons.mpr ⟨(am_gw_in (am_wd_mem 2 103 rfl) rfl), (fun _ h => absurd h List.not_mem_nil)⟩
theorem am_pl_ok_2 : ∀ e ∈ pl2, am_lokP RX2 e := List.forall_mem_cons.mpr ⟨(am_gw_in (am_wd_mem 1 88 rfl) rfl), List.forall_mem_cons.mpr ⟨(am_gw_in (am_wd_mem 2 160 rfl) rfl), (fun _ h => absurd h List.not_mem_nil)⟩⟩
theorem am_pl_ok_3 : ∀ e ∈ pl3, am_lokP RX3 e := (fun _ h => absurd h List.not_mem_nil)
theorem am_pl_ok_4 : ∀ e ∈ pl4, am_lokP RX4 e := List.forall_mem_cons.mpr ⟨(am_gw_in (am_wd_mem 3 109 rfl) rfl), (fun _ h => absurd h List.not_mem_nil)⟩
theorem am_pl_ok_5 : ∀ e ∈ pl5, am_lokP RX5 e := (fun _ h => absurd h List.not_mem_nil)
theorem am_pl_ok_6 : ∀ e ∈ pl6, am_lokP RX6 e := (fun _ h => absurd h List.not_mem_nil)
theorem am_pl_ok_7 : ∀ e ∈ pl7, am_lokP RX7 e := List.forall_mem_cons.mpr ⟨(am_gw_in (am_wd_mem 4 8 rfl) rfl), List.forall_mem_cons.mpr ⟨(am_gw_in (am_wd_mem 4 9 rfl) rfl), List.forall_mem_cons.mpr ⟨(am_gw_in (am_wd_mem 1 87 rfl) rfl), (fun _ h => absurd h List.not_mem_nil)⟩⟩⟩
theorem am_pl_ok_8 : ∀ e ∈ pl8, am_lokP RX8 e := List.forall_mem_cons.mpr ⟨(am_gw_in (am_wd_mem 4 168 rfl) rfl), List.forall_mem_cons.mpr ⟨(am_gw_in (am_wd_mem 4 215 rfl) rfl), List.forall_mem_cons.mpr ⟨(am_gw_in (am_wd_mem 4 172 rfl) rfl), List.forall_mem_cons.mpr ⟨(am_gw_in (am_wd_mem 4 173 rfl) rfl), List.forall_mem_cons.mpr ⟨(am_gw_in (am_wd_mem 4 202 rfl) rfl), List.forall_mem_cons.mpr ⟨(am_gw_in (am_wd_mem 4 203 rfl) rfl), List.forall_mem_cons.mpr ⟨(am_gw_in (am_wd_mem 4 204 rfl) rfl), List.forall_mem_cons.mpr ⟨(am_gw_in (am_wd_mem 4 205 rfl) rfl), List.forall_mem_cons.mpr ⟨(am_gw_in (am_wd_mem 4 206 rfl) rfl), List.forall_mem_cons.mpr ⟨(am_gw_in (am_wd_mem 4 232 rfl) rfl), List.forall_mem_cons.mpr ⟨(am_gw_in (am_wd_mem 5 8 rfl) rfl), List.forall_mem_cons.mpr ⟨(am_gw_in (am_wd_mem 5 9 rfl) rfl), List.forall_mem_cons.mpr ⟨(am_gw_in (am_wd_mem 5 10 rfl) rfl), List.forall_mem_cons.mpr ⟨(am_gw_in (am_wd_mem 5 47 rfl) rfl), List.forall_mem_cons.mpr ⟨(am_gw_in (am_wd_mem 5 76 rfl) rfl), List.forall_mem_cons.mpr ⟨(am_gw_in (am_wd_mem 5 104 rfl) rfl), List.forall_mem_cons.mpr ⟨(am_gw_in (am_wd_mem 5 121 rfl) rfl), List.forall_mem_cons.mpr ⟨(am_gw_in (am_wd_mem 5 122 rfl) rfl), List.forall_mem_cons.mpr ⟨(am_gw_in (am_wd_mem 6 27 rfl) rfl), List.forall_mem_cons.mpr ⟨(am_gw_in (am_wd_mem 6 28 rfl) rfl), (fun _ h => absurd h List.not_mem_nil)⟩⟩⟩⟩⟩⟩⟩⟩⟩⟩⟩⟩⟩⟩⟩⟩⟩⟩⟩⟩
theorem am_pl_ok_9 : ∀ e ∈ pl9, am_lokP RJ13 e := List.forall_mem_cons.mpr ⟨(am_gw_in (am_wd_mem 2 119 rfl) rfl), List.forall_mem_cons.mpr ⟨(am_gw_in (am_wd_mem 2 120 rfl) rfl), List.forall_mem_cons.mpr ⟨(am_gw_in (am_wd_mem 2 121 rfl) rfl), (fun _ h => absurd h List.not_mem_nil)⟩⟩⟩
theorem am_pl_ok_10 : ∀ e ∈ pl10, am_lokP RJ9 e := (fun _ h => absurd h List.not_mem_nil)
theorem am_pl_ok_11 : ∀ e ∈ pl11, am_lokP RL e := List.forall_mem_cons.mpr ⟨(am_gw_in (am_wd_mem 6 29 rfl) rfl), (fun _ h => absurd h List.not_mem_nil)⟩
theorem am_pl_ok (o : Nat) : ∀ e ∈ pl o, am_lokP (am_own o) e := by
  match o with
  | 0 => exact am_pl_ok_0
  | 1 => exact am_pl_ok_1
  | 2 => exact am_pl_ok_2
  | 3 => exact am_pl_ok_3
  | 4 => exact am_pl_ok_4
  | 5 => exact am_pl_ok_5
  | 6 => exact am_pl_ok_6
  | 7 => exact am_pl_ok_7
  | 8 => exact am_pl_ok_8
  | 9 => exact am_pl_ok_9
  | 10 => exact am_pl_ok_10
  | 11 => exact am_pl_ok_11
  | _ + 12 => exact fun _ h => absurd h List.not_mem_nil
theorem am_max1 : Cond.static Lib.Math.max.name ∈ am_gw := (am_gw_in (am_wd_mem 1 79 rfl) rfl)
theorem am_max2 : Cond.code Lib.Math.max.name Lib.Math.max.code 2 (some .int) ∈ am_gw := (am_gw_in (am_wd_mem 1 80 rfl) rfl)
theorem am_min1 : Cond.static Lib.Math.min.name ∈ am_gw := (am_gw_in (am_wd_mem 2 52 rfl) rfl)
theorem am_min2 : Cond.code Lib.Math.min.name Lib.Math.min.code 2 (some .int) ∈ am_gw := (am_gw_in (am_wd_mem 2 53 rfl) rfl)
theorem am_mth : Cond.initialized "java/lang/Math" ∈ am_gw := (am_gw_in (am_wd_mem 1 5 rfl) rfl)
theorem am_oi1 : Cond.instanceMethod objectInit ∈ am_gw := (am_gw_in (am_wd_mem 1 18 rfl) rfl)
theorem am_oi2 : Cond.code objectInit ⟨#[0xb1]⟩ 1 none ∈ am_gw := (am_gw_in (am_wd_mem 1 19 rfl) rfl)
theorem am_ai : Cond.arrayClass .int ∈ am_gw := (am_gw_in (am_wd_mem 1 51 rfl) rfl)
theorem am_az : Cond.arrayClass .boolean ∈ am_gw := (am_gw_in (am_wd_mem 4 160 rfl) rfl)
theorem am_al : Cond.arrayClass .long ∈ am_gw := (am_gw_in (am_wd_mem 1 126 rfl) rfl)
theorem am_aq1 : Cond.arrayOver (.object RX1) ∈ lw_tbl := (am_wd_mem 1 53 rfl)
theorem am_aq4 : Cond.arrayOver (.object RX4) ∈ lw_tbl := (am_wd_mem 1 150 rfl)
theorem am_in0 : ∀ w ∈ u_ws RX0 TX0 2, w ∈ am_gw := by
  intro w hw
  obtain ⟨j, hj, rfl⟩ := List.mem_map.mp hw
  have hj : j < 2 := List.mem_range.mp hj
  match j, hj with
  | 0, _ => exact (am_gw_in (am_wd_mem 1 212 rfl) rfl)
  | 1, _ => exact (am_gw_in (am_wd_mem 1 214 rfl) rfl)
  | j + 2, h => omega
theorem am_in1 : ∀ w ∈ u_ws RX1 TX1 10, w ∈ am_gw := by
  intro w hw
  obtain ⟨j, hj, rfl⟩ := List.mem_map.mp hw
  have hj : j < 10 := List.mem_range.mp hj
  match j, hj with
  | 0, _ => exact (am_gw_in (am_wd_mem 1 105 rfl) rfl)
  | 1, _ => exact (am_gw_in (am_wd_mem 1 107 rfl) rfl)
  | 2, _ => exact (am_gw_in (am_wd_mem 1 109 rfl) rfl)
  | 3, _ => exact (am_gw_in (am_wd_mem 1 111 rfl) rfl)
  | 4, _ => exact (am_gw_in (am_wd_mem 1 113 rfl) rfl)
  | 5, _ => exact (am_gw_in (am_wd_mem 1 115 rfl) rfl)
  | 6, _ => exact (am_gw_in (am_wd_mem 1 117 rfl) rfl)
  | 7, _ => exact (am_gw_in (am_wd_mem 1 119 rfl) rfl)
  | 8, _ => exact (am_gw_in (am_wd_mem 1 121 rfl) rfl)
  | 9, _ => exact (am_gw_in (am_wd_mem 1 123 rfl) rfl)
  | j + 10, h => omega
theorem am_in2 : ∀ w ∈ u_ws RX3 TX3 4, w ∈ am_gw := by
  intro w hw
  obtain ⟨j, hj, rfl⟩ := List.mem_map.mp hw
  have hj : j < 4 := List.mem_range.mp hj
  match j, hj with
  | 0, _ => exact (am_gw_in (am_wd_mem 1 140 rfl) rfl)
  | 1, _ => exact (am_gw_in (am_wd_mem 1 142 rfl) rfl)
  | 2, _ => exact (am_gw_in (am_wd_mem 1 144 rfl) rfl)
  | 3, _ => exact (am_gw_in (am_wd_mem 1 146 rfl) rfl)
  | j + 4, h => omega
theorem am_in3 : ∀ w ∈ u_ws RX4 TX4 6, w ∈ am_gw := by
  intro w hw
  obtain ⟨j, hj, rfl⟩ := List.mem_map.mp hw
  have hj : j < 6 := List.mem_range.mp hj
  match j, hj with
  | 0, _ => exact (am_gw_in (am_wd_mem 3 58 rfl) rfl)
  | 1, _ => exact (am_gw_in (am_wd_mem 3 60 rfl) rfl)
  | 2, _ => exact (am_gw_in (am_wd_mem 3 62 rfl) rfl)
  | 3, _ => exact (am_gw_in (am_wd_mem 3 64 rfl) rfl)
  | 4, _ => exact (am_gw_in (am_wd_mem 3 66 rfl) rfl)
  | 5, _ => exact (am_gw_in (am_wd_mem 3 68 rfl) rfl)
  | j + 6, h => omega
theorem am_in4 : ∀ w ∈ u_ws RX5 TX5 13, w ∈ am_gw := by
  intro w hw
  obtain ⟨j, hj, rfl⟩ := List.mem_map.mp hw
  have hj : j < 13 := List.mem_range.mp hj
  match j, hj with
  | 0, _ => exact (am_gw_in (am_wd_mem 1 176 rfl) rfl)
  | 1, _ => exact (am_gw_in (am_wd_mem 1 178 rfl) rfl)
  | 2, _ => exact (am_gw_in (am_wd_mem 1 180 rfl) rfl)
  | 3, _ => exact (am_gw_in (am_wd_mem 1 182 rfl) rfl)
  | 4, _ => exact (am_gw_in (am_wd_mem 1 184 rfl) rfl)
  | 5, _ => exact (am_gw_in (am_wd_mem 1 186 rfl) rfl)
  | 6, _ => exact (am_gw_in (am_wd_mem 1 188 rfl) rfl)
  | 7, _ => exact (am_gw_in (am_wd_mem 1 190 rfl) rfl)
  | 8, _ => exact (am_gw_in (am_wd_mem 1 192 rfl) rfl)
  | 9, _ => exact (am_gw_in (am_wd_mem 1 194 rfl) rfl)
  | 10, _ => exact (am_gw_in (am_wd_mem 1 196 rfl) rfl)
  | 11, _ => exact (am_gw_in (am_wd_mem 1 198 rfl) rfl)
  | 12, _ => exact (am_gw_in (am_wd_mem 1 200 rfl) rfl)
  | j + 13, h => omega
theorem am_in5 : ∀ w ∈ u_ws RX6 TX6 8, w ∈ am_gw := by
  intro w hw
  obtain ⟨j, hj, rfl⟩ := List.mem_map.mp hw
  have hj : j < 8 := List.mem_range.mp hj
  match j, hj with
  | 0, _ => exact (am_gw_in (am_wd_mem 1 34 rfl) rfl)
  | 1, _ => exact (am_gw_in (am_wd_mem 1 36 rfl) rfl)
  | 2, _ => exact (am_gw_in (am_wd_mem 1 38 rfl) rfl)
  | 3, _ => exact (am_gw_in (am_wd_mem 1 40 rfl) rfl)
  | 4, _ => exact (am_gw_in (am_wd_mem 1 42 rfl) rfl)
  | 5, _ => exact (am_gw_in (am_wd_mem 1 44 rfl) rfl)
  | 6, _ => exact (am_gw_in (am_wd_mem 1 46 rfl) rfl)
  | 7, _ => exact (am_gw_in (am_wd_mem 1 48 rfl) rfl)
  | j + 8, h => omega
theorem am_in6 : ∀ w ∈ u_ws RX7 TX7 9, w ∈ am_gw := by
  intro w hw
  obtain ⟨j, hj, rfl⟩ := List.mem_map.mp hw
  have hj : j < 9 := List.mem_range.mp hj
  match j, hj with
  | 0, _ => exact (am_gw_in (am_wd_mem 1 226 rfl) rfl)
  | 1, _ => exact (am_gw_in (am_wd_mem 1 228 rfl) rfl)
  | 2, _ => exact (am_gw_in (am_wd_mem 1 230 rfl) rfl)
  | 3, _ => exact (am_gw_in (am_wd_mem 1 232 rfl) rfl)
  | 4, _ => exact (am_gw_in (am_wd_mem 1 234 rfl) rfl)
  | 5, _ => exact (am_gw_in (am_wd_mem 1 236 rfl) rfl)
  | 6, _ => exact (am_gw_in (am_wd_mem 1 238 rfl) rfl)
  | 7, _ => exact (am_gw_in (am_wd_mem 2 0 rfl) rfl)
  | 8, _ => exact (am_gw_in (am_wd_mem 2 2 rfl) rfl)
  | j + 9, h => omega
theorem am_in7 : ∀ w ∈ u_ws RX8 TX8 46, w ∈ am_gw := by
  intro w hw
  obtain ⟨j, hj, rfl⟩ := List.mem_map.mp hw
  have hj : j < 46 := List.mem_range.mp hj
  match j, hj with
  | 0, _ => exact (am_gw_in (am_wd_mem 4 67 rfl) rfl)
  | 1, _ => exact (am_gw_in (am_wd_mem 4 69 rfl) rfl)
  | 2, _ => exact (am_gw_in (am_wd_mem 4 71 rfl) rfl)
  | 3, _ => exact (am_gw_in (am_wd_mem 4 73 rfl) rfl)
  | 4, _ => exact (am_gw_in (am_wd_mem 4 75 rfl) rfl)
  | 5, _ => exact (am_gw_in (am_wd_mem 4 77 rfl) rfl)
  | 6, _ => exact (am_gw_in (am_wd_mem 4 79 rfl) rfl)
  | 7, _ => exact (am_gw_in (am_wd_mem 4 81 rfl) rfl)
  | 8, _ => exact (am_gw_in (am_wd_mem 4 83 rfl) rfl)
  | 9, _ => exact (am_gw_in (am_wd_mem 4 85 rfl) rfl)
  | 10, _ => exact (am_gw_in (am_wd_mem 4 87 rfl) rfl)
  | 11, _ => exact (am_gw_in (am_wd_mem 4 89 rfl) rfl)
  | 12, _ => exact (am_gw_in (am_wd_mem 4 91 rfl) rfl)
  | 13, _ => exact (am_gw_in (am_wd_mem 4 93 rfl) rfl)
  | 14, _ => exact (am_gw_in (am_wd_mem 4 95 rfl) rfl)
  | 15, _ => exact (am_gw_in (am_wd_mem 4 97 rfl) rfl)
  | 16, _ => exact (am_gw_in (am_wd_mem 4 99 rfl) rfl)
  | 17, _ => exact (am_gw_in (am_wd_mem 4 101 rfl) rfl)
  | 18, _ => exact (am_gw_in (am_wd_mem 4 103 rfl) rfl)
  | 19, _ => exact (am_gw_in (am_wd_mem 4 105 rfl) rfl)
  | 20, _ => exact (am_gw_in (am_wd_mem 4 107 rfl) rfl)
  | 21, _ => exact (am_gw_in (am_wd_mem 4 109 rfl) rfl)
  | 22, _ => exact (am_gw_in (am_wd_mem 4 111 rfl) rfl)
  | 23, _ => exact (am_gw_in (am_wd_mem 4 113 rfl) rfl)
  | 24, _ => exact (am_gw_in (am_wd_mem 4 115 rfl) rfl)
  | 25, _ => exact (am_gw_in (am_wd_mem 4 117 rfl) rfl)
  | 26, _ => exact (am_gw_in (am_wd_mem 4 119 rfl) rfl)
  | 27, _ => exact (am_gw_in (am_wd_mem 4 121 rfl) rfl)
  | 28, _ => exact (am_gw_in (am_wd_mem 4 123 rfl) rfl)
  | 29, _ => exact (am_gw_in (am_wd_mem 4 125 rfl) rfl)
  | 30, _ => exact (am_gw_in (am_wd_mem 4 127 rfl) rfl)
  | 31, _ => exact (am_gw_in (am_wd_mem 4 129 rfl) rfl)
  | 32, _ => exact (am_gw_in (am_wd_mem 4 131 rfl) rfl)
  | 33, _ => exact (am_gw_in (am_wd_mem 4 133 rfl) rfl)
  | 34, _ => exact (am_gw_in (am_wd_mem 4 135 rfl) rfl)
  | 35, _ => exact (am_gw_in (am_wd_mem 4 137 rfl) rfl)
  | 36, _ => exact (am_gw_in (am_wd_mem 4 139 rfl) rfl)
  | 37, _ => exact (am_gw_in (am_wd_mem 4 141 rfl) rfl)
  | 38, _ => exact (am_gw_in (am_wd_mem 4 143 rfl) rfl)
  | 39, _ => exact (am_gw_in (am_wd_mem 4 145 rfl) rfl)
  | 40, _ => exact (am_gw_in (am_wd_mem 4 147 rfl) rfl)
  | 41, _ => exact (am_gw_in (am_wd_mem 4 149 rfl) rfl)
  | 42, _ => exact (am_gw_in (am_wd_mem 4 151 rfl) rfl)
  | 43, _ => exact (am_gw_in (am_wd_mem 4 153 rfl) rfl)
  | 44, _ => exact (am_gw_in (am_wd_mem 4 155 rfl) rfl)
  | 45, _ => exact (am_gw_in (am_wd_mem 4 157 rfl) rfl)
  | j + 46, h => omega
theorem am_cls {ci : Nat} {C : String} {T : u_T} {N : Nat} (h : vwCl[ci]? = some (C, T, N)) : (∀ w ∈ u_ws C T N, w ∈ am_gw) ∧ (∀ k, k < N → parseFieldDescriptor (T k).2.2.1 = some (am_tf ci k)) ∧ (∀ a, a < N → ∀ b, b < N → a ≠ b → (T a).2.1 ≠ (T b).2.1) ∧ ci < 8 := by
  match ci, h with
  | 0, h => cases h; exact ⟨am_in0, tyX0_ok, nmX0, by decide⟩
  | 1, h => cases h; exact ⟨am_in1, tyX1_ok, nmX1, by decide⟩
  | 2, h => cases h; exact ⟨am_in2, tyX3_ok, nmX3, by decide⟩
  | 3, h => cases h; exact ⟨am_in3, tyX4_ok, nmX4, by decide⟩
  | 4, h => cases h; exact ⟨am_in4, tyX5_ok, nmX5, by decide⟩
  | 5, h => cases h; exact ⟨am_in5, tyX6_ok, nmX6, by decide⟩
  | 6, h => cases h; exact ⟨am_in6, tyX7_ok, nmX7, by decide⟩
  | 7, h => cases h; exact ⟨am_in7, tyX8_ok, nmX8, by decide⟩
  | n + 8, h => simp [vwCl] at h
