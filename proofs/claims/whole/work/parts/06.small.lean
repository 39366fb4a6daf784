def f_X5_isOneOfTwo (what : Int32) : Int32 := if what = (0 : Int32) then 1 else (if what = (1 : Int32) then 1 else 0)
theorem z_X5_isOneOfTwo (what : Int32) : (f_X5_isOneOfTwo what) = 0 ∨ (f_X5_isOneOfTwo what) = 1 := by
  unfold f_X5_isOneOfTwo
  try simp only [bnd]
  repeat' split
  all_goals first | exact Or.inl rfl | exact Or.inr rfl
set_option maxHeartbeats 400000 in
set_option maxRecDepth 100000 in
theorem c_X5_isOneOfTwo (l : Launch) (D : va_G) (cI cP cS cL : ClassId) (L : List Nat) (F : Nat → va_E) (what : Int32)  : wMI l D cI cP cS cL yX5_isOneOfTwo wsX5_isOneOfTwo ({ frames := 0, cells := 0, slots := 0, locals := 0 } : Room) [.int what] L F (f_X5_isOneOfTwo what) F := by
  refine wM.of (cc := cX5_isOneOfTwo) (maxL := 1) (ret := (some .boolean)) (by decide) rfl (Nat.le_of_ble_eq_true rfl) ?_
  intro pZ eZ sZ mZ below meth cZ A ls C hl w
  obtain ⟨hx, hb, hr, hml, hts, hown, hlocks, hK, hA, hin⟩ := C
  have hown : sZ.vm.findClass RX5 = some mZ.cls := hown
  have hl : lv_has ls 1 [(0, .int what)] := hl
  have hq : f_X5_isOneOfTwo what = f_X5_isOneOfTwo what := rfl
  refine lv_iload_n hx hb dX5_isOneOfTwo_0 rfl (lv_at hl 0 rfl) ?_
  refine lv_if_eq (tgt := 9) hx hb dX5_isOneOfTwo_1 (by decide) (fun c1 => ?_) (fun c1 => ?_)
  · skip
    have hq := hq.trans (if_pos c1)
    refine lv_iconst (v := 1) hx hb dX5_isOneOfTwo_9 (by decide) ?_
    refine lv_goto (tgt := 14) hx hb dX5_isOneOfTwo_10 (by decide) ?_
    exact w_zret hx hb hr hlocks w rfl ⟨hq.symm, rfl, rfl⟩ (Nat.le_refl _) (Nat.le_refl _) dX5_isOneOfTwo_14
  · skip
    have hq := hq.trans (if_neg c1)
    refine lv_iload_n hx hb dX5_isOneOfTwo_4 rfl (lv_at hl 0 rfl) ?_
    refine lv_iconst (v := 1) hx hb dX5_isOneOfTwo_5 (by decide) ?_
    refine lv_icmp_ne (tgt := 13) hx hb dX5_isOneOfTwo_6 (by decide) (fun c2 => ?_) (fun c2 => ?_)
    · skip
      have hq := hq.trans (if_neg c2)
      refine lv_iconst (v := 0) hx hb dX5_isOneOfTwo_13 (by decide) ?_
      exact w_zret hx hb hr hlocks w rfl ⟨hq.symm, rfl, rfl⟩ (Nat.le_refl _) (Nat.le_refl _) dX5_isOneOfTwo_14
    · skip
      have hq := hq.trans (if_pos c2)
      refine lv_iconst (v := 1) hx hb dX5_isOneOfTwo_9 (by decide) ?_
      refine lv_goto (tgt := 14) hx hb dX5_isOneOfTwo_10 (by decide) ?_
      exact w_zret hx hb hr hlocks w rfl ⟨hq.symm, rfl, rfl⟩ (Nat.le_refl _) (Nat.le_refl _) dX5_isOneOfTwo_14
def f_X5_isStepCount (k0 : Int32) : Int32 := if k0 < (0 : Int32) then 0 else (if (9 : Int32) < k0 then 0 else 1)
theorem z_X5_isStepCount (k0 : Int32) : (f_X5_isStepCount k0) = 0 ∨ (f_X5_isStepCount k0) = 1 := by
  unfold f_X5_isStepCount
  try simp only [bnd]
  repeat' split
  all_goals first | exact Or.inl rfl | exact Or.inr rfl
set_option maxHeartbeats 400000 in
set_option maxRecDepth 100000 in
theorem c_X5_isStepCount (l : Launch) (D : va_G) (cI cP cS cL : ClassId) (L : List Nat) (F : Nat → va_E) (k0 : Int32)  : wMI l D cI cP cS cL yX5_isStepCount wsX5_isStepCount ({ frames := 0, cells := 0, slots := 0, locals := 0 } : Room) [.int k0] L F (f_X5_isStepCount k0) F := by
  refine wM.of (cc := cX5_isStepCount) (maxL := 1) (ret := (some .boolean)) (by decide) rfl (Nat.le_of_ble_eq_true rfl) ?_
  intro pZ eZ sZ mZ below meth cZ A ls C hl w
  obtain ⟨hx, hb, hr, hml, hts, hown, hlocks, hK, hA, hin⟩ := C
  have hown : sZ.vm.findClass RX5 = some mZ.cls := hown
  have hl : lv_has ls 1 [(0, .int k0)] := hl
  have hq : f_X5_isStepCount k0 = f_X5_isStepCount k0 := rfl
  refine lv_iload_n hx hb dX5_isStepCount_0 rfl (lv_at hl 0 rfl) ?_
  refine lv_if_lt (tgt := 14) hx hb dX5_isStepCount_1 (by decide) (fun c1 => ?_) (fun c1 => ?_)
  · skip
    have hq := hq.trans (if_pos c1)
    refine lv_iconst (v := 0) hx hb dX5_isStepCount_14 (by decide) ?_
    exact w_zret hx hb hr hlocks w rfl ⟨hq.symm, rfl, rfl⟩ (Nat.le_refl _) (Nat.le_refl _) dX5_isStepCount_15
  · skip
    have hq := hq.trans (if_neg c1)
    refine lv_iload_n hx hb dX5_isStepCount_4 rfl (lv_at hl 0 rfl) ?_
    refine lv_bipush (v := 9) hx hb dX5_isStepCount_5 (by decide) ?_
    refine lv_icmp_gt (tgt := 14) hx hb dX5_isStepCount_7 (by decide) (fun c2 => ?_) (fun c2 => ?_)
    · skip
      have hq := hq.trans (if_pos c2)
      refine lv_iconst (v := 0) hx hb dX5_isStepCount_14 (by decide) ?_
      exact w_zret hx hb hr hlocks w rfl ⟨hq.symm, rfl, rfl⟩ (Nat.le_refl _) (Nat.le_refl _) dX5_isStepCount_15
    · skip
      have hq := hq.trans (if_neg c2)
      refine lv_iconst (v := 1) hx hb dX5_isStepCount_10 (by decide) ?_
      refine lv_goto (tgt := 15) hx hb dX5_isStepCount_11 (by decide) ?_
      exact w_zret hx hb hr hlocks w rfl ⟨hq.symm, rfl, rfl⟩ (Nat.le_refl _) (Nat.le_refl _) dX5_isStepCount_15
def f_X5_over (above : Int32) (line : Int32) : Int32 := if line = (0 : Int32) then 0 else (above / line)
set_option maxHeartbeats 400000 in
set_option maxRecDepth 100000 in
theorem c_X5_over (l : Launch) (D : va_G) (cI cP cS cL : ClassId) (L : List Nat) (F : Nat → va_E) (above : Int32) (line : Int32)  : wMI l D cI cP cS cL yX5_over wsX5_over ({ frames := 0, cells := 0, slots := 0, locals := 0 } : Room) [.int above, .int line] L F (f_X5_over above line) F := by
  refine wM.of (cc := cX5_over) (maxL := 2) (ret := (some .int)) (by decide) rfl (Nat.le_of_ble_eq_true rfl) ?_
  intro pZ eZ sZ mZ below meth cZ A ls C hl w
  obtain ⟨hx, hb, hr, hml, hts, hown, hlocks, hK, hA, hin⟩ := C
  have hown : sZ.vm.findClass RX5 = some mZ.cls := hown
  have hl : lv_has ls 2 [(0, .int above), (1, .int line)] := hl
  have hq : f_X5_over above line = f_X5_over above line := rfl
  refine lv_iload_n hx hb dX5_over_0 rfl (lv_at hl 1 rfl) ?_
  refine lv_if_ne (tgt := 8) hx hb dX5_over_1 (by decide) (fun c1 => ?_) (fun c1 => ?_)
  · skip
    have hq := hq.trans (if_neg c1)
    refine lv_iload_n hx hb dX5_over_8 rfl (lv_at hl 0 rfl) ?_
    refine lv_iload_n hx hb dX5_over_9 rfl (lv_at hl 1 rfl) ?_
    refine lv_idiv hx hb dX5_over_10 (by assumption) ?_
    exact w_iret hx hb hr hlocks w ⟨hq.symm, rfl, rfl⟩ (Nat.le_refl _) (Nat.le_refl _) dX5_over_11
  · skip
    have hq := hq.trans (if_pos c1)
    refine lv_iconst (v := 0) hx hb dX5_over_4 (by decide) ?_
    refine lv_goto (tgt := 11) hx hb dX5_over_5 (by decide) ?_
    exact w_iret hx hb hr hlocks w ⟨hq.symm, rfl, rfl⟩ (Nat.le_refl _) (Nat.le_refl _) dX5_over_11
def f_X5_commonMeasure_L7  : Nat → Nat → Int32 → Int32 → Int32
  | 0, _, _, _ => 0
  | n + 1, k, v2, v3 => if (1000 : Int32) ≤ (nI k) then v2 else (if v3 = (0 : Int32) then v2 else (f_X5_commonMeasure_L7 n ((k + 1)) v3 (v2 - v2 / v3 * v3)))
theorem f_X5_commonMeasure_L7_s  (n k : Nat) (v2 : Int32) (v3 : Int32) : f_X5_commonMeasure_L7 (n + 1) k v2 v3 = (if (1000 : Int32) ≤ (nI k) then v2 else (if v3 = (0 : Int32) then v2 else (f_X5_commonMeasure_L7 n ((k + 1)) v3 (v2 - v2 / v3 * v3)))) := rfl
def f_X5_commonMeasure (above : Int32) (line : Int32) : Int32 := f_X5_commonMeasure_L7 (1000 + 1) 0 above line
set_option maxHeartbeats 400000 in
set_option maxRecDepth 100000 in
theorem c_X5_commonMeasure (l : Launch) (D : va_G) (cI cP cS cL : ClassId) (L : List Nat) (F : Nat → va_E) (above : Int32) (line : Int32)  : wMI l D cI cP cS cL yX5_commonMeasure wsX5_commonMeasure ({ frames := 0, cells := 0, slots := 0, locals := 0 } : Room) [.int above, .int line] L F (f_X5_commonMeasure above line) F := by
  refine wM.of (cc := cX5_commonMeasure) (maxL := 6) (ret := (some .int)) (by decide) rfl (Nat.le_of_ble_eq_true rfl) ?_
  intro pZ eZ sZ mZ below meth cZ A ls C hl w
  obtain ⟨hx, hb, hr, hml, hts, hown, hlocks, hK, hA, hin⟩ := C
  have hown : sZ.vm.findClass RX5 = some mZ.cls := hown
  have hl : lv_has ls 6 [(0, .int above), (1, .int line)] := hl
  have hq : f_X5_commonMeasure above line = f_X5_commonMeasure above line := rfl
  refine lv_iload_n hx hb dX5_commonMeasure_0 rfl (lv_at hl 0 rfl) ?_
  refine lv_istore_n (lv' := [(2, .int above), (0, .int above), (1, .int line)]) hx hb dX5_commonMeasure_1 rfl hl (by decide) rfl (fun ls hl => ?_)
  refine lv_iload_n hx hb dX5_commonMeasure_2 rfl (lv_at hl 2 rfl) ?_
  refine lv_istore_n (lv' := [(3, .int line), (2, .int above), (0, .int above), (1, .int line)]) hx hb dX5_commonMeasure_3 rfl hl (by decide) rfl (fun ls hl => ?_)
  refine lv_iconst (v := 0) hx hb dX5_commonMeasure_4 (by decide) ?_
  refine lv_istore (lv' := [(4, .int 0), (3, .int line), (2, .int above), (0, .int above), (1, .int line)]) hx hb dX5_commonMeasure_5 hl (by decide) rfl (fun ls hl => ?_)
  have hL7 : ∀ (n k : Nat) (v2 : Int32) (v3 : Int32) (H : Heap) (locs : List Loc) (ls : Array Slot), k ≤ 1000 → 1000 - k < n → f_X5_commonMeasure above line = f_X5_commonMeasure_L7 n k v2 v3 → lv_has ls 6 [(0, .int above), (1, .int line), (2, .int v2), (3, .int v3), (4, .int (nI k))] → ww D A sZ.heap L F H locs → W pZ l eZ ({ frames := 0, cells := 0, slots := 0, locals := 0 } : Room) sZ mZ [.int above, .int line].toArray below meth cZ H locs 0 0 (MQ below (wQi D A (fun r1 L1 F1 => r1 = (f_X5_commonMeasure above line) ∧ L1 = L ∧ F1 = F)) [.int above, .int line].toArray sZ 0 0 A) (F0 mZ 7 ls []) := by
    intro n; induction n with
    | zero => intro k v2 v3 H locs ls hkT hmeas; exact absurd hmeas (Nat.not_lt_zero _)
    | succ n ih =>
      intro k v2 v3 H locs ls hkT hmeas hq hl w
      have hk31 : k < 2147483648 := by omega
      have hq := hq.trans (f_X5_commonMeasure_L7_s  n k v2 v3)
      refine lv_iload hx hb dX5_commonMeasure_7 (lv_at hl 4 rfl) ?_
      refine lv_sipush (v := 1000) hx hb dX5_commonMeasure_9 (by decide) ?_
      refine lv_icmp_ge (tgt := 35) hx hb dX5_commonMeasure_12 (by decide) (fun c1 => ?_) (fun c1 => ?_)
      · skip
        have hq := hq.trans (if_pos c1)
        refine lv_iload_n hx hb dX5_commonMeasure_35 rfl (lv_at hl 2 rfl) ?_
        exact w_iret hx hb hr hlocks w ⟨hq.symm, rfl, rfl⟩ (Nat.le_refl _) (Nat.le_refl _) dX5_commonMeasure_36
      · skip
        have hq := hq.trans (if_neg c1)
        have hlt12 : k < 1000 := w_ltk hk31 c1
        refine lv_iload_n hx hb dX5_commonMeasure_15 rfl (lv_at hl 3 rfl) ?_
        refine lv_if_eq (tgt := 35) hx hb dX5_commonMeasure_16 (by decide) (fun c2 => ?_) (fun c2 => ?_)
        · skip
          have hq := hq.trans (if_pos c2)
          refine lv_iload_n hx hb dX5_commonMeasure_35 rfl (lv_at hl 2 rfl) ?_
          exact w_iret hx hb hr hlocks w ⟨hq.symm, rfl, rfl⟩ (Nat.le_refl _) (Nat.le_refl _) dX5_commonMeasure_36
        · skip
          have hq := hq.trans (if_neg c2)
          refine lv_iload_n hx hb dX5_commonMeasure_19 rfl (lv_at hl 2 rfl) ?_
          refine lv_iload_n hx hb dX5_commonMeasure_20 rfl (lv_at hl 3 rfl) ?_
          refine lv_irem hx hb dX5_commonMeasure_21 (by assumption) ?_
          refine lv_istore (lv' := [(5, .int (v2 - v2 / v3 * v3)), (0, .int above), (1, .int line), (2, .int v2), (3, .int v3), (4, .int (nI k))]) hx hb dX5_commonMeasure_22 hl (by decide) rfl (fun ls hl => ?_)
          refine lv_iload_n hx hb dX5_commonMeasure_24 rfl (lv_at hl 4 rfl) ?_
          refine lv_istore_n (lv' := [(2, .int v3), (5, .int (v2 - v2 / v3 * v3)), (0, .int above), (1, .int line), (3, .int v3), (4, .int (nI k))]) hx hb dX5_commonMeasure_25 rfl hl (by decide) rfl (fun ls hl => ?_)
          refine lv_iload hx hb dX5_commonMeasure_26 (lv_at hl 1 rfl) ?_
          refine lv_istore_n (lv' := [(3, .int (v2 - v2 / v3 * v3)), (2, .int v3), (5, .int (v2 - v2 / v3 * v3)), (0, .int above), (1, .int line), (4, .int (nI k))]) hx hb dX5_commonMeasure_28 rfl hl (by decide) rfl (fun ls hl => ?_)
          refine lv_iinc (v := (nI (k + 1))) (lv' := [(4, .int (nI (k + 1))), (3, .int (v2 - v2 / v3 * v3)), (2, .int v3), (5, .int (v2 - v2 / v3 * v3)), (0, .int above), (1, .int line)]) hx hb dX5_commonMeasure_29 hl (k := 5) rfl (w_inc _) (by decide) rfl (fun ls hl => ?_)
          refine lv_goto (tgt := 7) hx hb dX5_commonMeasure_32 (by decide) ?_
          exact ih ((k + 1)) v3 (v2 - v2 / v3 * v3) _ _ _ (by omega) (by omega) hq (lv_sub hl [4, 5, 2, 1, 0] rfl) w
  exact hL7 (1000 + 1) 0 above line _ _ _ (Nat.zero_le _) (by omega) hq (lv_sub hl [3, 4, 2, 1, 0] rfl) w
def f_X5_leastPart (above : Int32) (line : Int32) (part : Int32) : Int32 := if part = (0 : Int32) then (f_X5_over above (f_X5_commonMeasure above line)) else (f_X5_over line (f_X5_commonMeasure above line))
set_option maxHeartbeats 400000 in
set_option maxRecDepth 100000 in
theorem c_X5_leastPart (l : Launch) (D : va_G) (cI cP cS cL : ClassId) (L : List Nat) (F : Nat → va_E) (above : Int32) (line : Int32) (part : Int32)  : wMI l D cI cP cS cL yX5_leastPart wsX5_leastPart ({ frames := 1, cells := 0, slots := 0, locals := 25 } : Room) [.int above, .int line, .int part] L F (f_X5_leastPart above line part) F := by
  refine wM.of (cc := cX5_leastPart) (maxL := 3) (ret := (some .int)) (by decide) rfl (Nat.le_of_ble_eq_true rfl) ?_
  intro pZ eZ sZ mZ below meth cZ A ls C hl w
  obtain ⟨hx, hb, hr, hml, hts, hown, hlocks, hK, hA, hin⟩ := C
  have hown : sZ.vm.findClass RX5 = some mZ.cls := hown
  have hl : lv_has ls 3 [(0, .int above), (1, .int line), (2, .int part)] := hl
  have hq : f_X5_leastPart above line part = f_X5_leastPart above line part := rfl
  refine lv_iload_n hx hb dX5_leastPart_0 rfl (lv_at hl 2 rfl) ?_
  refine lv_if_ne (tgt := 8) hx hb dX5_leastPart_1 (by decide) (fun c1 => ?_) (fun c1 => ?_)
  · skip
    have hq := hq.trans (if_neg c1)
    refine lv_iload_n hx hb dX5_leastPart_8 rfl (lv_at hl 1 rfl) ?_
    refine lv_iload_n hx hb dX5_leastPart_9 rfl (lv_at hl 0 rfl) ?_
    refine lv_iload_n hx hb dX5_leastPart_10 rfl (lv_at hl 1 rfl) ?_
    refine w_finI (w_runS (rm := ({ frames := 0, cells := 0, slots := 0, locals := 0 } : Room)) (As := [.int above, .int line]) (rest := [.int line]) (n := 2) hx hb hml hts hown hK w (c_X5_commonMeasure l D cI cP cS cL L _ above line ) gX5_leastPart_X5_commonMeasure rfl rfl rfl (by decide +kernel) ⟨(Nat.le_of_ble_eq_true rfl), (Nat.le_of_ble_eq_true rfl)⟩ rfl hl.1 rfl (Nat.le_of_ble_eq_true rfl) dX5_leastPart_11 ⟨(Nat.le_of_ble_eq_true rfl), (Nat.le_of_ble_eq_true rfl)⟩) w hA (fun H locs w => ?_)
    refine w_finI (w_runS (rm := ({ frames := 0, cells := 0, slots := 0, locals := 0 } : Room)) (As := [.int line, .int (f_X5_commonMeasure above line)]) (rest := []) (n := 2) hx hb hml hts hown hK w (c_X5_over l D cI cP cS cL L _ line (f_X5_commonMeasure above line) ) gX5_leastPart_X5_over rfl rfl rfl (by decide +kernel) ⟨(Nat.le_of_ble_eq_true rfl), (Nat.le_of_ble_eq_true rfl)⟩ rfl hl.1 rfl (Nat.le_of_ble_eq_true rfl) dX5_leastPart_14 ⟨(Nat.le_of_ble_eq_true rfl), (Nat.le_of_ble_eq_true rfl)⟩) w hA (fun H locs w => ?_)
    exact w_iret hx hb hr hlocks w ⟨hq.symm, rfl, rfl⟩ (Nat.le_refl _) (Nat.le_refl _) dX5_leastPart_17
  · skip
    have hq := hq.trans (if_pos c1)
    refine lv_iload_n hx hb dX5_leastPart_4 rfl (lv_at hl 0 rfl) ?_
    refine lv_goto (tgt := 9) hx hb dX5_leastPart_5 (by decide) ?_
    refine lv_iload_n hx hb dX5_leastPart_9 rfl (lv_at hl 0 rfl) ?_
    refine lv_iload_n hx hb dX5_leastPart_10 rfl (lv_at hl 1 rfl) ?_
    refine w_finI (w_runS (rm := ({ frames := 0, cells := 0, slots := 0, locals := 0 } : Room)) (As := [.int above, .int line]) (rest := [.int above]) (n := 2) hx hb hml hts hown hK w (c_X5_commonMeasure l D cI cP cS cL L _ above line ) gX5_leastPart_X5_commonMeasure rfl rfl rfl (by decide +kernel) ⟨(Nat.le_of_ble_eq_true rfl), (Nat.le_of_ble_eq_true rfl)⟩ rfl hl.1 rfl (Nat.le_of_ble_eq_true rfl) dX5_leastPart_11 ⟨(Nat.le_of_ble_eq_true rfl), (Nat.le_of_ble_eq_true rfl)⟩) w hA (fun H locs w => ?_)
    refine w_finI (w_runS (rm := ({ frames := 0, cells := 0, slots := 0, locals := 0 } : Room)) (As := [.int above, .int (f_X5_commonMeasure above line)]) (rest := []) (n := 2) hx hb hml hts hown hK w (c_X5_over l D cI cP cS cL L _ above (f_X5_commonMeasure above line) ) gX5_leastPart_X5_over rfl rfl rfl (by decide +kernel) ⟨(Nat.le_of_ble_eq_true rfl), (Nat.le_of_ble_eq_true rfl)⟩ rfl hl.1 rfl (Nat.le_of_ble_eq_true rfl) dX5_leastPart_14 ⟨(Nat.le_of_ble_eq_true rfl), (Nat.le_of_ble_eq_true rfl)⟩) w hA (fun H locs w => ?_)
    exact w_iret hx hb hr hlocks w ⟨hq.symm, rfl, rfl⟩ (Nat.le_refl _) (Nat.le_refl _) dX5_leastPart_17
def f_X1_holdsByDraw (p_ki : Int32) : Int32 := if p_ki = (1 : Int32) then 1 else (if p_ki = (7 : Int32) then 1 else 0)
theorem z_X1_holdsByDraw (p_ki : Int32) : (f_X1_holdsByDraw p_ki) = 0 ∨ (f_X1_holdsByDraw p_ki) = 1 := by
  unfold f_X1_holdsByDraw
  try simp only [bnd]
  repeat' split
  all_goals first | exact Or.inl rfl | exact Or.inr rfl
set_option maxHeartbeats 400000 in
set_option maxRecDepth 100000 in
theorem c_X1_holdsByDraw (l : Launch) (D : va_G) (cI cP cS cL : ClassId) (L : List Nat) (F : Nat → va_E) (p : Nat) (p_nu : Int32) (p_ki : Int32) (p_st : Int32) (p_sl : Int32) (h_p : wi L F p (eP p_nu p_ki p_st p_sl)) : wMI l D cI cP cS cL yX1_holdsByDraw wsX1_holdsByDraw ({ frames := 0, cells := 0, slots := 0, locals := 0 } : Room) [.ref p] L F (f_X1_holdsByDraw p_ki) F := by
  refine wM.of (cc := cX1_holdsByDraw) (maxL := 1) (ret := (some .boolean)) (by decide) rfl (Nat.le_of_ble_eq_true rfl) ?_
  intro pZ eZ sZ mZ below meth cZ A ls C hl w
  obtain ⟨hx, hb, hr, hml, hts, hown, hlocks, hK, hA, hin⟩ := C
  have hown : sZ.vm.findClass RX1 = some mZ.cls := hown
  have hl : lv_has ls 1 [(0, .ref p)] := hl
  have m_0 : ((.fieldLink RX1 15 "TwoThirds$Person" "kind" "I") : Cond) ∈ wsX1_holdsByDraw := by decide +kernel
  have i_X1 : ∀ w ∈ wsX10, w ∈ wsX1_holdsByDraw := by decide +kernel
  have hq : f_X1_holdsByDraw p_ki = f_X1_holdsByDraw p_ki := rfl
  refine lv_aload_n hx hb dX1_holdsByDraw_0 rfl (lv_at hl 0 rfl) ?_
  refine w_get (v := .int p_ki) hx hb hts i_X1 hown hK w h_p rfl 1 (by decide) (hts _ m_0) rfl dX1_holdsByDraw_1 ?_
  refine lv_iconst (v := 1) hx hb dX1_holdsByDraw_4 (by decide) ?_
  refine lv_icmp_eq (tgt := 17) hx hb dX1_holdsByDraw_5 (by decide) (fun c1 => ?_) (fun c1 => ?_)
  · skip
    have hq := hq.trans (if_pos c1)
    refine lv_iconst (v := 1) hx hb dX1_holdsByDraw_17 (by decide) ?_
    refine lv_goto (tgt := 22) hx hb dX1_holdsByDraw_18 (by decide) ?_
    exact w_zret hx hb hr hlocks w rfl ⟨hq.symm, rfl, rfl⟩ (Nat.le_refl _) (Nat.le_refl _) dX1_holdsByDraw_22
  · skip
    have hq := hq.trans (if_neg c1)
    refine lv_aload_n hx hb dX1_holdsByDraw_8 rfl (lv_at hl 0 rfl) ?_
    refine w_get (v := .int p_ki) hx hb hts i_X1 hown hK w h_p rfl 1 (by decide) (hts _ m_0) rfl dX1_holdsByDraw_9 ?_
    refine lv_bipush (v := 7) hx hb dX1_holdsByDraw_12 (by decide) ?_
    refine lv_icmp_ne (tgt := 21) hx hb dX1_holdsByDraw_14 (by decide) (fun c2 => ?_) (fun c2 => ?_)
    · skip
      have hq := hq.trans (if_neg c2)
      refine lv_iconst (v := 0) hx hb dX1_holdsByDraw_21 (by decide) ?_
      exact w_zret hx hb hr hlocks w rfl ⟨hq.symm, rfl, rfl⟩ (Nat.le_refl _) (Nat.le_refl _) dX1_holdsByDraw_22
    · skip
      have hq := hq.trans (if_pos c2)
      refine lv_iconst (v := 1) hx hb dX1_holdsByDraw_17 (by decide) ?_
      refine lv_goto (tgt := 22) hx hb dX1_holdsByDraw_18 (by decide) ?_
      exact w_zret hx hb hr hlocks w rfl ⟨hq.symm, rfl, rfl⟩ (Nat.le_refl _) (Nat.le_refl _) dX1_holdsByDraw_22
def f_X1_depthOfKind (p_ki : Int32) (p_st : Int32) (p_sl : Int32) : Int32 := if p_ki = (1 : Int32) then (1 + p_sl) else (if p_ki = (2 : Int32) then (1 + (10 * p_st)) else (if p_ki = (3 : Int32) then (2 * (1 + (10 * p_st))) else (if p_ki = (4 : Int32) then (1 + 90) else (if p_ki = (5 : Int32) then (1 - p_sl) else (if p_ki = (6 : Int32) then ((1 + (10 * p_st)) + 5) else (if p_ki = (7 : Int32) then ((1 + p_sl) / 2) else 1))))))
set_option maxHeartbeats 400000 in
set_option maxRecDepth 100000 in
theorem c_X1_depthOfKind (l : Launch) (D : va_G) (cI cP cS cL : ClassId) (L : List Nat) (F : Nat → va_E) (p : Nat) (p_nu : Int32) (p_ki : Int32) (p_st : Int32) (p_sl : Int32) (h_p : wi L F p (eP p_nu p_ki p_st p_sl)) : wMI l D cI cP cS cL yX1_depthOfKind wsX1_depthOfKind ({ frames := 0, cells := 0, slots := 0, locals := 0 } : Room) [.ref p] L F (f_X1_depthOfKind p_ki p_st p_sl) F := by
  refine wM.of (cc := cX1_depthOfKind) (maxL := 4) (ret := (some .int)) (by decide) rfl (Nat.le_of_ble_eq_true rfl) ?_
  intro pZ eZ sZ mZ below meth cZ A ls C hl w
  obtain ⟨hx, hb, hr, hml, hts, hown, hlocks, hK, hA, hin⟩ := C
  have hown : sZ.vm.findClass RX1 = some mZ.cls := hown
  have hl : lv_has ls 4 [(0, .ref p)] := hl
  have m_0 : ((.fieldLink RX1 21 "TwoThirds$Person" "slip" "I") : Cond) ∈ wsX1_depthOfKind := by decide +kernel
  have i_X1 : ∀ w ∈ wsX10, w ∈ wsX1_depthOfKind := by decide +kernel
  have m_2 : ((.fieldLink RX1 18 "TwoThirds$Person" "stepCount" "I") : Cond) ∈ wsX1_depthOfKind := by decide +kernel
  have m_3 : ((.fieldLink RX1 15 "TwoThirds$Person" "kind" "I") : Cond) ∈ wsX1_depthOfKind := by decide +kernel
  have hq : f_X1_depthOfKind p_ki p_st p_sl = f_X1_depthOfKind p_ki p_st p_sl := rfl
  refine lv_iconst (v := 1) hx hb dX1_depthOfKind_0 (by decide) ?_
  refine lv_istore_n (lv' := [(1, .int 1), (0, .ref p)]) hx hb dX1_depthOfKind_1 rfl hl (by decide) rfl (fun ls hl => ?_)
  refine lv_iload_n hx hb dX1_depthOfKind_2 rfl (lv_at hl 0 rfl) ?_
  refine lv_aload_n hx hb dX1_depthOfKind_3 rfl (lv_at hl 1 rfl) ?_
  refine w_get (v := .int p_sl) hx hb hts i_X1 hown hK w h_p rfl 3 (by decide) (hts _ m_0) rfl dX1_depthOfKind_4 ?_
  refine lv_iadd hx hb dX1_depthOfKind_7 ?_
  refine lv_istore_n (lv' := [(2, .int (1 + p_sl)), (1, .int 1), (0, .ref p)]) hx hb dX1_depthOfKind_8 rfl hl (by decide) rfl (fun ls hl => ?_)
  refine lv_iload_n hx hb dX1_depthOfKind_9 rfl (lv_at hl 1 rfl) ?_
  refine lv_bipush (v := 10) hx hb dX1_depthOfKind_10 (by decide) ?_
  refine lv_aload_n hx hb dX1_depthOfKind_12 rfl (lv_at hl 2 rfl) ?_
  refine w_get (v := .int p_st) hx hb hts i_X1 hown hK w h_p rfl 2 (by decide) (hts _ m_2) rfl dX1_depthOfKind_13 ?_
  refine lv_imul hx hb dX1_depthOfKind_16 ?_
  refine lv_iadd hx hb dX1_depthOfKind_17 ?_
  refine lv_istore_n (lv' := [(3, .int (1 + (10 * p_st))), (2, .int (1 + p_sl)), (1, .int 1), (0, .ref p)]) hx hb dX1_depthOfKind_18 rfl hl (by decide) rfl (fun ls hl => ?_)
  refine lv_aload_n hx hb dX1_depthOfKind_19 rfl (lv_at hl 3 rfl) ?_
  refine w_get (v := .int p_ki) hx hb hts i_X1 hown hK w h_p rfl 1 (by decide) (hts _ m_3) rfl dX1_depthOfKind_20 ?_
  by_cases c1 : p_ki = (1 : Int32)
  · skip
    have hq := hq.trans (if_pos c1)
    refine w_ts (v := 1) (off := 41) (tgt := 64) hx hb dX1_depthOfKind_23 c1 (by decide) (by decide) rfl (by decide) ?_
    refine lv_iload_n hx hb dX1_depthOfKind_64 rfl (lv_at hl 1 rfl) ?_
    exact w_iret hx hb hr hlocks w ⟨hq.symm, rfl, rfl⟩ (Nat.le_refl _) (Nat.le_refl _) dX1_depthOfKind_65
  · skip
    have hq := hq.trans (if_neg c1)
    by_cases c2 : p_ki = (2 : Int32)
    · skip
      have hq := hq.trans (if_pos c2)
      refine w_ts (v := 2) (off := 43) (tgt := 66) hx hb dX1_depthOfKind_23 c2 (by decide) (by decide) rfl (by decide) ?_
      refine lv_iload_n hx hb dX1_depthOfKind_66 rfl (lv_at hl 0 rfl) ?_
      exact w_iret hx hb hr hlocks w ⟨hq.symm, rfl, rfl⟩ (Nat.le_refl _) (Nat.le_refl _) dX1_depthOfKind_67
    · skip
      have hq := hq.trans (if_neg c2)
      by_cases c3 : p_ki = (3 : Int32)
      · skip
        have hq := hq.trans (if_pos c3)
        refine w_ts (v := 3) (off := 45) (tgt := 68) hx hb dX1_depthOfKind_23 c3 (by decide) (by decide) rfl (by decide) ?_
        refine lv_iconst (v := 2) hx hb dX1_depthOfKind_68 (by decide) ?_
        refine lv_iload_n hx hb dX1_depthOfKind_69 rfl (lv_at hl 0 rfl) ?_
        refine lv_imul hx hb dX1_depthOfKind_70 ?_
        exact w_iret hx hb hr hlocks w ⟨hq.symm, rfl, rfl⟩ (Nat.le_refl _) (Nat.le_refl _) dX1_depthOfKind_71
      · skip
        have hq := hq.trans (if_neg c3)
        by_cases c4 : p_ki = (4 : Int32)
        · skip
          have hq := hq.trans (if_pos c4)
          refine w_ts (v := 4) (off := 49) (tgt := 72) hx hb dX1_depthOfKind_23 c4 (by decide) (by decide) rfl (by decide) ?_
          refine lv_iload_n hx hb dX1_depthOfKind_72 rfl (lv_at hl 2 rfl) ?_
          refine lv_bipush (v := 90) hx hb dX1_depthOfKind_73 (by decide) ?_
          refine lv_iadd hx hb dX1_depthOfKind_75 ?_
          exact w_iret hx hb hr hlocks w ⟨hq.symm, rfl, rfl⟩ (Nat.le_refl _) (Nat.le_refl _) dX1_depthOfKind_76
        · skip
          have hq := hq.trans (if_neg c4)
          by_cases c5 : p_ki = (5 : Int32)
          · skip
            have hq := hq.trans (if_pos c5)
            refine w_ts (v := 5) (off := 54) (tgt := 77) hx hb dX1_depthOfKind_23 c5 (by decide) (by decide) rfl (by decide) ?_
            refine lv_iload_n hx hb dX1_depthOfKind_77 rfl (lv_at hl 2 rfl) ?_
            refine lv_aload_n hx hb dX1_depthOfKind_78 rfl (lv_at hl 3 rfl) ?_
            refine w_get (v := .int p_sl) hx hb hts i_X1 hown hK w h_p rfl 3 (by decide) (hts _ m_0) rfl dX1_depthOfKind_79 ?_
            refine lv_isub hx hb dX1_depthOfKind_82 ?_
            exact w_iret hx hb hr hlocks w ⟨hq.symm, rfl, rfl⟩ (Nat.le_refl _) (Nat.le_refl _) dX1_depthOfKind_83
          · skip
            have hq := hq.trans (if_neg c5)
            by_cases c6 : p_ki = (6 : Int32)
            · skip
              have hq := hq.trans (if_pos c6)
              refine w_ts (v := 6) (off := 61) (tgt := 84) hx hb dX1_depthOfKind_23 c6 (by decide) (by decide) rfl (by decide) ?_
              refine lv_iload_n hx hb dX1_depthOfKind_84 rfl (lv_at hl 0 rfl) ?_
              refine lv_iconst (v := 5) hx hb dX1_depthOfKind_85 (by decide) ?_
              refine lv_iadd hx hb dX1_depthOfKind_86 ?_
              exact w_iret hx hb hr hlocks w ⟨hq.symm, rfl, rfl⟩ (Nat.le_refl _) (Nat.le_refl _) dX1_depthOfKind_87
            · skip
              have hq := hq.trans (if_neg c6)
              by_cases c7 : p_ki = (7 : Int32)
              · skip
                have hq := hq.trans (if_pos c7)
                refine w_ts (v := 7) (off := 65) (tgt := 88) hx hb dX1_depthOfKind_23 c7 (by decide) (by decide) rfl (by decide) ?_
                refine lv_iload_n hx hb dX1_depthOfKind_88 rfl (lv_at hl 1 rfl) ?_
                refine lv_iconst (v := 2) hx hb dX1_depthOfKind_89 (by decide) ?_
                refine lv_idiv hx hb dX1_depthOfKind_90 (by decide) ?_
                exact w_iret hx hb hr hlocks w ⟨hq.symm, rfl, rfl⟩ (Nat.le_refl _) (Nat.le_refl _) dX1_depthOfKind_91
              · skip
                have hq := hq.trans (if_neg c7)
                refine lv_tableOut (tgt := 92) hx hb dX1_depthOfKind_23 (by have q0 : ¬ p_ki.toInt = 1 := w_ne c1 rfl; have q1 : ¬ p_ki.toInt = 2 := w_ne c2 rfl; have q2 : ¬ p_ki.toInt = 3 := w_ne c3 rfl; have q3 : ¬ p_ki.toInt = 4 := w_ne c4 rfl; have q4 : ¬ p_ki.toInt = 5 := w_ne c5 rfl; have q5 : ¬ p_ki.toInt = 6 := w_ne c6 rfl; have q6 : ¬ p_ki.toInt = 7 := w_ne c7 rfl; omega) (by decide) ?_
                refine lv_iload_n hx hb dX1_depthOfKind_92 rfl (lv_at hl 2 rfl) ?_
                exact w_iret hx hb hr hlocks w ⟨hq.symm, rfl, rfl⟩ (Nat.le_refl _) (Nat.le_refl _) dX1_depthOfKind_93
def f_X1_begin (nu : Int32) (ki : Int32) (st : Int32) (sl : Int32) : Int32 × Int32 × Int32 × Int32 := (nu, ki, st, sl)
set_option maxHeartbeats 400000 in
set_option maxRecDepth 100000 in
theorem c_X1_begin (l : Launch) (D : va_G) (cI cP cS cL : ClassId) (L : List Nat) (F : Nat → va_E) (p : Nat) (nu : Int32) (ki : Int32) (st : Int32) (sl : Int32) (p_nu : Int32) (p_ki : Int32) (p_st : Int32) (p_sl : Int32) (h_p : wi L F p (eP p_nu p_ki p_st p_sl)) : wMw l D cI cP cS cL yX1_begin wsX1_begin ({ frames := 0, cells := 0, slots := 0, locals := 0 } : Room) [.ref p, .int nu, .int ki, .int st, .int sl] L F (fun F1 => ∃ y9 : Int32 × Int32 × Int32 × Int32, y9 = (f_X1_begin nu ki st sl) ∧ F1 p = (eP y9.1 y9.2.1 y9.2.2.1 y9.2.2.2) ∧ wk (fun q : Nat => q ≠ p ∧ True) F1 F) := by
  refine wM.of (cc := cX1_begin) (maxL := 5) (ret := none) (by decide) rfl (Nat.le_of_ble_eq_true rfl) ?_
  intro pZ eZ sZ mZ below meth cZ A ls C hl w
  obtain ⟨hx, hb, hr, hml, hts, hown, hlocks, hK, hA, hin⟩ := C
  have hown : sZ.vm.findClass RX1 = some mZ.cls := hown
  have hl : lv_has ls 5 [(0, .ref p), (1, .int nu), (2, .int ki), (3, .int st), (4, .int sl)] := hl
  have m_0 : ((.fieldLink RX1 9 "TwoThirds$Person" "number" "I") : Cond) ∈ wsX1_begin := by decide +kernel
  have i_X1 : ∀ w ∈ wsX10, w ∈ wsX1_begin := by decide +kernel
  have m_2 : ((.fieldLink RX1 15 "TwoThirds$Person" "kind" "I") : Cond) ∈ wsX1_begin := by decide +kernel
  have m_3 : ((.fieldLink RX1 18 "TwoThirds$Person" "stepCount" "I") : Cond) ∈ wsX1_begin := by decide +kernel
  have m_4 : ((.fieldLink RX1 21 "TwoThirds$Person" "slip" "I") : Cond) ∈ wsX1_begin := by decide +kernel
  have hk : wk (fun q : Nat => q ≠ p ∧ True) F F := wk.rf
  have hq : f_X1_begin nu ki st sl = f_X1_begin nu ki st sl := rfl
  refine lv_aload_n hx hb dX1_begin_0 rfl (lv_at hl 0 rfl) ?_
  refine lv_iload_n hx hb dX1_begin_1 rfl (lv_at hl 1 rfl) ?_
  have ho1 := h_p
  refine w_put (fs2 := [.int nu, .int p_ki, .int p_st, .int p_sl]) hx hb hts i_X1 tyX1 tyX1_ok nmX1 hown hK w h_p rfl 0 (by decide) (hts _ m_0) rfl rfl rfl (Nat.le_of_ble_eq_true rfl) rfl dX1_begin_2 (fun H locs w h_p => ?_)
  have hk := hk.upw h_p (fun q h => h.1)
  refine lv_aload_n hx hb dX1_begin_5 rfl (lv_at hl 0 rfl) ?_
  refine lv_iload_n hx hb dX1_begin_6 rfl (lv_at hl 2 rfl) ?_
  have ho2 := h_p
  refine w_put (fs2 := [.int nu, .int ki, .int p_st, .int p_sl]) hx hb hts i_X1 tyX1 tyX1_ok nmX1 hown hK w h_p rfl 1 (by decide) (hts _ m_2) rfl rfl rfl (Nat.le_of_ble_eq_true rfl) rfl dX1_begin_7 (fun H locs w h_p => ?_)
  have hk := hk.upw h_p (fun q h => h.1)
  refine lv_aload_n hx hb dX1_begin_10 rfl (lv_at hl 0 rfl) ?_
  refine lv_iload_n hx hb dX1_begin_11 rfl (lv_at hl 3 rfl) ?_
  have ho3 := h_p
  refine w_put (fs2 := [.int nu, .int ki, .int st, .int p_sl]) hx hb hts i_X1 tyX1 tyX1_ok nmX1 hown hK w h_p rfl 2 (by decide) (hts _ m_3) rfl rfl rfl (Nat.le_of_ble_eq_true rfl) rfl dX1_begin_12 (fun H locs w h_p => ?_)
  have hk := hk.upw h_p (fun q h => h.1)
  refine lv_aload_n hx hb dX1_begin_15 rfl (lv_at hl 0 rfl) ?_
  refine lv_iload hx hb dX1_begin_16 (lv_at hl 4 rfl) ?_
  have ho4 := h_p
  refine w_put (fs2 := [.int nu, .int ki, .int st, .int sl]) hx hb hts i_X1 tyX1 tyX1_ok nmX1 hown hK w h_p rfl 3 (by decide) (hts _ m_4) rfl rfl rfl (Nat.le_of_ble_eq_true rfl) rfl dX1_begin_18 (fun H locs w h_p => ?_)
  have hk := hk.upw h_p (fun q h => h.1)
  exact w_vret hx hb hr hlocks w ⟨rfl, _, hq.symm, h_p.2, hk⟩ (Nat.le_refl _) (Nat.le_refl _) dX1_begin_21
def f_X1_takeFrom (o_nu : Int32) (o_ki : Int32) (o_st : Int32) (o_sl : Int32) : Int32 × Int32 × Int32 × Int32 := (bnd (f_X1_begin o_nu o_ki o_st o_sl) (fun x17 : Int32 × Int32 × Int32 × Int32 => (x17.1, x17.2.1, x17.2.2.1, x17.2.2.2)))
set_option maxHeartbeats 400000 in
set_option maxRecDepth 100000 in
theorem c_X1_takeFrom (l : Launch) (D : va_G) (cI cP cS cL : ClassId) (L : List Nat) (F : Nat → va_E) (p : Nat) (o : Nat) (p_nu : Int32) (p_ki : Int32) (p_st : Int32) (p_sl : Int32) (o_nu : Int32) (o_ki : Int32) (o_st : Int32) (o_sl : Int32) (h_p : wi L F p (eP p_nu p_ki p_st p_sl)) (h_o : wi L F o (eP o_nu o_ki o_st o_sl)) (hne : o ≠ p) : wMw l D cI cP cS cL yX1_takeFrom wsX1_takeFrom ({ frames := 1, cells := 0, slots := 0, locals := 24 } : Room) [.ref p, .ref o] L F (fun F1 => ∃ y9 : Int32 × Int32 × Int32 × Int32, y9 = (f_X1_takeFrom o_nu o_ki o_st o_sl) ∧ F1 p = (eP y9.1 y9.2.1 y9.2.2.1 y9.2.2.2) ∧ wk (fun q : Nat => q ≠ p ∧ True) F1 F) := by
  refine wM.of (cc := cX1_takeFrom) (maxL := 2) (ret := none) (by decide) rfl (Nat.le_of_ble_eq_true rfl) ?_
  intro pZ eZ sZ mZ below meth cZ A ls C hl w
  obtain ⟨hx, hb, hr, hml, hts, hown, hlocks, hK, hA, hin⟩ := C
  have hown : sZ.vm.findClass RX1 = some mZ.cls := hown
  have hl : lv_has ls 2 [(0, .ref p), (1, .ref o)] := hl
  have m_0 : ((.fieldLink RX1 9 "TwoThirds$Person" "number" "I") : Cond) ∈ wsX1_takeFrom := by decide +kernel
  have i_X1 : ∀ w ∈ wsX10, w ∈ wsX1_takeFrom := by decide +kernel
  have m_2 : ((.fieldLink RX1 15 "TwoThirds$Person" "kind" "I") : Cond) ∈ wsX1_takeFrom := by decide +kernel
  have m_3 : ((.fieldLink RX1 18 "TwoThirds$Person" "stepCount" "I") : Cond) ∈ wsX1_takeFrom := by decide +kernel
  have m_4 : ((.fieldLink RX1 21 "TwoThirds$Person" "slip" "I") : Cond) ∈ wsX1_takeFrom := by decide +kernel
  have hk : wk (fun q : Nat => q ≠ p ∧ True) F F := wk.rf
  have hq : f_X1_takeFrom o_nu o_ki o_st o_sl = f_X1_takeFrom o_nu o_ki o_st o_sl := rfl
  refine lv_aload_n hx hb dX1_takeFrom_0 rfl (lv_at hl 0 rfl) ?_
  refine lv_aload_n hx hb dX1_takeFrom_1 rfl (lv_at hl 1 rfl) ?_
  refine w_get (v := .int o_nu) hx hb hts i_X1 hown hK w h_o rfl 0 (by decide) (hts _ m_0) rfl dX1_takeFrom_2 ?_
  refine lv_aload_n hx hb dX1_takeFrom_5 rfl (lv_at hl 1 rfl) ?_
  refine w_get (v := .int o_ki) hx hb hts i_X1 hown hK w h_o rfl 1 (by decide) (hts _ m_2) rfl dX1_takeFrom_6 ?_
  refine lv_aload_n hx hb dX1_takeFrom_9 rfl (lv_at hl 1 rfl) ?_
  refine w_get (v := .int o_st) hx hb hts i_X1 hown hK w h_o rfl 2 (by decide) (hts _ m_3) rfl dX1_takeFrom_10 ?_
  refine lv_aload_n hx hb dX1_takeFrom_13 rfl (lv_at hl 1 rfl) ?_
  refine w_get (v := .int o_sl) hx hb hts i_X1 hown hK w h_o rfl 3 (by decide) (hts _ m_4) rfl dX1_takeFrom_14 ?_
  refine w_finw (w_runV (rm := ({ frames := 0, cells := 0, slots := 0, locals := 0 } : Room)) (As := [.int o_nu, .int o_ki, .int o_st, .int o_sl]) (rest := []) (n := 4) hx hb hml hts hown hK w (c_X1_begin l D cI cP cS cL L _ p o_nu o_ki o_st o_sl p_nu p_ki p_st p_sl h_p) gX1_takeFrom_X1_begin rfl rfl rfl (by decide +kernel) ⟨(Nat.le_of_ble_eq_true rfl), (Nat.le_of_ble_eq_true rfl)⟩ h_p rfl rfl hl.1 rfl (Nat.le_of_ble_eq_true rfl) dX1_takeFrom_17 ⟨(Nat.le_of_ble_eq_true rfl), (Nat.le_of_ble_eq_true rfl)⟩) w hA (fun F1 H locs hp w => ?_)
  obtain ⟨x17, hx17, hw0, hk9⟩ := hp
  have hq := hq.trans (w_bnd hx17)
  have h_o := h_o.keep hk9 ⟨hne, trivial⟩
  have h_p := h_p.new hw0
  have hk := hk.call hk9 (fun q h => ⟨h.1, trivial⟩)
  exact w_vret hx hb hr hlocks w ⟨rfl, _, hq.symm, h_p.2, hk⟩ (Nat.le_refl _) (Nat.le_refl _) dX1_takeFrom_20
def f_X3_hasPlace (i0 : Int32) (r_sz : Int32) : Int32 := if i0 < (0 : Int32) then 0 else (if r_sz ≤ i0 then 0 else 1)
theorem z_X3_hasPlace (i0 : Int32) (r_sz : Int32) : (f_X3_hasPlace i0 r_sz) = 0 ∨ (f_X3_hasPlace i0 r_sz) = 1 := by
  unfold f_X3_hasPlace
  try simp only [bnd]
  repeat' split
  all_goals first | exact Or.inl rfl | exact Or.inr rfl
set_option maxHeartbeats 400000 in
set_option maxRecDepth 100000 in
theorem c_X3_hasPlace (l : Launch) (D : va_G) (cI cP cS cL : ClassId) (L : List Nat) (F : Nat → va_E) (r : Nat) (i0 : Int32) (r_e : Nat) (r_so : Int32) (r_sz : Int32) (h_r : wi L F r (eR r_e r_so r_sz)) : wMI l D cI cP cS cL yX3_hasPlace wsX3_hasPlace ({ frames := 0, cells := 0, slots := 0, locals := 0 } : Room) [.ref r, .int i0] L F (f_X3_hasPlace i0 r_sz) F := by
  refine wM.of (cc := cX3_hasPlace) (maxL := 2) (ret := (some .boolean)) (by decide) rfl (Nat.le_of_ble_eq_true rfl) ?_
  intro pZ eZ sZ mZ below meth cZ A ls C hl w
  obtain ⟨hx, hb, hr, hml, hts, hown, hlocks, hK, hA, hin⟩ := C
  have hown : sZ.vm.findClass RX3 = some mZ.cls := hown
  have hl : lv_has ls 2 [(0, .ref r), (1, .int i0)] := hl
  have m_0 : ((.fieldLink RX3 25 "TwoThirds$Row" "size" "I") : Cond) ∈ wsX3_hasPlace := by decide +kernel
  have i_X3 : ∀ w ∈ wsX30, w ∈ wsX3_hasPlace := by decide +kernel
  have hq : f_X3_hasPlace i0 r_sz = f_X3_hasPlace i0 r_sz := rfl
  refine lv_iload_n hx hb dX3_hasPlace_0 rfl (lv_at hl 1 rfl) ?_
  refine lv_if_lt (tgt := 16) hx hb dX3_hasPlace_1 (by decide) (fun c1 => ?_) (fun c1 => ?_)
  · skip
    have hq := hq.trans (if_pos c1)
    refine lv_iconst (v := 0) hx hb dX3_hasPlace_16 (by decide) ?_
    exact w_zret hx hb hr hlocks w rfl ⟨hq.symm, rfl, rfl⟩ (Nat.le_refl _) (Nat.le_refl _) dX3_hasPlace_17
  · skip
    have hq := hq.trans (if_neg c1)
    refine lv_iload_n hx hb dX3_hasPlace_4 rfl (lv_at hl 1 rfl) ?_
    refine lv_aload_n hx hb dX3_hasPlace_5 rfl (lv_at hl 0 rfl) ?_
    refine w_get (v := .int r_sz) hx hb hts i_X3 hown hK w h_r rfl 2 (by decide) (hts _ m_0) rfl dX3_hasPlace_6 ?_
    refine lv_icmp_ge (tgt := 16) hx hb dX3_hasPlace_9 (by decide) (fun c2 => ?_) (fun c2 => ?_)
    · skip
      have hq := hq.trans (if_pos c2)
      refine lv_iconst (v := 0) hx hb dX3_hasPlace_16 (by decide) ?_
      exact w_zret hx hb hr hlocks w rfl ⟨hq.symm, rfl, rfl⟩ (Nat.le_refl _) (Nat.le_refl _) dX3_hasPlace_17
    · skip
      have hq := hq.trans (if_neg c2)
      refine lv_iconst (v := 1) hx hb dX3_hasPlace_12 (by decide) ?_
      refine lv_goto (tgt := 17) hx hb dX3_hasPlace_13 (by decide) ?_
      exact w_zret hx hb hr hlocks w rfl ⟨hq.symm, rfl, rfl⟩ (Nat.le_refl _) (Nat.le_refl _) dX3_hasPlace_17
def f_X3_hasPlaces (i0 : Int32) (n0 : Int32) (r_sz : Int32) : Int32 := if i0 < (0 : Int32) then 0 else (if n0 < (0 : Int32) then 0 else (if r_sz < i0 then 0 else (if (r_sz - i0) < n0 then 0 else 1)))
theorem z_X3_hasPlaces (i0 : Int32) (n0 : Int32) (r_sz : Int32) : (f_X3_hasPlaces i0 n0 r_sz) = 0 ∨ (f_X3_hasPlaces i0 n0 r_sz) = 1 := by
  unfold f_X3_hasPlaces
  try simp only [bnd]
  repeat' split
  all_goals first | exact Or.inl rfl | exact Or.inr rfl
set_option maxHeartbeats 400000 in
set_option maxRecDepth 100000 in
theorem c_X3_hasPlaces (l : Launch) (D : va_G) (cI cP cS cL : ClassId) (L : List Nat) (F : Nat → va_E) (r : Nat) (i0 : Int32) (n0 : Int32) (r_e : Nat) (r_so : Int32) (r_sz : Int32) (h_r : wi L F r (eR r_e r_so r_sz)) : wMI l D cI cP cS cL yX3_hasPlaces wsX3_hasPlaces ({ frames := 0, cells := 0, slots := 0, locals := 0 } : Room) [.ref r, .int i0, .int n0] L F (f_X3_hasPlaces i0 n0 r_sz) F := by
  refine wM.of (cc := cX3_hasPlaces) (maxL := 3) (ret := (some .boolean)) (by decide) rfl (Nat.le_of_ble_eq_true rfl) ?_
  intro pZ eZ sZ mZ below meth cZ A ls C hl w
  obtain ⟨hx, hb, hr, hml, hts, hown, hlocks, hK, hA, hin⟩ := C
  have hown : sZ.vm.findClass RX3 = some mZ.cls := hown
  have hl : lv_has ls 3 [(0, .ref r), (1, .int i0), (2, .int n0)] := hl
  have m_0 : ((.fieldLink RX3 25 "TwoThirds$Row" "size" "I") : Cond) ∈ wsX3_hasPlaces := by decide +kernel
  have i_X3 : ∀ w ∈ wsX30, w ∈ wsX3_hasPlaces := by decide +kernel
  have hq : f_X3_hasPlaces i0 n0 r_sz = f_X3_hasPlaces i0 n0 r_sz := rfl
  refine lv_iload_n hx hb dX3_hasPlaces_0 rfl (lv_at hl 1 rfl) ?_
  refine lv_if_lt (tgt := 30) hx hb dX3_hasPlaces_1 (by decide) (fun c1 => ?_) (fun c1 => ?_)
  · skip
    have hq := hq.trans (if_pos c1)
    refine lv_iconst (v := 0) hx hb dX3_hasPlaces_30 (by decide) ?_
    exact w_zret hx hb hr hlocks w rfl ⟨hq.symm, rfl, rfl⟩ (Nat.le_refl _) (Nat.le_refl _) dX3_hasPlaces_31
  · skip
    have hq := hq.trans (if_neg c1)
    refine lv_iload_n hx hb dX3_hasPlaces_4 rfl (lv_at hl 2 rfl) ?_
    refine lv_if_lt (tgt := 30) hx hb dX3_hasPlaces_5 (by decide) (fun c2 => ?_) (fun c2 => ?_)
    · skip
      have hq := hq.trans (if_pos c2)
      refine lv_iconst (v := 0) hx hb dX3_hasPlaces_30 (by decide) ?_
      exact w_zret hx hb hr hlocks w rfl ⟨hq.symm, rfl, rfl⟩ (Nat.le_refl _) (Nat.le_refl _) dX3_hasPlaces_31
    · skip
      have hq := hq.trans (if_neg c2)
      refine lv_iload_n hx hb dX3_hasPlaces_8 rfl (lv_at hl 1 rfl) ?_
      refine lv_aload_n hx hb dX3_hasPlaces_9 rfl (lv_at hl 0 rfl) ?_
      refine w_get (v := .int r_sz) hx hb hts i_X3 hown hK w h_r rfl 2 (by decide) (hts _ m_0) rfl dX3_hasPlaces_10 ?_
      refine lv_icmp_gt (tgt := 30) hx hb dX3_hasPlaces_13 (by decide) (fun c3 => ?_) (fun c3 => ?_)
      · skip
        have hq := hq.trans (if_pos c3)
        refine lv_iconst (v := 0) hx hb dX3_hasPlaces_30 (by decide) ?_
        exact w_zret hx hb hr hlocks w rfl ⟨hq.symm, rfl, rfl⟩ (Nat.le_refl _) (Nat.le_refl _) dX3_hasPlaces_31
      · skip
        have hq := hq.trans (if_neg c3)
        refine lv_iload_n hx hb dX3_hasPlaces_16 rfl (lv_at hl 2 rfl) ?_
        refine lv_aload_n hx hb dX3_hasPlaces_17 rfl (lv_at hl 0 rfl) ?_
        refine w_get (v := .int r_sz) hx hb hts i_X3 hown hK w h_r rfl 2 (by decide) (hts _ m_0) rfl dX3_hasPlaces_18 ?_
        refine lv_iload_n hx hb dX3_hasPlaces_21 rfl (lv_at hl 1 rfl) ?_
        refine lv_isub hx hb dX3_hasPlaces_22 ?_
        refine lv_icmp_gt (tgt := 30) hx hb dX3_hasPlaces_23 (by decide) (fun c4 => ?_) (fun c4 => ?_)
        · skip
          have hq := hq.trans (if_pos c4)
          refine lv_iconst (v := 0) hx hb dX3_hasPlaces_30 (by decide) ?_
          exact w_zret hx hb hr hlocks w rfl ⟨hq.symm, rfl, rfl⟩ (Nat.le_refl _) (Nat.le_refl _) dX3_hasPlaces_31
        · skip
          have hq := hq.trans (if_neg c4)
          refine lv_iconst (v := 1) hx hb dX3_hasPlaces_26 (by decide) ?_
          refine lv_goto (tgt := 31) hx hb dX3_hasPlaces_27 (by decide) ?_
          exact w_zret hx hb hr hlocks w rfl ⟨hq.symm, rfl, rfl⟩ (Nat.le_refl _) (Nat.le_refl _) dX3_hasPlaces_31
theorem w_inP {i0 z : Int32} {n : Nat} (c : ¬ f_X3_hasPlace i0 z = 0) (hz : z.toInt ≤ n) : vp_in i0 n := by
  unfold f_X3_hasPlace at c
  by_cases h0 : i0 < 0
  · rw [if_pos h0] at c; exact absurd rfl c
  · rw [if_neg h0] at c
    by_cases h1 : z ≤ i0
    · rw [if_pos h1] at c; exact absurd rfl c
    · exact w_in (Int32.not_lt.mp h0) (Int32.not_le.mp h1) hz
def f_X3_at (i0 : Int32) (r_sz : Int32) (r_e_f : Nat → Int32) : Int32 := if i0 < (0 : Int32) then 0 else (if r_sz ≤ i0 then 0 else (r_e_f (i0.toNatClampNeg)))
set_option maxHeartbeats 400000 in
set_option maxRecDepth 100000 in
theorem c_X3_at (l : Launch) (D : va_G) (cI cP cS cL : ClassId) (L : List Nat) (F : Nat → va_E) (r : Nat) (i0 : Int32) (r_e : Nat) (r_so : Int32) (r_sz : Int32) (r_e_n : Nat) (r_e_f : Nat → Int32) (h_r : wi L F r (eR r_e r_so r_sz)) (h_r_e : wi L F r_e (eI cI r_e_n r_e_f)) (hz : r_sz.toInt ≤ r_e_n) : wMI l D cI cP cS cL yX3_at wsX3_at ({ frames := 0, cells := 0, slots := 0, locals := 0 } : Room) [.ref r, .int i0] L F (f_X3_at i0 r_sz r_e_f) F := by
  refine wM.of (cc := cX3_at) (maxL := 2) (ret := (some .int)) (by decide) rfl (Nat.le_of_ble_eq_true rfl) ?_
  intro pZ eZ sZ mZ below meth cZ A ls C hl w
  obtain ⟨hx, hb, hr, hml, hts, hown, hlocks, hK, hA, hin⟩ := C
  have hown : sZ.vm.findClass RX3 = some mZ.cls := hown
  have hl : lv_has ls 2 [(0, .ref r), (1, .int i0)] := hl
  have m_0 : ((.fieldLink RX3 25 "TwoThirds$Row" "size" "I") : Cond) ∈ wsX3_at := by decide +kernel
  have i_X3 : ∀ w ∈ wsX30, w ∈ wsX3_at := by decide +kernel
  have m_2 : ((.fieldLink RX3 9 "TwoThirds$Row" "elements" "[I") : Cond) ∈ wsX3_at := by decide +kernel
  have hq : f_X3_at i0 r_sz r_e_f = f_X3_at i0 r_sz r_e_f := rfl
  refine lv_iload_n hx hb dX3_at_0 rfl (lv_at hl 1 rfl) ?_
  refine lv_if_lt (tgt := 21) hx hb dX3_at_1 (by decide) (fun c1 => ?_) (fun c1 => ?_)
  · skip
    have hq := hq.trans (if_pos c1)
    refine lv_iconst (v := 0) hx hb dX3_at_21 (by decide) ?_
    exact w_iret hx hb hr hlocks w ⟨hq.symm, rfl, rfl⟩ (Nat.le_refl _) (Nat.le_refl _) dX3_at_22
  · skip
    have hq := hq.trans (if_neg c1)
    refine lv_iload_n hx hb dX3_at_4 rfl (lv_at hl 1 rfl) ?_
    refine lv_aload_n hx hb dX3_at_5 rfl (lv_at hl 0 rfl) ?_
    refine w_get (v := .int r_sz) hx hb hts i_X3 hown hK w h_r rfl 2 (by decide) (hts _ m_0) rfl dX3_at_6 ?_
    refine lv_icmp_ge (tgt := 21) hx hb dX3_at_9 (by decide) (fun c2 => ?_) (fun c2 => ?_)
    · skip
      have hq := hq.trans (if_pos c2)
      refine lv_iconst (v := 0) hx hb dX3_at_21 (by decide) ?_
      exact w_iret hx hb hr hlocks w ⟨hq.symm, rfl, rfl⟩ (Nat.le_refl _) (Nat.le_refl _) dX3_at_22
    · skip
      have hq := hq.trans (if_neg c2)
      refine lv_aload_n hx hb dX3_at_12 rfl (lv_at hl 0 rfl) ?_
      refine w_get (v := .ref r_e) hx hb hts i_X3 hown hK w h_r rfl 0 (by decide) (hts _ m_2) rfl dX3_at_13 ?_
      refine lv_iload_n hx hb dX3_at_16 rfl (lv_at hl 1 rfl) ?_
      refine w_ild (j := (i0.toNatClampNeg)) hx hb hK w h_r_e (w_in (Int32.not_lt.mp (by assumption)) (Int32.not_le.mp (by assumption)) hz) rfl dX3_at_17 ?_
      refine lv_goto (tgt := 22) hx hb dX3_at_18 (by decide) ?_
      exact w_iret hx hb hr hlocks w ⟨hq.symm, rfl, rfl⟩ (Nat.le_refl _) (Nat.le_refl _) dX3_at_22
def f_X3_lowestBits (v : Int32) (r_so : Int32) : Int32 := if r_so = (0 : Int32) then (v.toInt8.toInt32) else (if r_so = (1 : Int32) then (v.toInt16.toInt32) else v)
set_option maxHeartbeats 400000 in
set_option maxRecDepth 100000 in
theorem c_X3_lowestBits (l : Launch) (D : va_G) (cI cP cS cL : ClassId) (L : List Nat) (F : Nat → va_E) (r : Nat) (v : Int32) (r_e : Nat) (r_so : Int32) (r_sz : Int32) (h_r : wi L F r (eR r_e r_so r_sz)) : wMI l D cI cP cS cL yX3_lowestBits wsX3_lowestBits ({ frames := 0, cells := 0, slots := 0, locals := 0 } : Room) [.ref r, .int v] L F (f_X3_lowestBits v r_so) F := by
  refine wM.of (cc := cX3_lowestBits) (maxL := 2) (ret := (some .int)) (by decide) rfl (Nat.le_of_ble_eq_true rfl) ?_
  intro pZ eZ sZ mZ below meth cZ A ls C hl w
  obtain ⟨hx, hb, hr, hml, hts, hown, hlocks, hK, hA, hin⟩ := C
  have hown : sZ.vm.findClass RX3 = some mZ.cls := hown
  have hl : lv_has ls 2 [(0, .ref r), (1, .int v)] := hl
  have m_0 : ((.fieldLink RX3 15 "TwoThirds$Row" "sort" "I") : Cond) ∈ wsX3_lowestBits := by decide +kernel
  have i_X3 : ∀ w ∈ wsX30, w ∈ wsX3_lowestBits := by decide +kernel
  have hq : f_X3_lowestBits v r_so = f_X3_lowestBits v r_so := rfl
  refine lv_aload_n hx hb dX3_lowestBits_0 rfl (lv_at hl 0 rfl) ?_
  refine w_get (v := .int r_so) hx hb hts i_X3 hown hK w h_r rfl 1 (by decide) (hts _ m_0) rfl dX3_lowestBits_1 ?_
  refine lv_if_ne (tgt := 10) hx hb dX3_lowestBits_4 (by decide) (fun c1 => ?_) (fun c1 => ?_)
  · skip
    have hq := hq.trans (if_neg c1)
    refine lv_aload_n hx hb dX3_lowestBits_10 rfl (lv_at hl 0 rfl) ?_
    refine w_get (v := .int r_so) hx hb hts i_X3 hown hK w h_r rfl 1 (by decide) (hts _ m_0) rfl dX3_lowestBits_11 ?_
    refine lv_iconst (v := 1) hx hb dX3_lowestBits_14 (by decide) ?_
    refine lv_icmp_ne (tgt := 23) hx hb dX3_lowestBits_15 (by decide) (fun c2 => ?_) (fun c2 => ?_)
    · skip
      have hq := hq.trans (if_neg c2)
      refine lv_iload_n hx hb dX3_lowestBits_23 rfl (lv_at hl 1 rfl) ?_
      exact w_iret hx hb hr hlocks w ⟨hq.symm, rfl, rfl⟩ (Nat.le_refl _) (Nat.le_refl _) dX3_lowestBits_24
    · skip
      have hq := hq.trans (if_pos c2)
      refine lv_iload_n hx hb dX3_lowestBits_18 rfl (lv_at hl 1 rfl) ?_
      refine lv_i2s (v := (v.toInt16.toInt32)) hx hb dX3_lowestBits_19 rfl ?_
      refine lv_goto (tgt := 24) hx hb dX3_lowestBits_20 (by decide) ?_
      exact w_iret hx hb hr hlocks w ⟨hq.symm, rfl, rfl⟩ (Nat.le_refl _) (Nat.le_refl _) dX3_lowestBits_24
  · skip
    have hq := hq.trans (if_pos c1)
    refine lv_iload_n hx hb dX3_lowestBits_7 rfl (lv_at hl 1 rfl) ?_
    refine lv_i2b (v := (v.toInt8.toInt32)) hx hb dX3_lowestBits_8 rfl ?_
    exact w_iret hx hb hr hlocks w ⟨hq.symm, rfl, rfl⟩ (Nat.le_refl _) (Nat.le_refl _) dX3_lowestBits_9
def f_X3_leastNumber (r_so : Int32) : Int32 := if r_so = (0 : Int32) then (-128) else (if r_so = (1 : Int32) then (-32768) else (-2147483648))
set_option maxHeartbeats 400000 in
set_option maxRecDepth 100000 in
theorem c_X3_leastNumber (l : Launch) (D : va_G) (cI cP cS cL : ClassId) (L : List Nat) (F : Nat → va_E) (r : Nat) (r_e : Nat) (r_so : Int32) (r_sz : Int32) (h_r : wi L F r (eR r_e r_so r_sz)) : wMI l D cI cP cS cL yX3_leastNumber wsX3_leastNumber ({ frames := 0, cells := 0, slots := 0, locals := 0 } : Room) [.ref r] L F (f_X3_leastNumber r_so) F := by
  refine wM.of (cc := cX3_leastNumber) (maxL := 1) (ret := (some .int)) (by decide) rfl (Nat.le_of_ble_eq_true rfl) ?_
  intro pZ eZ sZ mZ below meth cZ A ls C hl w
  obtain ⟨hx, hb, hr, hml, hts, hown, hlocks, hK, hA, hin⟩ := C
  have hown : sZ.vm.findClass RX3 = some mZ.cls := hown
  have hl : lv_has ls 1 [(0, .ref r)] := hl
  have m_0 : ((.fieldLink RX3 15 "TwoThirds$Row" "sort" "I") : Cond) ∈ wsX3_leastNumber := by decide +kernel
  have i_X3 : ∀ w ∈ wsX30, w ∈ wsX3_leastNumber := by decide +kernel
  have m_2 : ((.constant RX3 49 (-2147483648)) : Cond) ∈ wsX3_leastNumber := by decide +kernel
  have hq : f_X3_leastNumber r_so = f_X3_leastNumber r_so := rfl
  refine lv_aload_n hx hb dX3_leastNumber_0 rfl (lv_at hl 0 rfl) ?_
  refine w_get (v := .int r_so) hx hb hts i_X3 hown hK w h_r rfl 1 (by decide) (hts _ m_0) rfl dX3_leastNumber_1 ?_
  refine lv_if_ne (tgt := 10) hx hb dX3_leastNumber_4 (by decide) (fun c1 => ?_) (fun c1 => ?_)
  · skip
    have hq := hq.trans (if_neg c1)
    refine lv_aload_n hx hb dX3_leastNumber_10 rfl (lv_at hl 0 rfl) ?_
    refine w_get (v := .int r_so) hx hb hts i_X3 hown hK w h_r rfl 1 (by decide) (hts _ m_0) rfl dX3_leastNumber_11 ?_
    refine lv_iconst (v := 1) hx hb dX3_leastNumber_14 (by decide) ?_
    refine lv_icmp_ne (tgt := 24) hx hb dX3_leastNumber_15 (by decide) (fun c2 => ?_) (fun c2 => ?_)
    · skip
      have hq := hq.trans (if_neg c2)
      refine lv_ldc (v := (-2147483648)) hx hb hown (hts _ m_2) dX3_leastNumber_24 ?_
      exact w_iret hx hb hr hlocks w ⟨hq.symm, rfl, rfl⟩ (Nat.le_refl _) (Nat.le_refl _) dX3_leastNumber_26
    · skip
      have hq := hq.trans (if_pos c2)
      refine lv_sipush (v := (-32768)) hx hb dX3_leastNumber_18 (by decide) ?_
      refine lv_goto (tgt := 26) hx hb dX3_leastNumber_21 (by decide) ?_
      exact w_iret hx hb hr hlocks w ⟨hq.symm, rfl, rfl⟩ (Nat.le_refl _) (Nat.le_refl _) dX3_leastNumber_26
  · skip
    have hq := hq.trans (if_pos c1)
    refine lv_bipush (v := (-128)) hx hb dX3_leastNumber_7 (by decide) ?_
    exact w_iret hx hb hr hlocks w ⟨hq.symm, rfl, rfl⟩ (Nat.le_refl _) (Nat.le_refl _) dX3_leastNumber_9
def f_X3_sum_L4 (r_sz : Int32) (r_e_f : Nat → Int32) : Nat → Nat → Int32 → Int32
  | 0, _, _ => 0
  | n + 1, k, v1 => if r_sz ≤ (nI k) then v1 else (f_X3_sum_L4 r_sz r_e_f n ((k + 1)) (v1 + (r_e_f k)))
theorem f_X3_sum_L4_s (r_sz : Int32) (r_e_f : Nat → Int32) (n k : Nat) (v1 : Int32) : f_X3_sum_L4 r_sz r_e_f (n + 1) k v1 = (if r_sz ≤ (nI k) then v1 else (f_X3_sum_L4 r_sz r_e_f n ((k + 1)) (v1 + (r_e_f k)))) := rfl
def f_X3_sum (r_sz : Int32) (r_e_f : Nat → Int32) : Int32 := f_X3_sum_L4 r_sz r_e_f (r_sz.toNatClampNeg + 1) 0 0
set_option maxHeartbeats 400000 in
set_option maxRecDepth 100000 in
theorem c_X3_sum (l : Launch) (D : va_G) (cI cP cS cL : ClassId) (L : List Nat) (F : Nat → va_E) (r : Nat) (r_e : Nat) (r_so : Int32) (r_sz : Int32) (r_e_n : Nat) (r_e_f : Nat → Int32) (h_r : wi L F r (eR r_e r_so r_sz)) (h_r_e : wi L F r_e (eI cI r_e_n r_e_f)) (hz : r_sz.toInt ≤ r_e_n) : wMI l D cI cP cS cL yX3_sum wsX3_sum ({ frames := 0, cells := 0, slots := 0, locals := 0 } : Room) [.ref r] L F (f_X3_sum r_sz r_e_f) F := by
  refine wM.of (cc := cX3_sum) (maxL := 3) (ret := (some .int)) (by decide) rfl (Nat.le_of_ble_eq_true rfl) ?_
  intro pZ eZ sZ mZ below meth cZ A ls C hl w
  obtain ⟨hx, hb, hr, hml, hts, hown, hlocks, hK, hA, hin⟩ := C
  have hown : sZ.vm.findClass RX3 = some mZ.cls := hown
  have hl : lv_has ls 3 [(0, .ref r)] := hl
  have m_0 : ((.fieldLink RX3 25 "TwoThirds$Row" "size" "I") : Cond) ∈ wsX3_sum := by decide +kernel
  have i_X3 : ∀ w ∈ wsX30, w ∈ wsX3_sum := by decide +kernel
  have m_2 : ((.fieldLink RX3 9 "TwoThirds$Row" "elements" "[I") : Cond) ∈ wsX3_sum := by decide +kernel
  have hq : f_X3_sum r_sz r_e_f = f_X3_sum r_sz r_e_f := rfl
  refine lv_iconst (v := 0) hx hb dX3_sum_0 (by decide) ?_
  refine lv_istore_n (lv' := [(1, .int 0), (0, .ref r)]) hx hb dX3_sum_1 rfl hl (by decide) rfl (fun ls hl => ?_)
  refine lv_iconst (v := 0) hx hb dX3_sum_2 (by decide) ?_
  refine lv_istore_n (lv' := [(2, .int 0), (1, .int 0), (0, .ref r)]) hx hb dX3_sum_3 rfl hl (by decide) rfl (fun ls hl => ?_)
  have hL4 : ∀ (n k : Nat) (v1 : Int32) (H : Heap) (locs : List Loc) (ls : Array Slot), k ≤ r_sz.toNatClampNeg → r_sz.toNatClampNeg - k < n → f_X3_sum r_sz r_e_f = f_X3_sum_L4 r_sz r_e_f n k v1 → lv_has ls 3 [(0, .ref r), (1, .int v1), (2, .int (nI k))] → ww D A sZ.heap L F H locs → W pZ l eZ ({ frames := 0, cells := 0, slots := 0, locals := 0 } : Room) sZ mZ [.ref r].toArray below meth cZ H locs 0 0 (MQ below (wQi D A (fun r1 L1 F1 => r1 = (f_X3_sum r_sz r_e_f) ∧ L1 = L ∧ F1 = F)) [.ref r].toArray sZ 0 0 A) (F0 mZ 4 ls []) := by
    intro n; induction n with
    | zero => intro k v1 H locs ls hkT hmeas; exact absurd hmeas (Nat.not_lt_zero _)
    | succ n ih =>
      intro k v1 H locs ls hkT hmeas hq hl w
      have hk31 : k < 2147483648 := Nat.lt_of_le_of_lt hkT (w_clamp_lt _)
      have hq := hq.trans (f_X3_sum_L4_s r_sz r_e_f n k v1)
      refine lv_iload_n hx hb dX3_sum_4 rfl (lv_at hl 2 rfl) ?_
      refine lv_aload_n hx hb dX3_sum_5 rfl (lv_at hl 0 rfl) ?_
      refine w_get (v := .int r_sz) hx hb hts i_X3 hown hK w h_r rfl 2 (by decide) (hts _ m_0) rfl dX3_sum_6 ?_
      refine lv_icmp_ge (tgt := 27) hx hb dX3_sum_9 (by decide) (fun c1 => ?_) (fun c1 => ?_)
      · skip
        have hq := hq.trans (if_pos c1)
        refine lv_iload_n hx hb dX3_sum_27 rfl (lv_at hl 1 rfl) ?_
        exact w_iret hx hb hr hlocks w ⟨hq.symm, rfl, rfl⟩ (Nat.le_refl _) (Nat.le_refl _) dX3_sum_28
      · skip
        have hq := hq.trans (if_neg c1)
        have hlt9 : k < r_sz.toNatClampNeg := w_ltk hk31 c1
        refine lv_iload_n hx hb dX3_sum_12 rfl (lv_at hl 1 rfl) ?_
        refine lv_aload_n hx hb dX3_sum_13 rfl (lv_at hl 0 rfl) ?_
        refine w_get (v := .ref r_e) hx hb hts i_X3 hown hK w h_r rfl 0 (by decide) (hts _ m_2) rfl dX3_sum_14 ?_
        refine lv_iload_n hx hb dX3_sum_17 rfl (lv_at hl 2 rfl) ?_
        refine w_ild (j := k) hx hb hK w h_r_e (w_inK hlt9 hz) (nI_clamp (by omega)) dX3_sum_18 ?_
        refine lv_iadd hx hb dX3_sum_19 ?_
        refine lv_istore_n (lv' := [(1, .int (v1 + (r_e_f k))), (0, .ref r), (2, .int (nI k))]) hx hb dX3_sum_20 rfl hl (by decide) rfl (fun ls hl => ?_)
        refine lv_iinc (v := (nI (k + 1))) (lv' := [(2, .int (nI (k + 1))), (1, .int (v1 + (r_e_f k))), (0, .ref r)]) hx hb dX3_sum_21 hl (k := 2) rfl (w_inc _) (by decide) rfl (fun ls hl => ?_)
        refine lv_goto (tgt := 4) hx hb dX3_sum_24 (by decide) ?_
        exact ih ((k + 1)) (v1 + (r_e_f k)) _ _ _ (by omega) (by omega) hq (lv_sub hl [2, 1, 0] rfl) w
  exact hL4 (r_sz.toNatClampNeg + 1) 0 0 _ _ _ (Nat.zero_le _) (by omega) hq (lv_sub hl [2, 1, 0] rfl) w
def f_X3_countOf_L4 (v : Int32) (r_sz : Int32) (r_e_f : Nat → Int32) : Nat → Nat → Int32 → Int32
  | 0, _, _ => 0
  | n + 1, k, v2 => if r_sz ≤ (nI k) then v2 else (if (r_e_f k) = v then (f_X3_countOf_L4 v r_sz r_e_f n ((k + 1)) (v2 + 1)) else (f_X3_countOf_L4 v r_sz r_e_f n ((k + 1)) v2))
theorem f_X3_countOf_L4_s (v : Int32) (r_sz : Int32) (r_e_f : Nat → Int32) (n k : Nat) (v2 : Int32) : f_X3_countOf_L4 v r_sz r_e_f (n + 1) k v2 = (if r_sz ≤ (nI k) then v2 else (if (r_e_f k) = v then (f_X3_countOf_L4 v r_sz r_e_f n ((k + 1)) (v2 + 1)) else (f_X3_countOf_L4 v r_sz r_e_f n ((k + 1)) v2))) := rfl
def f_X3_countOf (v : Int32) (r_sz : Int32) (r_e_f : Nat → Int32) : Int32 := f_X3_countOf_L4 v r_sz r_e_f (r_sz.toNatClampNeg + 1) 0 0
set_option maxHeartbeats 400000 in
set_option maxRecDepth 100000 in
theorem c_X3_countOf (l : Launch) (D : va_G) (cI cP cS cL : ClassId) (L : List Nat) (F : Nat → va_E) (r : Nat) (v : Int32) (r_e : Nat) (r_so : Int32) (r_sz : Int32) (r_e_n : Nat) (r_e_f : Nat → Int32) (h_r : wi L F r (eR r_e r_so r_sz)) (h_r_e : wi L F r_e (eI cI r_e_n r_e_f)) (hz : r_sz.toInt ≤ r_e_n) : wMI l D cI cP cS cL yX3_countOf wsX3_countOf ({ frames := 0, cells := 0, slots := 0, locals := 0 } : Room) [.ref r, .int v] L F (f_X3_countOf v r_sz r_e_f) F := by
  refine wM.of (cc := cX3_countOf) (maxL := 4) (ret := (some .int)) (by decide) rfl (Nat.le_of_ble_eq_true rfl) ?_
  intro pZ eZ sZ mZ below meth cZ A ls C hl w
  obtain ⟨hx, hb, hr, hml, hts, hown, hlocks, hK, hA, hin⟩ := C
  have hown : sZ.vm.findClass RX3 = some mZ.cls := hown
  have hl : lv_has ls 4 [(0, .ref r), (1, .int v)] := hl
  have m_0 : ((.fieldLink RX3 25 "TwoThirds$Row" "size" "I") : Cond) ∈ wsX3_countOf := by decide +kernel
  have i_X3 : ∀ w ∈ wsX30, w ∈ wsX3_countOf := by decide +kernel
  have m_2 : ((.fieldLink RX3 9 "TwoThirds$Row" "elements" "[I") : Cond) ∈ wsX3_countOf := by decide +kernel
  have hq : f_X3_countOf v r_sz r_e_f = f_X3_countOf v r_sz r_e_f := rfl
  refine lv_iconst (v := 0) hx hb dX3_countOf_0 (by decide) ?_
  refine lv_istore_n (lv' := [(2, .int 0), (0, .ref r), (1, .int v)]) hx hb dX3_countOf_1 rfl hl (by decide) rfl (fun ls hl => ?_)
  refine lv_iconst (v := 0) hx hb dX3_countOf_2 (by decide) ?_
  refine lv_istore_n (lv' := [(3, .int 0), (2, .int 0), (0, .ref r), (1, .int v)]) hx hb dX3_countOf_3 rfl hl (by decide) rfl (fun ls hl => ?_)
  have hL4 : ∀ (n k : Nat) (v2 : Int32) (H : Heap) (locs : List Loc) (ls : Array Slot), k ≤ r_sz.toNatClampNeg → r_sz.toNatClampNeg - k < n → f_X3_countOf v r_sz r_e_f = f_X3_countOf_L4 v r_sz r_e_f n k v2 → lv_has ls 4 [(0, .ref r), (1, .int v), (2, .int v2), (3, .int (nI k))] → ww D A sZ.heap L F H locs → W pZ l eZ ({ frames := 0, cells := 0, slots := 0, locals := 0 } : Room) sZ mZ [.ref r, .int v].toArray below meth cZ H locs 0 0 (MQ below (wQi D A (fun r1 L1 F1 => r1 = (f_X3_countOf v r_sz r_e_f) ∧ L1 = L ∧ F1 = F)) [.ref r, .int v].toArray sZ 0 0 A) (F0 mZ 4 ls []) := by
    intro n; induction n with
    | zero => intro k v2 H locs ls hkT hmeas; exact absurd hmeas (Nat.not_lt_zero _)
    | succ n ih =>
      intro k v2 H locs ls hkT hmeas hq hl w
      have hk31 : k < 2147483648 := Nat.lt_of_le_of_lt hkT (w_clamp_lt _)
      have hq := hq.trans (f_X3_countOf_L4_s v r_sz r_e_f n k v2)
      refine lv_iload_n hx hb dX3_countOf_4 rfl (lv_at hl 3 rfl) ?_
      refine lv_aload_n hx hb dX3_countOf_5 rfl (lv_at hl 0 rfl) ?_
      refine w_get (v := .int r_sz) hx hb hts i_X3 hown hK w h_r rfl 2 (by decide) (hts _ m_0) rfl dX3_countOf_6 ?_
      refine lv_icmp_ge (tgt := 31) hx hb dX3_countOf_9 (by decide) (fun c1 => ?_) (fun c1 => ?_)
      · skip
        have hq := hq.trans (if_pos c1)
        refine lv_iload_n hx hb dX3_countOf_31 rfl (lv_at hl 2 rfl) ?_
        exact w_iret hx hb hr hlocks w ⟨hq.symm, rfl, rfl⟩ (Nat.le_refl _) (Nat.le_refl _) dX3_countOf_32
      · skip
        have hq := hq.trans (if_neg c1)
        have hlt9 : k < r_sz.toNatClampNeg := w_ltk hk31 c1
        refine lv_aload_n hx hb dX3_countOf_12 rfl (lv_at hl 0 rfl) ?_
        refine w_get (v := .ref r_e) hx hb hts i_X3 hown hK w h_r rfl 0 (by decide) (hts _ m_2) rfl dX3_countOf_13 ?_
        refine lv_iload_n hx hb dX3_countOf_16 rfl (lv_at hl 3 rfl) ?_
        refine w_ild (j := k) hx hb hK w h_r_e (w_inK hlt9 hz) (nI_clamp (by omega)) dX3_countOf_17 ?_
        refine lv_iload_n hx hb dX3_countOf_18 rfl (lv_at hl 1 rfl) ?_
        refine lv_icmp_ne (tgt := 25) hx hb dX3_countOf_19 (by decide) (fun c2 => ?_) (fun c2 => ?_)
        · skip
          have hq := hq.trans (if_neg c2)
          refine lv_iinc (v := (nI (k + 1))) (lv' := [(3, .int (nI (k + 1))), (0, .ref r), (1, .int v), (2, .int v2)]) hx hb dX3_countOf_25 hl (k := 3) rfl (w_inc _) (by decide) rfl (fun ls hl => ?_)
          refine lv_goto (tgt := 4) hx hb dX3_countOf_28 (by decide) ?_
          exact ih ((k + 1)) v2 _ _ _ (by omega) (by omega) hq (lv_sub hl [1, 2, 3, 0] rfl) w
        · skip
          have hq := hq.trans (if_pos c2)
          refine lv_iinc (v := (v2 + 1)) (lv' := [(2, .int (v2 + 1)), (0, .ref r), (1, .int v), (3, .int (nI k))]) hx hb dX3_countOf_22 hl (k := 2) rfl rfl (by decide) rfl (fun ls hl => ?_)
          refine lv_iinc (v := (nI (k + 1))) (lv' := [(3, .int (nI (k + 1))), (2, .int (v2 + 1)), (0, .ref r), (1, .int v)]) hx hb dX3_countOf_25 hl (k := 3) rfl (w_inc _) (by decide) rfl (fun ls hl => ?_)
          refine lv_goto (tgt := 4) hx hb dX3_countOf_28 (by decide) ?_
          exact ih ((k + 1)) (v2 + 1) _ _ _ (by omega) (by omega) hq (lv_sub hl [2, 3, 1, 0] rfl) w
  exact hL4 (r_sz.toNatClampNeg + 1) 0 0 _ _ _ (Nat.zero_le _) (by omega) hq (lv_sub hl [2, 3, 1, 0] rfl) w
def f_X3_write (i0 : Int32) (v : Int32) (r_so : Int32) (r_sz : Int32) (r_e_f : Nat → Int32) : (Nat → Int32) := if (f_X3_hasPlace i0 r_sz) = (0 : Int32) then r_e_f else (upd r_e_f (i0.toNatClampNeg) (f_X3_lowestBits v r_so))
set_option maxHeartbeats 400000 in
set_option maxRecDepth 100000 in
theorem c_X3_write (l : Launch) (D : va_G) (cI cP cS cL : ClassId) (L : List Nat) (F : Nat → va_E) (r : Nat) (i0 : Int32) (v : Int32) (r_e : Nat) (r_so : Int32) (r_sz : Int32) (r_e_n : Nat) (r_e_f : Nat → Int32) (h_r : wi L F r (eR r_e r_so r_sz)) (h_r_e : wi L F r_e (eI cI r_e_n r_e_f)) (hz : r_sz.toInt ≤ r_e_n) : wMw l D cI cP cS cL yX3_write wsX3_write ({ frames := 1, cells := 0, slots := 0, locals := 21 } : Room) [.ref r, .int i0, .int v] L F (fun F1 => ∃ y9 : (Nat → Int32), y9 = (f_X3_write i0 v r_so r_sz r_e_f) ∧ F1 r_e = (eI cI r_e_n y9) ∧ wk (fun q : Nat => q ≠ r_e ∧ True) F1 F) := by
  refine wM.of (cc := cX3_write) (maxL := 3) (ret := none) (by decide) rfl (Nat.le_of_ble_eq_true rfl) ?_
  intro pZ eZ sZ mZ below meth cZ A ls C hl w
  obtain ⟨hx, hb, hr, hml, hts, hown, hlocks, hK, hA, hin⟩ := C
  have hown : sZ.vm.findClass RX3 = some mZ.cls := hown
  have hl : lv_has ls 3 [(0, .ref r), (1, .int i0), (2, .int v)] := hl
  have m_0 : ((.fieldLink RX3 9 "TwoThirds$Row" "elements" "[I") : Cond) ∈ wsX3_write := by decide +kernel
  have i_X3 : ∀ w ∈ wsX30, w ∈ wsX3_write := by decide +kernel
  have hk : wk (fun q : Nat => q ≠ r_e ∧ True) F F := wk.rf
  have hq : f_X3_write i0 v r_so r_sz r_e_f = f_X3_write i0 v r_so r_sz r_e_f := rfl
  refine lv_aload_n hx hb dX3_write_0 rfl (lv_at hl 0 rfl) ?_
  refine lv_iload_n hx hb dX3_write_1 rfl (lv_at hl 1 rfl) ?_
  refine w_finI (w_runV (rm := ({ frames := 0, cells := 0, slots := 0, locals := 0 } : Room)) (As := [.int i0]) (rest := []) (n := 1) hx hb hml hts hown hK w (c_X3_hasPlace l D cI cP cS cL L _ r i0 r_e r_so r_sz h_r) gX3_write_X3_hasPlace rfl rfl rfl (by decide +kernel) ⟨(Nat.le_of_ble_eq_true rfl), (Nat.le_of_ble_eq_true rfl)⟩ h_r rfl rfl hl.1 rfl (Nat.le_of_ble_eq_true rfl) dX3_write_2 ⟨(Nat.le_of_ble_eq_true rfl), (Nat.le_of_ble_eq_true rfl)⟩) w hA (fun H locs w => ?_)
  refine lv_if_eq (tgt := 19) hx hb dX3_write_5 (by decide) (fun c1 => ?_) (fun c1 => ?_)
  · skip
    have hq := hq.trans (if_pos c1)
    exact w_vret hx hb hr hlocks w ⟨rfl, _, hq.symm, h_r_e.2, hk⟩ (Nat.le_refl _) (Nat.le_refl _) dX3_write_19
  · skip
    have hq := hq.trans (if_neg c1)
    refine lv_aload_n hx hb dX3_write_8 rfl (lv_at hl 0 rfl) ?_
    refine w_get (v := .ref r_e) hx hb hts i_X3 hown hK w h_r rfl 0 (by decide) (hts _ m_0) rfl dX3_write_9 ?_
    refine lv_iload_n hx hb dX3_write_12 rfl (lv_at hl 1 rfl) ?_
    refine lv_aload_n hx hb dX3_write_13 rfl (lv_at hl 0 rfl) ?_
    refine lv_iload_n hx hb dX3_write_14 rfl (lv_at hl 2 rfl) ?_
    refine w_finI (w_runV (rm := ({ frames := 0, cells := 0, slots := 0, locals := 0 } : Room)) (As := [.int v]) (rest := [.int i0, .ref r_e]) (n := 1) hx hb hml hts hown hK w (c_X3_lowestBits l D cI cP cS cL L _ r v r_e r_so r_sz h_r) gX3_write_X3_lowestBits rfl rfl rfl (by decide +kernel) ⟨(Nat.le_of_ble_eq_true rfl), (Nat.le_of_ble_eq_true rfl)⟩ h_r rfl rfl hl.1 rfl (Nat.le_of_ble_eq_true rfl) dX3_write_15 ⟨(Nat.le_of_ble_eq_true rfl), (Nat.le_of_ble_eq_true rfl)⟩) w hA (fun H locs w => ?_)
    have ho2 := h_r_e
    refine w_ist (j := (i0.toNatClampNeg)) hx hb hK w h_r_e (w_inP (by assumption) hz) rfl dX3_write_18 (fun H locs w h_r_e => ?_)
    have h_r := h_r.upw h_r_e (wi.ne h_r ho2 (by intro h; cases h))
    have hk := hk.upw h_r_e (fun q h => h.1)
    exact w_vret hx hb hr hlocks w ⟨rfl, _, hq.symm, h_r_e.2, hk⟩ (Nat.le_refl _) (Nat.le_refl _) dX3_write_19
def f_X0_isCard (number : Int32) (g_high : Int32) : Int32 := if number < (0 : Int32) then 0 else (if g_high < number then 0 else 1)
theorem z_X0_isCard (number : Int32) (g_high : Int32) : (f_X0_isCard number g_high) = 0 ∨ (f_X0_isCard number g_high) = 1 := by
  unfold f_X0_isCard
  try simp only [bnd]
  repeat' split
  all_goals first | exact Or.inl rfl | exact Or.inr rfl
set_option maxHeartbeats 400000 in
set_option maxRecDepth 100000 in
theorem c_X0_isCard (l : Launch) (D : va_G) (cI cP cS cL : ClassId) (L : List Nat) (F : Nat → va_E) (g : Nat) (number : Int32) (g_up : Int32) (g_down : Int32) (g_high : Int32) (g_prize : Int32) (g_z : Int32) (g_rounds : Int32) (g_people : Int32) (g_pa : Nat) (g_cr : Nat) (g_ls : Int32) (h_g : wi L F g (eG g_up g_down g_high g_prize g_z g_rounds g_people g_pa g_cr g_ls)) : wMI l D cI cP cS cL yX0_isCard wsX0_isCard ({ frames := 0, cells := 0, slots := 0, locals := 0 } : Room) [.ref g, .int number] L F (f_X0_isCard number g_high) F := by
  refine wM.of (cc := cX0_isCard) (maxL := 2) (ret := (some .boolean)) (by decide) rfl (Nat.le_of_ble_eq_true rfl) ?_
  intro pZ eZ sZ mZ below meth cZ A ls C hl w
  obtain ⟨hx, hb, hr, hml, hts, hown, hlocks, hK, hA, hin⟩ := C
  have hown : sZ.vm.findClass RX0 = some mZ.cls := hown
  have hl : lv_has ls 2 [(0, .ref g), (1, .int number)] := hl
  have m_0 : ((.fieldLink RX0 18 "TwoThirds$Game" "high" "I") : Cond) ∈ wsX0_isCard := by decide +kernel
  have i_X0 : ∀ w ∈ wsX00, w ∈ wsX0_isCard := by decide +kernel
  have hq : f_X0_isCard number g_high = f_X0_isCard number g_high := rfl
  refine lv_iload_n hx hb dX0_isCard_0 rfl (lv_at hl 1 rfl) ?_
  refine lv_if_lt (tgt := 16) hx hb dX0_isCard_1 (by decide) (fun c1 => ?_) (fun c1 => ?_)
  · skip
    have hq := hq.trans (if_pos c1)
    refine lv_iconst (v := 0) hx hb dX0_isCard_16 (by decide) ?_
    exact w_zret hx hb hr hlocks w rfl ⟨hq.symm, rfl, rfl⟩ (Nat.le_refl _) (Nat.le_refl _) dX0_isCard_17
  · skip
    have hq := hq.trans (if_neg c1)
    refine lv_iload_n hx hb dX0_isCard_4 rfl (lv_at hl 1 rfl) ?_
    refine lv_aload_n hx hb dX0_isCard_5 rfl (lv_at hl 0 rfl) ?_
    refine w_get (v := .int g_high) hx hb hts i_X0 hown hK w h_g rfl 2 (by decide) (hts _ m_0) rfl dX0_isCard_6 ?_
    refine lv_icmp_gt (tgt := 16) hx hb dX0_isCard_9 (by decide) (fun c2 => ?_) (fun c2 => ?_)
    · skip
      have hq := hq.trans (if_pos c2)
      refine lv_iconst (v := 0) hx hb dX0_isCard_16 (by decide) ?_
      exact w_zret hx hb hr hlocks w rfl ⟨hq.symm, rfl, rfl⟩ (Nat.le_refl _) (Nat.le_refl _) dX0_isCard_17
    · skip
      have hq := hq.trans (if_neg c2)
      refine lv_iconst (v := 1) hx hb dX0_isCard_12 (by decide) ?_
      refine lv_goto (tgt := 17) hx hb dX0_isCard_13 (by decide) ?_
      exact w_zret hx hb hr hlocks w rfl ⟨hq.symm, rfl, rfl⟩ (Nat.le_refl _) (Nat.le_refl _) dX0_isCard_17
def f_X0_heldToCards (number : Int32) (g_high : Int32) : Int32 := if (0 : Int32) ≤ number then (if number ≤ g_high then number else g_high) else 0
set_option maxHeartbeats 400000 in
set_option maxRecDepth 100000 in
theorem c_X0_heldToCards (l : Launch) (D : va_G) (cI cP cS cL : ClassId) (L : List Nat) (F : Nat → va_E) (g : Nat) (number : Int32) (g_up : Int32) (g_down : Int32) (g_high : Int32) (g_prize : Int32) (g_z : Int32) (g_rounds : Int32) (g_people : Int32) (g_pa : Nat) (g_cr : Nat) (g_ls : Int32) (h_g : wi L F g (eG g_up g_down g_high g_prize g_z g_rounds g_people g_pa g_cr g_ls)) : wMI l D cI cP cS cL yX0_heldToCards wsX0_heldToCards ({ frames := 0, cells := 0, slots := 0, locals := 0 } : Room) [.ref g, .int number] L F (f_X0_heldToCards number g_high) F := by
  refine wM.of (cc := cX0_heldToCards) (maxL := 2) (ret := (some .int)) (by decide) rfl (Nat.le_of_ble_eq_true rfl) ?_
  intro pZ eZ sZ mZ below meth cZ A ls C hl w
  obtain ⟨hx, hb, hr, hml, hts, hown, hlocks, hK, hA, hin⟩ := C
  have hown : sZ.vm.findClass RX0 = some mZ.cls := hown
  have hl : lv_has ls 2 [(0, .ref g), (1, .int number)] := hl
  have m_0 : ((.fieldLink RX0 18 "TwoThirds$Game" "high" "I") : Cond) ∈ wsX0_heldToCards := by decide +kernel
  have i_X0 : ∀ w ∈ wsX00, w ∈ wsX0_heldToCards := by decide +kernel
  have hq : f_X0_heldToCards number g_high = f_X0_heldToCards number g_high := rfl
  refine lv_iload_n hx hb dX0_heldToCards_0 rfl (lv_at hl 1 rfl) ?_
  refine lv_if_ge (tgt := 6) hx hb dX0_heldToCards_1 (by decide) (fun c1 => ?_) (fun c1 => ?_)
  · skip
    have hq := hq.trans (if_pos c1)
    refine lv_iload_n hx hb dX0_heldToCards_6 rfl (lv_at hl 1 rfl) ?_
    refine lv_aload_n hx hb dX0_heldToCards_7 rfl (lv_at hl 0 rfl) ?_
    refine w_get (v := .int g_high) hx hb hts i_X0 hown hK w h_g rfl 2 (by decide) (hts _ m_0) rfl dX0_heldToCards_8 ?_
    refine lv_icmp_le (tgt := 21) hx hb dX0_heldToCards_11 (by decide) (fun c2 => ?_) (fun c2 => ?_)
    · skip
      have hq := hq.trans (if_pos c2)
      refine lv_iload_n hx hb dX0_heldToCards_21 rfl (lv_at hl 1 rfl) ?_
      exact w_iret hx hb hr hlocks w ⟨hq.symm, rfl, rfl⟩ (Nat.le_refl _) (Nat.le_refl _) dX0_heldToCards_22
    · skip
      have hq := hq.trans (if_neg c2)
      refine lv_aload_n hx hb dX0_heldToCards_14 rfl (lv_at hl 0 rfl) ?_
      refine w_get (v := .int g_high) hx hb hts i_X0 hown hK w h_g rfl 2 (by decide) (hts _ m_0) rfl dX0_heldToCards_15 ?_
      refine lv_goto (tgt := 22) hx hb dX0_heldToCards_18 (by decide) ?_
      exact w_iret hx hb hr hlocks w ⟨hq.symm, rfl, rfl⟩ (Nat.le_refl _) (Nat.le_refl _) dX0_heldToCards_22
  · skip
    have hq := hq.trans (if_neg c1)
    refine lv_iconst (v := 0) hx hb dX0_heldToCards_4 (by decide) ?_
    exact w_iret hx hb hr hlocks w ⟨hq.symm, rfl, rfl⟩ (Nat.le_refl _) (Nat.le_refl _) dX0_heldToCards_5
def f_X0_middle (g_high : Int32) : Int32 := (g_high / 2)
set_option maxHeartbeats 400000 in
set_option maxRecDepth 100000 in
theorem c_X0_middle (l : Launch) (D : va_G) (cI cP cS cL : ClassId) (L : List Nat) (F : Nat → va_E) (g : Nat) (g_up : Int32) (g_down : Int32) (g_high : Int32) (g_prize : Int32) (g_z : Int32) (g_rounds : Int32) (g_people : Int32) (g_pa : Nat) (g_cr : Nat) (g_ls : Int32) (h_g : wi L F g (eG g_up g_down g_high g_prize g_z g_rounds g_people g_pa g_cr g_ls)) : wMI l D cI cP cS cL yX0_middle wsX0_middle ({ frames := 0, cells := 0, slots := 0, locals := 0 } : Room) [.ref g] L F (f_X0_middle g_high) F := by
  refine wM.of (cc := cX0_middle) (maxL := 1) (ret := (some .int)) (by decide) rfl (Nat.le_of_ble_eq_true rfl) ?_
  intro pZ eZ sZ mZ below meth cZ A ls C hl w
  obtain ⟨hx, hb, hr, hml, hts, hown, hlocks, hK, hA, hin⟩ := C
  have hown : sZ.vm.findClass RX0 = some mZ.cls := hown
  have hl : lv_has ls 1 [(0, .ref g)] := hl
  have m_0 : ((.fieldLink RX0 18 "TwoThirds$Game" "high" "I") : Cond) ∈ wsX0_middle := by decide +kernel
  have i_X0 : ∀ w ∈ wsX00, w ∈ wsX0_middle := by decide +kernel
  have hq : f_X0_middle g_high = f_X0_middle g_high := rfl
  refine lv_aload_n hx hb dX0_middle_0 rfl (lv_at hl 0 rfl) ?_
  refine w_get (v := .int g_high) hx hb hts i_X0 hown hK w h_g rfl 2 (by decide) (hts _ m_0) rfl dX0_middle_1 ?_
  refine lv_iconst (v := 2) hx hb dX0_middle_4 (by decide) ?_
  refine lv_idiv hx hb dX0_middle_5 (by decide) ?_
  exact w_iret hx hb hr hlocks w ⟨hq.symm, rfl, rfl⟩ (Nat.le_refl _) (Nat.le_refl _) dX0_middle_6
def f_X0_shareOf (number : Int32) (g_up : Int32) (g_down : Int32) (g_high : Int32) : Int32 := (f_X0_heldToCards (f_X5_over (g_up * number) g_down) g_high)
set_option maxHeartbeats 400000 in
set_option maxRecDepth 100000 in
theorem c_X0_shareOf (l : Launch) (D : va_G) (cI cP cS cL : ClassId) (L : List Nat) (F : Nat → va_E) (g : Nat) (number : Int32) (g_up : Int32) (g_down : Int32) (g_high : Int32) (g_prize : Int32) (g_z : Int32) (g_rounds : Int32) (g_people : Int32) (g_pa : Nat) (g_cr : Nat) (g_ls : Int32) (h_g : wi L F g (eG g_up g_down g_high g_prize g_z g_rounds g_people g_pa g_cr g_ls)) : wMI l D cI cP cS cL yX0_shareOf wsX0_shareOf ({ frames := 1, cells := 0, slots := 0, locals := 21 } : Room) [.ref g, .int number] L F (f_X0_shareOf number g_up g_down g_high) F := by
  refine wM.of (cc := cX0_shareOf) (maxL := 2) (ret := (some .int)) (by decide) rfl (Nat.le_of_ble_eq_true rfl) ?_
  intro pZ eZ sZ mZ below meth cZ A ls C hl w
  obtain ⟨hx, hb, hr, hml, hts, hown, hlocks, hK, hA, hin⟩ := C
  have hown : sZ.vm.findClass RX0 = some mZ.cls := hown
  have hl : lv_has ls 2 [(0, .ref g), (1, .int number)] := hl
  have m_0 : ((.fieldLink RX0 9 "TwoThirds$Game" "up" "I") : Cond) ∈ wsX0_shareOf := by decide +kernel
  have i_X0 : ∀ w ∈ wsX00, w ∈ wsX0_shareOf := by decide +kernel
  have m_2 : ((.fieldLink RX0 15 "TwoThirds$Game" "down" "I") : Cond) ∈ wsX0_shareOf := by decide +kernel
  have m_3 : ((.initialized RX5) : Cond) ∈ wsX0_shareOf := by decide +kernel
  have m_4 : ((.static yX5_over) : Cond) ∈ wsX0_shareOf := by decide +kernel
  have hq : f_X0_shareOf number g_up g_down g_high = f_X0_shareOf number g_up g_down g_high := rfl
  refine lv_aload_n hx hb dX0_shareOf_0 rfl (lv_at hl 0 rfl) ?_
  refine lv_aload_n hx hb dX0_shareOf_1 rfl (lv_at hl 0 rfl) ?_
  refine w_get (v := .int g_up) hx hb hts i_X0 hown hK w h_g rfl 0 (by decide) (hts _ m_0) rfl dX0_shareOf_2 ?_
  refine lv_iload_n hx hb dX0_shareOf_5 rfl (lv_at hl 1 rfl) ?_
  refine lv_imul hx hb dX0_shareOf_6 ?_
  refine lv_aload_n hx hb dX0_shareOf_7 rfl (lv_at hl 0 rfl) ?_
  refine w_get (v := .int g_down) hx hb hts i_X0 hown hK w h_g rfl 1 (by decide) (hts _ m_2) rfl dX0_shareOf_8 ?_
  refine w_finI (w_runN (rm := ({ frames := 0, cells := 0, slots := 0, locals := 0 } : Room)) (As := [.int (g_up * number), .int g_down]) (rest := [.ref g]) (n := 2) hx hb hml hts hown hK w (c_X5_over l D cI cP cS cL L _ (g_up * number) g_down ) gX0_shareOf_X5_over_n105 rfl rfl rfl hK.2.1 m_3 m_4 (by decide +kernel) ⟨(Nat.le_of_ble_eq_true rfl), (Nat.le_of_ble_eq_true rfl)⟩ rfl hl.1 rfl (Nat.le_of_ble_eq_true rfl) dX0_shareOf_11 ⟨(Nat.le_of_ble_eq_true rfl), (Nat.le_of_ble_eq_true rfl)⟩) w hA (fun H locs w => ?_)
  refine w_finI (w_runV (rm := ({ frames := 0, cells := 0, slots := 0, locals := 0 } : Room)) (As := [.int (f_X5_over (g_up * number) g_down)]) (rest := []) (n := 1) hx hb hml hts hown hK w (c_X0_heldToCards l D cI cP cS cL L _ g (f_X5_over (g_up * number) g_down) g_up g_down g_high g_prize g_z g_rounds g_people g_pa g_cr g_ls h_g) gX0_shareOf_X0_heldToCards rfl rfl rfl (by decide +kernel) ⟨(Nat.le_of_ble_eq_true rfl), (Nat.le_of_ble_eq_true rfl)⟩ h_g rfl rfl hl.1 rfl (Nat.le_of_ble_eq_true rfl) dX0_shareOf_14 ⟨(Nat.le_of_ble_eq_true rfl), (Nat.le_of_ble_eq_true rfl)⟩) w hA (fun H locs w => ?_)
  exact w_iret hx hb hr hlocks w ⟨hq.symm, rfl, rfl⟩ (Nat.le_refl _) (Nat.le_refl _) dX0_shareOf_17
def f_X0_sharedTimes_L5 (times : Int32) (g_up : Int32) (g_down : Int32) (g_high : Int32) : Nat → Nat → Int32 → Int32
  | 0, _, _ => 0
  | n + 1, k, v3 => if times ≤ (nI k) then v3 else (f_X0_sharedTimes_L5 times g_up g_down g_high n ((k + 1)) (f_X0_shareOf v3 g_up g_down g_high))
theorem f_X0_sharedTimes_L5_s (times : Int32) (g_up : Int32) (g_down : Int32) (g_high : Int32) (n k : Nat) (v3 : Int32) : f_X0_sharedTimes_L5 times g_up g_down g_high (n + 1) k v3 = (if times ≤ (nI k) then v3 else (f_X0_sharedTimes_L5 times g_up g_down g_high n ((k + 1)) (f_X0_shareOf v3 g_up g_down g_high))) := rfl
def f_X0_sharedTimes (start : Int32) (times : Int32) (g_up : Int32) (g_down : Int32) (g_high : Int32) : Int32 := f_X0_sharedTimes_L5 times g_up g_down g_high (times.toNatClampNeg + 1) 0 start
set_option maxHeartbeats 400000 in
set_option maxRecDepth 100000 in
theorem c_X0_sharedTimes (l : Launch) (D : va_G) (cI cP cS cL : ClassId) (L : List Nat) (F : Nat → va_E) (g : Nat) (start : Int32) (times : Int32) (g_up : Int32) (g_down : Int32) (g_high : Int32) (g_prize : Int32) (g_z : Int32) (g_rounds : Int32) (g_people : Int32) (g_pa : Nat) (g_cr : Nat) (g_ls : Int32) (h_g : wi L F g (eG g_up g_down g_high g_prize g_z g_rounds g_people g_pa g_cr g_ls)) : wMI l D cI cP cS cL yX0_sharedTimes wsX0_sharedTimes ({ frames := 2, cells := 0, slots := 0, locals := 42 } : Room) [.ref g, .int start, .int times] L F (f_X0_sharedTimes start times g_up g_down g_high) F := by
  refine wM.of (cc := cX0_sharedTimes) (maxL := 5) (ret := (some .int)) (by decide) rfl (Nat.le_of_ble_eq_true rfl) ?_
  intro pZ eZ sZ mZ below meth cZ A ls C hl w
  obtain ⟨hx, hb, hr, hml, hts, hown, hlocks, hK, hA, hin⟩ := C
  have hown : sZ.vm.findClass RX0 = some mZ.cls := hown
  have hl : lv_has ls 5 [(0, .ref g), (1, .int start), (2, .int times)] := hl
  have hq : f_X0_sharedTimes start times g_up g_down g_high = f_X0_sharedTimes start times g_up g_down g_high := rfl
  refine lv_iload_n hx hb dX0_sharedTimes_0 rfl (lv_at hl 1 rfl) ?_
  refine lv_istore_n (lv' := [(3, .int start), (0, .ref g), (1, .int start), (2, .int times)]) hx hb dX0_sharedTimes_1 rfl hl (by decide) rfl (fun ls hl => ?_)
  refine lv_iconst (v := 0) hx hb dX0_sharedTimes_2 (by decide) ?_
  refine lv_istore (lv' := [(4, .int 0), (3, .int start), (0, .ref g), (1, .int start), (2, .int times)]) hx hb dX0_sharedTimes_3 hl (by decide) rfl (fun ls hl => ?_)
  have hL5 : ∀ (n k : Nat) (v3 : Int32) (H : Heap) (locs : List Loc) (ls : Array Slot), k ≤ times.toNatClampNeg → times.toNatClampNeg - k < n → f_X0_sharedTimes start times g_up g_down g_high = f_X0_sharedTimes_L5 times g_up g_down g_high n k v3 → lv_has ls 5 [(0, .ref g), (1, .int start), (2, .int times), (3, .int v3), (4, .int (nI k))] → ww D A sZ.heap L F H locs → W pZ l eZ ({ frames := 2, cells := 0, slots := 0, locals := 42 } : Room) sZ mZ [.ref g, .int start, .int times].toArray below meth cZ H locs 0 0 (MQ below (wQi D A (fun r1 L1 F1 => r1 = (f_X0_sharedTimes start times g_up g_down g_high) ∧ L1 = L ∧ F1 = F)) [.ref g, .int start, .int times].toArray sZ 0 0 A) (F0 mZ 5 ls []) := by
    intro n; induction n with
    | zero => intro k v3 H locs ls hkT hmeas; exact absurd hmeas (Nat.not_lt_zero _)
    | succ n ih =>
      intro k v3 H locs ls hkT hmeas hq hl w
      have hk31 : k < 2147483648 := Nat.lt_of_le_of_lt hkT (w_clamp_lt _)
      have hq := hq.trans (f_X0_sharedTimes_L5_s times g_up g_down g_high n k v3)
      refine lv_iload hx hb dX0_sharedTimes_5 (lv_at hl 4 rfl) ?_
      refine lv_iload_n hx hb dX0_sharedTimes_7 rfl (lv_at hl 2 rfl) ?_
      refine lv_icmp_ge (tgt := 23) hx hb dX0_sharedTimes_8 (by decide) (fun c1 => ?_) (fun c1 => ?_)
      · skip
        have hq := hq.trans (if_pos c1)
        refine lv_iload_n hx hb dX0_sharedTimes_23 rfl (lv_at hl 3 rfl) ?_
        exact w_iret hx hb hr hlocks w ⟨hq.symm, rfl, rfl⟩ (Nat.le_refl _) (Nat.le_refl _) dX0_sharedTimes_24
      · skip
        have hq := hq.trans (if_neg c1)
        have hlt8 : k < times.toNatClampNeg := w_ltk hk31 c1
        refine lv_aload_n hx hb dX0_sharedTimes_11 rfl (lv_at hl 0 rfl) ?_
        refine lv_iload_n hx hb dX0_sharedTimes_12 rfl (lv_at hl 3 rfl) ?_
        refine w_finI (w_runV (rm := ({ frames := 1, cells := 0, slots := 0, locals := 21 } : Room)) (As := [.int v3]) (rest := []) (n := 1) hx hb hml hts hown hK w (c_X0_shareOf l D cI cP cS cL L _ g v3 g_up g_down g_high g_prize g_z g_rounds g_people g_pa g_cr g_ls h_g) gX0_sharedTimes_X0_shareOf rfl rfl rfl (by decide +kernel) ⟨(Nat.le_of_ble_eq_true rfl), (Nat.le_of_ble_eq_true rfl)⟩ h_g rfl rfl hl.1 rfl (Nat.le_of_ble_eq_true rfl) dX0_sharedTimes_13 ⟨(Nat.le_of_ble_eq_true rfl), (Nat.le_of_ble_eq_true rfl)⟩) w hA (fun H locs w => ?_)
        refine lv_istore_n (lv' := [(3, .int (f_X0_shareOf v3 g_up g_down g_high)), (0, .ref g), (1, .int start), (2, .int times), (4, .int (nI k))]) hx hb dX0_sharedTimes_16 rfl hl (by decide) rfl (fun ls hl => ?_)
        refine lv_iinc (v := (nI (k + 1))) (lv' := [(4, .int (nI (k + 1))), (3, .int (f_X0_shareOf v3 g_up g_down g_high)), (0, .ref g), (1, .int start), (2, .int times)]) hx hb dX0_sharedTimes_17 hl (k := 4) rfl (w_inc _) (by decide) rfl (fun ls hl => ?_)
        refine lv_goto (tgt := 5) hx hb dX0_sharedTimes_20 (by decide) ?_
        exact ih ((k + 1)) (f_X0_shareOf v3 g_up g_down g_high) _ _ _ (by omega) (by omega) hq (lv_sub hl [2, 3, 4, 1, 0] rfl) w
  exact hL5 (times.toNatClampNeg + 1) 0 start _ _ _ (Nat.zero_le _) (by omega) hq (lv_sub hl [2, 3, 4, 1, 0] rfl) w
def f_X0_stepped (k0 : Int32) (g_up : Int32) (g_down : Int32) (g_high : Int32) : Int32 := (f_X0_sharedTimes (f_X0_middle g_high) k0 g_up g_down g_high)
set_option maxHeartbeats 400000 in
set_option maxRecDepth 100000 in
theorem c_X0_stepped (l : Launch) (D : va_G) (cI cP cS cL : ClassId) (L : List Nat) (F : Nat → va_E) (g : Nat) (k0 : Int32) (g_up : Int32) (g_down : Int32) (g_high : Int32) (g_prize : Int32) (g_z : Int32) (g_rounds : Int32) (g_people : Int32) (g_pa : Nat) (g_cr : Nat) (g_ls : Int32) (h_g : wi L F g (eG g_up g_down g_high g_prize g_z g_rounds g_people g_pa g_cr g_ls)) : wMI l D cI cP cS cL yX0_stepped wsX0_stepped ({ frames := 3, cells := 0, slots := 0, locals := 66 } : Room) [.ref g, .int k0] L F (f_X0_stepped k0 g_up g_down g_high) F := by
  refine wM.of (cc := cX0_stepped) (maxL := 2) (ret := (some .int)) (by decide) rfl (Nat.le_of_ble_eq_true rfl) ?_
  intro pZ eZ sZ mZ below meth cZ A ls C hl w
  obtain ⟨hx, hb, hr, hml, hts, hown, hlocks, hK, hA, hin⟩ := C
  have hown : sZ.vm.findClass RX0 = some mZ.cls := hown
  have hl : lv_has ls 2 [(0, .ref g), (1, .int k0)] := hl
  have hq : f_X0_stepped k0 g_up g_down g_high = f_X0_stepped k0 g_up g_down g_high := rfl
  refine lv_aload_n hx hb dX0_stepped_0 rfl (lv_at hl 0 rfl) ?_
  refine lv_aload_n hx hb dX0_stepped_1 rfl (lv_at hl 0 rfl) ?_
  refine w_finI (w_runV (rm := ({ frames := 0, cells := 0, slots := 0, locals := 0 } : Room)) (As := []) (rest := [.ref g]) (n := 0) hx hb hml hts hown hK w (c_X0_middle l D cI cP cS cL L _ g g_up g_down g_high g_prize g_z g_rounds g_people g_pa g_cr g_ls h_g) gX0_stepped_X0_middle rfl rfl rfl (by decide +kernel) ⟨(Nat.le_of_ble_eq_true rfl), (Nat.le_of_ble_eq_true rfl)⟩ h_g rfl rfl hl.1 rfl (Nat.le_of_ble_eq_true rfl) dX0_stepped_2 ⟨(Nat.le_of_ble_eq_true rfl), (Nat.le_of_ble_eq_true rfl)⟩) w hA (fun H locs w => ?_)
  refine lv_iload_n hx hb dX0_stepped_5 rfl (lv_at hl 1 rfl) ?_
  refine w_finI (w_runV (rm := ({ frames := 2, cells := 0, slots := 0, locals := 42 } : Room)) (As := [.int (f_X0_middle g_high), .int k0]) (rest := []) (n := 2) hx hb hml hts hown hK w (c_X0_sharedTimes l D cI cP cS cL L _ g (f_X0_middle g_high) k0 g_up g_down g_high g_prize g_z g_rounds g_people g_pa g_cr g_ls h_g) gX0_stepped_X0_sharedTimes rfl rfl rfl (by decide +kernel) ⟨(Nat.le_of_ble_eq_true rfl), (Nat.le_of_ble_eq_true rfl)⟩ h_g rfl rfl hl.1 rfl (Nat.le_of_ble_eq_true rfl) dX0_stepped_6 ⟨(Nat.le_of_ble_eq_true rfl), (Nat.le_of_ble_eq_true rfl)⟩) w hA (fun H locs w => ?_)
  exact w_iret hx hb hr hlocks w ⟨hq.symm, rfl, rfl⟩ (Nat.le_refl _) (Nat.le_refl _) dX0_stepped_9
def f_X0_canBe (what : Int32) (n0 : Int32) : Int32 := if what = (0 : Int32) then (if n0 < (0 : Int32) then 0 else (if (20 : Int32) < n0 then 0 else 1)) else (if what = (1 : Int32) then (if n0 < (1 : Int32) then 0 else (if (20 : Int32) < n0 then 0 else 1)) else (if what = (2 : Int32) then (if n0 < (1 : Int32) then 0 else (if (1000 : Int32) < n0 then 0 else 1)) else (if what = (3 : Int32) then (f_X5_isOneOfTwo n0) else (if what = (4 : Int32) then 1 else 0))))
theorem z_X0_canBe (what : Int32) (n0 : Int32) : (f_X0_canBe what n0) = 0 ∨ (f_X0_canBe what n0) = 1 := by
  unfold f_X0_canBe
  try simp only [bnd]
  repeat' split
  all_goals first | exact Or.inl rfl | exact Or.inr rfl | exact z_X5_isOneOfTwo _
set_option maxHeartbeats 400000 in
set_option maxRecDepth 100000 in
theorem c_X0_canBe (l : Launch) (D : va_G) (cI cP cS cL : ClassId) (L : List Nat) (F : Nat → va_E) (what : Int32) (n0 : Int32)  : wMI l D cI cP cS cL yX0_canBe wsX0_canBe ({ frames := 1, cells := 0, slots := 0, locals := 20 } : Room) [.int what, .int n0] L F (f_X0_canBe what n0) F := by
  refine wM.of (cc := cX0_canBe) (maxL := 2) (ret := (some .boolean)) (by decide) rfl (Nat.le_of_ble_eq_true rfl) ?_
  intro pZ eZ sZ mZ below meth cZ A ls C hl w
  obtain ⟨hx, hb, hr, hml, hts, hown, hlocks, hK, hA, hin⟩ := C
  have hown : sZ.vm.findClass RX0 = some mZ.cls := hown
  have hl : lv_has ls 2 [(0, .int what), (1, .int n0)] := hl
  have m_0 : ((.initialized RX5) : Cond) ∈ wsX0_canBe := by decide +kernel
  have m_1 : ((.static yX5_isOneOfTwo) : Cond) ∈ wsX0_canBe := by decide +kernel
  have hq : f_X0_canBe what n0 = f_X0_canBe what n0 := rfl
  refine lv_iload_n hx hb dX0_canBe_0 rfl (lv_at hl 0 rfl) ?_
  by_cases c1 : what = (0 : Int32)
  · skip
    have hq := hq.trans (if_pos c1)
    refine w_ts (v := 0) (off := 31) (tgt := 32) hx hb dX0_canBe_1 c1 (by decide) (by decide) rfl (by decide) ?_
    refine lv_iload_n hx hb dX0_canBe_32 rfl (lv_at hl 1 rfl) ?_
    refine lv_if_lt (tgt := 46) hx hb dX0_canBe_33 (by decide) (fun c2 => ?_) (fun c2 => ?_)
    · skip
      have hq := hq.trans (if_pos c2)
      refine lv_iconst (v := 0) hx hb dX0_canBe_46 (by decide) ?_
      exact w_zret hx hb hr hlocks w rfl ⟨hq.symm, rfl, rfl⟩ (Nat.le_refl _) (Nat.le_refl _) dX0_canBe_47
    · skip
      have hq := hq.trans (if_neg c2)
      refine lv_iload_n hx hb dX0_canBe_36 rfl (lv_at hl 1 rfl) ?_
      refine lv_bipush (v := 20) hx hb dX0_canBe_37 (by decide) ?_
      refine lv_icmp_gt (tgt := 46) hx hb dX0_canBe_39 (by decide) (fun c3 => ?_) (fun c3 => ?_)
      · skip
        have hq := hq.trans (if_pos c3)
        refine lv_iconst (v := 0) hx hb dX0_canBe_46 (by decide) ?_
        exact w_zret hx hb hr hlocks w rfl ⟨hq.symm, rfl, rfl⟩ (Nat.le_refl _) (Nat.le_refl _) dX0_canBe_47
      · skip
        have hq := hq.trans (if_neg c3)
        refine lv_iconst (v := 1) hx hb dX0_canBe_42 (by decide) ?_
        refine lv_goto (tgt := 47) hx hb dX0_canBe_43 (by decide) ?_
        exact w_zret hx hb hr hlocks w rfl ⟨hq.symm, rfl, rfl⟩ (Nat.le_refl _) (Nat.le_refl _) dX0_canBe_47
  · skip
    have hq := hq.trans (if_neg c1)
    by_cases c4 : what = (1 : Int32)
    · skip
      have hq := hq.trans (if_pos c4)
      refine w_ts (v := 1) (off := 47) (tgt := 48) hx hb dX0_canBe_1 c4 (by decide) (by decide) rfl (by decide) ?_
      refine lv_iload_n hx hb dX0_canBe_48 rfl (lv_at hl 1 rfl) ?_
      refine lv_iconst (v := 1) hx hb dX0_canBe_49 (by decide) ?_
      refine lv_icmp_lt (tgt := 63) hx hb dX0_canBe_50 (by decide) (fun c5 => ?_) (fun c5 => ?_)
      · skip
        have hq := hq.trans (if_pos c5)
        refine lv_iconst (v := 0) hx hb dX0_canBe_63 (by decide) ?_
        exact w_zret hx hb hr hlocks w rfl ⟨hq.symm, rfl, rfl⟩ (Nat.le_refl _) (Nat.le_refl _) dX0_canBe_64
      · skip
        have hq := hq.trans (if_neg c5)
        refine lv_iload_n hx hb dX0_canBe_53 rfl (lv_at hl 1 rfl) ?_
        refine lv_bipush (v := 20) hx hb dX0_canBe_54 (by decide) ?_
        refine lv_icmp_gt (tgt := 63) hx hb dX0_canBe_56 (by decide) (fun c6 => ?_) (fun c6 => ?_)
        · skip
          have hq := hq.trans (if_pos c6)
          refine lv_iconst (v := 0) hx hb dX0_canBe_63 (by decide) ?_
          exact w_zret hx hb hr hlocks w rfl ⟨hq.symm, rfl, rfl⟩ (Nat.le_refl _) (Nat.le_refl _) dX0_canBe_64
        · skip
          have hq := hq.trans (if_neg c6)
          refine lv_iconst (v := 1) hx hb dX0_canBe_59 (by decide) ?_
          refine lv_goto (tgt := 64) hx hb dX0_canBe_60 (by decide) ?_
          exact w_zret hx hb hr hlocks w rfl ⟨hq.symm, rfl, rfl⟩ (Nat.le_refl _) (Nat.le_refl _) dX0_canBe_64
    · skip
      have hq := hq.trans (if_neg c4)
      by_cases c7 : what = (2 : Int32)
      · skip
        have hq := hq.trans (if_pos c7)
        refine w_ts (v := 2) (off := 64) (tgt := 65) hx hb dX0_canBe_1 c7 (by decide) (by decide) rfl (by decide) ?_
        refine lv_iload_n hx hb dX0_canBe_65 rfl (lv_at hl 1 rfl) ?_
        refine lv_iconst (v := 1) hx hb dX0_canBe_66 (by decide) ?_
        refine lv_icmp_lt (tgt := 81) hx hb dX0_canBe_67 (by decide) (fun c8 => ?_) (fun c8 => ?_)
        · skip
          have hq := hq.trans (if_pos c8)
          refine lv_iconst (v := 0) hx hb dX0_canBe_81 (by decide) ?_
          exact w_zret hx hb hr hlocks w rfl ⟨hq.symm, rfl, rfl⟩ (Nat.le_refl _) (Nat.le_refl _) dX0_canBe_82
        · skip
          have hq := hq.trans (if_neg c8)
          refine lv_iload_n hx hb dX0_canBe_70 rfl (lv_at hl 1 rfl) ?_
          refine lv_sipush (v := 1000) hx hb dX0_canBe_71 (by decide) ?_
          refine lv_icmp_gt (tgt := 81) hx hb dX0_canBe_74 (by decide) (fun c9 => ?_) (fun c9 => ?_)
          · skip
            have hq := hq.trans (if_pos c9)
            refine lv_iconst (v := 0) hx hb dX0_canBe_81 (by decide) ?_
            exact w_zret hx hb hr hlocks w rfl ⟨hq.symm, rfl, rfl⟩ (Nat.le_refl _) (Nat.le_refl _) dX0_canBe_82
          · skip
            have hq := hq.trans (if_neg c9)
            refine lv_iconst (v := 1) hx hb dX0_canBe_77 (by decide) ?_
            refine lv_goto (tgt := 82) hx hb dX0_canBe_78 (by decide) ?_
            exact w_zret hx hb hr hlocks w rfl ⟨hq.symm, rfl, rfl⟩ (Nat.le_refl _) (Nat.le_refl _) dX0_canBe_82
      · skip
        have hq := hq.trans (if_neg c7)
        by_cases c10 : what = (3 : Int32)
        · skip
          have hq := hq.trans (if_pos c10)
          refine w_ts (v := 3) (off := 82) (tgt := 83) hx hb dX0_canBe_1 c10 (by decide) (by decide) rfl (by decide) ?_
          refine lv_iload_n hx hb dX0_canBe_83 rfl (lv_at hl 1 rfl) ?_
          refine w_finI (w_runN (rm := ({ frames := 0, cells := 0, slots := 0, locals := 0 } : Room)) (As := [.int n0]) (rest := []) (n := 1) hx hb hml hts hown hK w (c_X5_isOneOfTwo l D cI cP cS cL L _ n0 ) gX0_canBe_X5_isOneOfTwo_n62 rfl rfl rfl hK.2.2.1 m_0 m_1 (by decide +kernel) ⟨(Nat.le_of_ble_eq_true rfl), (Nat.le_of_ble_eq_true rfl)⟩ rfl hl.1 rfl (Nat.le_of_ble_eq_true rfl) dX0_canBe_84 ⟨(Nat.le_of_ble_eq_true rfl), (Nat.le_of_ble_eq_true rfl)⟩) w hA (fun H locs w => ?_)
          exact w_zret hx hb hr hlocks w (w_nb (z_X5_isOneOfTwo _)) ⟨hq.symm, rfl, rfl⟩ (Nat.le_refl _) (Nat.le_refl _) dX0_canBe_87
        · skip
          have hq := hq.trans (if_neg c10)
          refine lv_tableOut (tgt := 88) hx hb dX0_canBe_1 (by have q0 : ¬ what.toInt = 0 := w_ne c1 rfl; have q1 : ¬ what.toInt = 1 := w_ne c4 rfl; have q2 : ¬ what.toInt = 2 := w_ne c7 rfl; have q3 : ¬ what.toInt = 3 := w_ne c10 rfl; omega) (by decide) ?_
          refine lv_iload_n hx hb dX0_canBe_88 rfl (lv_at hl 0 rfl) ?_
          refine lv_iconst (v := 4) hx hb dX0_canBe_89 (by decide) ?_
          refine lv_icmp_ne (tgt := 97) hx hb dX0_canBe_90 (by decide) (fun c11 => ?_) (fun c11 => ?_)
          · skip
            have hq := hq.trans (if_neg c11)
            refine lv_iconst (v := 0) hx hb dX0_canBe_97 (by decide) ?_
            exact w_zret hx hb hr hlocks w rfl ⟨hq.symm, rfl, rfl⟩ (Nat.le_refl _) (Nat.le_refl _) dX0_canBe_98
          · skip
            have hq := hq.trans (if_pos c11)
            refine lv_iconst (v := 1) hx hb dX0_canBe_93 (by decide) ?_
            refine lv_goto (tgt := 98) hx hb dX0_canBe_94 (by decide) ?_
            exact w_zret hx hb hr hlocks w rfl ⟨hq.symm, rfl, rfl⟩ (Nat.le_refl _) (Nat.le_refl _) dX0_canBe_98
def f_X0_setting (what : Int32) (g_up : Int32) (g_down : Int32) (g_high : Int32) (g_prize : Int32) (g_z : Int32) : Int32 := if what = (0 : Int32) then g_up else (if what = (1 : Int32) then g_down else (if what = (2 : Int32) then g_high else (if what = (3 : Int32) then g_prize else g_z)))
set_option maxHeartbeats 400000 in
set_option maxRecDepth 100000 in
theorem c_X0_setting (l : Launch) (D : va_G) (cI cP cS cL : ClassId) (L : List Nat) (F : Nat → va_E) (g : Nat) (what : Int32) (g_up : Int32) (g_down : Int32) (g_high : Int32) (g_prize : Int32) (g_z : Int32) (g_rounds : Int32) (g_people : Int32) (g_pa : Nat) (g_cr : Nat) (g_ls : Int32) (h_g : wi L F g (eG g_up g_down g_high g_prize g_z g_rounds g_people g_pa g_cr g_ls)) : wMI l D cI cP cS cL yX0_setting wsX0_setting ({ frames := 0, cells := 0, slots := 0, locals := 0 } : Room) [.ref g, .int what] L F (f_X0_setting what g_up g_down g_high g_prize g_z) F := by
  refine wM.of (cc := cX0_setting) (maxL := 2) (ret := (some .int)) (by decide) rfl (Nat.le_of_ble_eq_true rfl) ?_
  intro pZ eZ sZ mZ below meth cZ A ls C hl w
  obtain ⟨hx, hb, hr, hml, hts, hown, hlocks, hK, hA, hin⟩ := C
  have hown : sZ.vm.findClass RX0 = some mZ.cls := hown
  have hl : lv_has ls 2 [(0, .ref g), (1, .int what)] := hl
  have m_0 : ((.fieldLink RX0 9 "TwoThirds$Game" "up" "I") : Cond) ∈ wsX0_setting := by decide +kernel
  have i_X0 : ∀ w ∈ wsX00, w ∈ wsX0_setting := by decide +kernel
  have m_2 : ((.fieldLink RX0 15 "TwoThirds$Game" "down" "I") : Cond) ∈ wsX0_setting := by decide +kernel
  have m_3 : ((.fieldLink RX0 18 "TwoThirds$Game" "high" "I") : Cond) ∈ wsX0_setting := by decide +kernel
  have m_4 : ((.fieldLink RX0 21 "TwoThirds$Game" "prize" "I") : Cond) ∈ wsX0_setting := by decide +kernel
  have m_5 : ((.fieldLink RX0 24 "TwoThirds$Game" "z" "I") : Cond) ∈ wsX0_setting := by decide +kernel
  have hq : f_X0_setting what g_up g_down g_high g_prize g_z = f_X0_setting what g_up g_down g_high g_prize g_z := rfl
  refine lv_iload_n hx hb dX0_setting_0 rfl (lv_at hl 1 rfl) ?_
  by_cases c1 : what = (0 : Int32)
  · skip
    have hq := hq.trans (if_pos c1)
    refine w_ts (v := 0) (off := 31) (tgt := 32) hx hb dX0_setting_1 c1 (by decide) (by decide) rfl (by decide) ?_
    refine lv_aload_n hx hb dX0_setting_32 rfl (lv_at hl 0 rfl) ?_
    refine w_get (v := .int g_up) hx hb hts i_X0 hown hK w h_g rfl 0 (by decide) (hts _ m_0) rfl dX0_setting_33 ?_
    exact w_iret hx hb hr hlocks w ⟨hq.symm, rfl, rfl⟩ (Nat.le_refl _) (Nat.le_refl _) dX0_setting_36
  · skip
    have hq := hq.trans (if_neg c1)
    by_cases c2 : what = (1 : Int32)
    · skip
      have hq := hq.trans (if_pos c2)
      refine w_ts (v := 1) (off := 36) (tgt := 37) hx hb dX0_setting_1 c2 (by decide) (by decide) rfl (by decide) ?_
      refine lv_aload_n hx hb dX0_setting_37 rfl (lv_at hl 0 rfl) ?_
      refine w_get (v := .int g_down) hx hb hts i_X0 hown hK w h_g rfl 1 (by decide) (hts _ m_2) rfl dX0_setting_38 ?_
      exact w_iret hx hb hr hlocks w ⟨hq.symm, rfl, rfl⟩ (Nat.le_refl _) (Nat.le_refl _) dX0_setting_41
    · skip
      have hq := hq.trans (if_neg c2)
      by_cases c3 : what = (2 : Int32)
      · skip
        have hq := hq.trans (if_pos c3)
        refine w_ts (v := 2) (off := 41) (tgt := 42) hx hb dX0_setting_1 c3 (by decide) (by decide) rfl (by decide) ?_
        refine lv_aload_n hx hb dX0_setting_42 rfl (lv_at hl 0 rfl) ?_
        refine w_get (v := .int g_high) hx hb hts i_X0 hown hK w h_g rfl 2 (by decide) (hts _ m_3) rfl dX0_setting_43 ?_
        exact w_iret hx hb hr hlocks w ⟨hq.symm, rfl, rfl⟩ (Nat.le_refl _) (Nat.le_refl _) dX0_setting_46
      · skip
        have hq := hq.trans (if_neg c3)
        by_cases c4 : what = (3 : Int32)
        · skip
          have hq := hq.trans (if_pos c4)
          refine w_ts (v := 3) (off := 46) (tgt := 47) hx hb dX0_setting_1 c4 (by decide) (by decide) rfl (by decide) ?_
          refine lv_aload_n hx hb dX0_setting_47 rfl (lv_at hl 0 rfl) ?_
          refine w_get (v := .int g_prize) hx hb hts i_X0 hown hK w h_g rfl 3 (by decide) (hts _ m_4) rfl dX0_setting_48 ?_
          exact w_iret hx hb hr hlocks w ⟨hq.symm, rfl, rfl⟩ (Nat.le_refl _) (Nat.le_refl _) dX0_setting_51
        · skip
          have hq := hq.trans (if_neg c4)
          refine lv_tableOut (tgt := 52) hx hb dX0_setting_1 (by have q0 : ¬ what.toInt = 0 := w_ne c1 rfl; have q1 : ¬ what.toInt = 1 := w_ne c2 rfl; have q2 : ¬ what.toInt = 2 := w_ne c3 rfl; have q3 : ¬ what.toInt = 3 := w_ne c4 rfl; omega) (by decide) ?_
          refine lv_aload_n hx hb dX0_setting_52 rfl (lv_at hl 0 rfl) ?_
          refine w_get (v := .int g_z) hx hb hts i_X0 hown hK w h_g rfl 4 (by decide) (hts _ m_5) rfl dX0_setting_53 ?_
          exact w_iret hx hb hr hlocks w ⟨hq.symm, rfl, rfl⟩ (Nat.le_refl _) (Nat.le_refl _) dX0_setting_56
