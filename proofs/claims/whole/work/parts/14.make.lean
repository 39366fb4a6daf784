theorem wi_last {D : va_G} {A : Nat → Prop} {H0 H : Heap} {L : List Nat} {F : Nat → va_E} {locs : List Loc} {q : Nat} {e : va_E} (_ : ww D A H0 (L ++ [q]) F H locs) (h : F q = e) : wi (L ++ [q]) F q e := ⟨List.mem_append_right _ List.mem_cons_self, h⟩
set_option maxHeartbeats 400000 in
set_option maxRecDepth 100000 in
theorem c_X1_init (l : Launch) (D : va_G) (cI cP cS cL : ClassId) (L : List Nat) (F : Nat → va_E) (p9 : Nat) : wMV l D cI cP cS cL yX1_init wsX1_init ({ frames := 1, cells := 0, slots := 0, locals := 12 } : Room) [.ref p9] L F F := by
  refine wM.of (cc := cX1_init) (maxL := 1) (ret := none) (by decide) rfl (Nat.le_of_ble_eq_true rfl) ?_
  intro pZ eZ sZ mZ below meth cZ A ls C hl w
  obtain ⟨hx, hb, hr, hml, hts, hown, hlocks, hK, hA, hin⟩ := C
  have hown : sZ.vm.findClass RX1 = some mZ.cls := hown
  have hl : lv_has ls 1 [(0, .ref p9)] := hl
  have m_0 : ((.methodLink RX1 3 objectInit) : Cond) ∈ wsX1_init := by decide +kernel
  have m_1 : ((.instanceMethod objectInit) : Cond) ∈ wsX1_init := by decide +kernel
  have m_2 : ((.code objectInit ⟨#[0xb1]⟩ 1 none) : Cond) ∈ wsX1_init := by decide +kernel
  refine lv_aload_n hx hb dX1_init_0 rfl (lv_at hl 0 rfl) ?_
  refine w_obj hx hb hml hl.1 hts hown m_0 m_1 m_2 dX1_init_1 (Nat.le_of_ble_eq_true rfl) (Nat.le_of_ble_eq_true rfl) ?_
  exact w_vret hx hb hr hlocks w ⟨rfl, rfl⟩ (Nat.le_refl _) (Nat.le_refl _) dX1_init_4
set_option maxHeartbeats 400000 in
set_option maxRecDepth 100000 in
theorem c_X3_init (l : Launch) (D : va_G) (cI cP cS cL : ClassId) (L : List Nat) (F : Nat → va_E) (r n0 : Nat) (hn : n0 ≤ 1000) (h_r : wi L F r (.inr (3, [.null, .int 0, .int 0]))) : wMv l D cI cP cS cL yX3_init wsX3_init ({ frames := 1, cells := 1, slots := n0, locals := 12 } : Room) [.ref r, .int (nI n0)] L F (fun L1 F1 => ∃ q, q ∉ L ∧ L1 = L ++ [q] ∧ F1 r = eR q 0 0 ∧ F1 q = eI cI n0 (fun _ => 0) ∧ gr L F (fun a => a ≠ r) L1 F1) 1 n0 := by
  refine wM.of (cc := cX3_init) (maxL := 2) (ret := none) (by decide) rfl (Nat.le_of_ble_eq_true rfl) ?_
  intro pZ eZ sZ mZ below meth cZ A ls C hl w
  obtain ⟨hx, hb, hr, hml, hts, hown, hlocks, hK, hA, hin⟩ := C
  have hown : sZ.vm.findClass RX3 = some mZ.cls := hown
  have hl : lv_has ls 2 [(0, .ref r), (1, .int (nI n0))] := hl
  have m_0 : ((.methodLink RX3 3 objectInit) : Cond) ∈ wsX3_init := by decide +kernel
  have m_1 : ((.instanceMethod objectInit) : Cond) ∈ wsX3_init := by decide +kernel
  have m_2 : ((.code objectInit ⟨#[0xb1]⟩ 1 none) : Cond) ∈ wsX3_init := by decide +kernel
  have m_3 : ((.arrayClass .int) : Cond) ∈ wsX3_init := by decide +kernel
  have m_4 : ((.fieldLink RX3 9 "TwoThirds$Row" "elements" "[I") : Cond) ∈ wsX3_init := by decide +kernel
  have i_X3 : ∀ w ∈ wsX30, w ∈ wsX3_init := by decide +kernel
  have hg : gr L F (fun a => a ≠ r) L F := gr.rf
  refine lv_aload_n hx hb dX3_init_0 rfl (lv_at hl 0 rfl) ?_
  refine w_obj hx hb hml hl.1 hts hown m_0 m_1 m_2 dX3_init_1 (Nat.le_of_ble_eq_true rfl) (Nat.le_of_ble_eq_true rfl) ?_
  refine lv_aload_n hx hb dX3_init_4 rfl (lv_at hl 0 rfl) ?_
  refine lv_iload_n hx hb dX3_init_5 rfl (lv_at hl 1 rfl) ?_
  refine w_newI (N' := n0) hx hb hts m_3 hK w hA (nI_pos (by omega)) (nI_clamp (by omega)) hn (Nat.le_of_ble_eq_true rfl) (by show 0 + n0 ≤ n0; omega) dX3_init_6 (fun q H hq9 w h_q => ?_)
  have hq_q : q ∉ L := fun z => hq9 (hg _ z).1
  have ne_q_r : q ≠ r := fun z => hq9 (by rw [z]; exact h_r.1)
  have h_r := h_r.pushw h_q hq9
  have hg := hg.push h_q hq9
  have hq0 := hq_q
  have ho9 := h_r
  refine w_putF (fs2 := [.ref q, .int 0, .int 0]) hx hb hts i_X3 tyX3 tyX3_ok nmX3 hown hK w h_r rfl 0 (by decide) (hts _ m_4) rfl hin.symm rfl rfl rfl (Nat.le_of_ble_eq_true rfl) rfl dX3_init_8 (fun H locs w h_r => ?_)
  have h_q := h_q.upw h_r (wi.ne h_q ho9 (by intro h; cases h))
  have hg := hg.up h_r (fun _ h => h rfl)
  exact w_vret hx hb hr hlocks w ⟨q, hq0, rfl, h_r.2, h_q.2, hg⟩ (Nat.le_refl _) (by omega) dX3_init_11
set_option maxHeartbeats 400000 in
set_option maxRecDepth 100000 in
theorem c_X4_init (l : Launch) (D : va_G) (cI cP cS cL : ClassId) (L : List Nat) (F : Nat → va_E) (s9 : Nat) (h_s9 : wi L F s9 (.inr (4, [.int 0, .null, .null]))) : wMv l D cI cP cS cL yX4_init wsX4_init ({ frames := 2, cells := 3, slots := 107, locals := 33 } : Room) [.ref s9] L F (fun L1 F1 => ∃ q1 q2 q3, L1 = L ++ [q1, q2, q3] ∧ F1 s9 = eS 0 q1 q3 ∧ F1 q1 = eR q2 0 0 ∧ F1 q2 = eI cI 100 (fun _ => 0) ∧ F1 q3 = eP 0 0 0 0 ∧ gr L F (fun a => a ≠ s9) L1 F1) 3 107 := by
  refine wM.of (cc := cX4_init) (maxL := 1) (ret := none) (by decide) rfl (Nat.le_of_ble_eq_true rfl) ?_
  intro pZ eZ sZ mZ below meth cZ A ls C hl w
  obtain ⟨hx, hb, hr, hml, hts, hown, hlocks, hK, hA, hin⟩ := C
  have hown : sZ.vm.findClass RX4 = some mZ.cls := hown
  have hl : lv_has ls 1 [(0, .ref s9)] := hl
  have m_0 : ((.methodLink RX4 3 objectInit) : Cond) ∈ wsX4_init := by decide +kernel
  have m_1 : ((.instanceMethod objectInit) : Cond) ∈ wsX4_init := by decide +kernel
  have m_2 : ((.code objectInit ⟨#[0xb1]⟩ 1 none) : Cond) ∈ wsX4_init := by decide +kernel
  have m_3 : ((.classLink RX4 9 RX3) : Cond) ∈ wsX4_init := by decide +kernel
  have m_4 : ((.instantiable RX3 3) : Cond) ∈ wsX4_init := by decide +kernel
  have m_5 : ((.initialized RX3) : Cond) ∈ wsX4_init := by decide +kernel
  have i_X3 : ∀ w ∈ wsX30, w ∈ wsX4_init := by decide +kernel
  have m_7 : ((.methodLink RX4 11 yX3_init) : Cond) ∈ wsX4_init := by decide +kernel
  have m_8 : ((.instanceMethod yX3_init) : Cond) ∈ wsX4_init := by decide +kernel
  have m_9 : ((.fieldLink RX4 14 "TwoThirds$Shelf" "row" "LTwoThirds$Row;") : Cond) ∈ wsX4_init := by decide +kernel
  have i_X4 : ∀ w ∈ wsX40, w ∈ wsX4_init := by decide +kernel
  have m_11 : ((.classLink RX4 20 RX1) : Cond) ∈ wsX4_init := by decide +kernel
  have m_12 : ((.instantiable RX1 4) : Cond) ∈ wsX4_init := by decide +kernel
  have m_13 : ((.initialized RX1) : Cond) ∈ wsX4_init := by decide +kernel
  have i_X1 : ∀ w ∈ wsX10, w ∈ wsX4_init := by decide +kernel
  have m_15 : ((.methodLink RX4 22 yX1_init) : Cond) ∈ wsX4_init := by decide +kernel
  have m_16 : ((.instanceMethod yX1_init) : Cond) ∈ wsX4_init := by decide +kernel
  have m_17 : ((.fieldLink RX4 23 "TwoThirds$Shelf" "person" "LTwoThirds$Person;") : Cond) ∈ wsX4_init := by decide +kernel
  have hg : gr L F (fun a => a ≠ s9) L F := gr.rf
  refine lv_aload_n hx hb dX4_init_0 rfl (lv_at hl 0 rfl) ?_
  refine w_obj hx hb hml hl.1 hts hown m_0 m_1 m_2 dX4_init_1 (Nat.le_of_ble_eq_true rfl) (Nat.le_of_ble_eq_true rfl) ?_
  refine lv_aload_n hx hb dX4_init_4 rfl (lv_at hl 0 rfl) ?_
  refine w_newO (ci := 3) (fs := [.null, .int 0, .int 0]) (C := RX3) (T := TX3) (N := 3) hx hb hts i_X3 tyX3 tyX3_ok hown m_3 m_4 m_5 hK w hA rfl (fun j hj => by rcases (show j = 0 ∨ j = 1 ∨ j = 2 by omega) with rfl | rfl | rfl <;> rfl) (Nat.le_of_ble_eq_true rfl) (Nat.le_of_ble_eq_true rfl) dX4_init_5 (fun q1 H hq9 w h_q1 => ?_)
  have hq_q1 : q1 ∉ L := fun z => hq9 (hg _ z).1
  have ne_q1_s9 : q1 ≠ s9 := fun z => hq9 (by rw [z]; exact h_s9.1)
  have h_s9 := h_s9.pushw h_q1 hq9
  have hg := hg.push h_q1 hq9
  refine lv_dup hx hb dX4_init_8 rfl ?_
  refine lv_bipush (v := 100) hx hb dX4_init_9 (by decide) ?_
  refine w_finv (w_runI (rm := ({ frames := 1, cells := 1, slots := 100, locals := 12 } : Room)) (As := [.int 100]) (rest := [.ref q1, .ref s9]) (n := 1) hx hb hml hts hown hK w (c_X3_init l D cI cP cS cL _ _ q1 100 (by decide) h_q1) gX4_init_X3_init rfl rfl rfl m_5 m_7 m_8 rfl (by decide +kernel) ⟨(Nat.le_of_ble_eq_true rfl), (Nat.le_of_ble_eq_true rfl)⟩ rfl hl.1 rfl (Nat.le_of_ble_eq_true rfl) dX4_init_11 ⟨(Nat.le_of_ble_eq_true rfl), (Nat.le_of_ble_eq_true rfl)⟩) w hA (fun L1 F1 H locs hp w => ?_)
  obtain ⟨q2, hq9, rfl, h1, h2, hg2⟩ := hp
  have hq_q2 : q2 ∉ L := fun z => hq9 (hg _ z).1
  have hr9 := h_q1
  have h_s9 := h_s9.grow hg2 (wi.ne h_s9 hr9 (by intro h; cases h))
  have hg := hg.call hg2 (fun a ha _ z => hq_q1 (by rw [← z]; exact ha))
  have h_q1 : wi _ _ q1 (eR q2 0 0) := ⟨(hg2 _ hr9.1).1, h1⟩
  have h_q2 := wi_last w h2
  have ho9 := h_s9
  refine w_putF (fs2 := [.int 0, .ref q1, .null]) hx hb hts i_X4 tyX4 tyX4_ok nmX4 hown hK w h_s9 rfl 1 (by decide) (hts _ m_9) rfl hin.symm rfl rfl rfl (Nat.le_of_ble_eq_true rfl) rfl dX4_init_14 (fun H locs w h_s9 => ?_)
  have h_q1 := h_q1.upw h_s9 (wi.ne h_q1 ho9 (by intro h; cases h))
  have h_q2 := h_q2.upw h_s9 (wi.ne h_q2 ho9 (by intro h; cases h))
  have hg := hg.up h_s9 (fun _ h => h rfl)
  refine lv_aload_n hx hb dX4_init_17 rfl (lv_at hl 0 rfl) ?_
  refine w_newO (ci := 1) (fs := [.int 0, .int 0, .int 0, .int 0]) (C := RX1) (T := TX1) (N := 4) hx hb hts i_X1 tyX1 tyX1_ok hown m_11 m_12 m_13 hK w hA rfl (fun j hj => by rcases (show j = 0 ∨ j = 1 ∨ j = 2 ∨ j = 3 by omega) with rfl | rfl | rfl | rfl <;> rfl) (Nat.le_of_ble_eq_true rfl) (Nat.le_of_ble_eq_true rfl) dX4_init_18 (fun q3 H hq9 w h_q3 => ?_)
  have hq_q3 : q3 ∉ L := fun z => hq9 (hg _ z).1
  have ne_q3_s9 : q3 ≠ s9 := fun z => hq9 (by rw [z]; exact h_s9.1)
  have ne_q3_q1 : q3 ≠ q1 := fun z => hq9 (by rw [z]; exact h_q1.1)
  have ne_q3_q2 : q3 ≠ q2 := fun z => hq9 (by rw [z]; exact h_q2.1)
  have h_s9 := h_s9.pushw h_q3 hq9
  have h_q1 := h_q1.pushw h_q3 hq9
  have h_q2 := h_q2.pushw h_q3 hq9
  have hg := hg.push h_q3 hq9
  refine lv_dup hx hb dX4_init_21 rfl ?_
  refine w_finV (w_runI (rm := ({ frames := 1, cells := 0, slots := 0, locals := 12 } : Room)) (As := []) (rest := [.ref q3, .ref s9]) (n := 0) hx hb hml hts hown hK w (c_X1_init l D cI cP cS cL _ _ q3) gX4_init_X1_init rfl rfl rfl m_13 m_15 m_16 rfl (by decide +kernel) ⟨(Nat.le_of_ble_eq_true rfl), (Nat.le_of_ble_eq_true rfl)⟩ rfl hl.1 rfl (Nat.le_of_ble_eq_true rfl) dX4_init_22 ⟨(Nat.le_of_ble_eq_true rfl), (Nat.le_of_ble_eq_true rfl)⟩) w hA (fun H locs w => ?_)
  have ho9 := h_s9
  refine w_putF (fs2 := [.int 0, .ref q1, .ref q3]) hx hb hts i_X4 tyX4 tyX4_ok nmX4 hown hK w h_s9 rfl 2 (by decide) (hts _ m_17) rfl hin.symm rfl rfl rfl (Nat.le_of_ble_eq_true rfl) rfl dX4_init_25 (fun H locs w h_s9 => ?_)
  have h_q1 := h_q1.upw h_s9 (wi.ne h_q1 ho9 (by intro h; cases h))
  have h_q2 := h_q2.upw h_s9 (wi.ne h_q2 ho9 (by intro h; cases h))
  have h_q3 := h_q3.upw h_s9 (wi.ne h_q3 ho9 (by intro h; cases h))
  have hg := hg.up h_s9 (fun _ h => h rfl)
  exact w_vret hx hb hr hlocks w ⟨q1, q2, q3, by simp only [List.append_assoc, List.cons_append, List.nil_append], h_s9.2, h_q1.2, h_q2.2, h_q3.2, hg⟩ (Nat.le_of_ble_eq_true rfl) (Nat.le_of_ble_eq_true rfl) dX4_init_28
set_option maxHeartbeats 400000 in
set_option maxRecDepth 100000 in
theorem c_X6_init (l : Launch) (D : va_G) (cI cP cS cL : ClassId) (L : List Nat) (F : Nat → va_E) (m : Nat) (h_m : wi L F m (.inr (6, [.null, .null, .null, .null, .null, .null, .null, .null, .null, .null, .int 0, .int 0, .int 0, .int 0, .int 0, .int 0, .null, .null, .null, .int 0, .null]))) : wMv l D cI cP cS cL yX6_init wsX6_init ({ frames := 1, cells := 14, slots := 1185, locals := 12 } : Room) [.ref m] L F (fun L1 F1 => ∃ q1 q2 q3 q4 q5 q6 q7 q8 q9 q10 q11 q12 q13 q14, L1 = L ++ [q1, q2, q3, q4, q5, q6, q7, q8, q9, q10, q11, q12, q13, q14] ∧ F1 m = eM q1 q2 q3 q4 q5 q6 q7 q8 q9 q10 0 0 0 0 0 0 q11 q12 q13 0 q14 ∧ F1 q1 = eI cI 55 (upd (upd (upd (upd (fun _ => 0) 0 2) 1 3) 2 100) 4 1) ∧ F1 q2 = eI cI 55 (fun _ => 0) ∧ F1 q3 = eI cI 55 (fun _ => 0) ∧ F1 q4 = eI cI 55 (fun _ => 0) ∧ F1 q5 = eI cI 8 (fun _ => 0) ∧ F1 q6 = eI cI 8 (fun _ => 0) ∧ F1 q7 = eI cI 8 (fun _ => 0) ∧ F1 q8 = eI cI 800 (fun _ => 0) ∧ F1 q9 = eI cI 8 (fun _ => 0) ∧ F1 q10 = eI cI 8 (fun _ => 0) ∧ F1 q11 = eI cI 3 (fun _ => 0) ∧ F1 q12 = eI cI 12 (fun _ => 0) ∧ F1 q13 = eI cI 100 (fun _ => 0) ∧ F1 q14 = eI cI 10 (fun _ => 0) ∧ gr L F (fun a => a ≠ m) L1 F1) 14 1185 := by
  refine wM.of (cc := cX6_init) (maxL := 1) (ret := none) (by decide) rfl (Nat.le_of_ble_eq_true rfl) ?_
  intro pZ eZ sZ mZ below meth cZ A ls C hl w
  obtain ⟨hx, hb, hr, hml, hts, hown, hlocks, hK, hA, hin⟩ := C
  have hown : sZ.vm.findClass RX6 = some mZ.cls := hown
  have hl : lv_has ls 1 [(0, .ref m)] := hl
  have m_0 : ((.methodLink RX6 1 objectInit) : Cond) ∈ wsX6_init := by decide +kernel
  have m_1 : ((.instanceMethod objectInit) : Cond) ∈ wsX6_init := by decide +kernel
  have m_2 : ((.code objectInit ⟨#[0xb1]⟩ 1 none) : Cond) ∈ wsX6_init := by decide +kernel
  have m_3 : ((.arrayClass .int) : Cond) ∈ wsX6_init := by decide +kernel
  have m_4 : ((.fieldLink RX6 9 "TwoThirdsModel" "s" "[I") : Cond) ∈ wsX6_init := by decide +kernel
  have i_X6 : ∀ w ∈ wsX60, w ∈ wsX6_init := by decide +kernel
  have m_6 : ((.fieldLink RX6 13 "TwoThirdsModel" "image" "[I") : Cond) ∈ wsX6_init := by decide +kernel
  have m_7 : ((.fieldLink RX6 16 "TwoThirdsModel" "read" "[I") : Cond) ∈ wsX6_init := by decide +kernel
  have m_8 : ((.fieldLink RX6 19 "TwoThirdsModel" "saved" "[I") : Cond) ∈ wsX6_init := by decide +kernel
  have m_9 : ((.fieldLink RX6 22 "TwoThirdsModel" "kept" "[I") : Cond) ∈ wsX6_init := by decide +kernel
  have m_10 : ((.fieldLink RX6 25 "TwoThirdsModel" "sort" "[I") : Cond) ∈ wsX6_init := by decide +kernel
  have m_11 : ((.fieldLink RX6 28 "TwoThirdsModel" "size" "[I") : Cond) ∈ wsX6_init := by decide +kernel
  have m_12 : ((.fieldLink RX6 31 "TwoThirdsModel" "element" "[I") : Cond) ∈ wsX6_init := by decide +kernel
  have m_13 : ((.fieldLink RX6 34 "TwoThirdsModel" "keptDepth" "[I") : Cond) ∈ wsX6_init := by decide +kernel
  have m_14 : ((.fieldLink RX6 37 "TwoThirdsModel" "keptToss" "[I") : Cond) ∈ wsX6_init := by decide +kernel
  have m_15 : ((.fieldLink RX6 40 "TwoThirdsModel" "numbers" "[I") : Cond) ∈ wsX6_init := by decide +kernel
  have m_16 : ((.fieldLink RX6 43 "TwoThirdsModel" "cards" "[I") : Cond) ∈ wsX6_init := by decide +kernel
  have m_17 : ((.fieldLink RX6 46 "TwoThirdsModel" "hand" "[I") : Cond) ∈ wsX6_init := by decide +kernel
  have m_18 : ((.fieldLink RX6 49 "TwoThirdsModel" "counts" "[I") : Cond) ∈ wsX6_init := by decide +kernel
  have hg : gr L F (fun a => a ≠ m) L F := gr.rf
  refine lv_aload_n hx hb dX6_init_0 rfl (lv_at hl 0 rfl) ?_
  refine w_obj hx hb hml hl.1 hts hown m_0 m_1 m_2 dX6_init_1 (Nat.le_of_ble_eq_true rfl) (Nat.le_of_ble_eq_true rfl) ?_
  refine lv_aload_n hx hb dX6_init_4 rfl (lv_at hl 0 rfl) ?_
  refine lv_bipush (v := 55) hx hb dX6_init_5 (by decide) ?_
  refine w_newI (N' := 55) hx hb hts m_3 hK w hA (by decide) rfl (by decide) (Nat.le_of_ble_eq_true rfl) (Nat.le_of_ble_eq_true rfl) dX6_init_7 (fun q1 H hq9 w h_q1 => ?_)
  have hq_q1 : q1 ∉ L := fun z => hq9 (hg _ z).1
  have ne_q1_m : q1 ≠ m := fun z => hq9 (by rw [z]; exact h_m.1)
  have h_m := h_m.pushw h_q1 hq9
  have hg := hg.push h_q1 hq9
  have ho9 := h_m
  refine w_putF (fs2 := [.ref q1, .null, .null, .null, .null, .null, .null, .null, .null, .null, .int 0, .int 0, .int 0, .int 0, .int 0, .int 0, .null, .null, .null, .int 0, .null]) hx hb hts i_X6 tyX6 tyX6_ok nmX6 hown hK w h_m rfl 0 (by decide) (hts _ m_4) rfl hin.symm rfl rfl rfl (Nat.le_of_ble_eq_true rfl) rfl dX6_init_9 (fun H locs w h_m => ?_)
  have h_q1 := h_q1.upw h_m (wi.ne h_q1 ho9 (by intro h; cases h))
  have hg := hg.up h_m (fun _ h => h rfl)
  refine lv_aload_n hx hb dX6_init_12 rfl (lv_at hl 0 rfl) ?_
  refine lv_bipush (v := 55) hx hb dX6_init_13 (by decide) ?_
  refine w_newI (N' := 55) hx hb hts m_3 hK w hA (by decide) rfl (by decide) (Nat.le_of_ble_eq_true rfl) (Nat.le_of_ble_eq_true rfl) dX6_init_15 (fun q2 H hq9 w h_q2 => ?_)
  have hq_q2 : q2 ∉ L := fun z => hq9 (hg _ z).1
  have ne_q2_m : q2 ≠ m := fun z => hq9 (by rw [z]; exact h_m.1)
  have ne_q2_q1 : q2 ≠ q1 := fun z => hq9 (by rw [z]; exact h_q1.1)
  have h_m := h_m.pushw h_q2 hq9
  have h_q1 := h_q1.pushw h_q2 hq9
  have hg := hg.push h_q2 hq9
  have ho9 := h_m
  refine w_putF (fs2 := [.ref q1, .ref q2, .null, .null, .null, .null, .null, .null, .null, .null, .int 0, .int 0, .int 0, .int 0, .int 0, .int 0, .null, .null, .null, .int 0, .null]) hx hb hts i_X6 tyX6 tyX6_ok nmX6 hown hK w h_m rfl 1 (by decide) (hts _ m_6) rfl hin.symm rfl rfl rfl (Nat.le_of_ble_eq_true rfl) rfl dX6_init_17 (fun H locs w h_m => ?_)
  have h_q1 := h_q1.upw h_m (wi.ne h_q1 ho9 (by intro h; cases h))
  have h_q2 := h_q2.upw h_m (wi.ne h_q2 ho9 (by intro h; cases h))
  have hg := hg.up h_m (fun _ h => h rfl)
  refine lv_aload_n hx hb dX6_init_20 rfl (lv_at hl 0 rfl) ?_
  refine lv_bipush (v := 55) hx hb dX6_init_21 (by decide) ?_
  refine w_newI (N' := 55) hx hb hts m_3 hK w hA (by decide) rfl (by decide) (Nat.le_of_ble_eq_true rfl) (Nat.le_of_ble_eq_true rfl) dX6_init_23 (fun q3 H hq9 w h_q3 => ?_)
  have hq_q3 : q3 ∉ L := fun z => hq9 (hg _ z).1
  have ne_q3_m : q3 ≠ m := fun z => hq9 (by rw [z]; exact h_m.1)
  have ne_q3_q1 : q3 ≠ q1 := fun z => hq9 (by rw [z]; exact h_q1.1)
  have ne_q3_q2 : q3 ≠ q2 := fun z => hq9 (by rw [z]; exact h_q2.1)
  have h_m := h_m.pushw h_q3 hq9
  have h_q1 := h_q1.pushw h_q3 hq9
  have h_q2 := h_q2.pushw h_q3 hq9
  have hg := hg.push h_q3 hq9
  have ho9 := h_m
  refine w_putF (fs2 := [.ref q1, .ref q2, .ref q3, .null, .null, .null, .null, .null, .null, .null, .int 0, .int 0, .int 0, .int 0, .int 0, .int 0, .null, .null, .null, .int 0, .null]) hx hb hts i_X6 tyX6 tyX6_ok nmX6 hown hK w h_m rfl 2 (by decide) (hts _ m_7) rfl hin.symm rfl rfl rfl (Nat.le_of_ble_eq_true rfl) rfl dX6_init_25 (fun H locs w h_m => ?_)
  have h_q1 := h_q1.upw h_m (wi.ne h_q1 ho9 (by intro h; cases h))
  have h_q2 := h_q2.upw h_m (wi.ne h_q2 ho9 (by intro h; cases h))
  have h_q3 := h_q3.upw h_m (wi.ne h_q3 ho9 (by intro h; cases h))
  have hg := hg.up h_m (fun _ h => h rfl)
  refine lv_aload_n hx hb dX6_init_28 rfl (lv_at hl 0 rfl) ?_
  refine lv_bipush (v := 55) hx hb dX6_init_29 (by decide) ?_
  refine w_newI (N' := 55) hx hb hts m_3 hK w hA (by decide) rfl (by decide) (Nat.le_of_ble_eq_true rfl) (Nat.le_of_ble_eq_true rfl) dX6_init_31 (fun q4 H hq9 w h_q4 => ?_)
  have hq_q4 : q4 ∉ L := fun z => hq9 (hg _ z).1
  have ne_q4_m : q4 ≠ m := fun z => hq9 (by rw [z]; exact h_m.1)
  have ne_q4_q1 : q4 ≠ q1 := fun z => hq9 (by rw [z]; exact h_q1.1)
  have ne_q4_q2 : q4 ≠ q2 := fun z => hq9 (by rw [z]; exact h_q2.1)
  have ne_q4_q3 : q4 ≠ q3 := fun z => hq9 (by rw [z]; exact h_q3.1)
  have h_m := h_m.pushw h_q4 hq9
  have h_q1 := h_q1.pushw h_q4 hq9
  have h_q2 := h_q2.pushw h_q4 hq9
  have h_q3 := h_q3.pushw h_q4 hq9
  have hg := hg.push h_q4 hq9
  have ho9 := h_m
  refine w_putF (fs2 := [.ref q1, .ref q2, .ref q3, .ref q4, .null, .null, .null, .null, .null, .null, .int 0, .int 0, .int 0, .int 0, .int 0, .int 0, .null, .null, .null, .int 0, .null]) hx hb hts i_X6 tyX6 tyX6_ok nmX6 hown hK w h_m rfl 3 (by decide) (hts _ m_8) rfl hin.symm rfl rfl rfl (Nat.le_of_ble_eq_true rfl) rfl dX6_init_33 (fun H locs w h_m => ?_)
  have h_q1 := h_q1.upw h_m (wi.ne h_q1 ho9 (by intro h; cases h))
  have h_q2 := h_q2.upw h_m (wi.ne h_q2 ho9 (by intro h; cases h))
  have h_q3 := h_q3.upw h_m (wi.ne h_q3 ho9 (by intro h; cases h))
  have h_q4 := h_q4.upw h_m (wi.ne h_q4 ho9 (by intro h; cases h))
  have hg := hg.up h_m (fun _ h => h rfl)
  refine lv_aload_n hx hb dX6_init_36 rfl (lv_at hl 0 rfl) ?_
  refine lv_bipush (v := 8) hx hb dX6_init_37 (by decide) ?_
  refine w_newI (N' := 8) hx hb hts m_3 hK w hA (by decide) rfl (by decide) (Nat.le_of_ble_eq_true rfl) (Nat.le_of_ble_eq_true rfl) dX6_init_39 (fun q5 H hq9 w h_q5 => ?_)
  have hq_q5 : q5 ∉ L := fun z => hq9 (hg _ z).1
  have ne_q5_m : q5 ≠ m := fun z => hq9 (by rw [z]; exact h_m.1)
  have ne_q5_q1 : q5 ≠ q1 := fun z => hq9 (by rw [z]; exact h_q1.1)
  have ne_q5_q2 : q5 ≠ q2 := fun z => hq9 (by rw [z]; exact h_q2.1)
  have ne_q5_q3 : q5 ≠ q3 := fun z => hq9 (by rw [z]; exact h_q3.1)
  have ne_q5_q4 : q5 ≠ q4 := fun z => hq9 (by rw [z]; exact h_q4.1)
  have h_m := h_m.pushw h_q5 hq9
  have h_q1 := h_q1.pushw h_q5 hq9
  have h_q2 := h_q2.pushw h_q5 hq9
  have h_q3 := h_q3.pushw h_q5 hq9
  have h_q4 := h_q4.pushw h_q5 hq9
  have hg := hg.push h_q5 hq9
  have ho9 := h_m
  refine w_putF (fs2 := [.ref q1, .ref q2, .ref q3, .ref q4, .ref q5, .null, .null, .null, .null, .null, .int 0, .int 0, .int 0, .int 0, .int 0, .int 0, .null, .null, .null, .int 0, .null]) hx hb hts i_X6 tyX6 tyX6_ok nmX6 hown hK w h_m rfl 4 (by decide) (hts _ m_9) rfl hin.symm rfl rfl rfl (Nat.le_of_ble_eq_true rfl) rfl dX6_init_41 (fun H locs w h_m => ?_)
  have h_q1 := h_q1.upw h_m (wi.ne h_q1 ho9 (by intro h; cases h))
  have h_q2 := h_q2.upw h_m (wi.ne h_q2 ho9 (by intro h; cases h))
  have h_q3 := h_q3.upw h_m (wi.ne h_q3 ho9 (by intro h; cases h))
  have h_q4 := h_q4.upw h_m (wi.ne h_q4 ho9 (by intro h; cases h))
  have h_q5 := h_q5.upw h_m (wi.ne h_q5 ho9 (by intro h; cases h))
  have hg := hg.up h_m (fun _ h => h rfl)
  refine lv_aload_n hx hb dX6_init_44 rfl (lv_at hl 0 rfl) ?_
  refine lv_bipush (v := 8) hx hb dX6_init_45 (by decide) ?_
  refine w_newI (N' := 8) hx hb hts m_3 hK w hA (by decide) rfl (by decide) (Nat.le_of_ble_eq_true rfl) (Nat.le_of_ble_eq_true rfl) dX6_init_47 (fun q6 H hq9 w h_q6 => ?_)
  have hq_q6 : q6 ∉ L := fun z => hq9 (hg _ z).1
  have ne_q6_m : q6 ≠ m := fun z => hq9 (by rw [z]; exact h_m.1)
  have ne_q6_q1 : q6 ≠ q1 := fun z => hq9 (by rw [z]; exact h_q1.1)
  have ne_q6_q2 : q6 ≠ q2 := fun z => hq9 (by rw [z]; exact h_q2.1)
  have ne_q6_q3 : q6 ≠ q3 := fun z => hq9 (by rw [z]; exact h_q3.1)
  have ne_q6_q4 : q6 ≠ q4 := fun z => hq9 (by rw [z]; exact h_q4.1)
  have ne_q6_q5 : q6 ≠ q5 := fun z => hq9 (by rw [z]; exact h_q5.1)
  have h_m := h_m.pushw h_q6 hq9
  have h_q1 := h_q1.pushw h_q6 hq9
  have h_q2 := h_q2.pushw h_q6 hq9
  have h_q3 := h_q3.pushw h_q6 hq9
  have h_q4 := h_q4.pushw h_q6 hq9
  have h_q5 := h_q5.pushw h_q6 hq9
  have hg := hg.push h_q6 hq9
  have ho9 := h_m
  refine w_putF (fs2 := [.ref q1, .ref q2, .ref q3, .ref q4, .ref q5, .ref q6, .null, .null, .null, .null, .int 0, .int 0, .int 0, .int 0, .int 0, .int 0, .null, .null, .null, .int 0, .null]) hx hb hts i_X6 tyX6 tyX6_ok nmX6 hown hK w h_m rfl 5 (by decide) (hts _ m_10) rfl hin.symm rfl rfl rfl (Nat.le_of_ble_eq_true rfl) rfl dX6_init_49 (fun H locs w h_m => ?_)
  have h_q1 := h_q1.upw h_m (wi.ne h_q1 ho9 (by intro h; cases h))
  have h_q2 := h_q2.upw h_m (wi.ne h_q2 ho9 (by intro h; cases h))
  have h_q3 := h_q3.upw h_m (wi.ne h_q3 ho9 (by intro h; cases h))
  have h_q4 := h_q4.upw h_m (wi.ne h_q4 ho9 (by intro h; cases h))
  have h_q5 := h_q5.upw h_m (wi.ne h_q5 ho9 (by intro h; cases h))
  have h_q6 := h_q6.upw h_m (wi.ne h_q6 ho9 (by intro h; cases h))
  have hg := hg.up h_m (fun _ h => h rfl)
  refine lv_aload_n hx hb dX6_init_52 rfl (lv_at hl 0 rfl) ?_
  refine lv_bipush (v := 8) hx hb dX6_init_53 (by decide) ?_
  refine w_newI (N' := 8) hx hb hts m_3 hK w hA (by decide) rfl (by decide) (Nat.le_of_ble_eq_true rfl) (Nat.le_of_ble_eq_true rfl) dX6_init_55 (fun q7 H hq9 w h_q7 => ?_)
  have hq_q7 : q7 ∉ L := fun z => hq9 (hg _ z).1
  have ne_q7_m : q7 ≠ m := fun z => hq9 (by rw [z]; exact h_m.1)
  have ne_q7_q1 : q7 ≠ q1 := fun z => hq9 (by rw [z]; exact h_q1.1)
  have ne_q7_q2 : q7 ≠ q2 := fun z => hq9 (by rw [z]; exact h_q2.1)
  have ne_q7_q3 : q7 ≠ q3 := fun z => hq9 (by rw [z]; exact h_q3.1)
  have ne_q7_q4 : q7 ≠ q4 := fun z => hq9 (by rw [z]; exact h_q4.1)
  have ne_q7_q5 : q7 ≠ q5 := fun z => hq9 (by rw [z]; exact h_q5.1)
  have ne_q7_q6 : q7 ≠ q6 := fun z => hq9 (by rw [z]; exact h_q6.1)
  have h_m := h_m.pushw h_q7 hq9
  have h_q1 := h_q1.pushw h_q7 hq9
  have h_q2 := h_q2.pushw h_q7 hq9
  have h_q3 := h_q3.pushw h_q7 hq9
  have h_q4 := h_q4.pushw h_q7 hq9
  have h_q5 := h_q5.pushw h_q7 hq9
  have h_q6 := h_q6.pushw h_q7 hq9
  have hg := hg.push h_q7 hq9
  have ho9 := h_m
  refine w_putF (fs2 := [.ref q1, .ref q2, .ref q3, .ref q4, .ref q5, .ref q6, .ref q7, .null, .null, .null, .int 0, .int 0, .int 0, .int 0, .int 0, .int 0, .null, .null, .null, .int 0, .null]) hx hb hts i_X6 tyX6 tyX6_ok nmX6 hown hK w h_m rfl 6 (by decide) (hts _ m_11) rfl hin.symm rfl rfl rfl (Nat.le_of_ble_eq_true rfl) rfl dX6_init_57 (fun H locs w h_m => ?_)
  have h_q1 := h_q1.upw h_m (wi.ne h_q1 ho9 (by intro h; cases h))
  have h_q2 := h_q2.upw h_m (wi.ne h_q2 ho9 (by intro h; cases h))
  have h_q3 := h_q3.upw h_m (wi.ne h_q3 ho9 (by intro h; cases h))
  have h_q4 := h_q4.upw h_m (wi.ne h_q4 ho9 (by intro h; cases h))
  have h_q5 := h_q5.upw h_m (wi.ne h_q5 ho9 (by intro h; cases h))
  have h_q6 := h_q6.upw h_m (wi.ne h_q6 ho9 (by intro h; cases h))
  have h_q7 := h_q7.upw h_m (wi.ne h_q7 ho9 (by intro h; cases h))
  have hg := hg.up h_m (fun _ h => h rfl)
  refine lv_aload_n hx hb dX6_init_60 rfl (lv_at hl 0 rfl) ?_
  refine lv_sipush (v := 800) hx hb dX6_init_61 (by decide) ?_
  refine w_newI (N' := 800) hx hb hts m_3 hK w hA (by decide) rfl (by decide) (Nat.le_of_ble_eq_true rfl) (Nat.le_of_ble_eq_true rfl) dX6_init_64 (fun q8 H hq9 w h_q8 => ?_)
  have hq_q8 : q8 ∉ L := fun z => hq9 (hg _ z).1
  have ne_q8_m : q8 ≠ m := fun z => hq9 (by rw [z]; exact h_m.1)
  have ne_q8_q1 : q8 ≠ q1 := fun z => hq9 (by rw [z]; exact h_q1.1)
  have ne_q8_q2 : q8 ≠ q2 := fun z => hq9 (by rw [z]; exact h_q2.1)
  have ne_q8_q3 : q8 ≠ q3 := fun z => hq9 (by rw [z]; exact h_q3.1)
  have ne_q8_q4 : q8 ≠ q4 := fun z => hq9 (by rw [z]; exact h_q4.1)
  have ne_q8_q5 : q8 ≠ q5 := fun z => hq9 (by rw [z]; exact h_q5.1)
  have ne_q8_q6 : q8 ≠ q6 := fun z => hq9 (by rw [z]; exact h_q6.1)
  have ne_q8_q7 : q8 ≠ q7 := fun z => hq9 (by rw [z]; exact h_q7.1)
  have h_m := h_m.pushw h_q8 hq9
  have h_q1 := h_q1.pushw h_q8 hq9
  have h_q2 := h_q2.pushw h_q8 hq9
  have h_q3 := h_q3.pushw h_q8 hq9
  have h_q4 := h_q4.pushw h_q8 hq9
  have h_q5 := h_q5.pushw h_q8 hq9
  have h_q6 := h_q6.pushw h_q8 hq9
  have h_q7 := h_q7.pushw h_q8 hq9
  have hg := hg.push h_q8 hq9
  have ho9 := h_m
  refine w_putF (fs2 := [.ref q1, .ref q2, .ref q3, .ref q4, .ref q5, .ref q6, .ref q7, .ref q8, .null, .null, .int 0, .int 0, .int 0, .int 0, .int 0, .int 0, .null, .null, .null, .int 0, .null]) hx hb hts i_X6 tyX6 tyX6_ok nmX6 hown hK w h_m rfl 7 (by decide) (hts _ m_12) rfl hin.symm rfl rfl rfl (Nat.le_of_ble_eq_true rfl) rfl dX6_init_66 (fun H locs w h_m => ?_)
  have h_q1 := h_q1.upw h_m (wi.ne h_q1 ho9 (by intro h; cases h))
  have h_q2 := h_q2.upw h_m (wi.ne h_q2 ho9 (by intro h; cases h))
  have h_q3 := h_q3.upw h_m (wi.ne h_q3 ho9 (by intro h; cases h))
  have h_q4 := h_q4.upw h_m (wi.ne h_q4 ho9 (by intro h; cases h))
  have h_q5 := h_q5.upw h_m (wi.ne h_q5 ho9 (by intro h; cases h))
  have h_q6 := h_q6.upw h_m (wi.ne h_q6 ho9 (by intro h; cases h))
  have h_q7 := h_q7.upw h_m (wi.ne h_q7 ho9 (by intro h; cases h))
  have h_q8 := h_q8.upw h_m (wi.ne h_q8 ho9 (by intro h; cases h))
  have hg := hg.up h_m (fun _ h => h rfl)
  refine lv_aload_n hx hb dX6_init_69 rfl (lv_at hl 0 rfl) ?_
  refine lv_bipush (v := 8) hx hb dX6_init_70 (by decide) ?_
  refine w_newI (N' := 8) hx hb hts m_3 hK w hA (by decide) rfl (by decide) (Nat.le_of_ble_eq_true rfl) (Nat.le_of_ble_eq_true rfl) dX6_init_72 (fun q9 H hq9 w h_q9 => ?_)
  have hq_q9 : q9 ∉ L := fun z => hq9 (hg _ z).1
  have ne_q9_m : q9 ≠ m := fun z => hq9 (by rw [z]; exact h_m.1)
  have ne_q9_q1 : q9 ≠ q1 := fun z => hq9 (by rw [z]; exact h_q1.1)
  have ne_q9_q2 : q9 ≠ q2 := fun z => hq9 (by rw [z]; exact h_q2.1)
  have ne_q9_q3 : q9 ≠ q3 := fun z => hq9 (by rw [z]; exact h_q3.1)
  have ne_q9_q4 : q9 ≠ q4 := fun z => hq9 (by rw [z]; exact h_q4.1)
  have ne_q9_q5 : q9 ≠ q5 := fun z => hq9 (by rw [z]; exact h_q5.1)
  have ne_q9_q6 : q9 ≠ q6 := fun z => hq9 (by rw [z]; exact h_q6.1)
  have ne_q9_q7 : q9 ≠ q7 := fun z => hq9 (by rw [z]; exact h_q7.1)
  have ne_q9_q8 : q9 ≠ q8 := fun z => hq9 (by rw [z]; exact h_q8.1)
  have h_m := h_m.pushw h_q9 hq9
  have h_q1 := h_q1.pushw h_q9 hq9
  have h_q2 := h_q2.pushw h_q9 hq9
  have h_q3 := h_q3.pushw h_q9 hq9
  have h_q4 := h_q4.pushw h_q9 hq9
  have h_q5 := h_q5.pushw h_q9 hq9
  have h_q6 := h_q6.pushw h_q9 hq9
  have h_q7 := h_q7.pushw h_q9 hq9
  have h_q8 := h_q8.pushw h_q9 hq9
  have hg := hg.push h_q9 hq9
  have ho9 := h_m
  refine w_putF (fs2 := [.ref q1, .ref q2, .ref q3, .ref q4, .ref q5, .ref q6, .ref q7, .ref q8, .ref q9, .null, .int 0, .int 0, .int 0, .int 0, .int 0, .int 0, .null, .null, .null, .int 0, .null]) hx hb hts i_X6 tyX6 tyX6_ok nmX6 hown hK w h_m rfl 8 (by decide) (hts _ m_13) rfl hin.symm rfl rfl rfl (Nat.le_of_ble_eq_true rfl) rfl dX6_init_74 (fun H locs w h_m => ?_)
  have h_q1 := h_q1.upw h_m (wi.ne h_q1 ho9 (by intro h; cases h))
  have h_q2 := h_q2.upw h_m (wi.ne h_q2 ho9 (by intro h; cases h))
  have h_q3 := h_q3.upw h_m (wi.ne h_q3 ho9 (by intro h; cases h))
  have h_q4 := h_q4.upw h_m (wi.ne h_q4 ho9 (by intro h; cases h))
  have h_q5 := h_q5.upw h_m (wi.ne h_q5 ho9 (by intro h; cases h))
  have h_q6 := h_q6.upw h_m (wi.ne h_q6 ho9 (by intro h; cases h))
  have h_q7 := h_q7.upw h_m (wi.ne h_q7 ho9 (by intro h; cases h))
  have h_q8 := h_q8.upw h_m (wi.ne h_q8 ho9 (by intro h; cases h))
  have h_q9 := h_q9.upw h_m (wi.ne h_q9 ho9 (by intro h; cases h))
  have hg := hg.up h_m (fun _ h => h rfl)
  refine lv_aload_n hx hb dX6_init_77 rfl (lv_at hl 0 rfl) ?_
  refine lv_bipush (v := 8) hx hb dX6_init_78 (by decide) ?_
  refine w_newI (N' := 8) hx hb hts m_3 hK w hA (by decide) rfl (by decide) (Nat.le_of_ble_eq_true rfl) (Nat.le_of_ble_eq_true rfl) dX6_init_80 (fun q10 H hq9 w h_q10 => ?_)
  have hq_q10 : q10 ∉ L := fun z => hq9 (hg _ z).1
  have ne_q10_m : q10 ≠ m := fun z => hq9 (by rw [z]; exact h_m.1)
  have ne_q10_q1 : q10 ≠ q1 := fun z => hq9 (by rw [z]; exact h_q1.1)
  have ne_q10_q2 : q10 ≠ q2 := fun z => hq9 (by rw [z]; exact h_q2.1)
  have ne_q10_q3 : q10 ≠ q3 := fun z => hq9 (by rw [z]; exact h_q3.1)
  have ne_q10_q4 : q10 ≠ q4 := fun z => hq9 (by rw [z]; exact h_q4.1)
  have ne_q10_q5 : q10 ≠ q5 := fun z => hq9 (by rw [z]; exact h_q5.1)
  have ne_q10_q6 : q10 ≠ q6 := fun z => hq9 (by rw [z]; exact h_q6.1)
  have ne_q10_q7 : q10 ≠ q7 := fun z => hq9 (by rw [z]; exact h_q7.1)
  have ne_q10_q8 : q10 ≠ q8 := fun z => hq9 (by rw [z]; exact h_q8.1)
  have ne_q10_q9 : q10 ≠ q9 := fun z => hq9 (by rw [z]; exact h_q9.1)
  have h_m := h_m.pushw h_q10 hq9
  have h_q1 := h_q1.pushw h_q10 hq9
  have h_q2 := h_q2.pushw h_q10 hq9
  have h_q3 := h_q3.pushw h_q10 hq9
  have h_q4 := h_q4.pushw h_q10 hq9
  have h_q5 := h_q5.pushw h_q10 hq9
  have h_q6 := h_q6.pushw h_q10 hq9
  have h_q7 := h_q7.pushw h_q10 hq9
  have h_q8 := h_q8.pushw h_q10 hq9
  have h_q9 := h_q9.pushw h_q10 hq9
  have hg := hg.push h_q10 hq9
  have ho9 := h_m
  refine w_putF (fs2 := [.ref q1, .ref q2, .ref q3, .ref q4, .ref q5, .ref q6, .ref q7, .ref q8, .ref q9, .ref q10, .int 0, .int 0, .int 0, .int 0, .int 0, .int 0, .null, .null, .null, .int 0, .null]) hx hb hts i_X6 tyX6 tyX6_ok nmX6 hown hK w h_m rfl 9 (by decide) (hts _ m_14) rfl hin.symm rfl rfl rfl (Nat.le_of_ble_eq_true rfl) rfl dX6_init_82 (fun H locs w h_m => ?_)
  have h_q1 := h_q1.upw h_m (wi.ne h_q1 ho9 (by intro h; cases h))
  have h_q2 := h_q2.upw h_m (wi.ne h_q2 ho9 (by intro h; cases h))
  have h_q3 := h_q3.upw h_m (wi.ne h_q3 ho9 (by intro h; cases h))
  have h_q4 := h_q4.upw h_m (wi.ne h_q4 ho9 (by intro h; cases h))
  have h_q5 := h_q5.upw h_m (wi.ne h_q5 ho9 (by intro h; cases h))
  have h_q6 := h_q6.upw h_m (wi.ne h_q6 ho9 (by intro h; cases h))
  have h_q7 := h_q7.upw h_m (wi.ne h_q7 ho9 (by intro h; cases h))
  have h_q8 := h_q8.upw h_m (wi.ne h_q8 ho9 (by intro h; cases h))
  have h_q9 := h_q9.upw h_m (wi.ne h_q9 ho9 (by intro h; cases h))
  have h_q10 := h_q10.upw h_m (wi.ne h_q10 ho9 (by intro h; cases h))
  have hg := hg.up h_m (fun _ h => h rfl)
  refine lv_aload_n hx hb dX6_init_85 rfl (lv_at hl 0 rfl) ?_
  refine lv_iconst (v := 3) hx hb dX6_init_86 (by decide) ?_
  refine w_newI (N' := 3) hx hb hts m_3 hK w hA (by decide) rfl (by decide) (Nat.le_of_ble_eq_true rfl) (Nat.le_of_ble_eq_true rfl) dX6_init_87 (fun q11 H hq9 w h_q11 => ?_)
  have hq_q11 : q11 ∉ L := fun z => hq9 (hg _ z).1
  have ne_q11_m : q11 ≠ m := fun z => hq9 (by rw [z]; exact h_m.1)
  have ne_q11_q1 : q11 ≠ q1 := fun z => hq9 (by rw [z]; exact h_q1.1)
  have ne_q11_q2 : q11 ≠ q2 := fun z => hq9 (by rw [z]; exact h_q2.1)
  have ne_q11_q3 : q11 ≠ q3 := fun z => hq9 (by rw [z]; exact h_q3.1)
  have ne_q11_q4 : q11 ≠ q4 := fun z => hq9 (by rw [z]; exact h_q4.1)
  have ne_q11_q5 : q11 ≠ q5 := fun z => hq9 (by rw [z]; exact h_q5.1)
  have ne_q11_q6 : q11 ≠ q6 := fun z => hq9 (by rw [z]; exact h_q6.1)
  have ne_q11_q7 : q11 ≠ q7 := fun z => hq9 (by rw [z]; exact h_q7.1)
  have ne_q11_q8 : q11 ≠ q8 := fun z => hq9 (by rw [z]; exact h_q8.1)
  have ne_q11_q9 : q11 ≠ q9 := fun z => hq9 (by rw [z]; exact h_q9.1)
  have ne_q11_q10 : q11 ≠ q10 := fun z => hq9 (by rw [z]; exact h_q10.1)
  have h_m := h_m.pushw h_q11 hq9
  have h_q1 := h_q1.pushw h_q11 hq9
  have h_q2 := h_q2.pushw h_q11 hq9
  have h_q3 := h_q3.pushw h_q11 hq9
  have h_q4 := h_q4.pushw h_q11 hq9
  have h_q5 := h_q5.pushw h_q11 hq9
  have h_q6 := h_q6.pushw h_q11 hq9
  have h_q7 := h_q7.pushw h_q11 hq9
  have h_q8 := h_q8.pushw h_q11 hq9
  have h_q9 := h_q9.pushw h_q11 hq9
  have h_q10 := h_q10.pushw h_q11 hq9
  have hg := hg.push h_q11 hq9
  have ho9 := h_m
  refine w_putF (fs2 := [.ref q1, .ref q2, .ref q3, .ref q4, .ref q5, .ref q6, .ref q7, .ref q8, .ref q9, .ref q10, .int 0, .int 0, .int 0, .int 0, .int 0, .int 0, .ref q11, .null, .null, .int 0, .null]) hx hb hts i_X6 tyX6 tyX6_ok nmX6 hown hK w h_m rfl 16 (by decide) (hts _ m_15) rfl hin.symm rfl rfl rfl (Nat.le_of_ble_eq_true rfl) rfl dX6_init_89 (fun H locs w h_m => ?_)
  have h_q1 := h_q1.upw h_m (wi.ne h_q1 ho9 (by intro h; cases h))
  have h_q2 := h_q2.upw h_m (wi.ne h_q2 ho9 (by intro h; cases h))
  have h_q3 := h_q3.upw h_m (wi.ne h_q3 ho9 (by intro h; cases h))
  have h_q4 := h_q4.upw h_m (wi.ne h_q4 ho9 (by intro h; cases h))
  have h_q5 := h_q5.upw h_m (wi.ne h_q5 ho9 (by intro h; cases h))
  have h_q6 := h_q6.upw h_m (wi.ne h_q6 ho9 (by intro h; cases h))
  have h_q7 := h_q7.upw h_m (wi.ne h_q7 ho9 (by intro h; cases h))
  have h_q8 := h_q8.upw h_m (wi.ne h_q8 ho9 (by intro h; cases h))
  have h_q9 := h_q9.upw h_m (wi.ne h_q9 ho9 (by intro h; cases h))
  have h_q10 := h_q10.upw h_m (wi.ne h_q10 ho9 (by intro h; cases h))
  have h_q11 := h_q11.upw h_m (wi.ne h_q11 ho9 (by intro h; cases h))
  have hg := hg.up h_m (fun _ h => h rfl)
  refine lv_aload_n hx hb dX6_init_92 rfl (lv_at hl 0 rfl) ?_
  refine lv_bipush (v := 12) hx hb dX6_init_93 (by decide) ?_
  refine w_newI (N' := 12) hx hb hts m_3 hK w hA (by decide) rfl (by decide) (Nat.le_of_ble_eq_true rfl) (Nat.le_of_ble_eq_true rfl) dX6_init_95 (fun q12 H hq9 w h_q12 => ?_)
  have hq_q12 : q12 ∉ L := fun z => hq9 (hg _ z).1
  have ne_q12_m : q12 ≠ m := fun z => hq9 (by rw [z]; exact h_m.1)
  have ne_q12_q1 : q12 ≠ q1 := fun z => hq9 (by rw [z]; exact h_q1.1)
  have ne_q12_q2 : q12 ≠ q2 := fun z => hq9 (by rw [z]; exact h_q2.1)
  have ne_q12_q3 : q12 ≠ q3 := fun z => hq9 (by rw [z]; exact h_q3.1)
  have ne_q12_q4 : q12 ≠ q4 := fun z => hq9 (by rw [z]; exact h_q4.1)
  have ne_q12_q5 : q12 ≠ q5 := fun z => hq9 (by rw [z]; exact h_q5.1)
  have ne_q12_q6 : q12 ≠ q6 := fun z => hq9 (by rw [z]; exact h_q6.1)
  have ne_q12_q7 : q12 ≠ q7 := fun z => hq9 (by rw [z]; exact h_q7.1)
  have ne_q12_q8 : q12 ≠ q8 := fun z => hq9 (by rw [z]; exact h_q8.1)
  have ne_q12_q9 : q12 ≠ q9 := fun z => hq9 (by rw [z]; exact h_q9.1)
  have ne_q12_q10 : q12 ≠ q10 := fun z => hq9 (by rw [z]; exact h_q10.1)
  have ne_q12_q11 : q12 ≠ q11 := fun z => hq9 (by rw [z]; exact h_q11.1)
  have h_m := h_m.pushw h_q12 hq9
  have h_q1 := h_q1.pushw h_q12 hq9
  have h_q2 := h_q2.pushw h_q12 hq9
  have h_q3 := h_q3.pushw h_q12 hq9
  have h_q4 := h_q4.pushw h_q12 hq9
  have h_q5 := h_q5.pushw h_q12 hq9
  have h_q6 := h_q6.pushw h_q12 hq9
  have h_q7 := h_q7.pushw h_q12 hq9
  have h_q8 := h_q8.pushw h_q12 hq9
  have h_q9 := h_q9.pushw h_q12 hq9
  have h_q10 := h_q10.pushw h_q12 hq9
  have h_q11 := h_q11.pushw h_q12 hq9
  have hg := hg.push h_q12 hq9
  have ho9 := h_m
  refine w_putF (fs2 := [.ref q1, .ref q2, .ref q3, .ref q4, .ref q5, .ref q6, .ref q7, .ref q8, .ref q9, .ref q10, .int 0, .int 0, .int 0, .int 0, .int 0, .int 0, .ref q11, .ref q12, .null, .int 0, .null]) hx hb hts i_X6 tyX6 tyX6_ok nmX6 hown hK w h_m rfl 17 (by decide) (hts _ m_16) rfl hin.symm rfl rfl rfl (Nat.le_of_ble_eq_true rfl) rfl dX6_init_97 (fun H locs w h_m => ?_)
  have h_q1 := h_q1.upw h_m (wi.ne h_q1 ho9 (by intro h; cases h))
  have h_q2 := h_q2.upw h_m (wi.ne h_q2 ho9 (by intro h; cases h))
  have h_q3 := h_q3.upw h_m (wi.ne h_q3 ho9 (by intro h; cases h))
  have h_q4 := h_q4.upw h_m (wi.ne h_q4 ho9 (by intro h; cases h))
  have h_q5 := h_q5.upw h_m (wi.ne h_q5 ho9 (by intro h; cases h))
  have h_q6 := h_q6.upw h_m (wi.ne h_q6 ho9 (by intro h; cases h))
  have h_q7 := h_q7.upw h_m (wi.ne h_q7 ho9 (by intro h; cases h))
  have h_q8 := h_q8.upw h_m (wi.ne h_q8 ho9 (by intro h; cases h))
  have h_q9 := h_q9.upw h_m (wi.ne h_q9 ho9 (by intro h; cases h))
  have h_q10 := h_q10.upw h_m (wi.ne h_q10 ho9 (by intro h; cases h))
  have h_q11 := h_q11.upw h_m (wi.ne h_q11 ho9 (by intro h; cases h))
  have h_q12 := h_q12.upw h_m (wi.ne h_q12 ho9 (by intro h; cases h))
  have hg := hg.up h_m (fun _ h => h rfl)
  refine lv_aload_n hx hb dX6_init_100 rfl (lv_at hl 0 rfl) ?_
  refine lv_bipush (v := 100) hx hb dX6_init_101 (by decide) ?_
  refine w_newI (N' := 100) hx hb hts m_3 hK w hA (by decide) rfl (by decide) (Nat.le_of_ble_eq_true rfl) (Nat.le_of_ble_eq_true rfl) dX6_init_103 (fun q13 H hq9 w h_q13 => ?_)
  have hq_q13 : q13 ∉ L := fun z => hq9 (hg _ z).1
  have ne_q13_m : q13 ≠ m := fun z => hq9 (by rw [z]; exact h_m.1)
  have ne_q13_q1 : q13 ≠ q1 := fun z => hq9 (by rw [z]; exact h_q1.1)
  have ne_q13_q2 : q13 ≠ q2 := fun z => hq9 (by rw [z]; exact h_q2.1)
  have ne_q13_q3 : q13 ≠ q3 := fun z => hq9 (by rw [z]; exact h_q3.1)
  have ne_q13_q4 : q13 ≠ q4 := fun z => hq9 (by rw [z]; exact h_q4.1)
  have ne_q13_q5 : q13 ≠ q5 := fun z => hq9 (by rw [z]; exact h_q5.1)
  have ne_q13_q6 : q13 ≠ q6 := fun z => hq9 (by rw [z]; exact h_q6.1)
  have ne_q13_q7 : q13 ≠ q7 := fun z => hq9 (by rw [z]; exact h_q7.1)
  have ne_q13_q8 : q13 ≠ q8 := fun z => hq9 (by rw [z]; exact h_q8.1)
  have ne_q13_q9 : q13 ≠ q9 := fun z => hq9 (by rw [z]; exact h_q9.1)
  have ne_q13_q10 : q13 ≠ q10 := fun z => hq9 (by rw [z]; exact h_q10.1)
  have ne_q13_q11 : q13 ≠ q11 := fun z => hq9 (by rw [z]; exact h_q11.1)
  have ne_q13_q12 : q13 ≠ q12 := fun z => hq9 (by rw [z]; exact h_q12.1)
  have h_m := h_m.pushw h_q13 hq9
  have h_q1 := h_q1.pushw h_q13 hq9
  have h_q2 := h_q2.pushw h_q13 hq9
  have h_q3 := h_q3.pushw h_q13 hq9
  have h_q4 := h_q4.pushw h_q13 hq9
  have h_q5 := h_q5.pushw h_q13 hq9
  have h_q6 := h_q6.pushw h_q13 hq9
  have h_q7 := h_q7.pushw h_q13 hq9
  have h_q8 := h_q8.pushw h_q13 hq9
  have h_q9 := h_q9.pushw h_q13 hq9
  have h_q10 := h_q10.pushw h_q13 hq9
  have h_q11 := h_q11.pushw h_q13 hq9
  have h_q12 := h_q12.pushw h_q13 hq9
  have hg := hg.push h_q13 hq9
  have ho9 := h_m
  refine w_putF (fs2 := [.ref q1, .ref q2, .ref q3, .ref q4, .ref q5, .ref q6, .ref q7, .ref q8, .ref q9, .ref q10, .int 0, .int 0, .int 0, .int 0, .int 0, .int 0, .ref q11, .ref q12, .ref q13, .int 0, .null]) hx hb hts i_X6 tyX6 tyX6_ok nmX6 hown hK w h_m rfl 18 (by decide) (hts _ m_17) rfl hin.symm rfl rfl rfl (Nat.le_of_ble_eq_true rfl) rfl dX6_init_105 (fun H locs w h_m => ?_)
  have h_q1 := h_q1.upw h_m (wi.ne h_q1 ho9 (by intro h; cases h))
  have h_q2 := h_q2.upw h_m (wi.ne h_q2 ho9 (by intro h; cases h))
  have h_q3 := h_q3.upw h_m (wi.ne h_q3 ho9 (by intro h; cases h))
  have h_q4 := h_q4.upw h_m (wi.ne h_q4 ho9 (by intro h; cases h))
  have h_q5 := h_q5.upw h_m (wi.ne h_q5 ho9 (by intro h; cases h))
  have h_q6 := h_q6.upw h_m (wi.ne h_q6 ho9 (by intro h; cases h))
  have h_q7 := h_q7.upw h_m (wi.ne h_q7 ho9 (by intro h; cases h))
  have h_q8 := h_q8.upw h_m (wi.ne h_q8 ho9 (by intro h; cases h))
  have h_q9 := h_q9.upw h_m (wi.ne h_q9 ho9 (by intro h; cases h))
  have h_q10 := h_q10.upw h_m (wi.ne h_q10 ho9 (by intro h; cases h))
  have h_q11 := h_q11.upw h_m (wi.ne h_q11 ho9 (by intro h; cases h))
  have h_q12 := h_q12.upw h_m (wi.ne h_q12 ho9 (by intro h; cases h))
  have h_q13 := h_q13.upw h_m (wi.ne h_q13 ho9 (by intro h; cases h))
  have hg := hg.up h_m (fun _ h => h rfl)
  refine lv_aload_n hx hb dX6_init_108 rfl (lv_at hl 0 rfl) ?_
  refine lv_bipush (v := 10) hx hb dX6_init_109 (by decide) ?_
  refine w_newI (N' := 10) hx hb hts m_3 hK w hA (by decide) rfl (by decide) (Nat.le_of_ble_eq_true rfl) (Nat.le_of_ble_eq_true rfl) dX6_init_111 (fun q14 H hq9 w h_q14 => ?_)
  have hq_q14 : q14 ∉ L := fun z => hq9 (hg _ z).1
  have ne_q14_m : q14 ≠ m := fun z => hq9 (by rw [z]; exact h_m.1)
  have ne_q14_q1 : q14 ≠ q1 := fun z => hq9 (by rw [z]; exact h_q1.1)
  have ne_q14_q2 : q14 ≠ q2 := fun z => hq9 (by rw [z]; exact h_q2.1)
  have ne_q14_q3 : q14 ≠ q3 := fun z => hq9 (by rw [z]; exact h_q3.1)
  have ne_q14_q4 : q14 ≠ q4 := fun z => hq9 (by rw [z]; exact h_q4.1)
  have ne_q14_q5 : q14 ≠ q5 := fun z => hq9 (by rw [z]; exact h_q5.1)
  have ne_q14_q6 : q14 ≠ q6 := fun z => hq9 (by rw [z]; exact h_q6.1)
  have ne_q14_q7 : q14 ≠ q7 := fun z => hq9 (by rw [z]; exact h_q7.1)
  have ne_q14_q8 : q14 ≠ q8 := fun z => hq9 (by rw [z]; exact h_q8.1)
  have ne_q14_q9 : q14 ≠ q9 := fun z => hq9 (by rw [z]; exact h_q9.1)
  have ne_q14_q10 : q14 ≠ q10 := fun z => hq9 (by rw [z]; exact h_q10.1)
  have ne_q14_q11 : q14 ≠ q11 := fun z => hq9 (by rw [z]; exact h_q11.1)
  have ne_q14_q12 : q14 ≠ q12 := fun z => hq9 (by rw [z]; exact h_q12.1)
  have ne_q14_q13 : q14 ≠ q13 := fun z => hq9 (by rw [z]; exact h_q13.1)
  have h_m := h_m.pushw h_q14 hq9
  have h_q1 := h_q1.pushw h_q14 hq9
  have h_q2 := h_q2.pushw h_q14 hq9
  have h_q3 := h_q3.pushw h_q14 hq9
  have h_q4 := h_q4.pushw h_q14 hq9
  have h_q5 := h_q5.pushw h_q14 hq9
  have h_q6 := h_q6.pushw h_q14 hq9
  have h_q7 := h_q7.pushw h_q14 hq9
  have h_q8 := h_q8.pushw h_q14 hq9
  have h_q9 := h_q9.pushw h_q14 hq9
  have h_q10 := h_q10.pushw h_q14 hq9
  have h_q11 := h_q11.pushw h_q14 hq9
  have h_q12 := h_q12.pushw h_q14 hq9
  have h_q13 := h_q13.pushw h_q14 hq9
  have hg := hg.push h_q14 hq9
  have ho9 := h_m
  refine w_putF (fs2 := [.ref q1, .ref q2, .ref q3, .ref q4, .ref q5, .ref q6, .ref q7, .ref q8, .ref q9, .ref q10, .int 0, .int 0, .int 0, .int 0, .int 0, .int 0, .ref q11, .ref q12, .ref q13, .int 0, .ref q14]) hx hb hts i_X6 tyX6 tyX6_ok nmX6 hown hK w h_m rfl 20 (by decide) (hts _ m_18) rfl hin.symm rfl rfl rfl (Nat.le_of_ble_eq_true rfl) rfl dX6_init_113 (fun H locs w h_m => ?_)
  have h_q1 := h_q1.upw h_m (wi.ne h_q1 ho9 (by intro h; cases h))
  have h_q2 := h_q2.upw h_m (wi.ne h_q2 ho9 (by intro h; cases h))
  have h_q3 := h_q3.upw h_m (wi.ne h_q3 ho9 (by intro h; cases h))
  have h_q4 := h_q4.upw h_m (wi.ne h_q4 ho9 (by intro h; cases h))
  have h_q5 := h_q5.upw h_m (wi.ne h_q5 ho9 (by intro h; cases h))
  have h_q6 := h_q6.upw h_m (wi.ne h_q6 ho9 (by intro h; cases h))
  have h_q7 := h_q7.upw h_m (wi.ne h_q7 ho9 (by intro h; cases h))
  have h_q8 := h_q8.upw h_m (wi.ne h_q8 ho9 (by intro h; cases h))
  have h_q9 := h_q9.upw h_m (wi.ne h_q9 ho9 (by intro h; cases h))
  have h_q10 := h_q10.upw h_m (wi.ne h_q10 ho9 (by intro h; cases h))
  have h_q11 := h_q11.upw h_m (wi.ne h_q11 ho9 (by intro h; cases h))
  have h_q12 := h_q12.upw h_m (wi.ne h_q12 ho9 (by intro h; cases h))
  have h_q13 := h_q13.upw h_m (wi.ne h_q13 ho9 (by intro h; cases h))
  have h_q14 := h_q14.upw h_m (wi.ne h_q14 ho9 (by intro h; cases h))
  have hg := hg.up h_m (fun _ h => h rfl)
  refine lv_aload_n hx hb dX6_init_116 rfl (lv_at hl 0 rfl) ?_
  refine w_get (v := .ref q1) hx hb hts i_X6 hown hK w h_m rfl 0 (by decide) (hts _ m_4) rfl dX6_init_117 ?_
  refine lv_iconst (v := 0) hx hb dX6_init_120 (by decide) ?_
  refine lv_iconst (v := 2) hx hb dX6_init_121 (by decide) ?_
  have ho9 := h_q1
  refine w_ist (j := 0) hx hb hK w h_q1 (vp_in_nI (n := 0) (N := 55) (by decide) (by decide)) rfl dX6_init_122 (fun H locs w h_q1 => ?_)
  have h_m := h_m.upw h_q1 (wi.ne h_m ho9 (by intro h; cases h))
  have h_q2 := h_q2.upw h_q1 ne_q2_q1
  have h_q3 := h_q3.upw h_q1 ne_q3_q1
  have h_q4 := h_q4.upw h_q1 ne_q4_q1
  have h_q5 := h_q5.upw h_q1 ne_q5_q1
  have h_q6 := h_q6.upw h_q1 ne_q6_q1
  have h_q7 := h_q7.upw h_q1 ne_q7_q1
  have h_q8 := h_q8.upw h_q1 ne_q8_q1
  have h_q9 := h_q9.upw h_q1 ne_q9_q1
  have h_q10 := h_q10.upw h_q1 ne_q10_q1
  have h_q11 := h_q11.upw h_q1 ne_q11_q1
  have h_q12 := h_q12.upw h_q1 ne_q12_q1
  have h_q13 := h_q13.upw h_q1 ne_q13_q1
  have h_q14 := h_q14.upw h_q1 ne_q14_q1
  have hg := hg.up h_q1 (fun h _ => hq_q1 h)
  refine lv_aload_n hx hb dX6_init_123 rfl (lv_at hl 0 rfl) ?_
  refine w_get (v := .ref q1) hx hb hts i_X6 hown hK w h_m rfl 0 (by decide) (hts _ m_4) rfl dX6_init_124 ?_
  refine lv_iconst (v := 1) hx hb dX6_init_127 (by decide) ?_
  refine lv_iconst (v := 3) hx hb dX6_init_128 (by decide) ?_
  have ho9 := h_q1
  refine w_ist (j := 1) hx hb hK w h_q1 (vp_in_nI (n := 1) (N := 55) (by decide) (by decide)) rfl dX6_init_129 (fun H locs w h_q1 => ?_)
  have h_m := h_m.upw h_q1 (wi.ne h_m ho9 (by intro h; cases h))
  have h_q2 := h_q2.upw h_q1 ne_q2_q1
  have h_q3 := h_q3.upw h_q1 ne_q3_q1
  have h_q4 := h_q4.upw h_q1 ne_q4_q1
  have h_q5 := h_q5.upw h_q1 ne_q5_q1
  have h_q6 := h_q6.upw h_q1 ne_q6_q1
  have h_q7 := h_q7.upw h_q1 ne_q7_q1
  have h_q8 := h_q8.upw h_q1 ne_q8_q1
  have h_q9 := h_q9.upw h_q1 ne_q9_q1
  have h_q10 := h_q10.upw h_q1 ne_q10_q1
  have h_q11 := h_q11.upw h_q1 ne_q11_q1
  have h_q12 := h_q12.upw h_q1 ne_q12_q1
  have h_q13 := h_q13.upw h_q1 ne_q13_q1
  have h_q14 := h_q14.upw h_q1 ne_q14_q1
  have hg := hg.up h_q1 (fun h _ => hq_q1 h)
  refine lv_aload_n hx hb dX6_init_130 rfl (lv_at hl 0 rfl) ?_
  refine w_get (v := .ref q1) hx hb hts i_X6 hown hK w h_m rfl 0 (by decide) (hts _ m_4) rfl dX6_init_131 ?_
  refine lv_iconst (v := 2) hx hb dX6_init_134 (by decide) ?_
  refine lv_bipush (v := 100) hx hb dX6_init_135 (by decide) ?_
  have ho9 := h_q1
  refine w_ist (j := 2) hx hb hK w h_q1 (vp_in_nI (n := 2) (N := 55) (by decide) (by decide)) rfl dX6_init_137 (fun H locs w h_q1 => ?_)
  have h_m := h_m.upw h_q1 (wi.ne h_m ho9 (by intro h; cases h))
  have h_q2 := h_q2.upw h_q1 ne_q2_q1
  have h_q3 := h_q3.upw h_q1 ne_q3_q1
  have h_q4 := h_q4.upw h_q1 ne_q4_q1
  have h_q5 := h_q5.upw h_q1 ne_q5_q1
  have h_q6 := h_q6.upw h_q1 ne_q6_q1
  have h_q7 := h_q7.upw h_q1 ne_q7_q1
  have h_q8 := h_q8.upw h_q1 ne_q8_q1
  have h_q9 := h_q9.upw h_q1 ne_q9_q1
  have h_q10 := h_q10.upw h_q1 ne_q10_q1
  have h_q11 := h_q11.upw h_q1 ne_q11_q1
  have h_q12 := h_q12.upw h_q1 ne_q12_q1
  have h_q13 := h_q13.upw h_q1 ne_q13_q1
  have h_q14 := h_q14.upw h_q1 ne_q14_q1
  have hg := hg.up h_q1 (fun h _ => hq_q1 h)
  refine lv_aload_n hx hb dX6_init_138 rfl (lv_at hl 0 rfl) ?_
  refine w_get (v := .ref q1) hx hb hts i_X6 hown hK w h_m rfl 0 (by decide) (hts _ m_4) rfl dX6_init_139 ?_
  refine lv_iconst (v := 4) hx hb dX6_init_142 (by decide) ?_
  refine lv_iconst (v := 1) hx hb dX6_init_143 (by decide) ?_
  have ho9 := h_q1
  refine w_ist (j := 4) hx hb hK w h_q1 (vp_in_nI (n := 4) (N := 55) (by decide) (by decide)) rfl dX6_init_144 (fun H locs w h_q1 => ?_)
  have h_m := h_m.upw h_q1 (wi.ne h_m ho9 (by intro h; cases h))
  have h_q2 := h_q2.upw h_q1 ne_q2_q1
  have h_q3 := h_q3.upw h_q1 ne_q3_q1
  have h_q4 := h_q4.upw h_q1 ne_q4_q1
  have h_q5 := h_q5.upw h_q1 ne_q5_q1
  have h_q6 := h_q6.upw h_q1 ne_q6_q1
  have h_q7 := h_q7.upw h_q1 ne_q7_q1
  have h_q8 := h_q8.upw h_q1 ne_q8_q1
  have h_q9 := h_q9.upw h_q1 ne_q9_q1
  have h_q10 := h_q10.upw h_q1 ne_q10_q1
  have h_q11 := h_q11.upw h_q1 ne_q11_q1
  have h_q12 := h_q12.upw h_q1 ne_q12_q1
  have h_q13 := h_q13.upw h_q1 ne_q13_q1
  have h_q14 := h_q14.upw h_q1 ne_q14_q1
  have hg := hg.up h_q1 (fun h _ => hq_q1 h)
  exact w_vret hx hb hr hlocks w ⟨q1, q2, q3, q4, q5, q6, q7, q8, q9, q10, q11, q12, q13, q14, by simp only [List.append_assoc, List.cons_append, List.nil_append], h_m.2, h_q1.2, h_q2.2, h_q3.2, h_q4.2, h_q5.2, h_q6.2, h_q7.2, h_q8.2, h_q9.2, h_q10.2, h_q11.2, h_q12.2, h_q13.2, h_q14.2, hg⟩ (Nat.le_of_ble_eq_true rfl) (Nat.le_of_ble_eq_true rfl) dX6_init_145
