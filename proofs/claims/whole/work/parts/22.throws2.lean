theorem exn1 : exn 1 = xIAE := if_pos rfl
theorem exn2 : exn 2 = xISE := (if_neg (by decide)).trans (if_pos rfl)
theorem exn3 : exn 3 = xUOE := (if_neg (by decide)).trans (if_neg (by decide))
def f_X1_fail (p_ki : Int32) (p_st : Int32) : Int32 := if p_ki = (4 : Int32) then 0 else (if p_ki = (5 : Int32) then 0 else (if p_st = (0 : Int32) then 0 else (if p_ki = (6 : Int32) then 3 else (if p_ki = (3 : Int32) then 1 else 2))))
set_option maxHeartbeats 400000 in
set_option maxRecDepth 100000 in
theorem c_X1_fail (l : Launch) (hst : l.stackTraces = false) (D : va_G) (cI cP cS cL : ClassId) (sa : Nat → Nat) (L : List Nat) (F : Nat → va_E) (p : Nat) (p_nu : Int32) (p_ki : Int32) (p_st : Int32) (p_sl : Int32) (h_p : wi L F p (eP p_nu p_ki p_st p_sl)) : wMx l D cI cP cS cL sa yX1_fail wsX1_fail ({ frames := 6, cells := 1, slots := 6, locals := 82 } : Room) [.ref p] L F (fun A => wQv D A (fun L1 F1 => (f_X1_fail p_ki p_st) = 0 ∧ L1 = L ∧ F1 = F)) (fun E L1 F1 => ¬ (f_X1_fail p_ki p_st) = 0 ∧ E = exn (f_X1_fail p_ki p_st) ∧ L1 = L ∧ F1 = F) 1 6 := by
  refine wMx.of (cc := cX1_fail) (maxL := 1) (ret := none) (by decide) rfl (Nat.le_of_ble_eq_true rfl) ?_
  intro pZ eZ sZ mZ below meth cZ A ls C htab hX hl w
  obtain ⟨hx, hb, hr, hml, hts, hown, hlocks, hK, hA, hin⟩ := C
  have hown : sZ.vm.findClass RX1 = some mZ.cls := hown
  have hl : lv_has ls 1 [(0, .ref p)] := hl
  have m_0 : ((.fieldLink RX1 15 "TwoThirds$Person" "kind" "I") : Cond) ∈ wsX1_fail := by decide +kernel
  have i_X1 : ∀ w ∈ wsX10, w ∈ wsX1_fail := by decide +kernel
  have m_2 : ((.fieldLink RX1 18 "TwoThirds$Person" "stepCount" "I") : Cond) ∈ wsX1_fail := by decide +kernel
  have m_3 : ((.classLink RX1 40 xISE) : Cond) ∈ wsX1_fail := by decide +kernel
  have m_4 : ((.initialized xISE) : Cond) ∈ wsX1_fail := by decide +kernel
  have m_5 : ((.classLink RX1 35 xIAE) : Cond) ∈ wsX1_fail := by decide +kernel
  have m_6 : ((.initialized xIAE) : Cond) ∈ wsX1_fail := by decide +kernel
  have m_7 : ((.classLink RX1 28 xUOE) : Cond) ∈ wsX1_fail := by decide +kernel
  have m_8 : ((.initialized xUOE) : Cond) ∈ wsX1_fail := by decide +kernel
  have hq : f_X1_fail p_ki p_st = f_X1_fail p_ki p_st := rfl
  refine lv_aload_n hx hb dX1_fail_0 rfl (lv_at hl 0 rfl) ?_
  refine w_get (v := .int p_ki) hx hb hts i_X1 hown hK w h_p rfl 1 (by decide) (hts _ m_0) rfl dX1_fail_1 ?_
  refine lv_iconst (v := 4) hx hb dX1_fail_4 (by decide) ?_
  refine lv_icmp_eq (tgt := 23) hx hb dX1_fail_5 (by decide) (fun c1 => ?_) (fun c1 => ?_)
  · skip
    have hq := hq.trans (if_pos c1)
    exact vx_ret (w_vret hx hb hr hlocks w ⟨hq, rfl, rfl⟩ (Nat.le_of_ble_eq_true rfl) (Nat.le_of_ble_eq_true rfl) dX1_fail_23)
  · skip
    have hq := hq.trans (if_neg c1)
    refine lv_aload_n hx hb dX1_fail_8 rfl (lv_at hl 0 rfl) ?_
    refine w_get (v := .int p_ki) hx hb hts i_X1 hown hK w h_p rfl 1 (by decide) (hts _ m_0) rfl dX1_fail_9 ?_
    refine lv_iconst (v := 5) hx hb dX1_fail_12 (by decide) ?_
    refine lv_icmp_eq (tgt := 23) hx hb dX1_fail_13 (by decide) (fun c2 => ?_) (fun c2 => ?_)
    · skip
      have hq := hq.trans (if_pos c2)
      exact vx_ret (w_vret hx hb hr hlocks w ⟨hq, rfl, rfl⟩ (Nat.le_of_ble_eq_true rfl) (Nat.le_of_ble_eq_true rfl) dX1_fail_23)
    · skip
      have hq := hq.trans (if_neg c2)
      refine lv_aload_n hx hb dX1_fail_16 rfl (lv_at hl 0 rfl) ?_
      refine w_get (v := .int p_st) hx hb hts i_X1 hown hK w h_p rfl 2 (by decide) (hts _ m_2) rfl dX1_fail_17 ?_
      refine lv_if_ne (tgt := 24) hx hb dX1_fail_20 (by decide) (fun c3 => ?_) (fun c3 => ?_)
      · skip
        have hq := hq.trans (if_neg c3)
        refine lv_aload_n hx hb dX1_fail_24 rfl (lv_at hl 0 rfl) ?_
        refine w_get (v := .int p_ki) hx hb hts i_X1 hown hK w h_p rfl 1 (by decide) (hts _ m_0) rfl dX1_fail_25 ?_
        refine lv_bipush (v := 6) hx hb dX1_fail_28 (by decide) ?_
        refine lv_icmp_ne (tgt := 43) hx hb dX1_fail_30 (by decide) (fun c4 => ?_) (fun c4 => ?_)
        · skip
          have hq := hq.trans (if_neg c4)
          refine lv_aload_n hx hb dX1_fail_43 rfl (lv_at hl 0 rfl) ?_
          refine w_get (v := .int p_ki) hx hb hts i_X1 hown hK w h_p rfl 1 (by decide) (hts _ m_0) rfl dX1_fail_44 ?_
          refine lv_iconst (v := 3) hx hb dX1_fail_47 (by decide) ?_
          refine lv_icmp_ne (tgt := 61) hx hb dX1_fail_48 (by decide) (fun c5 => ?_) (fun c5 => ?_)
          · skip
            have hq := hq.trans (if_neg c5)
            exact vx_throwS (own := RX1) (cls := xISE) (text := "a person failed") (names := xNM) (ic := 44) (sa := sa 2) hx hb hst hown (by decide) (by decide) (hts _ m_3) (hts _ m_4) hX.1.2.2.1 (wx_hat (fun w h => List.mem_cons_of_mem _ (List.mem_append_right _ h)) (by decide +kernel) hts hX) (by decide +kernel) hX.2.2.2.1 hX.2.2.2.2 w.2.2 (hl.1.trans hml.symm) dX1_fail_61 dX1_fail_64 dX1_fail_65 dX1_fail_67 dX1_fail_70 (fun x h => (htab x h).elim) (Nat.le_of_ble_eq_true rfl) (Nat.le_of_ble_eq_true rfl) (Nat.le_of_ble_eq_true rfl) (Nat.le_of_ble_eq_true rfl) hlocks (fun t _ h1 h2 => wx_thrown w ⟨by rw [hq]; decide, by rw [hq]; exact exn2.symm, rfl, rfl⟩ t h1 h2) w.2.2.2.2 (Nat.le_of_ble_eq_true rfl) (Nat.le_of_ble_eq_true rfl)
          · skip
            have hq := hq.trans (if_pos c5)
            exact vx_throwS (own := RX1) (cls := xIAE) (text := "a mixing one failed") (names := xNM) (ic := 39) (sa := sa 1) hx hb hst hown (by decide) (by decide) (hts _ m_5) (hts _ m_6) hX.1.2.1 (wx_hat (fun w h => List.mem_cons_of_mem _ (List.mem_append_left _ (List.mem_append_right _ h))) (by decide +kernel) hts hX) (by decide +kernel) hX.2.2.2.1 hX.2.2.2.2 w.2.2 (hl.1.trans hml.symm) dX1_fail_51 dX1_fail_54 dX1_fail_55 dX1_fail_57 dX1_fail_60 (fun x h => (htab x h).elim) (Nat.le_of_ble_eq_true rfl) (Nat.le_of_ble_eq_true rfl) (Nat.le_of_ble_eq_true rfl) (Nat.le_of_ble_eq_true rfl) hlocks (fun t _ h1 h2 => wx_thrown w ⟨by rw [hq]; decide, by rw [hq]; exact exn1.symm, rfl, rfl⟩ t h1 h2) w.2.2.2.2 (Nat.le_of_ble_eq_true rfl) (Nat.le_of_ble_eq_true rfl)
        · skip
          have hq := hq.trans (if_pos c4)
          exact vx_throwS (own := RX1) (cls := xUOE) (text := "a learning one failed") (names := xNM) (ic := 32) (sa := sa 0) hx hb hst hown (by decide) (by decide) (hts _ m_7) (hts _ m_8) hX.1.1 (wx_hat (fun w h => List.mem_cons_of_mem _ (List.mem_append_left _ (List.mem_append_left _ (List.mem_append_right _ h)))) (by decide +kernel) hts hX) (by decide +kernel) hX.2.2.2.1 hX.2.2.2.2 w.2.2 (hl.1.trans hml.symm) dX1_fail_33 dX1_fail_36 dX1_fail_37 dX1_fail_39 dX1_fail_42 (fun x h => (htab x h).elim) (Nat.le_of_ble_eq_true rfl) (Nat.le_of_ble_eq_true rfl) (Nat.le_of_ble_eq_true rfl) (Nat.le_of_ble_eq_true rfl) hlocks (fun t _ h1 h2 => wx_thrown w ⟨by rw [hq]; decide, by rw [hq]; exact exn3.symm, rfl, rfl⟩ t h1 h2) w.2.2.2.2 (Nat.le_of_ble_eq_true rfl) (Nat.le_of_ble_eq_true rfl)
      · skip
        have hq := hq.trans (if_pos c3)
        exact vx_ret (w_vret hx hb hr hlocks w ⟨hq, rfl, rfl⟩ (Nat.le_of_ble_eq_true rfl) (Nat.le_of_ble_eq_true rfl) dX1_fail_23)
theorem fail_cases (ki st : Int32) : f_X1_fail ki st = 0 ∨ f_X1_fail ki st = 3 ∨ f_X1_fail ki st = 1 ∨ f_X1_fail ki st = 2 := by
  unfold f_X1_fail
  repeat' split
  all_goals first | exact Or.inl rfl | exact Or.inr (Or.inl rfl) | exact Or.inr (Or.inr (Or.inl rfl)) | exact Or.inr (Or.inr (Or.inr rfl))
def f_X5_element (d : Int32) (i0 : Int32) (sh_ho : Nat → Int32) (rw_sz : Nat → Int32) (el_f : Nat → Nat → Int32) : Int32 × Int64 := if (¬ d < 0 ∧ ¬ (8 : Int32) ≤ d) then (if (sh_ho (d.toNatClampNeg)) = (2 : Int32) then (if (f_X3_hasPlace i0 (rw_sz (d.toNatClampNeg))) = (0 : Int32) then (2, 0) else (0, ((f_X3_at i0 (rw_sz (d.toNatClampNeg)) (el_f (d.toNatClampNeg))).toInt64))) else (2, 0)) else (1, 0)
set_option maxHeartbeats 400000 in
set_option maxRecDepth 100000 in
theorem c_X5_element (l : Launch) (hst : l.stackTraces = false) (D : va_G) (cI cP cS cL : ClassId) (sa : Nat → Nat) (L : List Nat) (F : Nat → va_E) (x : Nat) (d : Int32) (i0 : Int32) (x_no : Nat) (x_ke : Nat) (x_mi : Nat) (x_im : Int32) (x_sh : Nat) (x_co : Nat) (x_ot : Nat) (sh : Nat → Nat) (sh_ho : Nat → Int32) (rw : Nat → Nat) (sp : Nat → Nat) (el : Nat → Nat) (rw_so : Nat → Int32) (rw_sz : Nat → Int32) (el_f : Nat → Nat → Int32) (h_x : wi L F x (eX x_no x_ke x_mi x_im x_sh x_co x_ot)) (h_x_sh : wi L F x_sh (eQ cS 8 (fun i => some (sh i)))) (h_sh : ∀ i, i < 8 → wi L F (sh i) (eS (sh_ho i) (rw i) (sp i))) (h_rw : ∀ i, i < 8 → wi L F (rw i) (eR (el i) (rw_so i) (rw_sz i))) (h_el : ∀ i, i < 8 → wi L F (el i) (eI cI 100 (el_f i))) (hzs : ∀ i, i < 8 → (rw_sz i).toInt ≤ 100) : wMx l D cI cP cS cL sa yX5_element wsX5_element ({ frames := 6, cells := 1, slots := 6, locals := 82 } : Room) [.ref x, .int d, .int i0] L F (fun A => wQl D A (fun r1 L1 F1 => (f_X5_element d i0 sh_ho rw_sz el_f) = (0, r1) ∧ L1 = L ∧ F1 = F)) (fun E L1 F1 => ¬ (f_X5_element d i0 sh_ho rw_sz el_f).1 = 0 ∧ E = exn (f_X5_element d i0 sh_ho rw_sz el_f).1 ∧ L1 = L ∧ F1 = F) 1 6 := by
  refine wMx.of (cc := cX5_element) (maxL := 4) (ret := (some .long)) (by decide) rfl (Nat.le_of_ble_eq_true rfl) ?_
  intro pZ eZ sZ mZ below meth cZ A ls C htab hX hl w
  obtain ⟨hx, hb, hr, hml, hts, hown, hlocks, hK, hA, hin⟩ := C
  have hown : sZ.vm.findClass RX5 = some mZ.cls := hown
  have hl : lv_has ls 4 [(0, .ref x), (1, .int d), (2, .int i0)] := hl
  have m_0 : ((.fieldLink RX5 231 "TwoThirds$Shelf" "holding" "I") : Cond) ∈ wsX5_element := by decide +kernel
  have i_X4 : ∀ w ∈ wsX40, w ∈ wsX5_element := by decide +kernel
  have m_2 : ((.fieldLink RX5 44 "TwoThirds$Shelf" "row" "LTwoThirds$Row;") : Cond) ∈ wsX5_element := by decide +kernel
  have m_3 : ((.classLink RX5 257 xISE) : Cond) ∈ wsX5_element := by decide +kernel
  have m_4 : ((.initialized xISE) : Cond) ∈ wsX5_element := by decide +kernel
  have m_5 : ((.classLink RX5 250 xIAE) : Cond) ∈ wsX5_element := by decide +kernel
  have m_6 : ((.initialized xIAE) : Cond) ∈ wsX5_element := by decide +kernel
  have hq : f_X5_element d i0 sh_ho rw_sz el_f = f_X5_element d i0 sh_ho rw_sz el_f := rfl
  refine lv_aload_n hx hb dX5_element_0 rfl (lv_at hl 0 rfl) ?_
  refine lv_iload_n hx hb dX5_element_1 rfl (lv_at hl 1 rfl) ?_
  by_cases c1 : (¬ d < 0 ∧ ¬ (8 : Int32) ≤ d)
  · skip
    have hq := hq.trans (if_pos c1)
    have hlt_C : d.toNatClampNeg < 8 := w_okP (n := 8) c1 (by decide)
    refine w_finQ (v := .ref (sh (d.toNatClampNeg))) rfl (w_runV (rm := ({ frames := 0, cells := 0, slots := 0, locals := 0 } : Room)) (As := [.int d]) (rest := []) (n := 1) hx hb hml hts hown hK w (c_X5_shelfAt_some l D cI cP cS cL L _ x d x_no x_ke x_mi x_im x_sh x_co x_ot sh sh_ho rw sp h_x h_x_sh h_sh c1) gX5_element_X5_shelfAt rfl rfl rfl (by decide +kernel) ⟨(Nat.le_of_ble_eq_true rfl), (Nat.le_of_ble_eq_true rfl)⟩ h_x rfl rfl hl.1 rfl (Nat.le_of_ble_eq_true rfl) dX5_element_2 ⟨(Nat.le_of_ble_eq_true rfl), (Nat.le_of_ble_eq_true rfl)⟩) w hA (fun H locs w => ?_)
    refine lv_astore_n (lv' := [(3, .ref (sh (d.toNatClampNeg))), (0, .ref x), (1, .int d), (2, .int i0)]) hx hb dX5_element_5 rfl hl (by decide) rfl (fun ls hl => ?_)
    refine lv_aload_n hx hb dX5_element_6 rfl (lv_at hl 0 rfl) ?_
    refine lv_ifnonnull (tgt := 20) hx hb dX5_element_7 (by decide) ?_
    refine lv_aload_n hx hb dX5_element_20 rfl (lv_at hl 0 rfl) ?_
    refine w_get (v := .int (sh_ho (d.toNatClampNeg))) hx hb hts i_X4 hown hK w (h_sh (d.toNatClampNeg) (by omega)) rfl 0 (by decide) (hts _ m_0) rfl dX5_element_21 ?_
    refine lv_iconst (v := 2) hx hb dX5_element_24 (by decide) ?_
    refine lv_icmp_eq (tgt := 39) hx hb dX5_element_25 (by decide) (fun c2 => ?_) (fun c2 => ?_)
    · skip
      have hq := hq.trans (if_pos c2)
      refine lv_aload_n hx hb dX5_element_39 rfl (lv_at hl 0 rfl) ?_
      refine w_get (v := .ref (rw (d.toNatClampNeg))) hx hb hts i_X4 hown hK w (h_sh (d.toNatClampNeg) (by omega)) rfl 1 (by decide) (hts _ m_2) rfl dX5_element_40 ?_
      refine lv_iload_n hx hb dX5_element_43 rfl (lv_at hl 3 rfl) ?_
      refine w_finI (w_runV (rm := ({ frames := 0, cells := 0, slots := 0, locals := 0 } : Room)) (As := [.int i0]) (rest := []) (n := 1) hx hb hml hts hown hK w (c_X3_hasPlace l D cI cP cS cL L _ (rw (d.toNatClampNeg)) i0 (el (d.toNatClampNeg)) (rw_so (d.toNatClampNeg)) (rw_sz (d.toNatClampNeg)) (h_rw (d.toNatClampNeg) (by omega))) gX5_element_X3_hasPlace rfl rfl rfl (by decide +kernel) ⟨(Nat.le_of_ble_eq_true rfl), (Nat.le_of_ble_eq_true rfl)⟩ (h_rw (d.toNatClampNeg) (by omega)) rfl rfl hl.1 rfl (Nat.le_of_ble_eq_true rfl) dX5_element_44 ⟨(Nat.le_of_ble_eq_true rfl), (Nat.le_of_ble_eq_true rfl)⟩) w hA (fun H locs w => ?_)
      refine lv_if_ne (tgt := 61) hx hb dX5_element_47 (by decide) (fun c3 => ?_) (fun c3 => ?_)
      · skip
        have hq := hq.trans (if_neg c3)
        refine lv_aload_n hx hb dX5_element_61 rfl (lv_at hl 0 rfl) ?_
        refine w_get (v := .ref (rw (d.toNatClampNeg))) hx hb hts i_X4 hown hK w (h_sh (d.toNatClampNeg) (by omega)) rfl 1 (by decide) (hts _ m_2) rfl dX5_element_62 ?_
        refine lv_iload_n hx hb dX5_element_65 rfl (lv_at hl 3 rfl) ?_
        refine w_finI (w_runV (rm := ({ frames := 0, cells := 0, slots := 0, locals := 0 } : Room)) (As := [.int i0]) (rest := []) (n := 1) hx hb hml hts hown hK w (c_X3_at l D cI cP cS cL L _ (rw (d.toNatClampNeg)) i0 (el (d.toNatClampNeg)) (rw_so (d.toNatClampNeg)) (rw_sz (d.toNatClampNeg)) 100 (el_f (d.toNatClampNeg)) (h_rw (d.toNatClampNeg) (by omega)) (h_el (d.toNatClampNeg) (by omega)) (hzs (d.toNatClampNeg) (by omega))) gX5_element_X3_at rfl rfl rfl (by decide +kernel) ⟨(Nat.le_of_ble_eq_true rfl), (Nat.le_of_ble_eq_true rfl)⟩ (h_rw (d.toNatClampNeg) (by omega)) rfl rfl hl.1 rfl (Nat.le_of_ble_eq_true rfl) dX5_element_66 ⟨(Nat.le_of_ble_eq_true rfl), (Nat.le_of_ble_eq_true rfl)⟩) w hA (fun H locs w => ?_)
        refine lv_i2l (v := ((f_X3_at i0 (rw_sz (d.toNatClampNeg)) (el_f (d.toNatClampNeg))).toInt64)) hx hb dX5_element_69 rfl ?_
        exact vx_ret (w_lret hx hb hr hlocks w ⟨hq, rfl, rfl⟩ (Nat.le_of_ble_eq_true rfl) (Nat.le_of_ble_eq_true rfl) dX5_element_70)
      · skip
        have hq := hq.trans (if_pos c3)
        exact vx_throwSW (own := RX5) (cls := xISE) (text := "no such place") (names := xNM) (ic := 261) (sa := sa 5) hx hb hst hown (by decide) (by decide) (hts _ m_3) (hts _ m_4) hX.1.2.2.2.2.2 (wx_hat (fun w h => List.mem_cons_of_mem _ (List.mem_append_right _ h)) (by decide +kernel) hts hX) (by decide +kernel) hX.2.2.2.1 hX.2.2.2.2 w.2.2 (hl.1.trans hml.symm) dX5_element_50 dX5_element_53 dX5_element_54 dX5_element_57 dX5_element_60 (fun x h => (htab x h).elim) (Nat.le_of_ble_eq_true rfl) (Nat.le_of_ble_eq_true rfl) (Nat.le_of_ble_eq_true rfl) (Nat.le_of_ble_eq_true rfl) hlocks (fun t _ h1 h2 => wx_thrown w ⟨by rw [hq]; decide, by rw [hq]; exact exn2.symm, rfl, rfl⟩ t h1 h2) w.2.2.2.2 (Nat.le_of_ble_eq_true rfl) (Nat.le_of_ble_eq_true rfl)
    · skip
      have hq := hq.trans (if_neg c2)
      exact vx_throwSW (own := RX5) (cls := xISE) (text := "no row") (names := xNM) (ic := 261) (sa := sa 4) hx hb hst hown (by decide) (by decide) (hts _ m_3) (hts _ m_4) hX.1.2.2.2.2.1 (wx_hat (fun w h => List.mem_cons_of_mem _ (List.mem_append_right _ h)) (by decide +kernel) hts hX) (by decide +kernel) hX.2.2.2.1 hX.2.2.2.2 w.2.2 (hl.1.trans hml.symm) dX5_element_28 dX5_element_31 dX5_element_32 dX5_element_35 dX5_element_38 (fun x h => (htab x h).elim) (Nat.le_of_ble_eq_true rfl) (Nat.le_of_ble_eq_true rfl) (Nat.le_of_ble_eq_true rfl) (Nat.le_of_ble_eq_true rfl) hlocks (fun t _ h1 h2 => wx_thrown w ⟨by rw [hq]; decide, by rw [hq]; exact exn2.symm, rfl, rfl⟩ t h1 h2) w.2.2.2.2 (Nat.le_of_ble_eq_true rfl) (Nat.le_of_ble_eq_true rfl)
  · skip
    have hq := hq.trans (if_neg c1)
    refine w_finQ (v := .null) (by unfold f_X5_shelfAt_none; first | rfl | (split <;> rfl)) (w_runV (rm := ({ frames := 0, cells := 0, slots := 0, locals := 0 } : Room)) (As := [.int d]) (rest := []) (n := 1) hx hb hml hts hown hK w (c_X5_shelfAt_none l D cI cP cS cL L _ x d x_no x_ke x_mi x_im x_sh x_co x_ot sh h_x h_x_sh c1) gX5_element_X5_shelfAt rfl rfl rfl (by decide +kernel) ⟨(Nat.le_of_ble_eq_true rfl), (Nat.le_of_ble_eq_true rfl)⟩ h_x rfl rfl hl.1 rfl (Nat.le_of_ble_eq_true rfl) dX5_element_2 ⟨(Nat.le_of_ble_eq_true rfl), (Nat.le_of_ble_eq_true rfl)⟩) w hA (fun H locs w => ?_)
    refine lv_astore_nN (lv' := [(3, .null), (0, .ref x), (1, .int d), (2, .int i0)]) hx hb dX5_element_5 rfl hl (by decide) rfl (fun ls hl => ?_)
    refine lv_aload_nN hx hb dX5_element_6 rfl (lv_at hl 0 rfl) ?_
    refine lv_ifnonnullN hx hb dX5_element_7 ?_
    exact vx_throwS (own := RX5) (cls := xIAE) (text := "no such shelf") (names := xNM) (ic := 254) (sa := sa 3) hx hb hst hown (by decide) (by decide) (hts _ m_5) (hts _ m_6) hX.1.2.2.2.1 (wx_hat (fun w h => List.mem_cons_of_mem _ (List.mem_append_left _ (List.mem_append_right _ h))) (by decide +kernel) hts hX) (by decide +kernel) hX.2.2.2.1 hX.2.2.2.2 w.2.2 (hl.1.trans hml.symm) dX5_element_10 dX5_element_13 dX5_element_14 dX5_element_16 dX5_element_19 (fun x h => (htab x h).elim) (Nat.le_of_ble_eq_true rfl) (Nat.le_of_ble_eq_true rfl) (Nat.le_of_ble_eq_true rfl) (Nat.le_of_ble_eq_true rfl) hlocks (fun t _ h1 h2 => wx_thrown w ⟨by rw [hq]; decide, by rw [hq]; exact exn1.symm, rfl, rfl⟩ t h1 h2) w.2.2.2.2 (Nat.le_of_ble_eq_true rfl) (Nat.le_of_ble_eq_true rfl)
def f_X5_toss (d : Int32) (sh_ho : Nat → Int32) (sp_nu : Nat → Int32) (sp_ki : Nat → Int32) (sp_st : Nat → Int32) (sp_sl : Nat → Int32) : Int32 := if (¬ d < 0 ∧ ¬ (8 : Int32) ≤ d) then (if (f_X5_personRefusal (sh_ho (d.toNatClampNeg))) = (0 : Int32) then (if (f_X1_fail (sp_ki (d.toNatClampNeg)) (sp_st (d.toNatClampNeg))) = (0 : Int32) then (-15) else (if (f_X1_fail (sp_ki (d.toNatClampNeg)) (sp_st (d.toNatClampNeg))) = (3 : Int32) then (200 + (f_X1_depthOfKind (sp_ki (d.toNatClampNeg)) (sp_st (d.toNatClampNeg)) (sp_sl (d.toNatClampNeg)))) else if (f_X1_fail (sp_ki (d.toNatClampNeg)) (sp_st (d.toNatClampNeg))) = (1 : Int32) then (100 + (sp_nu (d.toNatClampNeg))) else (sp_nu (d.toNatClampNeg)))) else (f_X5_personRefusal (sh_ho (d.toNatClampNeg)))) else (-1)
set_option maxHeartbeats 400000 in
set_option maxRecDepth 100000 in
theorem c_X5_toss (l : Launch) (hst : l.stackTraces = false) (D : va_G) (cI cP cS cL : ClassId) (sa : Nat → Nat) (L : List Nat) (F : Nat → va_E) (x : Nat) (d : Int32) (x_no : Nat) (x_ke : Nat) (x_mi : Nat) (x_im : Int32) (x_sh : Nat) (x_co : Nat) (x_ot : Nat) (sh : Nat → Nat) (sh_ho : Nat → Int32) (rw : Nat → Nat) (sp : Nat → Nat) (sp_nu : Nat → Int32) (sp_ki : Nat → Int32) (sp_st : Nat → Int32) (sp_sl : Nat → Int32) (h_x : wi L F x (eX x_no x_ke x_mi x_im x_sh x_co x_ot)) (h_x_sh : wi L F x_sh (eQ cS 8 (fun i => some (sh i)))) (h_sh : ∀ i, i < 8 → wi L F (sh i) (eS (sh_ho i) (rw i) (sp i))) (h_sp : ∀ i, i < 8 → wi L F (sp i) (eP (sp_nu i) (sp_ki i) (sp_st i) (sp_sl i))) : wMx l D cI cP cS cL sa yX5_toss wsX5_toss ({ frames := 7, cells := 1, slots := 6, locals := 102 } : Room) [.ref x, .int d] L F (fun A => wQi D A (fun r1 L1 F1 => r1 = (f_X5_toss d sh_ho sp_nu sp_ki sp_st sp_sl) ∧ L1 = L ∧ F1 = F)) (fun _ _ _ => False) 1 6 := by
  refine wMx.ofH (cc := cX5_toss) (maxL := 5) (ret := (some .int)) (by decide) rfl (Nat.le_of_ble_eq_true rfl) ?_
  intro pZ eZ sZ mZ below meth cZ A ls C htab hX hl w
  obtain ⟨hx, hb, hr, hml, hts, hown, hlocks, hK, hA, hin⟩ := C
  have hown : sZ.vm.findClass RX5 = some mZ.cls := hown
  have hl : lv_has ls 5 [(0, .ref x), (1, .int d)] := hl
  have m_0 : ((.fieldLink RX5 234 "TwoThirds$Shelf" "person" "LTwoThirds$Person;") : Cond) ∈ wsX5_toss := by decide +kernel
  have i_X4 : ∀ w ∈ wsX40, w ∈ wsX5_toss := by decide +kernel
  have m_2 : ((.classLink RX5 286 xUOE) : Cond) ∈ wsX5_toss := by decide +kernel
  have m_3 : ((.classLink RX5 250 xIAE) : Cond) ∈ wsX5_toss := by decide +kernel
  have m_4 : ((.fieldLink RX5 288 "TwoThirds$Person" "number" "I") : Cond) ∈ wsX5_toss := by decide +kernel
  have i_X1 : ∀ w ∈ wsX10, w ∈ wsX5_toss := by decide +kernel
  have m_6 : ((.classLink RX5 257 xISE) : Cond) ∈ wsX5_toss := by decide +kernel
  have hq : f_X5_toss d sh_ho sp_nu sp_ki sp_st sp_sl = f_X5_toss d sh_ho sp_nu sp_ki sp_st sp_sl := rfl
  refine lv_aload_n hx hb dX5_toss_0 rfl (lv_at hl 0 rfl) ?_
  refine lv_iload_n hx hb dX5_toss_1 rfl (lv_at hl 1 rfl) ?_
  by_cases c1 : (¬ d < 0 ∧ ¬ (8 : Int32) ≤ d)
  · skip
    have hq := hq.trans (if_pos c1)
    have hlt_C : d.toNatClampNeg < 8 := w_okP (n := 8) c1 (by decide)
    refine w_finQ (v := .ref (sh (d.toNatClampNeg))) rfl (w_runV (rm := ({ frames := 0, cells := 0, slots := 0, locals := 0 } : Room)) (As := [.int d]) (rest := []) (n := 1) hx hb hml hts hown hK w (c_X5_shelfAt_some l D cI cP cS cL L _ x d x_no x_ke x_mi x_im x_sh x_co x_ot sh sh_ho rw sp h_x h_x_sh h_sh c1) gX5_toss_X5_shelfAt rfl rfl rfl (by decide +kernel) ⟨(Nat.le_of_ble_eq_true rfl), (Nat.le_of_ble_eq_true rfl)⟩ h_x rfl rfl hl.1 rfl (Nat.le_of_ble_eq_true rfl) dX5_toss_2 ⟨(Nat.le_of_ble_eq_true rfl), (Nat.le_of_ble_eq_true rfl)⟩) w hA (fun H locs w => ?_)
    refine lv_astore_n (lv' := [(2, .ref (sh (d.toNatClampNeg))), (0, .ref x), (1, .int d)]) hx hb dX5_toss_5 rfl hl (by decide) rfl (fun ls hl => ?_)
    refine lv_aload_n hx hb dX5_toss_6 rfl (lv_at hl 0 rfl) ?_
    refine w_finI (w_runS (rm := ({ frames := 1, cells := 0, slots := 0, locals := 21 } : Room)) (As := [.ref (sh (d.toNatClampNeg))]) (rest := []) (n := 1) hx hb hml hts hown hK w (c_X5_personRefusal l D cI cP cS cL L _ (sh (d.toNatClampNeg)) (sh_ho (d.toNatClampNeg)) (rw (d.toNatClampNeg)) (sp (d.toNatClampNeg)) (h_sh (d.toNatClampNeg) (by omega))) gX5_toss_X5_personRefusal rfl rfl rfl (by decide +kernel) ⟨(Nat.le_of_ble_eq_true rfl), (Nat.le_of_ble_eq_true rfl)⟩ rfl hl.1 rfl (Nat.le_of_ble_eq_true rfl) dX5_toss_7 ⟨(Nat.le_of_ble_eq_true rfl), (Nat.le_of_ble_eq_true rfl)⟩) w hA (fun H locs w => ?_)
    refine lv_istore_n (lv' := [(3, .int (f_X5_personRefusal (sh_ho (d.toNatClampNeg)))), (2, .ref (sh (d.toNatClampNeg))), (0, .ref x), (1, .int d)]) hx hb dX5_toss_10 rfl hl (by decide) rfl (fun ls hl => ?_)
    refine lv_iload_n hx hb dX5_toss_11 rfl (lv_at hl 0 rfl) ?_
    refine lv_if_eq (tgt := 17) hx hb dX5_toss_12 (by decide) (fun c2 => ?_) (fun c2 => ?_)
    · skip
      have hq := hq.trans (if_pos c2)
      refine lv_aload_n hx hb dX5_toss_17 rfl (lv_at hl 1 rfl) ?_
      refine w_get (v := .ref (sp (d.toNatClampNeg))) hx hb hts i_X4 hown hK w (h_sh (d.toNatClampNeg) (by omega)) rfl 2 (by decide) (hts _ m_0) rfl dX5_toss_18 ?_
      refine wx_finv (wx_runV (rm := ({ frames := 6, cells := 1, slots := 6, locals := 82 } : Room)) (As := []) (rest := []) (n := 0) hx hb hml hts hown hK w hA hX (c_X1_fail l hst D cI cP cS cL sa L _ (sp (d.toNatClampNeg)) (sp_nu (d.toNatClampNeg)) (sp_ki (d.toNatClampNeg)) (sp_st (d.toNatClampNeg)) (sp_sl (d.toNatClampNeg)) (h_sp (d.toNatClampNeg) (by omega))) gX5_toss_X1_fail rfl rfl rfl (by decide +kernel) ⟨(Nat.le_of_ble_eq_true rfl), (Nat.le_of_ble_eq_true rfl)⟩ (h_sp (d.toNatClampNeg) (by omega)) rfl rfl hl.1 rfl (Nat.le_of_ble_eq_true rfl) dX5_toss_21 ⟨(Nat.le_of_ble_eq_true rfl), (Nat.le_of_ble_eq_true rfl)⟩) w hA (fun E ce q9 L9 F9 H locs hp w hc9 hv9 hcl9 => ?_) (fun L9 F9 H locs hp w => ?_)
      · obtain ⟨hne9, hE9, hL9, hF9⟩ := hp
        rw [hL9, hF9] at w
        have hq := hq.trans (if_neg hne9)
        by_cases c90 : (f_X1_fail (sp_ki (d.toNatClampNeg)) (sp_st (d.toNatClampNeg))) = 3
        · skip
          have hq := hq.trans (if_pos c90)
          rw [c90] at hE9
          have hE9 := hE9.trans exn3
          subst hE9
          refine vx_catch (own := RX5) (name := xUOE) hown [] { startPc := 17, endPc := 24, handlerPc := 27, catchType := 286 } [{ startPc := 17, endPc := 24, handlerPc := 41, catchType := 250 }, { startPc := 17, endPc := 24, handlerPc := 54, catchType := 257 }] (by rw [htab]; rfl) (fun z hz => by cases hz) rfl (by decide) (hts _ m_2) (va_tabs (wBad_tabs _ (by decide +kernel)) rfl (hX.2.1 (.castable xUOE xUOE) (by decide +kernel))) hc9 hv9 hcl9 ?_
          refine lv_astore (lv' := [(4, .ref q9), (3, .int (f_X5_personRefusal (sh_ho (d.toNatClampNeg)))), (2, .ref (sh (d.toNatClampNeg))), (0, .ref x), (1, .int d)]) hx hb dX5_toss_27 hl (by decide) rfl (fun ls hl => ?_)
          refine lv_sipush (v := 200) hx hb dX5_toss_29 (by decide) ?_
          refine lv_aload_n hx hb dX5_toss_32 rfl (lv_at hl 2 rfl) ?_
          refine w_get (v := .ref (sp (d.toNatClampNeg))) hx hb hts i_X4 hown hK w (h_sh (d.toNatClampNeg) (by omega)) rfl 2 (by decide) (hts _ m_0) rfl dX5_toss_33 ?_
          refine w_finI (w_runV (rm := ({ frames := 0, cells := 0, slots := 0, locals := 0 } : Room)) (As := []) (rest := [.int 200]) (n := 0) hx hb hml hts hown hK w (c_X1_depthOfKind l D cI cP cS cL L _ (sp (d.toNatClampNeg)) (sp_nu (d.toNatClampNeg)) (sp_ki (d.toNatClampNeg)) (sp_st (d.toNatClampNeg)) (sp_sl (d.toNatClampNeg)) (h_sp (d.toNatClampNeg) (by omega))) gX5_toss_X1_depthOfKind rfl rfl rfl (by decide +kernel) ⟨(Nat.le_of_ble_eq_true rfl), (Nat.le_of_ble_eq_true rfl)⟩ (h_sp (d.toNatClampNeg) (by omega)) rfl rfl hl.1 rfl (Nat.le_of_ble_eq_true rfl) dX5_toss_36 ⟨(Nat.le_of_ble_eq_true rfl), (Nat.le_of_ble_eq_true rfl)⟩) w hA (fun H locs w => ?_)
          refine lv_iadd hx hb dX5_toss_39 ?_
          exact vx_ret (w_iret hx hb hr hlocks w ⟨hq.symm, rfl, rfl⟩ (Nat.le_of_ble_eq_true rfl) (Nat.le_of_ble_eq_true rfl) dX5_toss_40)
        have hq := hq.trans (if_neg c90)
        by_cases c91 : (f_X1_fail (sp_ki (d.toNatClampNeg)) (sp_st (d.toNatClampNeg))) = 1
        · skip
          have hq := hq.trans (if_pos c91)
          rw [c91] at hE9
          have hE9 := hE9.trans exn1
          subst hE9
          refine vx_catch (own := RX5) (name := xIAE) hown [{ startPc := 17, endPc := 24, handlerPc := 27, catchType := 286 }] { startPc := 17, endPc := 24, handlerPc := 41, catchType := 250 } [{ startPc := 17, endPc := 24, handlerPc := 54, catchType := 257 }] (by rw [htab]; rfl) (fun z hz => by rcases List.mem_cons.mp hz with rfl | hz; exact Or.inr ⟨by decide, xUOE, (hts _ m_2), hX.2.2.1.1⟩; cases hz) rfl (by decide) (hts _ m_3) (va_tabs (wBad_tabs _ (by decide +kernel)) rfl (hX.2.1 (.castable xIAE xIAE) (by decide +kernel))) hc9 hv9 hcl9 ?_
          refine lv_astore (lv' := [(4, .ref q9), (3, .int (f_X5_personRefusal (sh_ho (d.toNatClampNeg)))), (2, .ref (sh (d.toNatClampNeg))), (0, .ref x), (1, .int d)]) hx hb dX5_toss_41 hl (by decide) rfl (fun ls hl => ?_)
          refine lv_bipush (v := 100) hx hb dX5_toss_43 (by decide) ?_
          refine lv_aload_n hx hb dX5_toss_45 rfl (lv_at hl 2 rfl) ?_
          refine w_get (v := .ref (sp (d.toNatClampNeg))) hx hb hts i_X4 hown hK w (h_sh (d.toNatClampNeg) (by omega)) rfl 2 (by decide) (hts _ m_0) rfl dX5_toss_46 ?_
          refine w_get (v := .int (sp_nu (d.toNatClampNeg))) hx hb hts i_X1 hown hK w (h_sp (d.toNatClampNeg) (by omega)) rfl 0 (by decide) (hts _ m_4) rfl dX5_toss_49 ?_
          refine lv_iadd hx hb dX5_toss_52 ?_
          exact vx_ret (w_iret hx hb hr hlocks w ⟨hq.symm, rfl, rfl⟩ (Nat.le_of_ble_eq_true rfl) (Nat.le_of_ble_eq_true rfl) dX5_toss_53)
        have hq := hq.trans (if_neg c91)
        have c92 : (f_X1_fail (sp_ki (d.toNatClampNeg)) (sp_st (d.toNatClampNeg))) = 2 := by have h9 := fail_cases (sp_ki (d.toNatClampNeg)) (sp_st (d.toNatClampNeg)); rcases h9 with h | h | h | h <;> first | exact absurd h hne9 | exact h | exact absurd h (by assumption)
        rw [c92] at hE9
        have hE9 := hE9.trans exn2
        subst hE9
        refine vx_catch (own := RX5) (name := xISE) hown [{ startPc := 17, endPc := 24, handlerPc := 27, catchType := 286 }, { startPc := 17, endPc := 24, handlerPc := 41, catchType := 250 }] { startPc := 17, endPc := 24, handlerPc := 54, catchType := 257 } [] (by rw [htab]; rfl) (fun z hz => by rcases List.mem_cons.mp hz with rfl | hz; exact Or.inr ⟨by decide, xUOE, (hts _ m_2), hX.2.2.1.2.1⟩; rcases List.mem_cons.mp hz with rfl | hz; exact Or.inr ⟨by decide, xIAE, (hts _ m_3), hX.2.2.1.2.2⟩; cases hz) rfl (by decide) (hts _ m_6) (va_tabs (wBad_tabs _ (by decide +kernel)) rfl (hX.2.1 (.castable xISE xISE) (by decide +kernel))) hc9 hv9 hcl9 ?_
        refine lv_astore (lv' := [(4, .ref q9), (3, .int (f_X5_personRefusal (sh_ho (d.toNatClampNeg)))), (2, .ref (sh (d.toNatClampNeg))), (0, .ref x), (1, .int d)]) hx hb dX5_toss_54 hl (by decide) rfl (fun ls hl => ?_)
        refine lv_aload_n hx hb dX5_toss_56 rfl (lv_at hl 2 rfl) ?_
        refine w_get (v := .ref (sp (d.toNatClampNeg))) hx hb hts i_X4 hown hK w (h_sh (d.toNatClampNeg) (by omega)) rfl 2 (by decide) (hts _ m_0) rfl dX5_toss_57 ?_
        refine w_get (v := .int (sp_nu (d.toNatClampNeg))) hx hb hts i_X1 hown hK w (h_sp (d.toNatClampNeg) (by omega)) rfl 0 (by decide) (hts _ m_4) rfl dX5_toss_60 ?_
        exact vx_ret (w_iret hx hb hr hlocks w ⟨hq.symm, rfl, rfl⟩ (Nat.le_of_ble_eq_true rfl) (Nat.le_of_ble_eq_true rfl) dX5_toss_63)
      · obtain ⟨h09, hL9, hF9⟩ := hp
        rw [hL9, hF9] at w
        have hq := hq.trans (if_pos h09)
        refine lv_goto (tgt := 64) hx hb dX5_toss_24 (by decide) ?_
        refine lv_bipush (v := (-15)) hx hb dX5_toss_64 (by decide) ?_
        exact vx_ret (w_iret hx hb hr hlocks w ⟨hq.symm, rfl, rfl⟩ (Nat.le_of_ble_eq_true rfl) (Nat.le_of_ble_eq_true rfl) dX5_toss_66)
    · skip
      have hq := hq.trans (if_neg c2)
      refine lv_iload_n hx hb dX5_toss_15 rfl (lv_at hl 0 rfl) ?_
      exact vx_ret (w_iret hx hb hr hlocks w ⟨hq.symm, rfl, rfl⟩ (Nat.le_of_ble_eq_true rfl) (Nat.le_of_ble_eq_true rfl) dX5_toss_16)
  · skip
    have hq := hq.trans (if_neg c1)
    refine w_finQ (v := .null) (by unfold f_X5_shelfAt_none; first | rfl | (split <;> rfl)) (w_runV (rm := ({ frames := 0, cells := 0, slots := 0, locals := 0 } : Room)) (As := [.int d]) (rest := []) (n := 1) hx hb hml hts hown hK w (c_X5_shelfAt_none l D cI cP cS cL L _ x d x_no x_ke x_mi x_im x_sh x_co x_ot sh h_x h_x_sh c1) gX5_toss_X5_shelfAt rfl rfl rfl (by decide +kernel) ⟨(Nat.le_of_ble_eq_true rfl), (Nat.le_of_ble_eq_true rfl)⟩ h_x rfl rfl hl.1 rfl (Nat.le_of_ble_eq_true rfl) dX5_toss_2 ⟨(Nat.le_of_ble_eq_true rfl), (Nat.le_of_ble_eq_true rfl)⟩) w hA (fun H locs w => ?_)
    refine lv_astore_nN (lv' := [(2, .null), (0, .ref x), (1, .int d)]) hx hb dX5_toss_5 rfl hl (by decide) rfl (fun ls hl => ?_)
    refine lv_aload_nN hx hb dX5_toss_6 rfl (lv_at hl 0 rfl) ?_
    refine w_finI (r := (-1)) (w_runS (rm := ({ frames := 1, cells := 0, slots := 0, locals := 21 } : Room)) (As := [.null]) (rest := []) (n := 1) hx hb hml hts hown hK w (c_X5_personRefusal_n l D cI cP cS cL L _  ) gX5_toss_X5_personRefusal rfl rfl rfl (by decide +kernel) ⟨(Nat.le_of_ble_eq_true rfl), (Nat.le_of_ble_eq_true rfl)⟩ rfl hl.1 rfl (Nat.le_of_ble_eq_true rfl) dX5_toss_7 ⟨(Nat.le_of_ble_eq_true rfl), (Nat.le_of_ble_eq_true rfl)⟩) w hA (fun H locs w => ?_)
    refine lv_istore_n (lv' := [(3, .int (-1)), (2, .null), (0, .ref x), (1, .int d)]) hx hb dX5_toss_10 rfl hl (by decide) rfl (fun ls hl => ?_)
    refine lv_iload_n hx hb dX5_toss_11 rfl (lv_at hl 0 rfl) ?_
    refine lv_if_eq (tgt := 17) hx hb dX5_toss_12 (by decide) (fun c => absurd c (by decide)) (fun _ => ?_)
    refine lv_iload_n hx hb dX5_toss_15 rfl (lv_at hl 0 rfl) ?_
    exact vx_ret (w_iret hx hb hr hlocks w ⟨hq.symm, rfl, rfl⟩ (Nat.le_of_ble_eq_true rfl) (Nat.le_of_ble_eq_true rfl) dX5_toss_16)
