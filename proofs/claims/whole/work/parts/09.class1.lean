def f_X5_shelfAt_some (i0 : Int32) (sh : Nat → Nat) : Option Nat := (some (sh (i0.toNatClampNeg)))
set_option maxHeartbeats 400000 in
set_option maxRecDepth 100000 in
theorem c_X5_shelfAt_some (l : Launch) (D : va_G) (cI cP cS cL : ClassId) (L : List Nat) (F : Nat → va_E) (x : Nat) (i0 : Int32) (x_no : Nat) (x_ke : Nat) (x_mi : Nat) (x_im : Int32) (x_sh : Nat) (x_co : Nat) (x_ot : Nat) (sh : Nat → Nat) (sh_ho : Nat → Int32) (rw : Nat → Nat) (sp : Nat → Nat) (h_x : wi L F x (eX x_no x_ke x_mi x_im x_sh x_co x_ot)) (h_x_sh : wi L F x_sh (eQ cS 8 (fun i => some (sh i)))) (h_sh : ∀ i, i < 8 → wi L F (sh i) (eS (sh_ho i) (rw i) (sp i))) (hc : ¬ i0 < 0 ∧ ¬ (8 : Int32) ≤ i0) : wMQ l D cI cP cS cL yX5_shelfAt wsX5_shelfAt ({ frames := 0, cells := 0, slots := 0, locals := 0 } : Room) [.ref x, .int i0] L F (f_X5_shelfAt_some i0 sh) F := by
  refine wM.of (cc := cX5_shelfAt) (maxL := 2) (ret := (some (.object "TwoThirds$Shelf"))) (by decide) rfl (Nat.le_of_ble_eq_true rfl) ?_
  intro pZ eZ sZ mZ below meth cZ A ls C hl w
  obtain ⟨hx, hb, hr, hml, hts, hown, hlocks, hK, hA, hin⟩ := C
  have hown : sZ.vm.findClass RX5 = some mZ.cls := hown
  have hl : lv_has ls 2 [(0, .ref x), (1, .int i0)] := hl
  have m_0 : ((.fieldLink RX5 24 "TwoThirds" "shelves" "[LTwoThirds$Shelf;") : Cond) ∈ wsX5_shelfAt := by decide +kernel
  have i_X5 : ∀ w ∈ wsX50, w ∈ wsX5_shelfAt := by decide +kernel
  have hq : f_X5_shelfAt_some i0 sh = f_X5_shelfAt_some i0 sh := rfl
  refine lv_iload_n hx hb dX5_shelfAt_0 rfl (lv_at hl 1 rfl) ?_
  refine lv_if_lt (tgt := 22) hx hb dX5_shelfAt_1 (by decide) (fun c => absurd c hc.1) (fun _ => ?_)
  refine lv_iload_n hx hb dX5_shelfAt_4 rfl (lv_at hl 1 rfl) ?_
  refine lv_aload_n hx hb dX5_shelfAt_5 rfl (lv_at hl 0 rfl) ?_
  refine w_get (v := .ref x_sh) hx hb hts i_X5 hown hK w h_x rfl 4 (by decide) (hts _ m_0) rfl dX5_shelfAt_6 ?_
  refine w_len (v := 8) hx hb hK w h_x_sh 2 rfl rfl dX5_shelfAt_9 ?_
  refine lv_icmp_ge (tgt := 22) hx hb dX5_shelfAt_10 (by decide) (fun c => absurd c hc.2) (fun _ => ?_)
  refine lv_aload_n hx hb dX5_shelfAt_13 rfl (lv_at hl 0 rfl) ?_
  refine w_get (v := .ref x_sh) hx hb hts i_X5 hown hK w h_x rfl 4 (by decide) (hts _ m_0) rfl dX5_shelfAt_14 ?_
  refine lv_iload_n hx hb dX5_shelfAt_17 rfl (lv_at hl 1 rfl) ?_
  refine w_qldS (v := .ref (sh (i0.toNatClampNeg))) hx hb hK w h_x_sh (w_incP hc (by decide)) rfl dX5_shelfAt_18 ?_
  refine lv_goto (tgt := 23) hx hb dX5_shelfAt_19 (by decide) ?_
  exact w_qret hx hb hr hlocks w (r := (some (sh (i0.toNatClampNeg)))) rfl ⟨hq.symm, rfl, rfl⟩ (Nat.le_refl _) (Nat.le_refl _) dX5_shelfAt_23
def f_X5_shelfAt_none (i0 : Int32) : Option Nat := if i0 < (0 : Int32) then none else none
set_option maxHeartbeats 400000 in
set_option maxRecDepth 100000 in
theorem c_X5_shelfAt_none (l : Launch) (D : va_G) (cI cP cS cL : ClassId) (L : List Nat) (F : Nat → va_E) (x : Nat) (i0 : Int32) (x_no : Nat) (x_ke : Nat) (x_mi : Nat) (x_im : Int32) (x_sh : Nat) (x_co : Nat) (x_ot : Nat) (sh : Nat → Nat) (h_x : wi L F x (eX x_no x_ke x_mi x_im x_sh x_co x_ot)) (h_x_sh : wi L F x_sh (eQ cS 8 (fun i => some (sh i)))) (hc : ¬ (¬ i0 < 0 ∧ ¬ (8 : Int32) ≤ i0)) : wMQ l D cI cP cS cL yX5_shelfAt wsX5_shelfAt ({ frames := 0, cells := 0, slots := 0, locals := 0 } : Room) [.ref x, .int i0] L F (f_X5_shelfAt_none i0) F := by
  refine wM.of (cc := cX5_shelfAt) (maxL := 2) (ret := (some (.object "TwoThirds$Shelf"))) (by decide) rfl (Nat.le_of_ble_eq_true rfl) ?_
  intro pZ eZ sZ mZ below meth cZ A ls C hl w
  obtain ⟨hx, hb, hr, hml, hts, hown, hlocks, hK, hA, hin⟩ := C
  have hown : sZ.vm.findClass RX5 = some mZ.cls := hown
  have hl : lv_has ls 2 [(0, .ref x), (1, .int i0)] := hl
  have m_0 : ((.fieldLink RX5 24 "TwoThirds" "shelves" "[LTwoThirds$Shelf;") : Cond) ∈ wsX5_shelfAt := by decide +kernel
  have i_X5 : ∀ w ∈ wsX50, w ∈ wsX5_shelfAt := by decide +kernel
  have hq : f_X5_shelfAt_none i0 = f_X5_shelfAt_none i0 := rfl
  refine lv_iload_n hx hb dX5_shelfAt_0 rfl (lv_at hl 1 rfl) ?_
  refine lv_if_lt (tgt := 22) hx hb dX5_shelfAt_1 (by decide) (fun c1 => ?_) (fun c1 => ?_)
  · skip
    have hq := hq.trans (if_pos c1)
    refine lv_null hx hb dX5_shelfAt_22 ?_
    exact w_qret hx hb hr hlocks w (r := none) rfl ⟨hq.symm, rfl, rfl⟩ (Nat.le_refl _) (Nat.le_refl _) dX5_shelfAt_23
  · skip
    have hq := hq.trans (if_neg c1)
    refine lv_iload_n hx hb dX5_shelfAt_4 rfl (lv_at hl 1 rfl) ?_
    refine lv_aload_n hx hb dX5_shelfAt_5 rfl (lv_at hl 0 rfl) ?_
    refine w_get (v := .ref x_sh) hx hb hts i_X5 hown hK w h_x rfl 4 (by decide) (hts _ m_0) rfl dX5_shelfAt_6 ?_
    refine w_len (v := 8) hx hb hK w h_x_sh 2 rfl rfl dX5_shelfAt_9 ?_
    refine lv_icmp_ge (tgt := 22) hx hb dX5_shelfAt_10 (by decide) (fun _ => ?_) (fun c => absurd (Classical.byContradiction fun q => hc ⟨by assumption, q⟩) c)
    refine lv_null hx hb dX5_shelfAt_22 ?_
    exact w_qret hx hb hr hlocks w (r := none) rfl ⟨hq.symm, rfl, rfl⟩ (Nat.le_refl _) (Nat.le_refl _) dX5_shelfAt_23
def f_X5_refusalUnless_n  : Int32 := (-1)
set_option maxHeartbeats 400000 in
set_option maxRecDepth 100000 in
theorem c_X5_refusalUnless_n (l : Launch) (D : va_G) (cI cP cS cL : ClassId) (L : List Nat) (F : Nat → va_E) (holding : Int32)  : wMI l D cI cP cS cL yX5_refusalUnless wsX5_refusalUnless ({ frames := 0, cells := 0, slots := 0, locals := 0 } : Room) [.null, .int holding] L F f_X5_refusalUnless_n F := by
  refine wM.of (cc := cX5_refusalUnless) (maxL := 2) (ret := (some .int)) (by decide) rfl (Nat.le_of_ble_eq_true rfl) ?_
  intro pZ eZ sZ mZ below meth cZ A ls C hl w
  obtain ⟨hx, hb, hr, hml, hts, hown, hlocks, hK, hA, hin⟩ := C
  have hown : sZ.vm.findClass RX5 = some mZ.cls := hown
  have hl : lv_has ls 2 [(0, .null), (1, .int holding)] := hl
  have hq : f_X5_refusalUnless_n = f_X5_refusalUnless_n := rfl
  refine lv_aload_nN hx hb dX5_refusalUnless_0 rfl (lv_at hl 0 rfl) ?_
  refine lv_ifnonnullN hx hb dX5_refusalUnless_1 ?_
  refine lv_iconst (v := (-1)) hx hb dX5_refusalUnless_4 (by decide) ?_
  exact w_iret hx hb hr hlocks w ⟨hq.symm, rfl, rfl⟩ (Nat.le_refl _) (Nat.le_refl _) dX5_refusalUnless_5
def f_X5_refusalUnless (holding : Int32) (s0_ho : Int32) : Int32 := if s0_ho = (0 : Int32) then (-11) else (if s0_ho = holding then 0 else (-12))
set_option maxHeartbeats 400000 in
set_option maxRecDepth 100000 in
theorem c_X5_refusalUnless (l : Launch) (D : va_G) (cI cP cS cL : ClassId) (L : List Nat) (F : Nat → va_E) (s0 : Nat) (holding : Int32) (s0_ho : Int32) (s0_ro : Nat) (s0_pe : Nat) (h_s0 : wi L F s0 (eS s0_ho s0_ro s0_pe)) : wMI l D cI cP cS cL yX5_refusalUnless wsX5_refusalUnless ({ frames := 0, cells := 0, slots := 0, locals := 0 } : Room) [.ref s0, .int holding] L F (f_X5_refusalUnless holding s0_ho) F := by
  refine wM.of (cc := cX5_refusalUnless) (maxL := 2) (ret := (some .int)) (by decide) rfl (Nat.le_of_ble_eq_true rfl) ?_
  intro pZ eZ sZ mZ below meth cZ A ls C hl w
  obtain ⟨hx, hb, hr, hml, hts, hown, hlocks, hK, hA, hin⟩ := C
  have hown : sZ.vm.findClass RX5 = some mZ.cls := hown
  have hl : lv_has ls 2 [(0, .ref s0), (1, .int holding)] := hl
  have m_0 : ((.fieldLink RX5 231 "TwoThirds$Shelf" "holding" "I") : Cond) ∈ wsX5_refusalUnless := by decide +kernel
  have i_X4 : ∀ w ∈ wsX40, w ∈ wsX5_refusalUnless := by decide +kernel
  have hq : f_X5_refusalUnless holding s0_ho = f_X5_refusalUnless holding s0_ho := rfl
  refine lv_aload_n hx hb dX5_refusalUnless_0 rfl (lv_at hl 0 rfl) ?_
  refine lv_ifnonnull (tgt := 6) hx hb dX5_refusalUnless_1 (by decide) ?_
  refine lv_aload_n hx hb dX5_refusalUnless_6 rfl (lv_at hl 0 rfl) ?_
  refine w_get (v := .int s0_ho) hx hb hts i_X4 hown hK w h_s0 rfl 0 (by decide) (hts _ m_0) rfl dX5_refusalUnless_7 ?_
  refine lv_if_ne (tgt := 16) hx hb dX5_refusalUnless_10 (by decide) (fun c1 => ?_) (fun c1 => ?_)
  · skip
    have hq := hq.trans (if_neg c1)
    refine lv_aload_n hx hb dX5_refusalUnless_16 rfl (lv_at hl 0 rfl) ?_
    refine w_get (v := .int s0_ho) hx hb hts i_X4 hown hK w h_s0 rfl 0 (by decide) (hts _ m_0) rfl dX5_refusalUnless_17 ?_
    refine lv_iload_n hx hb dX5_refusalUnless_20 rfl (lv_at hl 1 rfl) ?_
    refine lv_icmp_ne (tgt := 28) hx hb dX5_refusalUnless_21 (by decide) (fun c2 => ?_) (fun c2 => ?_)
    · skip
      have hq := hq.trans (if_neg c2)
      refine lv_bipush (v := (-12)) hx hb dX5_refusalUnless_28 (by decide) ?_
      exact w_iret hx hb hr hlocks w ⟨hq.symm, rfl, rfl⟩ (Nat.le_refl _) (Nat.le_refl _) dX5_refusalUnless_30
    · skip
      have hq := hq.trans (if_pos c2)
      refine lv_iconst (v := 0) hx hb dX5_refusalUnless_24 (by decide) ?_
      refine lv_goto (tgt := 30) hx hb dX5_refusalUnless_25 (by decide) ?_
      exact w_iret hx hb hr hlocks w ⟨hq.symm, rfl, rfl⟩ (Nat.le_refl _) (Nat.le_refl _) dX5_refusalUnless_30
  · skip
    have hq := hq.trans (if_pos c1)
    refine lv_bipush (v := (-11)) hx hb dX5_refusalUnless_13 (by decide) ?_
    exact w_iret hx hb hr hlocks w ⟨hq.symm, rfl, rfl⟩ (Nat.le_refl _) (Nat.le_refl _) dX5_refusalUnless_15
def f_X5_rowRefusal_n  : Int32 := (-1)
set_option maxHeartbeats 400000 in
set_option maxRecDepth 100000 in
theorem c_X5_rowRefusal_n (l : Launch) (D : va_G) (cI cP cS cL : ClassId) (L : List Nat) (F : Nat → va_E)   : wMI l D cI cP cS cL yX5_rowRefusal wsX5_rowRefusal ({ frames := 1, cells := 0, slots := 0, locals := 21 } : Room) [.null] L F f_X5_rowRefusal_n F := by
  refine wM.of (cc := cX5_rowRefusal) (maxL := 1) (ret := (some .int)) (by decide) rfl (Nat.le_of_ble_eq_true rfl) ?_
  intro pZ eZ sZ mZ below meth cZ A ls C hl w
  obtain ⟨hx, hb, hr, hml, hts, hown, hlocks, hK, hA, hin⟩ := C
  have hown : sZ.vm.findClass RX5 = some mZ.cls := hown
  have hl : lv_has ls 1 [(0, .null)] := hl
  have hq : f_X5_rowRefusal_n = f_X5_rowRefusal_n := rfl
  refine lv_aload_nN hx hb dX5_rowRefusal_0 rfl (lv_at hl 0 rfl) ?_
  refine lv_iconst (v := 2) hx hb dX5_rowRefusal_1 (by decide) ?_
  refine w_finI (r := (-1)) (w_runS (rm := ({ frames := 0, cells := 0, slots := 0, locals := 0 } : Room)) (As := [.null, .int 2]) (rest := []) (n := 2) hx hb hml hts hown hK w (c_X5_refusalUnless_n l D cI cP cS cL L _ 2 ) gX5_rowRefusal_X5_refusalUnless rfl rfl rfl (by decide +kernel) ⟨(Nat.le_of_ble_eq_true rfl), (Nat.le_of_ble_eq_true rfl)⟩ rfl hl.1 rfl (Nat.le_of_ble_eq_true rfl) dX5_rowRefusal_2 ⟨(Nat.le_of_ble_eq_true rfl), (Nat.le_of_ble_eq_true rfl)⟩) w hA (fun H locs w => ?_)
  exact w_iret hx hb hr hlocks w ⟨hq.symm, rfl, rfl⟩ (Nat.le_refl _) (Nat.le_refl _) dX5_rowRefusal_5
def f_X5_rowRefusal (s0_ho : Int32) : Int32 := (f_X5_refusalUnless 2 s0_ho)
set_option maxHeartbeats 400000 in
set_option maxRecDepth 100000 in
theorem c_X5_rowRefusal (l : Launch) (D : va_G) (cI cP cS cL : ClassId) (L : List Nat) (F : Nat → va_E) (s0 : Nat) (s0_ho : Int32) (s0_ro : Nat) (s0_pe : Nat) (h_s0 : wi L F s0 (eS s0_ho s0_ro s0_pe)) : wMI l D cI cP cS cL yX5_rowRefusal wsX5_rowRefusal ({ frames := 1, cells := 0, slots := 0, locals := 21 } : Room) [.ref s0] L F (f_X5_rowRefusal s0_ho) F := by
  refine wM.of (cc := cX5_rowRefusal) (maxL := 1) (ret := (some .int)) (by decide) rfl (Nat.le_of_ble_eq_true rfl) ?_
  intro pZ eZ sZ mZ below meth cZ A ls C hl w
  obtain ⟨hx, hb, hr, hml, hts, hown, hlocks, hK, hA, hin⟩ := C
  have hown : sZ.vm.findClass RX5 = some mZ.cls := hown
  have hl : lv_has ls 1 [(0, .ref s0)] := hl
  have hq : f_X5_rowRefusal s0_ho = f_X5_rowRefusal s0_ho := rfl
  refine lv_aload_n hx hb dX5_rowRefusal_0 rfl (lv_at hl 0 rfl) ?_
  refine lv_iconst (v := 2) hx hb dX5_rowRefusal_1 (by decide) ?_
  refine w_finI (w_runS (rm := ({ frames := 0, cells := 0, slots := 0, locals := 0 } : Room)) (As := [.ref s0, .int 2]) (rest := []) (n := 2) hx hb hml hts hown hK w (c_X5_refusalUnless l D cI cP cS cL L _ s0 2 s0_ho s0_ro s0_pe h_s0) gX5_rowRefusal_X5_refusalUnless rfl rfl rfl (by decide +kernel) ⟨(Nat.le_of_ble_eq_true rfl), (Nat.le_of_ble_eq_true rfl)⟩ rfl hl.1 rfl (Nat.le_of_ble_eq_true rfl) dX5_rowRefusal_2 ⟨(Nat.le_of_ble_eq_true rfl), (Nat.le_of_ble_eq_true rfl)⟩) w hA (fun H locs w => ?_)
  exact w_iret hx hb hr hlocks w ⟨hq.symm, rfl, rfl⟩ (Nat.le_refl _) (Nat.le_refl _) dX5_rowRefusal_5
def f_X5_personRefusal_n  : Int32 := (-1)
set_option maxHeartbeats 400000 in
set_option maxRecDepth 100000 in
theorem c_X5_personRefusal_n (l : Launch) (D : va_G) (cI cP cS cL : ClassId) (L : List Nat) (F : Nat → va_E)   : wMI l D cI cP cS cL yX5_personRefusal wsX5_personRefusal ({ frames := 1, cells := 0, slots := 0, locals := 21 } : Room) [.null] L F f_X5_personRefusal_n F := by
  refine wM.of (cc := cX5_personRefusal) (maxL := 1) (ret := (some .int)) (by decide) rfl (Nat.le_of_ble_eq_true rfl) ?_
  intro pZ eZ sZ mZ below meth cZ A ls C hl w
  obtain ⟨hx, hb, hr, hml, hts, hown, hlocks, hK, hA, hin⟩ := C
  have hown : sZ.vm.findClass RX5 = some mZ.cls := hown
  have hl : lv_has ls 1 [(0, .null)] := hl
  have hq : f_X5_personRefusal_n = f_X5_personRefusal_n := rfl
  refine lv_aload_nN hx hb dX5_personRefusal_0 rfl (lv_at hl 0 rfl) ?_
  refine lv_iconst (v := 1) hx hb dX5_personRefusal_1 (by decide) ?_
  refine w_finI (r := (-1)) (w_runS (rm := ({ frames := 0, cells := 0, slots := 0, locals := 0 } : Room)) (As := [.null, .int 1]) (rest := []) (n := 2) hx hb hml hts hown hK w (c_X5_refusalUnless_n l D cI cP cS cL L _ 1 ) gX5_personRefusal_X5_refusalUnless rfl rfl rfl (by decide +kernel) ⟨(Nat.le_of_ble_eq_true rfl), (Nat.le_of_ble_eq_true rfl)⟩ rfl hl.1 rfl (Nat.le_of_ble_eq_true rfl) dX5_personRefusal_2 ⟨(Nat.le_of_ble_eq_true rfl), (Nat.le_of_ble_eq_true rfl)⟩) w hA (fun H locs w => ?_)
  exact w_iret hx hb hr hlocks w ⟨hq.symm, rfl, rfl⟩ (Nat.le_refl _) (Nat.le_refl _) dX5_personRefusal_5
def f_X5_personRefusal (s0_ho : Int32) : Int32 := (f_X5_refusalUnless 1 s0_ho)
set_option maxHeartbeats 400000 in
set_option maxRecDepth 100000 in
theorem c_X5_personRefusal (l : Launch) (D : va_G) (cI cP cS cL : ClassId) (L : List Nat) (F : Nat → va_E) (s0 : Nat) (s0_ho : Int32) (s0_ro : Nat) (s0_pe : Nat) (h_s0 : wi L F s0 (eS s0_ho s0_ro s0_pe)) : wMI l D cI cP cS cL yX5_personRefusal wsX5_personRefusal ({ frames := 1, cells := 0, slots := 0, locals := 21 } : Room) [.ref s0] L F (f_X5_personRefusal s0_ho) F := by
  refine wM.of (cc := cX5_personRefusal) (maxL := 1) (ret := (some .int)) (by decide) rfl (Nat.le_of_ble_eq_true rfl) ?_
  intro pZ eZ sZ mZ below meth cZ A ls C hl w
  obtain ⟨hx, hb, hr, hml, hts, hown, hlocks, hK, hA, hin⟩ := C
  have hown : sZ.vm.findClass RX5 = some mZ.cls := hown
  have hl : lv_has ls 1 [(0, .ref s0)] := hl
  have hq : f_X5_personRefusal s0_ho = f_X5_personRefusal s0_ho := rfl
  refine lv_aload_n hx hb dX5_personRefusal_0 rfl (lv_at hl 0 rfl) ?_
  refine lv_iconst (v := 1) hx hb dX5_personRefusal_1 (by decide) ?_
  refine w_finI (w_runS (rm := ({ frames := 0, cells := 0, slots := 0, locals := 0 } : Room)) (As := [.ref s0, .int 1]) (rest := []) (n := 2) hx hb hml hts hown hK w (c_X5_refusalUnless l D cI cP cS cL L _ s0 1 s0_ho s0_ro s0_pe h_s0) gX5_personRefusal_X5_refusalUnless rfl rfl rfl (by decide +kernel) ⟨(Nat.le_of_ble_eq_true rfl), (Nat.le_of_ble_eq_true rfl)⟩ rfl hl.1 rfl (Nat.le_of_ble_eq_true rfl) dX5_personRefusal_2 ⟨(Nat.le_of_ble_eq_true rfl), (Nat.le_of_ble_eq_true rfl)⟩) w hA (fun H locs w => ?_)
  exact w_iret hx hb hr hlocks w ⟨hq.symm, rfl, rfl⟩ (Nat.le_refl _) (Nat.le_refl _) dX5_personRefusal_5
def f_X5_twoRowsRefusal_nn  : Int32 := (-1)
set_option maxHeartbeats 400000 in
set_option maxRecDepth 100000 in
theorem c_X5_twoRowsRefusal_nn (l : Launch) (D : va_G) (cI cP cS cL : ClassId) (L : List Nat) (F : Nat → va_E)   : wMI l D cI cP cS cL yX5_twoRowsRefusal wsX5_twoRowsRefusal ({ frames := 0, cells := 0, slots := 0, locals := 0 } : Room) [.null, .null] L F f_X5_twoRowsRefusal_nn F := by
  refine wM.of (cc := cX5_twoRowsRefusal) (maxL := 2) (ret := (some .int)) (by decide) rfl (Nat.le_of_ble_eq_true rfl) ?_
  intro pZ eZ sZ mZ below meth cZ A ls C hl w
  obtain ⟨hx, hb, hr, hml, hts, hown, hlocks, hK, hA, hin⟩ := C
  have hown : sZ.vm.findClass RX5 = some mZ.cls := hown
  have hl : lv_has ls 2 [(0, .null), (1, .null)] := hl
  have hq : f_X5_twoRowsRefusal_nn = f_X5_twoRowsRefusal_nn := rfl
  refine lv_aload_nN hx hb dX5_twoRowsRefusal_0 rfl (lv_at hl 0 rfl) ?_
  refine lv_ifnullN (tgt := 8) hx hb dX5_twoRowsRefusal_1 (by decide) ?_
  refine lv_iconst (v := (-1)) hx hb dX5_twoRowsRefusal_8 (by decide) ?_
  exact w_iret hx hb hr hlocks w ⟨hq.symm, rfl, rfl⟩ (Nat.le_refl _) (Nat.le_refl _) dX5_twoRowsRefusal_9
def f_X5_twoRowsRefusal_nr  : Int32 := (-1)
set_option maxHeartbeats 400000 in
set_option maxRecDepth 100000 in
theorem c_X5_twoRowsRefusal_nr (l : Launch) (D : va_G) (cI cP cS cL : ClassId) (L : List Nat) (F : Nat → va_E) (s1 : Nat) (s1_ho : Int32) (s1_ro : Nat) (s1_pe : Nat) (h_s1 : wi L F s1 (eS s1_ho s1_ro s1_pe)) : wMI l D cI cP cS cL yX5_twoRowsRefusal wsX5_twoRowsRefusal ({ frames := 0, cells := 0, slots := 0, locals := 0 } : Room) [.null, .ref s1] L F f_X5_twoRowsRefusal_nr F := by
  refine wM.of (cc := cX5_twoRowsRefusal) (maxL := 2) (ret := (some .int)) (by decide) rfl (Nat.le_of_ble_eq_true rfl) ?_
  intro pZ eZ sZ mZ below meth cZ A ls C hl w
  obtain ⟨hx, hb, hr, hml, hts, hown, hlocks, hK, hA, hin⟩ := C
  have hown : sZ.vm.findClass RX5 = some mZ.cls := hown
  have hl : lv_has ls 2 [(0, .null), (1, .ref s1)] := hl
  have hq : f_X5_twoRowsRefusal_nr = f_X5_twoRowsRefusal_nr := rfl
  refine lv_aload_nN hx hb dX5_twoRowsRefusal_0 rfl (lv_at hl 0 rfl) ?_
  refine lv_ifnullN (tgt := 8) hx hb dX5_twoRowsRefusal_1 (by decide) ?_
  refine lv_iconst (v := (-1)) hx hb dX5_twoRowsRefusal_8 (by decide) ?_
  exact w_iret hx hb hr hlocks w ⟨hq.symm, rfl, rfl⟩ (Nat.le_refl _) (Nat.le_refl _) dX5_twoRowsRefusal_9
def f_X5_twoRowsRefusal_rn  : Int32 := (-1)
set_option maxHeartbeats 400000 in
set_option maxRecDepth 100000 in
theorem c_X5_twoRowsRefusal_rn (l : Launch) (D : va_G) (cI cP cS cL : ClassId) (L : List Nat) (F : Nat → va_E) (s0 : Nat) (s0_ho : Int32) (s0_ro : Nat) (s0_pe : Nat) (h_s0 : wi L F s0 (eS s0_ho s0_ro s0_pe)) : wMI l D cI cP cS cL yX5_twoRowsRefusal wsX5_twoRowsRefusal ({ frames := 0, cells := 0, slots := 0, locals := 0 } : Room) [.ref s0, .null] L F f_X5_twoRowsRefusal_rn F := by
  refine wM.of (cc := cX5_twoRowsRefusal) (maxL := 2) (ret := (some .int)) (by decide) rfl (Nat.le_of_ble_eq_true rfl) ?_
  intro pZ eZ sZ mZ below meth cZ A ls C hl w
  obtain ⟨hx, hb, hr, hml, hts, hown, hlocks, hK, hA, hin⟩ := C
  have hown : sZ.vm.findClass RX5 = some mZ.cls := hown
  have hl : lv_has ls 2 [(0, .ref s0), (1, .null)] := hl
  have hq : f_X5_twoRowsRefusal_rn = f_X5_twoRowsRefusal_rn := rfl
  refine lv_aload_n hx hb dX5_twoRowsRefusal_0 rfl (lv_at hl 0 rfl) ?_
  refine lv_ifnull hx hb dX5_twoRowsRefusal_1 ?_
  refine lv_aload_nN hx hb dX5_twoRowsRefusal_4 rfl (lv_at hl 1 rfl) ?_
  refine lv_ifnonnullN hx hb dX5_twoRowsRefusal_5 ?_
  refine lv_iconst (v := (-1)) hx hb dX5_twoRowsRefusal_8 (by decide) ?_
  exact w_iret hx hb hr hlocks w ⟨hq.symm, rfl, rfl⟩ (Nat.le_refl _) (Nat.le_refl _) dX5_twoRowsRefusal_9
def f_X5_twoRowsRefusal (s0_ho : Int32) (s1_ho : Int32) : Int32 := if s0_ho = (0 : Int32) then (-11) else (if s1_ho = (0 : Int32) then (-11) else (if s0_ho = (2 : Int32) then (if s1_ho = (2 : Int32) then 0 else (-12)) else (-12)))
set_option maxHeartbeats 400000 in
set_option maxRecDepth 100000 in
theorem c_X5_twoRowsRefusal (l : Launch) (D : va_G) (cI cP cS cL : ClassId) (L : List Nat) (F : Nat → va_E) (s0 : Nat) (s1 : Nat) (s0_ho : Int32) (s0_ro : Nat) (s0_pe : Nat) (s1_ho : Int32) (s1_ro : Nat) (s1_pe : Nat) (h_s0 : wi L F s0 (eS s0_ho s0_ro s0_pe)) (h_s1 : wi L F s1 (eS s1_ho s1_ro s1_pe)) : wMI l D cI cP cS cL yX5_twoRowsRefusal wsX5_twoRowsRefusal ({ frames := 0, cells := 0, slots := 0, locals := 0 } : Room) [.ref s0, .ref s1] L F (f_X5_twoRowsRefusal s0_ho s1_ho) F := by
  refine wM.of (cc := cX5_twoRowsRefusal) (maxL := 2) (ret := (some .int)) (by decide) rfl (Nat.le_of_ble_eq_true rfl) ?_
  intro pZ eZ sZ mZ below meth cZ A ls C hl w
  obtain ⟨hx, hb, hr, hml, hts, hown, hlocks, hK, hA, hin⟩ := C
  have hown : sZ.vm.findClass RX5 = some mZ.cls := hown
  have hl : lv_has ls 2 [(0, .ref s0), (1, .ref s1)] := hl
  have m_0 : ((.fieldLink RX5 231 "TwoThirds$Shelf" "holding" "I") : Cond) ∈ wsX5_twoRowsRefusal := by decide +kernel
  have i_X4 : ∀ w ∈ wsX40, w ∈ wsX5_twoRowsRefusal := by decide +kernel
  have hq : f_X5_twoRowsRefusal s0_ho s1_ho = f_X5_twoRowsRefusal s0_ho s1_ho := rfl
  refine lv_aload_n hx hb dX5_twoRowsRefusal_0 rfl (lv_at hl 0 rfl) ?_
  refine lv_ifnull hx hb dX5_twoRowsRefusal_1 ?_
  refine lv_aload_n hx hb dX5_twoRowsRefusal_4 rfl (lv_at hl 1 rfl) ?_
  refine lv_ifnonnull (tgt := 10) hx hb dX5_twoRowsRefusal_5 (by decide) ?_
  refine lv_aload_n hx hb dX5_twoRowsRefusal_10 rfl (lv_at hl 0 rfl) ?_
  refine w_get (v := .int s0_ho) hx hb hts i_X4 hown hK w h_s0 rfl 0 (by decide) (hts _ m_0) rfl dX5_twoRowsRefusal_11 ?_
  refine lv_if_eq (tgt := 24) hx hb dX5_twoRowsRefusal_14 (by decide) (fun c1 => ?_) (fun c1 => ?_)
  · skip
    have hq := hq.trans (if_pos c1)
    refine lv_bipush (v := (-11)) hx hb dX5_twoRowsRefusal_24 (by decide) ?_
    exact w_iret hx hb hr hlocks w ⟨hq.symm, rfl, rfl⟩ (Nat.le_refl _) (Nat.le_refl _) dX5_twoRowsRefusal_26
  · skip
    have hq := hq.trans (if_neg c1)
    refine lv_aload_n hx hb dX5_twoRowsRefusal_17 rfl (lv_at hl 1 rfl) ?_
    refine w_get (v := .int s1_ho) hx hb hts i_X4 hown hK w h_s1 rfl 0 (by decide) (hts _ m_0) rfl dX5_twoRowsRefusal_18 ?_
    refine lv_if_ne (tgt := 27) hx hb dX5_twoRowsRefusal_21 (by decide) (fun c2 => ?_) (fun c2 => ?_)
    · skip
      have hq := hq.trans (if_neg c2)
      refine lv_aload_n hx hb dX5_twoRowsRefusal_27 rfl (lv_at hl 0 rfl) ?_
      refine w_get (v := .int s0_ho) hx hb hts i_X4 hown hK w h_s0 rfl 0 (by decide) (hts _ m_0) rfl dX5_twoRowsRefusal_28 ?_
      refine lv_iconst (v := 2) hx hb dX5_twoRowsRefusal_31 (by decide) ?_
      refine lv_icmp_ne (tgt := 47) hx hb dX5_twoRowsRefusal_32 (by decide) (fun c3 => ?_) (fun c3 => ?_)
      · skip
        have hq := hq.trans (if_neg c3)
        refine lv_bipush (v := (-12)) hx hb dX5_twoRowsRefusal_47 (by decide) ?_
        exact w_iret hx hb hr hlocks w ⟨hq.symm, rfl, rfl⟩ (Nat.le_refl _) (Nat.le_refl _) dX5_twoRowsRefusal_49
      · skip
        have hq := hq.trans (if_pos c3)
        refine lv_aload_n hx hb dX5_twoRowsRefusal_35 rfl (lv_at hl 1 rfl) ?_
        refine w_get (v := .int s1_ho) hx hb hts i_X4 hown hK w h_s1 rfl 0 (by decide) (hts _ m_0) rfl dX5_twoRowsRefusal_36 ?_
        refine lv_iconst (v := 2) hx hb dX5_twoRowsRefusal_39 (by decide) ?_
        refine lv_icmp_ne (tgt := 47) hx hb dX5_twoRowsRefusal_40 (by decide) (fun c4 => ?_) (fun c4 => ?_)
        · skip
          have hq := hq.trans (if_neg c4)
          refine lv_bipush (v := (-12)) hx hb dX5_twoRowsRefusal_47 (by decide) ?_
          exact w_iret hx hb hr hlocks w ⟨hq.symm, rfl, rfl⟩ (Nat.le_refl _) (Nat.le_refl _) dX5_twoRowsRefusal_49
        · skip
          have hq := hq.trans (if_pos c4)
          refine lv_iconst (v := 0) hx hb dX5_twoRowsRefusal_43 (by decide) ?_
          refine lv_goto (tgt := 49) hx hb dX5_twoRowsRefusal_44 (by decide) ?_
          exact w_iret hx hb hr hlocks w ⟨hq.symm, rfl, rfl⟩ (Nat.le_refl _) (Nat.le_refl _) dX5_twoRowsRefusal_49
    · skip
      have hq := hq.trans (if_pos c2)
      refine lv_bipush (v := (-11)) hx hb dX5_twoRowsRefusal_24 (by decide) ?_
      exact w_iret hx hb hr hlocks w ⟨hq.symm, rfl, rfl⟩ (Nat.le_refl _) (Nat.le_refl _) dX5_twoRowsRefusal_26
def f_X5_cardsRefusal_n  : Int32 := (-1)
set_option maxHeartbeats 400000 in
set_option maxRecDepth 100000 in
theorem c_X5_cardsRefusal_n (l : Launch) (D : va_G) (cI cP cS cL : ClassId) (L : List Nat) (F : Nat → va_E) (x : Nat) (x_no : Nat) (x_ke : Nat) (x_mi : Nat) (x_im : Int32) (x_sh : Nat) (x_co : Nat) (x_ot : Nat) (h_x : wi L F x (eX x_no x_ke x_mi x_im x_sh x_co x_ot)) : wMI l D cI cP cS cL yX5_cardsRefusal wsX5_cardsRefusal ({ frames := 2, cells := 0, slots := 0, locals := 41 } : Room) [.ref x, .null] L F f_X5_cardsRefusal_n F := by
  refine wM.of (cc := cX5_cardsRefusal) (maxL := 3) (ret := (some .int)) (by decide) rfl (Nat.le_of_ble_eq_true rfl) ?_
  intro pZ eZ sZ mZ below meth cZ A ls C hl w
  obtain ⟨hx, hb, hr, hml, hts, hown, hlocks, hK, hA, hin⟩ := C
  have hown : sZ.vm.findClass RX5 = some mZ.cls := hown
  have hl : lv_has ls 3 [(0, .ref x), (1, .null)] := hl
  have hq : f_X5_cardsRefusal_n = f_X5_cardsRefusal_n := rfl
  refine lv_aload_nN hx hb dX5_cardsRefusal_0 rfl (lv_at hl 1 rfl) ?_
  refine w_finI (r := (-1)) (w_runS (rm := ({ frames := 1, cells := 0, slots := 0, locals := 21 } : Room)) (As := [.null]) (rest := []) (n := 1) hx hb hml hts hown hK w (c_X5_rowRefusal_n l D cI cP cS cL L _  ) gX5_cardsRefusal_X5_rowRefusal rfl rfl rfl (by decide +kernel) ⟨(Nat.le_of_ble_eq_true rfl), (Nat.le_of_ble_eq_true rfl)⟩ rfl hl.1 rfl (Nat.le_of_ble_eq_true rfl) dX5_cardsRefusal_1 ⟨(Nat.le_of_ble_eq_true rfl), (Nat.le_of_ble_eq_true rfl)⟩) w hA (fun H locs w => ?_)
  refine lv_istore_n (lv' := [(2, .int (-1)), (0, .ref x), (1, .null)]) hx hb dX5_cardsRefusal_4 rfl hl (by decide) rfl (fun ls hl => ?_)
  refine lv_iload_n hx hb dX5_cardsRefusal_5 rfl (lv_at hl 0 rfl) ?_
  refine lv_if_eq (tgt := 11) hx hb dX5_cardsRefusal_6 (by decide) (fun c => absurd c (by decide)) (fun _ => ?_)
  refine lv_iload_n hx hb dX5_cardsRefusal_9 rfl (lv_at hl 0 rfl) ?_
  exact w_iret hx hb hr hlocks w ⟨hq.symm, rfl, rfl⟩ (Nat.le_refl _) (Nat.le_refl _) dX5_cardsRefusal_10
def f_X5_cardsRefusal (x_no_high : Int32) (s0_ho : Int32) (s0_ro_sz : Int32) (s0_ro_e_f : Nat → Int32) : Int32 := if (f_X5_rowRefusal s0_ho) = (0 : Int32) then (if (f_X0_areCards x_no_high s0_ro_sz s0_ro_e_f) = (0 : Int32) then (-13) else 0) else (f_X5_rowRefusal s0_ho)
set_option maxHeartbeats 400000 in
set_option maxRecDepth 100000 in
theorem c_X5_cardsRefusal (l : Launch) (D : va_G) (cI cP cS cL : ClassId) (L : List Nat) (F : Nat → va_E) (x : Nat) (s0 : Nat) (x_no : Nat) (x_ke : Nat) (x_mi : Nat) (x_im : Int32) (x_sh : Nat) (x_co : Nat) (x_ot : Nat) (x_no_up : Int32) (x_no_down : Int32) (x_no_high : Int32) (x_no_prize : Int32) (x_no_z : Int32) (x_no_rounds : Int32) (x_no_people : Int32) (x_no_pa : Nat) (x_no_cr : Nat) (x_no_ls : Int32) (s0_ho : Int32) (s0_ro : Nat) (s0_pe : Nat) (s0_ro_e : Nat) (s0_ro_so : Int32) (s0_ro_sz : Int32) (s0_ro_e_n : Nat) (s0_ro_e_f : Nat → Int32) (h_x : wi L F x (eX x_no x_ke x_mi x_im x_sh x_co x_ot)) (h_x_no : wi L F x_no (eG x_no_up x_no_down x_no_high x_no_prize x_no_z x_no_rounds x_no_people x_no_pa x_no_cr x_no_ls)) (h_s0 : wi L F s0 (eS s0_ho s0_ro s0_pe)) (h_s0_ro : wi L F s0_ro (eR s0_ro_e s0_ro_so s0_ro_sz)) (h_s0_ro_e : wi L F s0_ro_e (eI cI s0_ro_e_n s0_ro_e_f)) (hz : s0_ro_sz.toInt ≤ s0_ro_e_n) : wMI l D cI cP cS cL yX5_cardsRefusal wsX5_cardsRefusal ({ frames := 2, cells := 0, slots := 0, locals := 43 } : Room) [.ref x, .ref s0] L F (f_X5_cardsRefusal x_no_high s0_ho s0_ro_sz s0_ro_e_f) F := by
  refine wM.of (cc := cX5_cardsRefusal) (maxL := 3) (ret := (some .int)) (by decide) rfl (Nat.le_of_ble_eq_true rfl) ?_
  intro pZ eZ sZ mZ below meth cZ A ls C hl w
  obtain ⟨hx, hb, hr, hml, hts, hown, hlocks, hK, hA, hin⟩ := C
  have hown : sZ.vm.findClass RX5 = some mZ.cls := hown
  have hl : lv_has ls 3 [(0, .ref x), (1, .ref s0)] := hl
  have m_0 : ((.fieldLink RX5 10 "TwoThirds" "now" "LTwoThirds$Game;") : Cond) ∈ wsX5_cardsRefusal := by decide +kernel
  have i_X5 : ∀ w ∈ wsX50, w ∈ wsX5_cardsRefusal := by decide +kernel
  have m_2 : ((.fieldLink RX5 44 "TwoThirds$Shelf" "row" "LTwoThirds$Row;") : Cond) ∈ wsX5_cardsRefusal := by decide +kernel
  have i_X4 : ∀ w ∈ wsX40, w ∈ wsX5_cardsRefusal := by decide +kernel
  have hq : f_X5_cardsRefusal x_no_high s0_ho s0_ro_sz s0_ro_e_f = f_X5_cardsRefusal x_no_high s0_ho s0_ro_sz s0_ro_e_f := rfl
  refine lv_aload_n hx hb dX5_cardsRefusal_0 rfl (lv_at hl 1 rfl) ?_
  refine w_finI (w_runS (rm := ({ frames := 1, cells := 0, slots := 0, locals := 21 } : Room)) (As := [.ref s0]) (rest := []) (n := 1) hx hb hml hts hown hK w (c_X5_rowRefusal l D cI cP cS cL L _ s0 s0_ho s0_ro s0_pe h_s0) gX5_cardsRefusal_X5_rowRefusal rfl rfl rfl (by decide +kernel) ⟨(Nat.le_of_ble_eq_true rfl), (Nat.le_of_ble_eq_true rfl)⟩ rfl hl.1 rfl (Nat.le_of_ble_eq_true rfl) dX5_cardsRefusal_1 ⟨(Nat.le_of_ble_eq_true rfl), (Nat.le_of_ble_eq_true rfl)⟩) w hA (fun H locs w => ?_)
  refine lv_istore_n (lv' := [(2, .int (f_X5_rowRefusal s0_ho)), (0, .ref x), (1, .ref s0)]) hx hb dX5_cardsRefusal_4 rfl hl (by decide) rfl (fun ls hl => ?_)
  refine lv_iload_n hx hb dX5_cardsRefusal_5 rfl (lv_at hl 0 rfl) ?_
  refine lv_if_eq (tgt := 11) hx hb dX5_cardsRefusal_6 (by decide) (fun c1 => ?_) (fun c1 => ?_)
  · skip
    have hq := hq.trans (if_pos c1)
    refine lv_aload_n hx hb dX5_cardsRefusal_11 rfl (lv_at hl 1 rfl) ?_
    refine w_get (v := .ref x_no) hx hb hts i_X5 hown hK w h_x rfl 0 (by decide) (hts _ m_0) rfl dX5_cardsRefusal_12 ?_
    refine lv_aload_n hx hb dX5_cardsRefusal_15 rfl (lv_at hl 2 rfl) ?_
    refine w_get (v := .ref s0_ro) hx hb hts i_X4 hown hK w h_s0 rfl 1 (by decide) (hts _ m_2) rfl dX5_cardsRefusal_16 ?_
    refine w_finI (w_runV (rm := ({ frames := 1, cells := 0, slots := 0, locals := 21 } : Room)) (As := [.ref s0_ro]) (rest := []) (n := 1) hx hb hml hts hown hK w (c_X0_areCards l D cI cP cS cL L _ x_no s0_ro x_no_up x_no_down x_no_high x_no_prize x_no_z x_no_rounds x_no_people x_no_pa x_no_cr x_no_ls s0_ro_e s0_ro_so s0_ro_sz s0_ro_e_n s0_ro_e_f h_x_no h_s0_ro h_s0_ro_e hz) gX5_cardsRefusal_X0_areCards rfl rfl rfl (by decide +kernel) ⟨(Nat.le_of_ble_eq_true rfl), (Nat.le_of_ble_eq_true rfl)⟩ h_x_no rfl rfl hl.1 rfl (Nat.le_of_ble_eq_true rfl) dX5_cardsRefusal_19 ⟨(Nat.le_of_ble_eq_true rfl), (Nat.le_of_ble_eq_true rfl)⟩) w hA (fun H locs w => ?_)
    refine lv_if_eq (tgt := 29) hx hb dX5_cardsRefusal_22 (by decide) (fun c2 => ?_) (fun c2 => ?_)
    · skip
      have hq := hq.trans (if_pos c2)
      refine lv_bipush (v := (-13)) hx hb dX5_cardsRefusal_29 (by decide) ?_
      exact w_iret hx hb hr hlocks w ⟨hq.symm, rfl, rfl⟩ (Nat.le_refl _) (Nat.le_refl _) dX5_cardsRefusal_31
    · skip
      have hq := hq.trans (if_neg c2)
      refine lv_iconst (v := 0) hx hb dX5_cardsRefusal_25 (by decide) ?_
      refine lv_goto (tgt := 31) hx hb dX5_cardsRefusal_26 (by decide) ?_
      exact w_iret hx hb hr hlocks w ⟨hq.symm, rfl, rfl⟩ (Nat.le_refl _) (Nat.le_refl _) dX5_cardsRefusal_31
  · skip
    have hq := hq.trans (if_neg c1)
    refine lv_iload_n hx hb dX5_cardsRefusal_9 rfl (lv_at hl 0 rfl) ?_
    exact w_iret hx hb hr hlocks w ⟨hq.symm, rfl, rfl⟩ (Nat.le_refl _) (Nat.le_refl _) dX5_cardsRefusal_10
def f_X5_of (person : Int32) (what : Int32) (x_no_rounds : Int32) (x_no_people : Int32) (x_no_cr_sz : Int32) (x_no_cr_e_f : Nat → Int32) (pr_ki : Nat → Int32) (pr_st : Nat → Int32) (pr_sl : Nat → Int32) : Int32 := if (¬ person < 0 ∧ ¬ x_no_people ≤ person) then (if what = (0 : Int32) then (pr_ki (person.toNatClampNeg)) else (if what = (1 : Int32) then (pr_st (person.toNatClampNeg)) else (if what = (2 : Int32) then (pr_sl (person.toNatClampNeg)) else (if what = (3 : Int32) then (if x_no_rounds = (0 : Int32) then (-4) else (f_X3_at person x_no_cr_sz x_no_cr_e_f)) else (-1))))) else (-1)
set_option maxHeartbeats 400000 in
set_option maxRecDepth 100000 in
theorem c_X5_of (l : Launch) (D : va_G) (cI cP cS cL : ClassId) (L : List Nat) (F : Nat → va_E) (x : Nat) (person : Int32) (what : Int32) (x_no : Nat) (x_ke : Nat) (x_mi : Nat) (x_im : Int32) (x_sh : Nat) (x_co : Nat) (x_ot : Nat) (x_no_up : Int32) (x_no_down : Int32) (x_no_high : Int32) (x_no_prize : Int32) (x_no_z : Int32) (x_no_rounds : Int32) (x_no_people : Int32) (x_no_pa : Nat) (x_no_cr : Nat) (x_no_ls : Int32) (x_no_cr_e : Nat) (x_no_cr_so : Int32) (x_no_cr_sz : Int32) (x_no_cr_e_f : Nat → Int32) (pr : Nat → Nat) (pr_nu : Nat → Int32) (pr_ki : Nat → Int32) (pr_st : Nat → Int32) (pr_sl : Nat → Int32) (h_x : wi L F x (eX x_no x_ke x_mi x_im x_sh x_co x_ot)) (h_x_no : wi L F x_no (eG x_no_up x_no_down x_no_high x_no_prize x_no_z x_no_rounds x_no_people x_no_pa x_no_cr x_no_ls)) (h_x_no_pa : wi L F x_no_pa (eQ cP 12 (fun i => some (pr i)))) (h_x_no_cr : wi L F x_no_cr (eR x_no_cr_e x_no_cr_so x_no_cr_sz)) (h_x_no_cr_e : wi L F x_no_cr_e (eI cI 12 x_no_cr_e_f)) (h_pr : ∀ i, i < 12 → wi L F (pr i) (eP (pr_nu i) (pr_ki i) (pr_st i) (pr_sl i))) (hpp : x_no_people.toInt ≤ 12) (hzc : x_no_cr_sz.toInt ≤ 12) : wMI l D cI cP cS cL yX5_of wsX5_of ({ frames := 1, cells := 0, slots := 0, locals := 21 } : Room) [.ref x, .int person, .int what] L F (f_X5_of person what x_no_rounds x_no_people x_no_cr_sz x_no_cr_e_f pr_ki pr_st pr_sl) F := by
  refine wM.of (cc := cX5_of) (maxL := 4) (ret := (some .int)) (by decide) rfl (Nat.le_of_ble_eq_true rfl) ?_
  intro pZ eZ sZ mZ below meth cZ A ls C hl w
  obtain ⟨hx, hb, hr, hml, hts, hown, hlocks, hK, hA, hin⟩ := C
  have hown : sZ.vm.findClass RX5 = some mZ.cls := hown
  have hl : lv_has ls 4 [(0, .ref x), (1, .int person), (2, .int what)] := hl
  have m_0 : ((.fieldLink RX5 10 "TwoThirds" "now" "LTwoThirds$Game;") : Cond) ∈ wsX5_of := by decide +kernel
  have i_X5 : ∀ w ∈ wsX50, w ∈ wsX5_of := by decide +kernel
  have m_2 : ((.fieldLink RX5 82 "TwoThirds$Person" "kind" "I") : Cond) ∈ wsX5_of := by decide +kernel
  have i_X1 : ∀ w ∈ wsX10, w ∈ wsX5_of := by decide +kernel
  have m_4 : ((.fieldLink RX5 87 "TwoThirds$Person" "stepCount" "I") : Cond) ∈ wsX5_of := by decide +kernel
  have m_5 : ((.fieldLink RX5 90 "TwoThirds$Person" "slip" "I") : Cond) ∈ wsX5_of := by decide +kernel
  have m_6 : ((.fieldLink RX5 93 "TwoThirds$Game" "rounds" "I") : Cond) ∈ wsX5_of := by decide +kernel
  have i_X0 : ∀ w ∈ wsX00, w ∈ wsX5_of := by decide +kernel
  have m_8 : ((.fieldLink RX5 96 "TwoThirds$Game" "cards" "LTwoThirds$Row;") : Cond) ∈ wsX5_of := by decide +kernel
  have hq : f_X5_of person what x_no_rounds x_no_people x_no_cr_sz x_no_cr_e_f pr_ki pr_st pr_sl = f_X5_of person what x_no_rounds x_no_people x_no_cr_sz x_no_cr_e_f pr_ki pr_st pr_sl := rfl
  refine lv_aload_n hx hb dX5_of_0 rfl (lv_at hl 0 rfl) ?_
  refine w_get (v := .ref x_no) hx hb hts i_X5 hown hK w h_x rfl 0 (by decide) (hts _ m_0) rfl dX5_of_1 ?_
  refine lv_iload_n hx hb dX5_of_4 rfl (lv_at hl 1 rfl) ?_
  by_cases c1 : (¬ person < 0 ∧ ¬ x_no_people ≤ person)
  · skip
    have hq := hq.trans (if_pos c1)
    have hlt_C : person.toNatClampNeg < 12 := w_okP c1 hpp
    refine w_finQ (v := .ref (pr (person.toNatClampNeg))) rfl (w_runV (rm := ({ frames := 0, cells := 0, slots := 0, locals := 0 } : Room)) (As := [.int person]) (rest := []) (n := 1) hx hb hml hts hown hK w (c_X0_personAt_some l D cI cP cS cL L _ x_no person x_no_up x_no_down x_no_high x_no_prize x_no_z x_no_rounds x_no_people x_no_pa x_no_cr x_no_ls pr pr_nu pr_ki pr_st pr_sl h_x_no h_x_no_pa h_pr c1 hpp) gX5_of_X0_personAt rfl rfl rfl (by decide +kernel) ⟨(Nat.le_of_ble_eq_true rfl), (Nat.le_of_ble_eq_true rfl)⟩ h_x_no rfl rfl hl.1 rfl (Nat.le_of_ble_eq_true rfl) dX5_of_5 ⟨(Nat.le_of_ble_eq_true rfl), (Nat.le_of_ble_eq_true rfl)⟩) w hA (fun H locs w => ?_)
    refine lv_astore_n (lv' := [(3, .ref (pr (person.toNatClampNeg))), (0, .ref x), (1, .int person), (2, .int what)]) hx hb dX5_of_8 rfl hl (by decide) rfl (fun ls hl => ?_)
    refine lv_aload_n hx hb dX5_of_9 rfl (lv_at hl 0 rfl) ?_
    refine lv_ifnonnull (tgt := 15) hx hb dX5_of_10 (by decide) ?_
    refine lv_iload_n hx hb dX5_of_15 rfl (lv_at hl 3 rfl) ?_
    by_cases c2 : what = (0 : Int32)
    · skip
      have hq := hq.trans (if_pos c2)
      refine w_ts (v := 0) (off := 32) (tgt := 48) hx hb dX5_of_16 c2 (by decide) (by decide) rfl (by decide) ?_
      refine lv_aload_n hx hb dX5_of_48 rfl (lv_at hl 0 rfl) ?_
      refine w_get (v := .int (pr_ki (person.toNatClampNeg))) hx hb hts i_X1 hown hK w (h_pr (person.toNatClampNeg) (by omega)) rfl 1 (by decide) (hts _ m_2) rfl dX5_of_49 ?_
      exact w_iret hx hb hr hlocks w ⟨hq.symm, rfl, rfl⟩ (Nat.le_refl _) (Nat.le_refl _) dX5_of_52
    · skip
      have hq := hq.trans (if_neg c2)
      by_cases c3 : what = (1 : Int32)
      · skip
        have hq := hq.trans (if_pos c3)
        refine w_ts (v := 1) (off := 37) (tgt := 53) hx hb dX5_of_16 c3 (by decide) (by decide) rfl (by decide) ?_
        refine lv_aload_n hx hb dX5_of_53 rfl (lv_at hl 0 rfl) ?_
        refine w_get (v := .int (pr_st (person.toNatClampNeg))) hx hb hts i_X1 hown hK w (h_pr (person.toNatClampNeg) (by omega)) rfl 2 (by decide) (hts _ m_4) rfl dX5_of_54 ?_
        exact w_iret hx hb hr hlocks w ⟨hq.symm, rfl, rfl⟩ (Nat.le_refl _) (Nat.le_refl _) dX5_of_57
      · skip
        have hq := hq.trans (if_neg c3)
        by_cases c4 : what = (2 : Int32)
        · skip
          have hq := hq.trans (if_pos c4)
          refine w_ts (v := 2) (off := 42) (tgt := 58) hx hb dX5_of_16 c4 (by decide) (by decide) rfl (by decide) ?_
          refine lv_aload_n hx hb dX5_of_58 rfl (lv_at hl 0 rfl) ?_
          refine w_get (v := .int (pr_sl (person.toNatClampNeg))) hx hb hts i_X1 hown hK w (h_pr (person.toNatClampNeg) (by omega)) rfl 3 (by decide) (hts _ m_5) rfl dX5_of_59 ?_
          exact w_iret hx hb hr hlocks w ⟨hq.symm, rfl, rfl⟩ (Nat.le_refl _) (Nat.le_refl _) dX5_of_62
        · skip
          have hq := hq.trans (if_neg c4)
          by_cases c5 : what = (3 : Int32)
          · skip
            have hq := hq.trans (if_pos c5)
            refine w_ts (v := 3) (off := 47) (tgt := 63) hx hb dX5_of_16 c5 (by decide) (by decide) rfl (by decide) ?_
            refine lv_aload_n hx hb dX5_of_63 rfl (lv_at hl 1 rfl) ?_
            refine w_get (v := .ref x_no) hx hb hts i_X5 hown hK w h_x rfl 0 (by decide) (hts _ m_0) rfl dX5_of_64 ?_
            refine w_get (v := .int x_no_rounds) hx hb hts i_X0 hown hK w h_x_no rfl 5 (by decide) (hts _ m_6) rfl dX5_of_67 ?_
            refine lv_if_ne (tgt := 78) hx hb dX5_of_70 (by decide) (fun c6 => ?_) (fun c6 => ?_)
            · skip
              have hq := hq.trans (if_neg c6)
              refine lv_aload_n hx hb dX5_of_78 rfl (lv_at hl 1 rfl) ?_
              refine w_get (v := .ref x_no) hx hb hts i_X5 hown hK w h_x rfl 0 (by decide) (hts _ m_0) rfl dX5_of_79 ?_
              refine w_get (v := .ref x_no_cr) hx hb hts i_X0 hown hK w h_x_no rfl 8 (by decide) (hts _ m_8) rfl dX5_of_82 ?_
              refine lv_iload_n hx hb dX5_of_85 rfl (lv_at hl 2 rfl) ?_
              refine w_finI (w_runV (rm := ({ frames := 0, cells := 0, slots := 0, locals := 0 } : Room)) (As := [.int person]) (rest := []) (n := 1) hx hb hml hts hown hK w (c_X3_at l D cI cP cS cL L _ x_no_cr person x_no_cr_e x_no_cr_so x_no_cr_sz 12 x_no_cr_e_f h_x_no_cr h_x_no_cr_e hzc) gX5_of_X3_at rfl rfl rfl (by decide +kernel) ⟨(Nat.le_of_ble_eq_true rfl), (Nat.le_of_ble_eq_true rfl)⟩ h_x_no_cr rfl rfl hl.1 rfl (Nat.le_of_ble_eq_true rfl) dX5_of_86 ⟨(Nat.le_of_ble_eq_true rfl), (Nat.le_of_ble_eq_true rfl)⟩) w hA (fun H locs w => ?_)
              exact w_iret hx hb hr hlocks w ⟨hq.symm, rfl, rfl⟩ (Nat.le_refl _) (Nat.le_refl _) dX5_of_89
            · skip
              have hq := hq.trans (if_pos c6)
              refine lv_bipush (v := (-4)) hx hb dX5_of_73 (by decide) ?_
              refine lv_goto (tgt := 89) hx hb dX5_of_75 (by decide) ?_
              exact w_iret hx hb hr hlocks w ⟨hq.symm, rfl, rfl⟩ (Nat.le_refl _) (Nat.le_refl _) dX5_of_89
          · skip
            have hq := hq.trans (if_neg c5)
            refine lv_tableOut (tgt := 90) hx hb dX5_of_16 (by have q0 : ¬ what.toInt = 0 := w_ne c2 rfl; have q1 : ¬ what.toInt = 1 := w_ne c3 rfl; have q2 : ¬ what.toInt = 2 := w_ne c4 rfl; have q3 : ¬ what.toInt = 3 := w_ne c5 rfl; omega) (by decide) ?_
            refine lv_iconst (v := (-1)) hx hb dX5_of_90 (by decide) ?_
            exact w_iret hx hb hr hlocks w ⟨hq.symm, rfl, rfl⟩ (Nat.le_refl _) (Nat.le_refl _) dX5_of_91
  · skip
    have hq := hq.trans (if_neg c1)
    refine w_finQ (v := .null) (by unfold f_X0_personAt_none; first | rfl | (split <;> rfl)) (w_runV (rm := ({ frames := 0, cells := 0, slots := 0, locals := 0 } : Room)) (As := [.int person]) (rest := []) (n := 1) hx hb hml hts hown hK w (c_X0_personAt_none l D cI cP cS cL L _ x_no person x_no_up x_no_down x_no_high x_no_prize x_no_z x_no_rounds x_no_people x_no_pa x_no_cr x_no_ls pr h_x_no h_x_no_pa c1) gX5_of_X0_personAt rfl rfl rfl (by decide +kernel) ⟨(Nat.le_of_ble_eq_true rfl), (Nat.le_of_ble_eq_true rfl)⟩ h_x_no rfl rfl hl.1 rfl (Nat.le_of_ble_eq_true rfl) dX5_of_5 ⟨(Nat.le_of_ble_eq_true rfl), (Nat.le_of_ble_eq_true rfl)⟩) w hA (fun H locs w => ?_)
    refine lv_astore_nN (lv' := [(3, .null), (0, .ref x), (1, .int person), (2, .int what)]) hx hb dX5_of_8 rfl hl (by decide) rfl (fun ls hl => ?_)
    refine lv_aload_nN hx hb dX5_of_9 rfl (lv_at hl 0 rfl) ?_
    refine lv_ifnonnullN hx hb dX5_of_10 ?_
    refine lv_iconst (v := (-1)) hx hb dX5_of_13 (by decide) ?_
    exact w_iret hx hb hr hlocks w ⟨hq.symm, rfl, rfl⟩ (Nat.le_refl _) (Nat.le_refl _) dX5_of_14
def f_X5_set (what : Int32) (n0 : Int32) (x_no_up : Int32) (x_no_down : Int32) (x_no_high : Int32) (x_no_prize : Int32) (x_no_z : Int32) (x_no_rounds : Int32) : Int32 × Int32 × Int32 × Int32 × Int32 × Int32 := if (f_X0_canBe what n0) = (0 : Int32) then ((-1), x_no_up, x_no_down, x_no_high, x_no_prize, x_no_z) else (if what = (4 : Int32) then (bnd (f_X0_change what n0 x_no_up x_no_down x_no_high x_no_prize x_no_z) (fun x43 : Int32 × Int32 × Int32 × Int32 × Int32 => ((f_X0_setting what x_no_up x_no_down x_no_high x_no_prize x_no_z), x43.1, x43.2.1, x43.2.2.1, x43.2.2.2.1, x43.2.2.2.2))) else (if x_no_rounds ≤ (0 : Int32) then (bnd (f_X0_change what n0 x_no_up x_no_down x_no_high x_no_prize x_no_z) (fun x43 : Int32 × Int32 × Int32 × Int32 × Int32 => ((f_X0_setting what x_no_up x_no_down x_no_high x_no_prize x_no_z), x43.1, x43.2.1, x43.2.2.1, x43.2.2.2.1, x43.2.2.2.2))) else ((-3), x_no_up, x_no_down, x_no_high, x_no_prize, x_no_z)))
set_option maxHeartbeats 400000 in
set_option maxRecDepth 100000 in
theorem c_X5_set (l : Launch) (D : va_G) (cI cP cS cL : ClassId) (L : List Nat) (F : Nat → va_E) (x : Nat) (what : Int32) (n0 : Int32) (x_no : Nat) (x_ke : Nat) (x_mi : Nat) (x_im : Int32) (x_sh : Nat) (x_co : Nat) (x_ot : Nat) (x_no_up : Int32) (x_no_down : Int32) (x_no_high : Int32) (x_no_prize : Int32) (x_no_z : Int32) (x_no_rounds : Int32) (x_no_people : Int32) (x_no_pa : Nat) (x_no_cr : Nat) (x_no_ls : Int32) (h_x : wi L F x (eX x_no x_ke x_mi x_im x_sh x_co x_ot)) (h_x_no : wi L F x_no (eG x_no_up x_no_down x_no_high x_no_prize x_no_z x_no_rounds x_no_people x_no_pa x_no_cr x_no_ls)) : wMj l D cI cP cS cL yX5_set wsX5_set ({ frames := 2, cells := 0, slots := 0, locals := 41 } : Room) [.ref x, .int what, .int n0] L F (fun r1 F1 => ∃ y9 : Int32 × Int32 × Int32 × Int32 × Int32 × Int32, y9 = (f_X5_set what n0 x_no_up x_no_down x_no_high x_no_prize x_no_z x_no_rounds) ∧ r1 = y9.1 ∧ F1 x_no = (eG y9.2.1 y9.2.2.1 y9.2.2.2.1 y9.2.2.2.2.1 y9.2.2.2.2.2 x_no_rounds x_no_people x_no_pa x_no_cr x_no_ls) ∧ wk (fun q : Nat => q ≠ x_no ∧ True) F1 F) := by
  refine wM.of (cc := cX5_set) (maxL := 4) (ret := (some .int)) (by decide) rfl (Nat.le_of_ble_eq_true rfl) ?_
  intro pZ eZ sZ mZ below meth cZ A ls C hl w
  obtain ⟨hx, hb, hr, hml, hts, hown, hlocks, hK, hA, hin⟩ := C
  have hown : sZ.vm.findClass RX5 = some mZ.cls := hown
  have hl : lv_has ls 4 [(0, .ref x), (1, .int what), (2, .int n0)] := hl
  have m_0 : ((.fieldLink RX5 10 "TwoThirds" "now" "LTwoThirds$Game;") : Cond) ∈ wsX5_set := by decide +kernel
  have i_X5 : ∀ w ∈ wsX50, w ∈ wsX5_set := by decide +kernel
  have m_2 : ((.fieldLink RX5 93 "TwoThirds$Game" "rounds" "I") : Cond) ∈ wsX5_set := by decide +kernel
  have i_X0 : ∀ w ∈ wsX00, w ∈ wsX5_set := by decide +kernel
  have hk : wk (fun q : Nat => q ≠ x_no ∧ True) F F := wk.rf
  have hq : f_X5_set what n0 x_no_up x_no_down x_no_high x_no_prize x_no_z x_no_rounds = f_X5_set what n0 x_no_up x_no_down x_no_high x_no_prize x_no_z x_no_rounds := rfl
  refine lv_iload_n hx hb dX5_set_0 rfl (lv_at hl 1 rfl) ?_
  refine lv_iload_n hx hb dX5_set_1 rfl (lv_at hl 2 rfl) ?_
  refine w_finI (w_runS (rm := ({ frames := 1, cells := 0, slots := 0, locals := 20 } : Room)) (As := [.int what, .int n0]) (rest := []) (n := 2) hx hb hml hts hown hK w (c_X0_canBe l D cI cP cS cL L _ what n0 ) gX5_set_X0_canBe rfl rfl rfl (by decide +kernel) ⟨(Nat.le_of_ble_eq_true rfl), (Nat.le_of_ble_eq_true rfl)⟩ rfl hl.1 rfl (Nat.le_of_ble_eq_true rfl) dX5_set_2 ⟨(Nat.le_of_ble_eq_true rfl), (Nat.le_of_ble_eq_true rfl)⟩) w hA (fun H locs w => ?_)
  refine lv_if_ne (tgt := 10) hx hb dX5_set_5 (by decide) (fun c1 => ?_) (fun c1 => ?_)
  · skip
    have hq := hq.trans (if_neg c1)
    refine lv_iload_n hx hb dX5_set_10 rfl (lv_at hl 1 rfl) ?_
    refine lv_iconst (v := 4) hx hb dX5_set_11 (by decide) ?_
    refine lv_icmp_eq (tgt := 28) hx hb dX5_set_12 (by decide) (fun c2 => ?_) (fun c2 => ?_)
    · skip
      have hq := hq.trans (if_pos c2)
      refine lv_aload_n hx hb dX5_set_28 rfl (lv_at hl 0 rfl) ?_
      refine w_get (v := .ref x_no) hx hb hts i_X5 hown hK w h_x rfl 0 (by decide) (hts _ m_0) rfl dX5_set_29 ?_
      refine lv_iload_n hx hb dX5_set_32 rfl (lv_at hl 1 rfl) ?_
      refine w_finI (w_runV (rm := ({ frames := 0, cells := 0, slots := 0, locals := 0 } : Room)) (As := [.int what]) (rest := []) (n := 1) hx hb hml hts hown hK w (c_X0_setting l D cI cP cS cL L _ x_no what x_no_up x_no_down x_no_high x_no_prize x_no_z x_no_rounds x_no_people x_no_pa x_no_cr x_no_ls h_x_no) gX5_set_X0_setting rfl rfl rfl (by decide +kernel) ⟨(Nat.le_of_ble_eq_true rfl), (Nat.le_of_ble_eq_true rfl)⟩ h_x_no rfl rfl hl.1 rfl (Nat.le_of_ble_eq_true rfl) dX5_set_33 ⟨(Nat.le_of_ble_eq_true rfl), (Nat.le_of_ble_eq_true rfl)⟩) w hA (fun H locs w => ?_)
      refine lv_istore_n (lv' := [(3, .int (f_X0_setting what x_no_up x_no_down x_no_high x_no_prize x_no_z)), (0, .ref x), (1, .int what), (2, .int n0)]) hx hb dX5_set_36 rfl hl (by decide) rfl (fun ls hl => ?_)
      refine lv_aload_n hx hb dX5_set_37 rfl (lv_at hl 1 rfl) ?_
      refine w_get (v := .ref x_no) hx hb hts i_X5 hown hK w h_x rfl 0 (by decide) (hts _ m_0) rfl dX5_set_38 ?_
      refine lv_iload_n hx hb dX5_set_41 rfl (lv_at hl 2 rfl) ?_
      refine lv_iload_n hx hb dX5_set_42 rfl (lv_at hl 3 rfl) ?_
      refine w_finw (w_runV (rm := ({ frames := 0, cells := 0, slots := 0, locals := 0 } : Room)) (As := [.int what, .int n0]) (rest := []) (n := 2) hx hb hml hts hown hK w (c_X0_change l D cI cP cS cL L _ x_no what n0 x_no_up x_no_down x_no_high x_no_prize x_no_z x_no_rounds x_no_people x_no_pa x_no_cr x_no_ls h_x_no) gX5_set_X0_change rfl rfl rfl (by decide +kernel) ⟨(Nat.le_of_ble_eq_true rfl), (Nat.le_of_ble_eq_true rfl)⟩ h_x_no rfl rfl hl.1 rfl (Nat.le_of_ble_eq_true rfl) dX5_set_43 ⟨(Nat.le_of_ble_eq_true rfl), (Nat.le_of_ble_eq_true rfl)⟩) w hA (fun F1 H locs hp w => ?_)
      obtain ⟨x43, hx43, hw0, hk9⟩ := hp
      have hq := hq.trans (w_bnd hx43)
      have h_x := h_x.keep hk9 ⟨(wi.ne h_x h_x_no (by intro h; cases h)), trivial⟩
      have h_x_no := h_x_no.new hw0
      have hk := hk.call hk9 (fun q h => ⟨h.1, trivial⟩)
      refine lv_iload_n hx hb dX5_set_46 rfl (lv_at hl 0 rfl) ?_
      exact w_iret hx hb hr hlocks w ⟨rfl, _, hq.symm, rfl, h_x_no.2, hk⟩ (Nat.le_refl _) (Nat.le_refl _) dX5_set_47
    · skip
      have hq := hq.trans (if_neg c2)
      refine lv_aload_n hx hb dX5_set_15 rfl (lv_at hl 0 rfl) ?_
      refine w_get (v := .ref x_no) hx hb hts i_X5 hown hK w h_x rfl 0 (by decide) (hts _ m_0) rfl dX5_set_16 ?_
      refine w_get (v := .int x_no_rounds) hx hb hts i_X0 hown hK w h_x_no rfl 5 (by decide) (hts _ m_2) rfl dX5_set_19 ?_
      refine lv_if_le (tgt := 28) hx hb dX5_set_22 (by decide) (fun c3 => ?_) (fun c3 => ?_)
      · skip
        have hq := hq.trans (if_pos c3)
        refine lv_aload_n hx hb dX5_set_28 rfl (lv_at hl 0 rfl) ?_
        refine w_get (v := .ref x_no) hx hb hts i_X5 hown hK w h_x rfl 0 (by decide) (hts _ m_0) rfl dX5_set_29 ?_
        refine lv_iload_n hx hb dX5_set_32 rfl (lv_at hl 1 rfl) ?_
        refine w_finI (w_runV (rm := ({ frames := 0, cells := 0, slots := 0, locals := 0 } : Room)) (As := [.int what]) (rest := []) (n := 1) hx hb hml hts hown hK w (c_X0_setting l D cI cP cS cL L _ x_no what x_no_up x_no_down x_no_high x_no_prize x_no_z x_no_rounds x_no_people x_no_pa x_no_cr x_no_ls h_x_no) gX5_set_X0_setting rfl rfl rfl (by decide +kernel) ⟨(Nat.le_of_ble_eq_true rfl), (Nat.le_of_ble_eq_true rfl)⟩ h_x_no rfl rfl hl.1 rfl (Nat.le_of_ble_eq_true rfl) dX5_set_33 ⟨(Nat.le_of_ble_eq_true rfl), (Nat.le_of_ble_eq_true rfl)⟩) w hA (fun H locs w => ?_)
        refine lv_istore_n (lv' := [(3, .int (f_X0_setting what x_no_up x_no_down x_no_high x_no_prize x_no_z)), (0, .ref x), (1, .int what), (2, .int n0)]) hx hb dX5_set_36 rfl hl (by decide) rfl (fun ls hl => ?_)
        refine lv_aload_n hx hb dX5_set_37 rfl (lv_at hl 1 rfl) ?_
        refine w_get (v := .ref x_no) hx hb hts i_X5 hown hK w h_x rfl 0 (by decide) (hts _ m_0) rfl dX5_set_38 ?_
        refine lv_iload_n hx hb dX5_set_41 rfl (lv_at hl 2 rfl) ?_
        refine lv_iload_n hx hb dX5_set_42 rfl (lv_at hl 3 rfl) ?_
        refine w_finw (w_runV (rm := ({ frames := 0, cells := 0, slots := 0, locals := 0 } : Room)) (As := [.int what, .int n0]) (rest := []) (n := 2) hx hb hml hts hown hK w (c_X0_change l D cI cP cS cL L _ x_no what n0 x_no_up x_no_down x_no_high x_no_prize x_no_z x_no_rounds x_no_people x_no_pa x_no_cr x_no_ls h_x_no) gX5_set_X0_change rfl rfl rfl (by decide +kernel) ⟨(Nat.le_of_ble_eq_true rfl), (Nat.le_of_ble_eq_true rfl)⟩ h_x_no rfl rfl hl.1 rfl (Nat.le_of_ble_eq_true rfl) dX5_set_43 ⟨(Nat.le_of_ble_eq_true rfl), (Nat.le_of_ble_eq_true rfl)⟩) w hA (fun F1 H locs hp w => ?_)
        obtain ⟨x43, hx43, hw0, hk9⟩ := hp
        have hq := hq.trans (w_bnd hx43)
        have h_x := h_x.keep hk9 ⟨(wi.ne h_x h_x_no (by intro h; cases h)), trivial⟩
        have h_x_no := h_x_no.new hw0
        have hk := hk.call hk9 (fun q h => ⟨h.1, trivial⟩)
        refine lv_iload_n hx hb dX5_set_46 rfl (lv_at hl 0 rfl) ?_
        exact w_iret hx hb hr hlocks w ⟨rfl, _, hq.symm, rfl, h_x_no.2, hk⟩ (Nat.le_refl _) (Nat.le_refl _) dX5_set_47
      · skip
        have hq := hq.trans (if_neg c3)
        refine lv_bipush (v := (-3)) hx hb dX5_set_25 (by decide) ?_
        exact w_iret hx hb hr hlocks w ⟨rfl, _, hq.symm, rfl, h_x_no.2, hk⟩ (Nat.le_refl _) (Nat.le_refl _) dX5_set_27
  · skip
    have hq := hq.trans (if_pos c1)
    refine lv_iconst (v := (-1)) hx hb dX5_set_8 (by decide) ?_
    exact w_iret hx hb hr hlocks w ⟨rfl, _, hq.symm, rfl, h_x_no.2, hk⟩ (Nat.le_refl _) (Nat.le_refl _) dX5_set_9
def f_X5_steps (person : Int32) (n0 : Int32) (x_no_people : Int32) (pr_st : Nat → Int32) : Int32 × (Nat → Int32) := if (¬ person < 0 ∧ ¬ x_no_people ≤ person) then (if (f_X5_isStepCount n0) = (0 : Int32) then ((-1), pr_st) else ((pr_st (person.toNatClampNeg)), (upd pr_st (person.toNatClampNeg) n0))) else ((-1), pr_st)
set_option maxHeartbeats 400000 in
set_option maxRecDepth 100000 in
theorem c_X5_steps (l : Launch) (D : va_G) (cI cP cS cL : ClassId) (L : List Nat) (F : Nat → va_E) (x : Nat) (person : Int32) (n0 : Int32) (x_no : Nat) (x_ke : Nat) (x_mi : Nat) (x_im : Int32) (x_sh : Nat) (x_co : Nat) (x_ot : Nat) (x_no_up : Int32) (x_no_down : Int32) (x_no_high : Int32) (x_no_prize : Int32) (x_no_z : Int32) (x_no_rounds : Int32) (x_no_people : Int32) (x_no_pa : Nat) (x_no_cr : Nat) (x_no_ls : Int32) (pr : Nat → Nat) (pr_nu : Nat → Int32) (pr_ki : Nat → Int32) (pr_st : Nat → Int32) (pr_sl : Nat → Int32) (h_x : wi L F x (eX x_no x_ke x_mi x_im x_sh x_co x_ot)) (h_x_no : wi L F x_no (eG x_no_up x_no_down x_no_high x_no_prize x_no_z x_no_rounds x_no_people x_no_pa x_no_cr x_no_ls)) (h_x_no_pa : wi L F x_no_pa (eQ cP 12 (fun i => some (pr i)))) (h_pr : ∀ i, i < 12 → wi L F (pr i) (eP (pr_nu i) (pr_ki i) (pr_st i) (pr_sl i))) (hpp : x_no_people.toInt ≤ 12) (hinj_pr : ∀ i k, i < 12 → k < 12 → pr i = pr k → i = k) : wMj l D cI cP cS cL yX5_steps wsX5_steps ({ frames := 1, cells := 0, slots := 0, locals := 21 } : Room) [.ref x, .int person, .int n0] L F (fun r1 F1 => ∃ y9 : Int32 × (Nat → Int32), y9 = (f_X5_steps person n0 x_no_people pr_st) ∧ r1 = y9.1 ∧ (∀ i, i < 12 → F1 (pr i) = (eP (pr_nu i) (pr_ki i) (y9.2 i) (pr_sl i))) ∧ wk (fun q : Nat => (∀ i, i < 12 → q ≠ pr i) ∧ True) F1 F) := by
  refine wM.of (cc := cX5_steps) (maxL := 5) (ret := (some .int)) (by decide) rfl (Nat.le_of_ble_eq_true rfl) ?_
  intro pZ eZ sZ mZ below meth cZ A ls C hl w
  obtain ⟨hx, hb, hr, hml, hts, hown, hlocks, hK, hA, hin⟩ := C
  have hown : sZ.vm.findClass RX5 = some mZ.cls := hown
  have hl : lv_has ls 5 [(0, .ref x), (1, .int person), (2, .int n0)] := hl
  have m_0 : ((.fieldLink RX5 10 "TwoThirds" "now" "LTwoThirds$Game;") : Cond) ∈ wsX5_steps := by decide +kernel
  have i_X5 : ∀ w ∈ wsX50, w ∈ wsX5_steps := by decide +kernel
  have m_2 : ((.fieldLink RX5 87 "TwoThirds$Person" "stepCount" "I") : Cond) ∈ wsX5_steps := by decide +kernel
  have i_X1 : ∀ w ∈ wsX10, w ∈ wsX5_steps := by decide +kernel
  have hk : wk (fun q : Nat => (∀ i, i < 12 → q ≠ pr i) ∧ True) F F := wk.rf
  have hq : f_X5_steps person n0 x_no_people pr_st = f_X5_steps person n0 x_no_people pr_st := rfl
  refine lv_aload_n hx hb dX5_steps_0 rfl (lv_at hl 0 rfl) ?_
  refine w_get (v := .ref x_no) hx hb hts i_X5 hown hK w h_x rfl 0 (by decide) (hts _ m_0) rfl dX5_steps_1 ?_
  refine lv_iload_n hx hb dX5_steps_4 rfl (lv_at hl 1 rfl) ?_
  by_cases c1 : (¬ person < 0 ∧ ¬ x_no_people ≤ person)
  · skip
    have hq := hq.trans (if_pos c1)
    have hlt_C : person.toNatClampNeg < 12 := w_okP c1 hpp
    refine w_finQ (v := .ref (pr (person.toNatClampNeg))) rfl (w_runV (rm := ({ frames := 0, cells := 0, slots := 0, locals := 0 } : Room)) (As := [.int person]) (rest := []) (n := 1) hx hb hml hts hown hK w (c_X0_personAt_some l D cI cP cS cL L _ x_no person x_no_up x_no_down x_no_high x_no_prize x_no_z x_no_rounds x_no_people x_no_pa x_no_cr x_no_ls pr pr_nu pr_ki pr_st pr_sl h_x_no h_x_no_pa h_pr c1 hpp) gX5_steps_X0_personAt rfl rfl rfl (by decide +kernel) ⟨(Nat.le_of_ble_eq_true rfl), (Nat.le_of_ble_eq_true rfl)⟩ h_x_no rfl rfl hl.1 rfl (Nat.le_of_ble_eq_true rfl) dX5_steps_5 ⟨(Nat.le_of_ble_eq_true rfl), (Nat.le_of_ble_eq_true rfl)⟩) w hA (fun H locs w => ?_)
    refine lv_astore_n (lv' := [(3, .ref (pr (person.toNatClampNeg))), (0, .ref x), (1, .int person), (2, .int n0)]) hx hb dX5_steps_8 rfl hl (by decide) rfl (fun ls hl => ?_)
    refine lv_aload_n hx hb dX5_steps_9 rfl (lv_at hl 0 rfl) ?_
    refine lv_ifnull hx hb dX5_steps_10 ?_
    refine lv_iload_n hx hb dX5_steps_13 rfl (lv_at hl 3 rfl) ?_
    refine w_finI (w_runS (rm := ({ frames := 0, cells := 0, slots := 0, locals := 0 } : Room)) (As := [.int n0]) (rest := []) (n := 1) hx hb hml hts hown hK w (c_X5_isStepCount l D cI cP cS cL L _ n0 ) gX5_steps_X5_isStepCount rfl rfl rfl (by decide +kernel) ⟨(Nat.le_of_ble_eq_true rfl), (Nat.le_of_ble_eq_true rfl)⟩ rfl hl.1 rfl (Nat.le_of_ble_eq_true rfl) dX5_steps_14 ⟨(Nat.le_of_ble_eq_true rfl), (Nat.le_of_ble_eq_true rfl)⟩) w hA (fun H locs w => ?_)
    refine lv_if_ne (tgt := 22) hx hb dX5_steps_17 (by decide) (fun c2 => ?_) (fun c2 => ?_)
    · skip
      have hq := hq.trans (if_neg c2)
      refine lv_aload_n hx hb dX5_steps_22 rfl (lv_at hl 0 rfl) ?_
      refine w_get (v := .int (pr_st (person.toNatClampNeg))) hx hb hts i_X1 hown hK w (h_pr (person.toNatClampNeg) (by omega)) rfl 2 (by decide) (hts _ m_2) rfl dX5_steps_23 ?_
      refine lv_istore (lv' := [(4, .int (pr_st (person.toNatClampNeg))), (3, .ref (pr (person.toNatClampNeg))), (0, .ref x), (1, .int person), (2, .int n0)]) hx hb dX5_steps_26 hl (by decide) rfl (fun ls hl => ?_)
      refine lv_aload_n hx hb dX5_steps_28 rfl (lv_at hl 1 rfl) ?_
      refine lv_iload_n hx hb dX5_steps_29 rfl (lv_at hl 4 rfl) ?_
      have ho3 := (h_pr (person.toNatClampNeg) (by omega))
      refine w_put (fs2 := [.int (pr_nu (person.toNatClampNeg)), .int (pr_ki (person.toNatClampNeg)), .int n0, .int (pr_sl (person.toNatClampNeg))]) hx hb hts i_X1 tyX1 tyX1_ok nmX1 hown hK w (h_pr (person.toNatClampNeg) (by omega)) rfl 2 (by decide) (hts _ m_2) rfl rfl rfl (Nat.le_of_ble_eq_true rfl) rfl dX5_steps_30 (fun H locs w h__pr__person_toNatClampNeg__ => ?_)
      have hf4 := fam_up (E := (fun i => (eP (pr_nu i) (pr_ki i) (pr_st i) (pr_sl i)))) (E2 := (fun i => (eP (pr_nu i) (pr_ki i) ((upd pr_st (person.toNatClampNeg) n0) i) (pr_sl i)))) h_pr (by omega) hinj_pr (e2 := (eP (pr_nu (person.toNatClampNeg)) (pr_ki (person.toNatClampNeg)) n0 (pr_sl (person.toNatClampNeg)))) (by simp [upd, va_up]) (fun i hi => by simp [upd, va_up, hi])
      have h_x := h_x.upw h__pr__person_toNatClampNeg__ (wi.ne h_x ho3 (by intro h; cases h))
      have h_x_no := h_x_no.upw h__pr__person_toNatClampNeg__ (wi.ne h_x_no ho3 (by intro h; cases h))
      have h_x_no_pa := h_x_no_pa.upw h__pr__person_toNatClampNeg__ (wi.ne h_x_no_pa ho3 (by intro h; cases h))
      have hk := hk.upw h__pr__person_toNatClampNeg__ (fun q h => h.1 (person.toNatClampNeg) (by omega))
      have h_pr := hf4
      refine lv_iload hx hb dX5_steps_33 (lv_at hl 0 rfl) ?_
      exact w_iret hx hb hr hlocks w ⟨rfl, _, hq.symm, rfl, (fun i hi => (h_pr i hi).2), hk⟩ (Nat.le_refl _) (Nat.le_refl _) dX5_steps_35
    · skip
      have hq := hq.trans (if_pos c2)
      refine lv_iconst (v := (-1)) hx hb dX5_steps_20 (by decide) ?_
      exact w_iret hx hb hr hlocks w ⟨rfl, _, hq.symm, rfl, (fun i hi => (h_pr i hi).2), hk⟩ (Nat.le_refl _) (Nat.le_refl _) dX5_steps_21
  · skip
    have hq := hq.trans (if_neg c1)
    refine w_finQ (v := .null) (by unfold f_X0_personAt_none; first | rfl | (split <;> rfl)) (w_runV (rm := ({ frames := 0, cells := 0, slots := 0, locals := 0 } : Room)) (As := [.int person]) (rest := []) (n := 1) hx hb hml hts hown hK w (c_X0_personAt_none l D cI cP cS cL L _ x_no person x_no_up x_no_down x_no_high x_no_prize x_no_z x_no_rounds x_no_people x_no_pa x_no_cr x_no_ls pr h_x_no h_x_no_pa c1) gX5_steps_X0_personAt rfl rfl rfl (by decide +kernel) ⟨(Nat.le_of_ble_eq_true rfl), (Nat.le_of_ble_eq_true rfl)⟩ h_x_no rfl rfl hl.1 rfl (Nat.le_of_ble_eq_true rfl) dX5_steps_5 ⟨(Nat.le_of_ble_eq_true rfl), (Nat.le_of_ble_eq_true rfl)⟩) w hA (fun H locs w => ?_)
    refine lv_astore_nN (lv' := [(3, .null), (0, .ref x), (1, .int person), (2, .int n0)]) hx hb dX5_steps_8 rfl hl (by decide) rfl (fun ls hl => ?_)
    refine lv_aload_nN hx hb dX5_steps_9 rfl (lv_at hl 0 rfl) ?_
    refine lv_ifnullN (tgt := 20) hx hb dX5_steps_10 (by decide) ?_
    refine lv_iconst (v := (-1)) hx hb dX5_steps_20 (by decide) ?_
    exact w_iret hx hb hr hlocks w ⟨rfl, _, hq.symm, rfl, (fun i hi => (h_pr i hi).2), hk⟩ (Nat.le_refl _) (Nat.le_refl _) dX5_steps_21
def f_X5_holds (person : Int32) (x_no_up : Int32) (x_no_down : Int32) (x_no_high : Int32) (x_no_z : Int32) (x_no_rounds : Int32) (x_no_people : Int32) (x_no_ls : Int32) (pr_ki : Nat → Int32) (pr_st : Nat → Int32) : Int32 × Int32 := if (¬ person < 0 ∧ ¬ x_no_people ≤ person) then (if (f_X1_holdsByDraw (pr_ki (person.toNatClampNeg))) = (0 : Int32) then (bnd (f_X0_heldBy x_no_up x_no_down x_no_high x_no_z x_no_rounds x_no_people x_no_ls (pr_ki (person.toNatClampNeg)) (pr_st (person.toNatClampNeg))) (fun x32 : Int32 × Int32 => (x32.1, x32.2))) else ((-3), x_no_z)) else ((-1), x_no_z)
set_option maxHeartbeats 400000 in
set_option maxRecDepth 100000 in
theorem c_X5_holds (l : Launch) (D : va_G) (cI cP cS cL : ClassId) (L : List Nat) (F : Nat → va_E) (x : Nat) (person : Int32) (x_no : Nat) (x_ke : Nat) (x_mi : Nat) (x_im : Int32) (x_sh : Nat) (x_co : Nat) (x_ot : Nat) (x_no_up : Int32) (x_no_down : Int32) (x_no_high : Int32) (x_no_prize : Int32) (x_no_z : Int32) (x_no_rounds : Int32) (x_no_people : Int32) (x_no_pa : Nat) (x_no_cr : Nat) (x_no_ls : Int32) (pr : Nat → Nat) (pr_nu : Nat → Int32) (pr_ki : Nat → Int32) (pr_st : Nat → Int32) (pr_sl : Nat → Int32) (h_x : wi L F x (eX x_no x_ke x_mi x_im x_sh x_co x_ot)) (h_x_no : wi L F x_no (eG x_no_up x_no_down x_no_high x_no_prize x_no_z x_no_rounds x_no_people x_no_pa x_no_cr x_no_ls)) (h_x_no_pa : wi L F x_no_pa (eQ cP 12 (fun i => some (pr i)))) (h_pr : ∀ i, i < 12 → wi L F (pr i) (eP (pr_nu i) (pr_ki i) (pr_st i) (pr_sl i))) (hpp : x_no_people.toInt ≤ 12) (hsts : ∀ i, i < 12 → (pr_st i).toInt ≤ 1000) : wMj l D cI cP cS cL yX5_holds wsX5_holds ({ frames := 5, cells := 0, slots := 0, locals := 108 } : Room) [.ref x, .int person] L F (fun r1 F1 => ∃ y9 : Int32 × Int32, y9 = (f_X5_holds person x_no_up x_no_down x_no_high x_no_z x_no_rounds x_no_people x_no_ls pr_ki pr_st) ∧ r1 = y9.1 ∧ F1 x_no = (eG x_no_up x_no_down x_no_high x_no_prize y9.2 x_no_rounds x_no_people x_no_pa x_no_cr x_no_ls) ∧ wk (fun q : Nat => q ≠ x_no ∧ True) F1 F) := by
  refine wM.of (cc := cX5_holds) (maxL := 3) (ret := (some .int)) (by decide) rfl (Nat.le_of_ble_eq_true rfl) ?_
  intro pZ eZ sZ mZ below meth cZ A ls C hl w
  obtain ⟨hx, hb, hr, hml, hts, hown, hlocks, hK, hA, hin⟩ := C
  have hown : sZ.vm.findClass RX5 = some mZ.cls := hown
  have hl : lv_has ls 3 [(0, .ref x), (1, .int person)] := hl
  have m_0 : ((.fieldLink RX5 10 "TwoThirds" "now" "LTwoThirds$Game;") : Cond) ∈ wsX5_holds := by decide +kernel
  have i_X5 : ∀ w ∈ wsX50, w ∈ wsX5_holds := by decide +kernel
  have hk : wk (fun q : Nat => q ≠ x_no ∧ True) F F := wk.rf
  have hq : f_X5_holds person x_no_up x_no_down x_no_high x_no_z x_no_rounds x_no_people x_no_ls pr_ki pr_st = f_X5_holds person x_no_up x_no_down x_no_high x_no_z x_no_rounds x_no_people x_no_ls pr_ki pr_st := rfl
  refine lv_aload_n hx hb dX5_holds_0 rfl (lv_at hl 0 rfl) ?_
  refine w_get (v := .ref x_no) hx hb hts i_X5 hown hK w h_x rfl 0 (by decide) (hts _ m_0) rfl dX5_holds_1 ?_
  refine lv_iload_n hx hb dX5_holds_4 rfl (lv_at hl 1 rfl) ?_
  by_cases c1 : (¬ person < 0 ∧ ¬ x_no_people ≤ person)
  · skip
    have hq := hq.trans (if_pos c1)
    have hlt_C : person.toNatClampNeg < 12 := w_okP c1 hpp
    refine w_finQ (v := .ref (pr (person.toNatClampNeg))) rfl (w_runV (rm := ({ frames := 0, cells := 0, slots := 0, locals := 0 } : Room)) (As := [.int person]) (rest := []) (n := 1) hx hb hml hts hown hK w (c_X0_personAt_some l D cI cP cS cL L _ x_no person x_no_up x_no_down x_no_high x_no_prize x_no_z x_no_rounds x_no_people x_no_pa x_no_cr x_no_ls pr pr_nu pr_ki pr_st pr_sl h_x_no h_x_no_pa h_pr c1 hpp) gX5_holds_X0_personAt rfl rfl rfl (by decide +kernel) ⟨(Nat.le_of_ble_eq_true rfl), (Nat.le_of_ble_eq_true rfl)⟩ h_x_no rfl rfl hl.1 rfl (Nat.le_of_ble_eq_true rfl) dX5_holds_5 ⟨(Nat.le_of_ble_eq_true rfl), (Nat.le_of_ble_eq_true rfl)⟩) w hA (fun H locs w => ?_)
    refine lv_astore_n (lv' := [(2, .ref (pr (person.toNatClampNeg))), (0, .ref x), (1, .int person)]) hx hb dX5_holds_8 rfl hl (by decide) rfl (fun ls hl => ?_)
    refine lv_aload_n hx hb dX5_holds_9 rfl (lv_at hl 0 rfl) ?_
    refine lv_ifnonnull (tgt := 15) hx hb dX5_holds_10 (by decide) ?_
    refine lv_aload_n hx hb dX5_holds_15 rfl (lv_at hl 0 rfl) ?_
    refine w_finI (w_runV (rm := ({ frames := 0, cells := 0, slots := 0, locals := 0 } : Room)) (As := []) (rest := []) (n := 0) hx hb hml hts hown hK w (c_X1_holdsByDraw l D cI cP cS cL L _ (pr (person.toNatClampNeg)) (pr_nu (person.toNatClampNeg)) (pr_ki (person.toNatClampNeg)) (pr_st (person.toNatClampNeg)) (pr_sl (person.toNatClampNeg)) (h_pr (person.toNatClampNeg) (by omega))) gX5_holds_X1_holdsByDraw rfl rfl rfl (by decide +kernel) ⟨(Nat.le_of_ble_eq_true rfl), (Nat.le_of_ble_eq_true rfl)⟩ (h_pr (person.toNatClampNeg) (by omega)) rfl rfl hl.1 rfl (Nat.le_of_ble_eq_true rfl) dX5_holds_16 ⟨(Nat.le_of_ble_eq_true rfl), (Nat.le_of_ble_eq_true rfl)⟩) w hA (fun H locs w => ?_)
    refine lv_if_eq (tgt := 27) hx hb dX5_holds_19 (by decide) (fun c2 => ?_) (fun c2 => ?_)
    · skip
      have hq := hq.trans (if_pos c2)
      refine lv_aload_n hx hb dX5_holds_27 rfl (lv_at hl 1 rfl) ?_
      refine w_get (v := .ref x_no) hx hb hts i_X5 hown hK w h_x rfl 0 (by decide) (hts _ m_0) rfl dX5_holds_28 ?_
      refine lv_aload_n hx hb dX5_holds_31 rfl (lv_at hl 0 rfl) ?_
      refine w_finj (w_runV (rm := ({ frames := 4, cells := 0, slots := 0, locals := 87 } : Room)) (As := [.ref (pr (person.toNatClampNeg))]) (rest := []) (n := 1) hx hb hml hts hown hK w (c_X0_heldBy l D cI cP cS cL L _ x_no (pr (person.toNatClampNeg)) x_no_up x_no_down x_no_high x_no_prize x_no_z x_no_rounds x_no_people x_no_pa x_no_cr x_no_ls (pr_nu (person.toNatClampNeg)) (pr_ki (person.toNatClampNeg)) (pr_st (person.toNatClampNeg)) (pr_sl (person.toNatClampNeg)) h_x_no (h_pr (person.toNatClampNeg) (by omega)) (hsts (person.toNatClampNeg) (by omega))) gX5_holds_X0_heldBy rfl rfl rfl (by decide +kernel) ⟨(Nat.le_of_ble_eq_true rfl), (Nat.le_of_ble_eq_true rfl)⟩ h_x_no rfl rfl hl.1 rfl (Nat.le_of_ble_eq_true rfl) dX5_holds_32 ⟨(Nat.le_of_ble_eq_true rfl), (Nat.le_of_ble_eq_true rfl)⟩) w hA (fun r9 F1 H locs hp w => ?_)
      obtain ⟨x32, hx32, hr9, hw0, hk9⟩ := hp
      subst hr9
      have hq := hq.trans (w_bnd hx32)
      have h_x := h_x.keep hk9 ⟨(wi.ne h_x h_x_no (by intro h; cases h)), trivial⟩
      have h_x_no_pa := h_x_no_pa.keep hk9 ⟨(wi.ne h_x_no_pa h_x_no (by intro h; cases h)), trivial⟩
      have h_pr := fun i (hi : i < 12) => (h_pr i hi).keep hk9 ⟨(wi.ne (h_pr i hi) h_x_no (by intro h; cases h)), trivial⟩
      have h_x_no := h_x_no.new hw0
      have hk := hk.call hk9 (fun q h => ⟨h.1, trivial⟩)
      exact w_iret hx hb hr hlocks w ⟨rfl, _, hq.symm, rfl, h_x_no.2, hk⟩ (Nat.le_refl _) (Nat.le_refl _) dX5_holds_35
    · skip
      have hq := hq.trans (if_neg c2)
      refine lv_bipush (v := (-3)) hx hb dX5_holds_22 (by decide) ?_
      refine lv_goto (tgt := 35) hx hb dX5_holds_24 (by decide) ?_
      exact w_iret hx hb hr hlocks w ⟨rfl, _, hq.symm, rfl, h_x_no.2, hk⟩ (Nat.le_refl _) (Nat.le_refl _) dX5_holds_35
  · skip
    have hq := hq.trans (if_neg c1)
    refine w_finQ (v := .null) (by unfold f_X0_personAt_none; first | rfl | (split <;> rfl)) (w_runV (rm := ({ frames := 0, cells := 0, slots := 0, locals := 0 } : Room)) (As := [.int person]) (rest := []) (n := 1) hx hb hml hts hown hK w (c_X0_personAt_none l D cI cP cS cL L _ x_no person x_no_up x_no_down x_no_high x_no_prize x_no_z x_no_rounds x_no_people x_no_pa x_no_cr x_no_ls pr h_x_no h_x_no_pa c1) gX5_holds_X0_personAt rfl rfl rfl (by decide +kernel) ⟨(Nat.le_of_ble_eq_true rfl), (Nat.le_of_ble_eq_true rfl)⟩ h_x_no rfl rfl hl.1 rfl (Nat.le_of_ble_eq_true rfl) dX5_holds_5 ⟨(Nat.le_of_ble_eq_true rfl), (Nat.le_of_ble_eq_true rfl)⟩) w hA (fun H locs w => ?_)
    refine lv_astore_nN (lv' := [(2, .null), (0, .ref x), (1, .int person)]) hx hb dX5_holds_8 rfl hl (by decide) rfl (fun ls hl => ?_)
    refine lv_aload_nN hx hb dX5_holds_9 rfl (lv_at hl 0 rfl) ?_
    refine lv_ifnonnullN hx hb dX5_holds_10 ?_
    refine lv_iconst (v := (-1)) hx hb dX5_holds_13 (by decide) ?_
    exact w_iret hx hb hr hlocks w ⟨rfl, _, hq.symm, rfl, h_x_no.2, hk⟩ (Nat.le_refl _) (Nat.le_refl _) dX5_holds_14
def f_X5_round (x_no_up : Int32) (x_no_down : Int32) (x_no_high : Int32) (x_no_z : Int32) (x_no_rounds : Int32) (x_no_people : Int32) (x_no_ls : Int32) (x_no_cr_so : Int32) (x_no_cr_sz : Int32) (x_no_cr_e_f : Nat → Int32) (pr_ki : Nat → Int32) (pr_st : Nat → Int32) (pr_sl : Nat → Int32) : Int32 × Int32 × Int32 × Int32 × Int32 × Int32 × (Nat → Int32) := if x_no_rounds < (99 : Int32) then (if x_no_people = (0 : Int32) then ((-3), x_no_z, x_no_rounds, x_no_ls, x_no_cr_so, x_no_cr_sz, x_no_cr_e_f) else (bnd (f_X0_play x_no_up x_no_down x_no_high x_no_z x_no_rounds x_no_people x_no_ls 12 x_no_cr_e_f pr_ki pr_st pr_sl) (fun x32 : Int32 × Int32 × Int32 × Int32 × Int32 × (Nat → Int32) => (x32.2.1, x32.1, x32.2.1, x32.2.2.1, x32.2.2.2.1, x32.2.2.2.2.1, x32.2.2.2.2.2)))) else ((-2), x_no_z, x_no_rounds, x_no_ls, x_no_cr_so, x_no_cr_sz, x_no_cr_e_f)
set_option maxHeartbeats 400000 in
set_option maxRecDepth 100000 in
theorem c_X5_round (l : Launch) (D : va_G) (cI cP cS cL : ClassId) (L : List Nat) (F : Nat → va_E) (x : Nat) (x_no : Nat) (x_ke : Nat) (x_mi : Nat) (x_im : Int32) (x_sh : Nat) (x_co : Nat) (x_ot : Nat) (x_no_up : Int32) (x_no_down : Int32) (x_no_high : Int32) (x_no_prize : Int32) (x_no_z : Int32) (x_no_rounds : Int32) (x_no_people : Int32) (x_no_pa : Nat) (x_no_cr : Nat) (x_no_ls : Int32) (x_no_cr_e : Nat) (x_no_cr_so : Int32) (x_no_cr_sz : Int32) (x_no_cr_e_f : Nat → Int32) (pr : Nat → Nat) (pr_nu : Nat → Int32) (pr_ki : Nat → Int32) (pr_st : Nat → Int32) (pr_sl : Nat → Int32) (h_x : wi L F x (eX x_no x_ke x_mi x_im x_sh x_co x_ot)) (h_x_no : wi L F x_no (eG x_no_up x_no_down x_no_high x_no_prize x_no_z x_no_rounds x_no_people x_no_pa x_no_cr x_no_ls)) (h_x_no_pa : wi L F x_no_pa (eQ cP 12 (fun i => some (pr i)))) (h_x_no_cr : wi L F x_no_cr (eR x_no_cr_e x_no_cr_so x_no_cr_sz)) (h_x_no_cr_e : wi L F x_no_cr_e (eI cI 12 x_no_cr_e_f)) (h_pr : ∀ i, i < 12 → wi L F (pr i) (eP (pr_nu i) (pr_ki i) (pr_st i) (pr_sl i))) (hsts : ∀ i, i < 12 → (pr_st i).toInt ≤ 1000) : wMj l D cI cP cS cL yX5_round wsX5_round ({ frames := 7, cells := 0, slots := 0, locals := 151 } : Room) [.ref x] L F (fun r1 F1 => ∃ y9 : Int32 × Int32 × Int32 × Int32 × Int32 × Int32 × (Nat → Int32), y9 = (f_X5_round x_no_up x_no_down x_no_high x_no_z x_no_rounds x_no_people x_no_ls x_no_cr_so x_no_cr_sz x_no_cr_e_f pr_ki pr_st pr_sl) ∧ r1 = y9.1 ∧ F1 x_no = (eG x_no_up x_no_down x_no_high x_no_prize y9.2.1 y9.2.2.1 x_no_people x_no_pa x_no_cr y9.2.2.2.1) ∧ F1 x_no_cr = (eR x_no_cr_e y9.2.2.2.2.1 y9.2.2.2.2.2.1) ∧ F1 x_no_cr_e = (eI cI 12 y9.2.2.2.2.2.2) ∧ wk (fun q : Nat => q ≠ x_no ∧ q ≠ x_no_cr ∧ q ≠ x_no_cr_e ∧ True) F1 F) := by
  refine wM.of (cc := cX5_round) (maxL := 1) (ret := (some .int)) (by decide) rfl (Nat.le_of_ble_eq_true rfl) ?_
  intro pZ eZ sZ mZ below meth cZ A ls C hl w
  obtain ⟨hx, hb, hr, hml, hts, hown, hlocks, hK, hA, hin⟩ := C
  have hown : sZ.vm.findClass RX5 = some mZ.cls := hown
  have hl : lv_has ls 1 [(0, .ref x)] := hl
  have m_0 : ((.fieldLink RX5 10 "TwoThirds" "now" "LTwoThirds$Game;") : Cond) ∈ wsX5_round := by decide +kernel
  have i_X5 : ∀ w ∈ wsX50, w ∈ wsX5_round := by decide +kernel
  have m_2 : ((.fieldLink RX5 93 "TwoThirds$Game" "rounds" "I") : Cond) ∈ wsX5_round := by decide +kernel
  have i_X0 : ∀ w ∈ wsX00, w ∈ wsX5_round := by decide +kernel
  have m_4 : ((.fieldLink RX5 125 "TwoThirds$Game" "people" "I") : Cond) ∈ wsX5_round := by decide +kernel
  have hk : wk (fun q : Nat => q ≠ x_no ∧ q ≠ x_no_cr ∧ q ≠ x_no_cr_e ∧ True) F F := wk.rf
  have hq : f_X5_round x_no_up x_no_down x_no_high x_no_z x_no_rounds x_no_people x_no_ls x_no_cr_so x_no_cr_sz x_no_cr_e_f pr_ki pr_st pr_sl = f_X5_round x_no_up x_no_down x_no_high x_no_z x_no_rounds x_no_people x_no_ls x_no_cr_so x_no_cr_sz x_no_cr_e_f pr_ki pr_st pr_sl := rfl
  refine lv_aload_n hx hb dX5_round_0 rfl (lv_at hl 0 rfl) ?_
  refine w_get (v := .ref x_no) hx hb hts i_X5 hown hK w h_x rfl 0 (by decide) (hts _ m_0) rfl dX5_round_1 ?_
  refine w_get (v := .int x_no_rounds) hx hb hts i_X0 hown hK w h_x_no rfl 5 (by decide) (hts _ m_2) rfl dX5_round_4 ?_
  refine lv_bipush (v := 99) hx hb dX5_round_7 (by decide) ?_
  refine lv_icmp_lt (tgt := 15) hx hb dX5_round_9 (by decide) (fun c1 => ?_) (fun c1 => ?_)
  · skip
    have hq := hq.trans (if_pos c1)
    refine lv_aload_n hx hb dX5_round_15 rfl (lv_at hl 0 rfl) ?_
    refine w_get (v := .ref x_no) hx hb hts i_X5 hown hK w h_x rfl 0 (by decide) (hts _ m_0) rfl dX5_round_16 ?_
    refine w_get (v := .int x_no_people) hx hb hts i_X0 hown hK w h_x_no rfl 6 (by decide) (hts _ m_4) rfl dX5_round_19 ?_
    refine lv_if_ne (tgt := 28) hx hb dX5_round_22 (by decide) (fun c2 => ?_) (fun c2 => ?_)
    · skip
      have hq := hq.trans (if_neg c2)
      refine lv_aload_n hx hb dX5_round_28 rfl (lv_at hl 0 rfl) ?_
      refine w_get (v := .ref x_no) hx hb hts i_X5 hown hK w h_x rfl 0 (by decide) (hts _ m_0) rfl dX5_round_29 ?_
      refine w_finw (w_runV (rm := ({ frames := 6, cells := 0, slots := 0, locals := 130 } : Room)) (As := []) (rest := []) (n := 0) hx hb hml hts hown hK w (c_X0_play l D cI cP cS cL L _ x_no x_no_up x_no_down x_no_high x_no_prize x_no_z x_no_rounds x_no_people x_no_pa x_no_cr x_no_ls x_no_cr_e x_no_cr_so x_no_cr_sz 12 x_no_cr_e_f pr pr_nu pr_ki pr_st pr_sl h_x_no h_x_no_pa h_x_no_cr h_x_no_cr_e h_pr (by decide) hsts) gX5_round_X0_play rfl rfl rfl (by decide +kernel) ⟨(Nat.le_of_ble_eq_true rfl), (Nat.le_of_ble_eq_true rfl)⟩ h_x_no rfl rfl hl.1 rfl (Nat.le_of_ble_eq_true rfl) dX5_round_32 ⟨(Nat.le_of_ble_eq_true rfl), (Nat.le_of_ble_eq_true rfl)⟩) w hA (fun F1 H locs hp w => ?_)
      obtain ⟨x32, hx32, hw0, hw1, hw2, hk9⟩ := hp
      have hq := hq.trans (w_bnd hx32)
      have h_x := h_x.keep hk9 ⟨(wi.ne h_x h_x_no (by intro h; cases h)), (wi.ne h_x h_x_no_cr (by intro h; cases h)), (wi.ne h_x h_x_no_cr_e (by intro h; cases h)), trivial⟩
      have h_x_no_pa := h_x_no_pa.keep hk9 ⟨(wi.ne h_x_no_pa h_x_no (by intro h; cases h)), (wi.ne h_x_no_pa h_x_no_cr (by intro h; cases h)), (wi.ne h_x_no_pa h_x_no_cr_e (by intro h; cases h)), trivial⟩
      have h_pr := fun i (hi : i < 12) => (h_pr i hi).keep hk9 ⟨(wi.ne (h_pr i hi) h_x_no (by intro h; cases h)), (wi.ne (h_pr i hi) h_x_no_cr (by intro h; cases h)), (wi.ne (h_pr i hi) h_x_no_cr_e (by intro h; cases h)), trivial⟩
      have h_x_no := h_x_no.new hw0
      have h_x_no_cr := h_x_no_cr.new hw1
      have h_x_no_cr_e := h_x_no_cr_e.new hw2
      have hk := hk.call hk9 (fun q h => ⟨h.1, h.2.1, h.2.2.1, trivial⟩)
      refine lv_aload_n hx hb dX5_round_35 rfl (lv_at hl 0 rfl) ?_
      refine w_get (v := .ref x_no) hx hb hts i_X5 hown hK w h_x rfl 0 (by decide) (hts _ m_0) rfl dX5_round_36 ?_
      refine w_get (v := .int x32.2.1) hx hb hts i_X0 hown hK w h_x_no rfl 5 (by decide) (hts _ m_2) rfl dX5_round_39 ?_
      exact w_iret hx hb hr hlocks w ⟨rfl, _, hq.symm, rfl, h_x_no.2, h_x_no_cr.2, h_x_no_cr_e.2, hk⟩ (Nat.le_refl _) (Nat.le_refl _) dX5_round_42
    · skip
      have hq := hq.trans (if_pos c2)
      refine lv_bipush (v := (-3)) hx hb dX5_round_25 (by decide) ?_
      exact w_iret hx hb hr hlocks w ⟨rfl, _, hq.symm, rfl, h_x_no.2, h_x_no_cr.2, h_x_no_cr_e.2, hk⟩ (Nat.le_refl _) (Nat.le_refl _) dX5_round_27
  · skip
    have hq := hq.trans (if_neg c1)
    refine lv_bipush (v := (-2)) hx hb dX5_round_12 (by decide) ?_
    exact w_iret hx hb hr hlocks w ⟨rfl, _, hq.symm, rfl, h_x_no.2, h_x_no_cr.2, h_x_no_cr_e.2, hk⟩ (Nat.le_refl _) (Nat.le_refl _) dX5_round_14
def f_X5_anew (x_no_people : Int32) (x_no_cr_e_f : Nat → Int32) : Int32 × Int32 × Int32 × Int32 × Int32 × (Nat → Int32) := (bnd (f_X0_forgetRounds 12 x_no_cr_e_f) (fun x4 : Int32 × Int32 × Int32 × Int32 × (Nat → Int32) => (x_no_people, x4.1, x4.2.1, x4.2.2.1, x4.2.2.2.1, x4.2.2.2.2)))
set_option maxHeartbeats 400000 in
set_option maxRecDepth 100000 in
theorem c_X5_anew (l : Launch) (D : va_G) (cI cP cS cL : ClassId) (L : List Nat) (F : Nat → va_E) (x : Nat) (x_no : Nat) (x_ke : Nat) (x_mi : Nat) (x_im : Int32) (x_sh : Nat) (x_co : Nat) (x_ot : Nat) (x_no_up : Int32) (x_no_down : Int32) (x_no_high : Int32) (x_no_prize : Int32) (x_no_z : Int32) (x_no_rounds : Int32) (x_no_people : Int32) (x_no_pa : Nat) (x_no_cr : Nat) (x_no_ls : Int32) (x_no_cr_e : Nat) (x_no_cr_so : Int32) (x_no_cr_sz : Int32) (x_no_cr_e_f : Nat → Int32) (h_x : wi L F x (eX x_no x_ke x_mi x_im x_sh x_co x_ot)) (h_x_no : wi L F x_no (eG x_no_up x_no_down x_no_high x_no_prize x_no_z x_no_rounds x_no_people x_no_pa x_no_cr x_no_ls)) (h_x_no_cr : wi L F x_no_cr (eR x_no_cr_e x_no_cr_so x_no_cr_sz)) (h_x_no_cr_e : wi L F x_no_cr_e (eI cI 12 x_no_cr_e_f)) : wMj l D cI cP cS cL yX5_anew wsX5_anew ({ frames := 3, cells := 0, slots := 0, locals := 65 } : Room) [.ref x] L F (fun r1 F1 => ∃ y9 : Int32 × Int32 × Int32 × Int32 × Int32 × (Nat → Int32), y9 = (f_X5_anew x_no_people x_no_cr_e_f) ∧ r1 = y9.1 ∧ F1 x_no = (eG x_no_up x_no_down x_no_high x_no_prize x_no_z y9.2.1 x_no_people x_no_pa x_no_cr y9.2.2.1) ∧ F1 x_no_cr = (eR x_no_cr_e y9.2.2.2.1 y9.2.2.2.2.1) ∧ F1 x_no_cr_e = (eI cI 12 y9.2.2.2.2.2) ∧ wk (fun q : Nat => q ≠ x_no ∧ q ≠ x_no_cr ∧ q ≠ x_no_cr_e ∧ True) F1 F) := by
  refine wM.of (cc := cX5_anew) (maxL := 1) (ret := (some .int)) (by decide) rfl (Nat.le_of_ble_eq_true rfl) ?_
  intro pZ eZ sZ mZ below meth cZ A ls C hl w
  obtain ⟨hx, hb, hr, hml, hts, hown, hlocks, hK, hA, hin⟩ := C
  have hown : sZ.vm.findClass RX5 = some mZ.cls := hown
  have hl : lv_has ls 1 [(0, .ref x)] := hl
  have m_0 : ((.fieldLink RX5 10 "TwoThirds" "now" "LTwoThirds$Game;") : Cond) ∈ wsX5_anew := by decide +kernel
  have i_X5 : ∀ w ∈ wsX50, w ∈ wsX5_anew := by decide +kernel
  have m_2 : ((.fieldLink RX5 125 "TwoThirds$Game" "people" "I") : Cond) ∈ wsX5_anew := by decide +kernel
  have i_X0 : ∀ w ∈ wsX00, w ∈ wsX5_anew := by decide +kernel
  have hk : wk (fun q : Nat => q ≠ x_no ∧ q ≠ x_no_cr ∧ q ≠ x_no_cr_e ∧ True) F F := wk.rf
  have hq : f_X5_anew x_no_people x_no_cr_e_f = f_X5_anew x_no_people x_no_cr_e_f := rfl
  refine lv_aload_n hx hb dX5_anew_0 rfl (lv_at hl 0 rfl) ?_
  refine w_get (v := .ref x_no) hx hb hts i_X5 hown hK w h_x rfl 0 (by decide) (hts _ m_0) rfl dX5_anew_1 ?_
  refine w_finw (w_runV (rm := ({ frames := 2, cells := 0, slots := 0, locals := 45 } : Room)) (As := []) (rest := []) (n := 0) hx hb hml hts hown hK w (c_X0_forgetRounds l D cI cP cS cL L _ x_no x_no_up x_no_down x_no_high x_no_prize x_no_z x_no_rounds x_no_people x_no_pa x_no_cr x_no_ls x_no_cr_e x_no_cr_so x_no_cr_sz 12 x_no_cr_e_f h_x_no h_x_no_cr h_x_no_cr_e (by decide)) gX5_anew_X0_forgetRounds rfl rfl rfl (by decide +kernel) ⟨(Nat.le_of_ble_eq_true rfl), (Nat.le_of_ble_eq_true rfl)⟩ h_x_no rfl rfl hl.1 rfl (Nat.le_of_ble_eq_true rfl) dX5_anew_4 ⟨(Nat.le_of_ble_eq_true rfl), (Nat.le_of_ble_eq_true rfl)⟩) w hA (fun F1 H locs hp w => ?_)
  obtain ⟨x4, hx4, hw0, hw1, hw2, hk9⟩ := hp
  have hq := hq.trans (w_bnd hx4)
  have h_x := h_x.keep hk9 ⟨(wi.ne h_x h_x_no (by intro h; cases h)), (wi.ne h_x h_x_no_cr (by intro h; cases h)), (wi.ne h_x h_x_no_cr_e (by intro h; cases h)), trivial⟩
  have h_x_no := h_x_no.new hw0
  have h_x_no_cr := h_x_no_cr.new hw1
  have h_x_no_cr_e := h_x_no_cr_e.new hw2
  have hk := hk.call hk9 (fun q h => ⟨h.1, h.2.1, h.2.2.1, trivial⟩)
  refine lv_aload_n hx hb dX5_anew_7 rfl (lv_at hl 0 rfl) ?_
  refine w_get (v := .ref x_no) hx hb hts i_X5 hown hK w h_x rfl 0 (by decide) (hts _ m_0) rfl dX5_anew_8 ?_
  refine w_get (v := .int x_no_people) hx hb hts i_X0 hown hK w h_x_no rfl 6 (by decide) (hts _ m_2) rfl dX5_anew_11 ?_
  exact w_iret hx hb hr hlocks w ⟨rfl, _, hq.symm, rfl, h_x_no.2, h_x_no_cr.2, h_x_no_cr_e.2, hk⟩ (Nat.le_refl _) (Nat.le_refl _) dX5_anew_14
def f_X5_last (what : Int32) (x_no_up : Int32) (x_no_down : Int32) (x_no_prize : Int32) (x_no_rounds : Int32) (x_no_ls : Int32) (x_no_cr_sz : Int32) (x_no_cr_e_f : Nat → Int32) : Int32 := if what < (0 : Int32) then (-1) else (if what ≤ (2 : Int32) then (if x_no_rounds = (0 : Int32) then (-3) else (if what = (0 : Int32) then x_no_ls else (if what = (1 : Int32) then (f_X0_countWinners x_no_up x_no_down x_no_prize x_no_cr_sz x_no_cr_e_f) else (f_X0_firstWinner x_no_up x_no_down x_no_prize x_no_cr_sz x_no_cr_e_f)))) else (-1))
set_option maxHeartbeats 400000 in
set_option maxRecDepth 100000 in
theorem c_X5_last (l : Launch) (D : va_G) (cI cP cS cL : ClassId) (L : List Nat) (F : Nat → va_E) (x : Nat) (what : Int32) (x_no : Nat) (x_ke : Nat) (x_mi : Nat) (x_im : Int32) (x_sh : Nat) (x_co : Nat) (x_ot : Nat) (x_no_up : Int32) (x_no_down : Int32) (x_no_high : Int32) (x_no_prize : Int32) (x_no_z : Int32) (x_no_rounds : Int32) (x_no_people : Int32) (x_no_pa : Nat) (x_no_cr : Nat) (x_no_ls : Int32) (x_no_cr_e : Nat) (x_no_cr_so : Int32) (x_no_cr_sz : Int32) (x_no_cr_e_f : Nat → Int32) (h_x : wi L F x (eX x_no x_ke x_mi x_im x_sh x_co x_ot)) (h_x_no : wi L F x_no (eG x_no_up x_no_down x_no_high x_no_prize x_no_z x_no_rounds x_no_people x_no_pa x_no_cr x_no_ls)) (h_x_no_cr : wi L F x_no_cr (eR x_no_cr_e x_no_cr_so x_no_cr_sz)) (h_x_no_cr_e : wi L F x_no_cr_e (eI cI 12 x_no_cr_e_f)) (hzc : x_no_cr_sz.toInt ≤ 12) : wMI l D cI cP cS cL yX5_last wsX5_last ({ frames := 4, cells := 0, slots := 0, locals := 97 } : Room) [.ref x, .int what] L F (f_X5_last what x_no_up x_no_down x_no_prize x_no_rounds x_no_ls x_no_cr_sz x_no_cr_e_f) F := by
  refine wM.of (cc := cX5_last) (maxL := 2) (ret := (some .int)) (by decide) rfl (Nat.le_of_ble_eq_true rfl) ?_
  intro pZ eZ sZ mZ below meth cZ A ls C hl w
  obtain ⟨hx, hb, hr, hml, hts, hown, hlocks, hK, hA, hin⟩ := C
  have hown : sZ.vm.findClass RX5 = some mZ.cls := hown
  have hl : lv_has ls 2 [(0, .ref x), (1, .int what)] := hl
  have m_0 : ((.fieldLink RX5 10 "TwoThirds" "now" "LTwoThirds$Game;") : Cond) ∈ wsX5_last := by decide +kernel
  have i_X5 : ∀ w ∈ wsX50, w ∈ wsX5_last := by decide +kernel
  have m_2 : ((.fieldLink RX5 93 "TwoThirds$Game" "rounds" "I") : Cond) ∈ wsX5_last := by decide +kernel
  have i_X0 : ∀ w ∈ wsX00, w ∈ wsX5_last := by decide +kernel
  have m_4 : ((.fieldLink RX5 96 "TwoThirds$Game" "cards" "LTwoThirds$Row;") : Cond) ∈ wsX5_last := by decide +kernel
  have m_5 : ((.fieldLink RX5 134 "TwoThirds$Game" "lastSum" "I") : Cond) ∈ wsX5_last := by decide +kernel
  have hq : f_X5_last what x_no_up x_no_down x_no_prize x_no_rounds x_no_ls x_no_cr_sz x_no_cr_e_f = f_X5_last what x_no_up x_no_down x_no_prize x_no_rounds x_no_ls x_no_cr_sz x_no_cr_e_f := rfl
  refine lv_iload_n hx hb dX5_last_0 rfl (lv_at hl 1 rfl) ?_
  refine lv_if_lt (tgt := 9) hx hb dX5_last_1 (by decide) (fun c1 => ?_) (fun c1 => ?_)
  · skip
    have hq := hq.trans (if_pos c1)
    refine lv_iconst (v := (-1)) hx hb dX5_last_9 (by decide) ?_
    exact w_iret hx hb hr hlocks w ⟨hq.symm, rfl, rfl⟩ (Nat.le_refl _) (Nat.le_refl _) dX5_last_10
  · skip
    have hq := hq.trans (if_neg c1)
    refine lv_iload_n hx hb dX5_last_4 rfl (lv_at hl 1 rfl) ?_
    refine lv_iconst (v := 2) hx hb dX5_last_5 (by decide) ?_
    refine lv_icmp_le (tgt := 11) hx hb dX5_last_6 (by decide) (fun c2 => ?_) (fun c2 => ?_)
    · skip
      have hq := hq.trans (if_pos c2)
      refine lv_aload_n hx hb dX5_last_11 rfl (lv_at hl 0 rfl) ?_
      refine w_get (v := .ref x_no) hx hb hts i_X5 hown hK w h_x rfl 0 (by decide) (hts _ m_0) rfl dX5_last_12 ?_
      refine w_get (v := .int x_no_rounds) hx hb hts i_X0 hown hK w h_x_no rfl 5 (by decide) (hts _ m_2) rfl dX5_last_15 ?_
      refine lv_if_ne (tgt := 24) hx hb dX5_last_18 (by decide) (fun c3 => ?_) (fun c3 => ?_)
      · skip
        have hq := hq.trans (if_neg c3)
        refine lv_iload_n hx hb dX5_last_24 rfl (lv_at hl 1 rfl) ?_
        refine lv_if_ne (tgt := 36) hx hb dX5_last_25 (by decide) (fun c4 => ?_) (fun c4 => ?_)
        · skip
          have hq := hq.trans (if_neg c4)
          refine lv_iload_n hx hb dX5_last_36 rfl (lv_at hl 1 rfl) ?_
          refine lv_iconst (v := 1) hx hb dX5_last_37 (by decide) ?_
          refine lv_icmp_ne (tgt := 58) hx hb dX5_last_38 (by decide) (fun c5 => ?_) (fun c5 => ?_)
          · skip
            have hq := hq.trans (if_neg c5)
            refine lv_aload_n hx hb dX5_last_58 rfl (lv_at hl 0 rfl) ?_
            refine w_get (v := .ref x_no) hx hb hts i_X5 hown hK w h_x rfl 0 (by decide) (hts _ m_0) rfl dX5_last_59 ?_
            refine lv_aload_n hx hb dX5_last_62 rfl (lv_at hl 0 rfl) ?_
            refine w_get (v := .ref x_no) hx hb hts i_X5 hown hK w h_x rfl 0 (by decide) (hts _ m_0) rfl dX5_last_63 ?_
            refine w_get (v := .ref x_no_cr) hx hb hts i_X0 hown hK w h_x_no rfl 8 (by decide) (hts _ m_4) rfl dX5_last_66 ?_
            refine w_finI (w_runV (rm := ({ frames := 2, cells := 0, slots := 0, locals := 43 } : Room)) (As := [.ref x_no_cr]) (rest := []) (n := 1) hx hb hml hts hown hK w (c_X0_firstWinner l D cI cP cS cL L _ x_no x_no_cr x_no_up x_no_down x_no_high x_no_prize x_no_z x_no_rounds x_no_people x_no_pa x_no_cr x_no_ls x_no_cr_e x_no_cr_so x_no_cr_sz 12 x_no_cr_e_f h_x_no h_x_no_cr h_x_no_cr_e hzc) gX5_last_X0_firstWinner rfl rfl rfl (by decide +kernel) ⟨(Nat.le_of_ble_eq_true rfl), (Nat.le_of_ble_eq_true rfl)⟩ h_x_no rfl rfl hl.1 rfl (Nat.le_of_ble_eq_true rfl) dX5_last_69 ⟨(Nat.le_of_ble_eq_true rfl), (Nat.le_of_ble_eq_true rfl)⟩) w hA (fun H locs w => ?_)
            exact w_iret hx hb hr hlocks w ⟨hq.symm, rfl, rfl⟩ (Nat.le_refl _) (Nat.le_refl _) dX5_last_72
          · skip
            have hq := hq.trans (if_pos c5)
            refine lv_aload_n hx hb dX5_last_41 rfl (lv_at hl 0 rfl) ?_
            refine w_get (v := .ref x_no) hx hb hts i_X5 hown hK w h_x rfl 0 (by decide) (hts _ m_0) rfl dX5_last_42 ?_
            refine lv_aload_n hx hb dX5_last_45 rfl (lv_at hl 0 rfl) ?_
            refine w_get (v := .ref x_no) hx hb hts i_X5 hown hK w h_x rfl 0 (by decide) (hts _ m_0) rfl dX5_last_46 ?_
            refine w_get (v := .ref x_no_cr) hx hb hts i_X0 hown hK w h_x_no rfl 8 (by decide) (hts _ m_4) rfl dX5_last_49 ?_
            refine w_finI (w_runV (rm := ({ frames := 3, cells := 0, slots := 0, locals := 70 } : Room)) (As := [.ref x_no_cr]) (rest := []) (n := 1) hx hb hml hts hown hK w (c_X0_countWinners l D cI cP cS cL L _ x_no x_no_cr x_no_up x_no_down x_no_high x_no_prize x_no_z x_no_rounds x_no_people x_no_pa x_no_cr x_no_ls x_no_cr_e x_no_cr_so x_no_cr_sz 12 x_no_cr_e_f h_x_no h_x_no_cr h_x_no_cr_e hzc) gX5_last_X0_countWinners rfl rfl rfl (by decide +kernel) ⟨(Nat.le_of_ble_eq_true rfl), (Nat.le_of_ble_eq_true rfl)⟩ h_x_no rfl rfl hl.1 rfl (Nat.le_of_ble_eq_true rfl) dX5_last_52 ⟨(Nat.le_of_ble_eq_true rfl), (Nat.le_of_ble_eq_true rfl)⟩) w hA (fun H locs w => ?_)
            refine lv_goto (tgt := 72) hx hb dX5_last_55 (by decide) ?_
            exact w_iret hx hb hr hlocks w ⟨hq.symm, rfl, rfl⟩ (Nat.le_refl _) (Nat.le_refl _) dX5_last_72
        · skip
          have hq := hq.trans (if_pos c4)
          refine lv_aload_n hx hb dX5_last_28 rfl (lv_at hl 0 rfl) ?_
          refine w_get (v := .ref x_no) hx hb hts i_X5 hown hK w h_x rfl 0 (by decide) (hts _ m_0) rfl dX5_last_29 ?_
          refine w_get (v := .int x_no_ls) hx hb hts i_X0 hown hK w h_x_no rfl 9 (by decide) (hts _ m_5) rfl dX5_last_32 ?_
          exact w_iret hx hb hr hlocks w ⟨hq.symm, rfl, rfl⟩ (Nat.le_refl _) (Nat.le_refl _) dX5_last_35
      · skip
        have hq := hq.trans (if_pos c3)
        refine lv_bipush (v := (-3)) hx hb dX5_last_21 (by decide) ?_
        exact w_iret hx hb hr hlocks w ⟨hq.symm, rfl, rfl⟩ (Nat.le_refl _) (Nat.le_refl _) dX5_last_23
    · skip
      have hq := hq.trans (if_neg c2)
      refine lv_iconst (v := (-1)) hx hb dX5_last_9 (by decide) ?_
      exact w_iret hx hb hr hlocks w ⟨hq.symm, rfl, rfl⟩ (Nat.le_refl _) (Nat.le_refl _) dX5_last_10
def f_X5_target (part : Int32) (x_no_up : Int32) (x_no_down : Int32) (x_no_rounds : Int32) (x_no_cr_sz : Int32) (x_no_cr_e_f : Nat → Int32) : Int32 := if (f_X5_isOneOfTwo part) = (0 : Int32) then (-1) else (if x_no_rounds = (0 : Int32) then (-3) else (f_X5_leastPart (f_X0_targetAbove x_no_up x_no_cr_sz x_no_cr_e_f) (f_X0_targetLine x_no_down x_no_cr_sz) part))
set_option maxHeartbeats 400000 in
set_option maxRecDepth 100000 in
theorem c_X5_target (l : Launch) (D : va_G) (cI cP cS cL : ClassId) (L : List Nat) (F : Nat → va_E) (x : Nat) (part : Int32) (x_no : Nat) (x_ke : Nat) (x_mi : Nat) (x_im : Int32) (x_sh : Nat) (x_co : Nat) (x_ot : Nat) (x_no_up : Int32) (x_no_down : Int32) (x_no_high : Int32) (x_no_prize : Int32) (x_no_z : Int32) (x_no_rounds : Int32) (x_no_people : Int32) (x_no_pa : Nat) (x_no_cr : Nat) (x_no_ls : Int32) (x_no_cr_e : Nat) (x_no_cr_so : Int32) (x_no_cr_sz : Int32) (x_no_cr_e_f : Nat → Int32) (h_x : wi L F x (eX x_no x_ke x_mi x_im x_sh x_co x_ot)) (h_x_no : wi L F x_no (eG x_no_up x_no_down x_no_high x_no_prize x_no_z x_no_rounds x_no_people x_no_pa x_no_cr x_no_ls)) (h_x_no_cr : wi L F x_no_cr (eR x_no_cr_e x_no_cr_so x_no_cr_sz)) (h_x_no_cr_e : wi L F x_no_cr_e (eI cI 12 x_no_cr_e_f)) (hzc : x_no_cr_sz.toInt ≤ 12) : wMI l D cI cP cS cL yX5_target wsX5_target ({ frames := 2, cells := 0, slots := 0, locals := 47 } : Room) [.ref x, .int part] L F (f_X5_target part x_no_up x_no_down x_no_rounds x_no_cr_sz x_no_cr_e_f) F := by
  refine wM.of (cc := cX5_target) (maxL := 2) (ret := (some .int)) (by decide) rfl (Nat.le_of_ble_eq_true rfl) ?_
  intro pZ eZ sZ mZ below meth cZ A ls C hl w
  obtain ⟨hx, hb, hr, hml, hts, hown, hlocks, hK, hA, hin⟩ := C
  have hown : sZ.vm.findClass RX5 = some mZ.cls := hown
  have hl : lv_has ls 2 [(0, .ref x), (1, .int part)] := hl
  have m_0 : ((.fieldLink RX5 10 "TwoThirds" "now" "LTwoThirds$Game;") : Cond) ∈ wsX5_target := by decide +kernel
  have i_X5 : ∀ w ∈ wsX50, w ∈ wsX5_target := by decide +kernel
  have m_2 : ((.fieldLink RX5 93 "TwoThirds$Game" "rounds" "I") : Cond) ∈ wsX5_target := by decide +kernel
  have i_X0 : ∀ w ∈ wsX00, w ∈ wsX5_target := by decide +kernel
  have m_4 : ((.fieldLink RX5 96 "TwoThirds$Game" "cards" "LTwoThirds$Row;") : Cond) ∈ wsX5_target := by decide +kernel
  have hq : f_X5_target part x_no_up x_no_down x_no_rounds x_no_cr_sz x_no_cr_e_f = f_X5_target part x_no_up x_no_down x_no_rounds x_no_cr_sz x_no_cr_e_f := rfl
  refine lv_iload_n hx hb dX5_target_0 rfl (lv_at hl 1 rfl) ?_
  refine w_finI (w_runS (rm := ({ frames := 0, cells := 0, slots := 0, locals := 0 } : Room)) (As := [.int part]) (rest := []) (n := 1) hx hb hml hts hown hK w (c_X5_isOneOfTwo l D cI cP cS cL L _ part ) gX5_target_X5_isOneOfTwo rfl rfl rfl (by decide +kernel) ⟨(Nat.le_of_ble_eq_true rfl), (Nat.le_of_ble_eq_true rfl)⟩ rfl hl.1 rfl (Nat.le_of_ble_eq_true rfl) dX5_target_1 ⟨(Nat.le_of_ble_eq_true rfl), (Nat.le_of_ble_eq_true rfl)⟩) w hA (fun H locs w => ?_)
  refine lv_if_ne (tgt := 9) hx hb dX5_target_4 (by decide) (fun c1 => ?_) (fun c1 => ?_)
  · skip
    have hq := hq.trans (if_neg c1)
    refine lv_aload_n hx hb dX5_target_9 rfl (lv_at hl 0 rfl) ?_
    refine w_get (v := .ref x_no) hx hb hts i_X5 hown hK w h_x rfl 0 (by decide) (hts _ m_0) rfl dX5_target_10 ?_
    refine w_get (v := .int x_no_rounds) hx hb hts i_X0 hown hK w h_x_no rfl 5 (by decide) (hts _ m_2) rfl dX5_target_13 ?_
    refine lv_if_ne (tgt := 22) hx hb dX5_target_16 (by decide) (fun c2 => ?_) (fun c2 => ?_)
    · skip
      have hq := hq.trans (if_neg c2)
      refine lv_aload_n hx hb dX5_target_22 rfl (lv_at hl 0 rfl) ?_
      refine w_get (v := .ref x_no) hx hb hts i_X5 hown hK w h_x rfl 0 (by decide) (hts _ m_0) rfl dX5_target_23 ?_
      refine lv_aload_n hx hb dX5_target_26 rfl (lv_at hl 0 rfl) ?_
      refine w_get (v := .ref x_no) hx hb hts i_X5 hown hK w h_x rfl 0 (by decide) (hts _ m_0) rfl dX5_target_27 ?_
      refine w_get (v := .ref x_no_cr) hx hb hts i_X0 hown hK w h_x_no rfl 8 (by decide) (hts _ m_4) rfl dX5_target_30 ?_
      refine w_finI (w_runV (rm := ({ frames := 1, cells := 0, slots := 0, locals := 22 } : Room)) (As := [.ref x_no_cr]) (rest := []) (n := 1) hx hb hml hts hown hK w (c_X0_targetAbove l D cI cP cS cL L _ x_no x_no_cr x_no_up x_no_down x_no_high x_no_prize x_no_z x_no_rounds x_no_people x_no_pa x_no_cr x_no_ls x_no_cr_e x_no_cr_so x_no_cr_sz 12 x_no_cr_e_f h_x_no h_x_no_cr h_x_no_cr_e hzc) gX5_target_X0_targetAbove rfl rfl rfl (by decide +kernel) ⟨(Nat.le_of_ble_eq_true rfl), (Nat.le_of_ble_eq_true rfl)⟩ h_x_no rfl rfl hl.1 rfl (Nat.le_of_ble_eq_true rfl) dX5_target_33 ⟨(Nat.le_of_ble_eq_true rfl), (Nat.le_of_ble_eq_true rfl)⟩) w hA (fun H locs w => ?_)
      refine lv_aload_n hx hb dX5_target_36 rfl (lv_at hl 0 rfl) ?_
      refine w_get (v := .ref x_no) hx hb hts i_X5 hown hK w h_x rfl 0 (by decide) (hts _ m_0) rfl dX5_target_37 ?_
      refine lv_aload_n hx hb dX5_target_40 rfl (lv_at hl 0 rfl) ?_
      refine w_get (v := .ref x_no) hx hb hts i_X5 hown hK w h_x rfl 0 (by decide) (hts _ m_0) rfl dX5_target_41 ?_
      refine w_get (v := .ref x_no_cr) hx hb hts i_X0 hown hK w h_x_no rfl 8 (by decide) (hts _ m_4) rfl dX5_target_44 ?_
      refine w_finI (w_runV (rm := ({ frames := 0, cells := 0, slots := 0, locals := 0 } : Room)) (As := [.ref x_no_cr]) (rest := [.int (f_X0_targetAbove x_no_up x_no_cr_sz x_no_cr_e_f)]) (n := 1) hx hb hml hts hown hK w (c_X0_targetLine l D cI cP cS cL L _ x_no x_no_cr x_no_up x_no_down x_no_high x_no_prize x_no_z x_no_rounds x_no_people x_no_pa x_no_cr x_no_ls x_no_cr_e x_no_cr_so x_no_cr_sz h_x_no h_x_no_cr) gX5_target_X0_targetLine rfl rfl rfl (by decide +kernel) ⟨(Nat.le_of_ble_eq_true rfl), (Nat.le_of_ble_eq_true rfl)⟩ h_x_no rfl rfl hl.1 rfl (Nat.le_of_ble_eq_true rfl) dX5_target_47 ⟨(Nat.le_of_ble_eq_true rfl), (Nat.le_of_ble_eq_true rfl)⟩) w hA (fun H locs w => ?_)
      refine lv_iload_n hx hb dX5_target_50 rfl (lv_at hl 1 rfl) ?_
      refine w_finI (w_runS (rm := ({ frames := 1, cells := 0, slots := 0, locals := 25 } : Room)) (As := [.int (f_X0_targetAbove x_no_up x_no_cr_sz x_no_cr_e_f), .int (f_X0_targetLine x_no_down x_no_cr_sz), .int part]) (rest := []) (n := 3) hx hb hml hts hown hK w (c_X5_leastPart l D cI cP cS cL L _ (f_X0_targetAbove x_no_up x_no_cr_sz x_no_cr_e_f) (f_X0_targetLine x_no_down x_no_cr_sz) part ) gX5_target_X5_leastPart rfl rfl rfl (by decide +kernel) ⟨(Nat.le_of_ble_eq_true rfl), (Nat.le_of_ble_eq_true rfl)⟩ rfl hl.1 rfl (Nat.le_of_ble_eq_true rfl) dX5_target_51 ⟨(Nat.le_of_ble_eq_true rfl), (Nat.le_of_ble_eq_true rfl)⟩) w hA (fun H locs w => ?_)
      exact w_iret hx hb hr hlocks w ⟨hq.symm, rfl, rfl⟩ (Nat.le_refl _) (Nat.le_refl _) dX5_target_54
    · skip
      have hq := hq.trans (if_pos c2)
      refine lv_bipush (v := (-3)) hx hb dX5_target_19 (by decide) ?_
      exact w_iret hx hb hr hlocks w ⟨hq.symm, rfl, rfl⟩ (Nat.le_refl _) (Nat.le_refl _) dX5_target_21
  · skip
    have hq := hq.trans (if_pos c1)
    refine lv_iconst (v := (-1)) hx hb dX5_target_7 (by decide) ?_
    exact w_iret hx hb hr hlocks w ⟨hq.symm, rfl, rfl⟩ (Nat.le_refl _) (Nat.le_refl _) dX5_target_8
def f_X5_mean (d : Int32) (what : Int32) (part : Int32) (x_no_up : Int32) (x_no_down : Int32) (x_no_high : Int32) (sh_ho : Nat → Int32) (rw_sz : Nat → Int32) (el_f : Nat → Nat → Int32) : Int32 := if (¬ d < 0 ∧ ¬ (8 : Int32) ≤ d) then (if (f_X5_isOneOfTwo what) = (0 : Int32) then (-1) else (if (f_X5_isOneOfTwo part) = (0 : Int32) then (-1) else (if (f_X5_cardsRefusal x_no_high (sh_ho (d.toNatClampNeg)) (rw_sz (d.toNatClampNeg)) (el_f (d.toNatClampNeg))) = (0 : Int32) then (if what = (0 : Int32) then (f_X5_leastPart (f_X3_sum (rw_sz (d.toNatClampNeg)) (el_f (d.toNatClampNeg))) (rw_sz (d.toNatClampNeg)) part) else (f_X5_leastPart (f_X0_targetAbove x_no_up (rw_sz (d.toNatClampNeg)) (el_f (d.toNatClampNeg))) (f_X0_targetLine x_no_down (rw_sz (d.toNatClampNeg))) part)) else (f_X5_cardsRefusal x_no_high (sh_ho (d.toNatClampNeg)) (rw_sz (d.toNatClampNeg)) (el_f (d.toNatClampNeg)))))) else (if (f_X5_isOneOfTwo what) = (0 : Int32) then (-1) else (if (f_X5_isOneOfTwo part) = (0 : Int32) then (-1) else (-1)))
set_option maxHeartbeats 400000 in
set_option maxRecDepth 100000 in
theorem c_X5_mean (l : Launch) (D : va_G) (cI cP cS cL : ClassId) (L : List Nat) (F : Nat → va_E) (x : Nat) (d : Int32) (what : Int32) (part : Int32) (x_no : Nat) (x_ke : Nat) (x_mi : Nat) (x_im : Int32) (x_sh : Nat) (x_co : Nat) (x_ot : Nat) (x_no_up : Int32) (x_no_down : Int32) (x_no_high : Int32) (x_no_prize : Int32) (x_no_z : Int32) (x_no_rounds : Int32) (x_no_people : Int32) (x_no_pa : Nat) (x_no_cr : Nat) (x_no_ls : Int32) (sh : Nat → Nat) (sh_ho : Nat → Int32) (rw : Nat → Nat) (sp : Nat → Nat) (el : Nat → Nat) (rw_so : Nat → Int32) (rw_sz : Nat → Int32) (el_f : Nat → Nat → Int32) (h_x : wi L F x (eX x_no x_ke x_mi x_im x_sh x_co x_ot)) (h_x_no : wi L F x_no (eG x_no_up x_no_down x_no_high x_no_prize x_no_z x_no_rounds x_no_people x_no_pa x_no_cr x_no_ls)) (h_x_sh : wi L F x_sh (eQ cS 8 (fun i => some (sh i)))) (h_sh : ∀ i, i < 8 → wi L F (sh i) (eS (sh_ho i) (rw i) (sp i))) (h_rw : ∀ i, i < 8 → wi L F (rw i) (eR (el i) (rw_so i) (rw_sz i))) (h_el : ∀ i, i < 8 → wi L F (el i) (eI cI 100 (el_f i))) (hzs : ∀ i, i < 8 → (rw_sz i).toInt ≤ 100) : wMI l D cI cP cS cL yX5_mean wsX5_mean ({ frames := 3, cells := 0, slots := 0, locals := 65 } : Room) [.ref x, .int d, .int what, .int part] L F (f_X5_mean d what part x_no_up x_no_down x_no_high sh_ho rw_sz el_f) F := by
  refine wM.of (cc := cX5_mean) (maxL := 6) (ret := (some .int)) (by decide) rfl (Nat.le_of_ble_eq_true rfl) ?_
  intro pZ eZ sZ mZ below meth cZ A ls C hl w
  obtain ⟨hx, hb, hr, hml, hts, hown, hlocks, hK, hA, hin⟩ := C
  have hown : sZ.vm.findClass RX5 = some mZ.cls := hown
  have hl : lv_has ls 6 [(0, .ref x), (1, .int d), (2, .int what), (3, .int part)] := hl
  have m_0 : ((.fieldLink RX5 10 "TwoThirds" "now" "LTwoThirds$Game;") : Cond) ∈ wsX5_mean := by decide +kernel
  have i_X5 : ∀ w ∈ wsX50, w ∈ wsX5_mean := by decide +kernel
  have m_2 : ((.fieldLink RX5 44 "TwoThirds$Shelf" "row" "LTwoThirds$Row;") : Cond) ∈ wsX5_mean := by decide +kernel
  have i_X4 : ∀ w ∈ wsX40, w ∈ wsX5_mean := by decide +kernel
  have m_4 : ((.fieldLink RX5 167 "TwoThirds$Row" "size" "I") : Cond) ∈ wsX5_mean := by decide +kernel
  have i_X3 : ∀ w ∈ wsX30, w ∈ wsX5_mean := by decide +kernel
  have hq : f_X5_mean d what part x_no_up x_no_down x_no_high sh_ho rw_sz el_f = f_X5_mean d what part x_no_up x_no_down x_no_high sh_ho rw_sz el_f := rfl
  refine lv_aload_n hx hb dX5_mean_0 rfl (lv_at hl 0 rfl) ?_
  refine lv_iload_n hx hb dX5_mean_1 rfl (lv_at hl 1 rfl) ?_
  by_cases c1 : (¬ d < 0 ∧ ¬ (8 : Int32) ≤ d)
  · skip
    have hq := hq.trans (if_pos c1)
    have hlt_C : d.toNatClampNeg < 8 := w_okP (n := 8) c1 (by decide)
    refine w_finQ (v := .ref (sh (d.toNatClampNeg))) rfl (w_runV (rm := ({ frames := 0, cells := 0, slots := 0, locals := 0 } : Room)) (As := [.int d]) (rest := []) (n := 1) hx hb hml hts hown hK w (c_X5_shelfAt_some l D cI cP cS cL L _ x d x_no x_ke x_mi x_im x_sh x_co x_ot sh sh_ho rw sp h_x h_x_sh h_sh c1) gX5_mean_X5_shelfAt rfl rfl rfl (by decide +kernel) ⟨(Nat.le_of_ble_eq_true rfl), (Nat.le_of_ble_eq_true rfl)⟩ h_x rfl rfl hl.1 rfl (Nat.le_of_ble_eq_true rfl) dX5_mean_2 ⟨(Nat.le_of_ble_eq_true rfl), (Nat.le_of_ble_eq_true rfl)⟩) w hA (fun H locs w => ?_)
    refine lv_astore (lv' := [(4, .ref (sh (d.toNatClampNeg))), (0, .ref x), (1, .int d), (2, .int what), (3, .int part)]) hx hb dX5_mean_5 hl (by decide) rfl (fun ls hl => ?_)
    refine lv_iload_n hx hb dX5_mean_7 rfl (lv_at hl 3 rfl) ?_
    refine w_finI (w_runS (rm := ({ frames := 0, cells := 0, slots := 0, locals := 0 } : Room)) (As := [.int what]) (rest := []) (n := 1) hx hb hml hts hown hK w (c_X5_isOneOfTwo l D cI cP cS cL L _ what ) gX5_mean_X5_isOneOfTwo rfl rfl rfl (by decide +kernel) ⟨(Nat.le_of_ble_eq_true rfl), (Nat.le_of_ble_eq_true rfl)⟩ rfl hl.1 rfl (Nat.le_of_ble_eq_true rfl) dX5_mean_8 ⟨(Nat.le_of_ble_eq_true rfl), (Nat.le_of_ble_eq_true rfl)⟩) w hA (fun H locs w => ?_)
    refine lv_if_eq (tgt := 21) hx hb dX5_mean_11 (by decide) (fun c2 => ?_) (fun c2 => ?_)
    · skip
      have hq := hq.trans (if_pos c2)
      refine lv_iconst (v := (-1)) hx hb dX5_mean_21 (by decide) ?_
      exact w_iret hx hb hr hlocks w ⟨hq.symm, rfl, rfl⟩ (Nat.le_refl _) (Nat.le_refl _) dX5_mean_22
    · skip
      have hq := hq.trans (if_neg c2)
      refine lv_iload_n hx hb dX5_mean_14 rfl (lv_at hl 4 rfl) ?_
      refine w_finI (w_runS (rm := ({ frames := 0, cells := 0, slots := 0, locals := 0 } : Room)) (As := [.int part]) (rest := []) (n := 1) hx hb hml hts hown hK w (c_X5_isOneOfTwo l D cI cP cS cL L _ part ) gX5_mean_X5_isOneOfTwo rfl rfl rfl (by decide +kernel) ⟨(Nat.le_of_ble_eq_true rfl), (Nat.le_of_ble_eq_true rfl)⟩ rfl hl.1 rfl (Nat.le_of_ble_eq_true rfl) dX5_mean_15 ⟨(Nat.le_of_ble_eq_true rfl), (Nat.le_of_ble_eq_true rfl)⟩) w hA (fun H locs w => ?_)
      refine lv_if_ne (tgt := 23) hx hb dX5_mean_18 (by decide) (fun c3 => ?_) (fun c3 => ?_)
      · skip
        have hq := hq.trans (if_neg c3)
        refine lv_aload_n hx hb dX5_mean_23 rfl (lv_at hl 1 rfl) ?_
        refine lv_aload hx hb dX5_mean_24 (lv_at hl 0 rfl) ?_
        refine w_finI (w_runV (rm := ({ frames := 2, cells := 0, slots := 0, locals := 43 } : Room)) (As := [.ref (sh (d.toNatClampNeg))]) (rest := []) (n := 1) hx hb hml hts hown hK w (c_X5_cardsRefusal l D cI cP cS cL L _ x (sh (d.toNatClampNeg)) x_no x_ke x_mi x_im x_sh x_co x_ot x_no_up x_no_down x_no_high x_no_prize x_no_z x_no_rounds x_no_people x_no_pa x_no_cr x_no_ls (sh_ho (d.toNatClampNeg)) (rw (d.toNatClampNeg)) (sp (d.toNatClampNeg)) (el (d.toNatClampNeg)) (rw_so (d.toNatClampNeg)) (rw_sz (d.toNatClampNeg)) 100 (el_f (d.toNatClampNeg)) h_x h_x_no (h_sh (d.toNatClampNeg) (by omega)) (h_rw (d.toNatClampNeg) (by omega)) (h_el (d.toNatClampNeg) (by omega)) (hzs (d.toNatClampNeg) (by omega))) gX5_mean_X5_cardsRefusal rfl rfl rfl (by decide +kernel) ⟨(Nat.le_of_ble_eq_true rfl), (Nat.le_of_ble_eq_true rfl)⟩ h_x rfl rfl hl.1 rfl (Nat.le_of_ble_eq_true rfl) dX5_mean_26 ⟨(Nat.le_of_ble_eq_true rfl), (Nat.le_of_ble_eq_true rfl)⟩) w hA (fun H locs w => ?_)
        refine lv_istore (lv' := [(5, .int (f_X5_cardsRefusal x_no_high (sh_ho (d.toNatClampNeg)) (rw_sz (d.toNatClampNeg)) (el_f (d.toNatClampNeg)))), (4, .ref (sh (d.toNatClampNeg))), (0, .ref x), (1, .int d), (2, .int what), (3, .int part)]) hx hb dX5_mean_29 hl (by decide) rfl (fun ls hl => ?_)
        refine lv_iload hx hb dX5_mean_31 (lv_at hl 0 rfl) ?_
        refine lv_if_eq (tgt := 39) hx hb dX5_mean_33 (by decide) (fun c4 => ?_) (fun c4 => ?_)
        · skip
          have hq := hq.trans (if_pos c4)
          refine lv_iload_n hx hb dX5_mean_39 rfl (lv_at hl 4 rfl) ?_
          refine lv_if_ne (tgt := 64) hx hb dX5_mean_40 (by decide) (fun c5 => ?_) (fun c5 => ?_)
          · skip
            have hq := hq.trans (if_neg c5)
            refine lv_aload_n hx hb dX5_mean_64 rfl (lv_at hl 2 rfl) ?_
            refine w_get (v := .ref x_no) hx hb hts i_X5 hown hK w h_x rfl 0 (by decide) (hts _ m_0) rfl dX5_mean_65 ?_
            refine lv_aload hx hb dX5_mean_68 (lv_at hl 1 rfl) ?_
            refine w_get (v := .ref (rw (d.toNatClampNeg))) hx hb hts i_X4 hown hK w (h_sh (d.toNatClampNeg) (by omega)) rfl 1 (by decide) (hts _ m_2) rfl dX5_mean_70 ?_
            refine w_finI (w_runV (rm := ({ frames := 1, cells := 0, slots := 0, locals := 22 } : Room)) (As := [.ref (rw (d.toNatClampNeg))]) (rest := []) (n := 1) hx hb hml hts hown hK w (c_X0_targetAbove l D cI cP cS cL L _ x_no (rw (d.toNatClampNeg)) x_no_up x_no_down x_no_high x_no_prize x_no_z x_no_rounds x_no_people x_no_pa x_no_cr x_no_ls (el (d.toNatClampNeg)) (rw_so (d.toNatClampNeg)) (rw_sz (d.toNatClampNeg)) 100 (el_f (d.toNatClampNeg)) h_x_no (h_rw (d.toNatClampNeg) (by omega)) (h_el (d.toNatClampNeg) (by omega)) (hzs (d.toNatClampNeg) (by omega))) gX5_mean_X0_targetAbove rfl rfl rfl (by decide +kernel) ⟨(Nat.le_of_ble_eq_true rfl), (Nat.le_of_ble_eq_true rfl)⟩ h_x_no rfl rfl hl.1 rfl (Nat.le_of_ble_eq_true rfl) dX5_mean_73 ⟨(Nat.le_of_ble_eq_true rfl), (Nat.le_of_ble_eq_true rfl)⟩) w hA (fun H locs w => ?_)
            refine lv_aload_n hx hb dX5_mean_76 rfl (lv_at hl 2 rfl) ?_
            refine w_get (v := .ref x_no) hx hb hts i_X5 hown hK w h_x rfl 0 (by decide) (hts _ m_0) rfl dX5_mean_77 ?_
            refine lv_aload hx hb dX5_mean_80 (lv_at hl 1 rfl) ?_
            refine w_get (v := .ref (rw (d.toNatClampNeg))) hx hb hts i_X4 hown hK w (h_sh (d.toNatClampNeg) (by omega)) rfl 1 (by decide) (hts _ m_2) rfl dX5_mean_82 ?_
            refine w_finI (w_runV (rm := ({ frames := 0, cells := 0, slots := 0, locals := 0 } : Room)) (As := [.ref (rw (d.toNatClampNeg))]) (rest := [.int (f_X0_targetAbove x_no_up (rw_sz (d.toNatClampNeg)) (el_f (d.toNatClampNeg)))]) (n := 1) hx hb hml hts hown hK w (c_X0_targetLine l D cI cP cS cL L _ x_no (rw (d.toNatClampNeg)) x_no_up x_no_down x_no_high x_no_prize x_no_z x_no_rounds x_no_people x_no_pa x_no_cr x_no_ls (el (d.toNatClampNeg)) (rw_so (d.toNatClampNeg)) (rw_sz (d.toNatClampNeg)) h_x_no (h_rw (d.toNatClampNeg) (by omega))) gX5_mean_X0_targetLine rfl rfl rfl (by decide +kernel) ⟨(Nat.le_of_ble_eq_true rfl), (Nat.le_of_ble_eq_true rfl)⟩ h_x_no rfl rfl hl.1 rfl (Nat.le_of_ble_eq_true rfl) dX5_mean_85 ⟨(Nat.le_of_ble_eq_true rfl), (Nat.le_of_ble_eq_true rfl)⟩) w hA (fun H locs w => ?_)
            refine lv_iload_n hx hb dX5_mean_88 rfl (lv_at hl 5 rfl) ?_
            refine w_finI (w_runS (rm := ({ frames := 1, cells := 0, slots := 0, locals := 25 } : Room)) (As := [.int (f_X0_targetAbove x_no_up (rw_sz (d.toNatClampNeg)) (el_f (d.toNatClampNeg))), .int (f_X0_targetLine x_no_down (rw_sz (d.toNatClampNeg))), .int part]) (rest := []) (n := 3) hx hb hml hts hown hK w (c_X5_leastPart l D cI cP cS cL L _ (f_X0_targetAbove x_no_up (rw_sz (d.toNatClampNeg)) (el_f (d.toNatClampNeg))) (f_X0_targetLine x_no_down (rw_sz (d.toNatClampNeg))) part ) gX5_mean_X5_leastPart rfl rfl rfl (by decide +kernel) ⟨(Nat.le_of_ble_eq_true rfl), (Nat.le_of_ble_eq_true rfl)⟩ rfl hl.1 rfl (Nat.le_of_ble_eq_true rfl) dX5_mean_89 ⟨(Nat.le_of_ble_eq_true rfl), (Nat.le_of_ble_eq_true rfl)⟩) w hA (fun H locs w => ?_)
            exact w_iret hx hb hr hlocks w ⟨hq.symm, rfl, rfl⟩ (Nat.le_refl _) (Nat.le_refl _) dX5_mean_92
          · skip
            have hq := hq.trans (if_pos c5)
            refine lv_aload hx hb dX5_mean_43 (lv_at hl 1 rfl) ?_
            refine w_get (v := .ref (rw (d.toNatClampNeg))) hx hb hts i_X4 hown hK w (h_sh (d.toNatClampNeg) (by omega)) rfl 1 (by decide) (hts _ m_2) rfl dX5_mean_45 ?_
            refine w_finI (w_runV (rm := ({ frames := 0, cells := 0, slots := 0, locals := 0 } : Room)) (As := []) (rest := []) (n := 0) hx hb hml hts hown hK w (c_X3_sum l D cI cP cS cL L _ (rw (d.toNatClampNeg)) (el (d.toNatClampNeg)) (rw_so (d.toNatClampNeg)) (rw_sz (d.toNatClampNeg)) 100 (el_f (d.toNatClampNeg)) (h_rw (d.toNatClampNeg) (by omega)) (h_el (d.toNatClampNeg) (by omega)) (hzs (d.toNatClampNeg) (by omega))) gX5_mean_X3_sum rfl rfl rfl (by decide +kernel) ⟨(Nat.le_of_ble_eq_true rfl), (Nat.le_of_ble_eq_true rfl)⟩ (h_rw (d.toNatClampNeg) (by omega)) rfl rfl hl.1 rfl (Nat.le_of_ble_eq_true rfl) dX5_mean_48 ⟨(Nat.le_of_ble_eq_true rfl), (Nat.le_of_ble_eq_true rfl)⟩) w hA (fun H locs w => ?_)
            refine lv_aload hx hb dX5_mean_51 (lv_at hl 1 rfl) ?_
            refine w_get (v := .ref (rw (d.toNatClampNeg))) hx hb hts i_X4 hown hK w (h_sh (d.toNatClampNeg) (by omega)) rfl 1 (by decide) (hts _ m_2) rfl dX5_mean_53 ?_
            refine w_get (v := .int (rw_sz (d.toNatClampNeg))) hx hb hts i_X3 hown hK w (h_rw (d.toNatClampNeg) (by omega)) rfl 2 (by decide) (hts _ m_4) rfl dX5_mean_56 ?_
            refine lv_iload_n hx hb dX5_mean_59 rfl (lv_at hl 5 rfl) ?_
            refine w_finI (w_runS (rm := ({ frames := 1, cells := 0, slots := 0, locals := 25 } : Room)) (As := [.int (f_X3_sum (rw_sz (d.toNatClampNeg)) (el_f (d.toNatClampNeg))), .int (rw_sz (d.toNatClampNeg)), .int part]) (rest := []) (n := 3) hx hb hml hts hown hK w (c_X5_leastPart l D cI cP cS cL L _ (f_X3_sum (rw_sz (d.toNatClampNeg)) (el_f (d.toNatClampNeg))) (rw_sz (d.toNatClampNeg)) part ) gX5_mean_X5_leastPart rfl rfl rfl (by decide +kernel) ⟨(Nat.le_of_ble_eq_true rfl), (Nat.le_of_ble_eq_true rfl)⟩ rfl hl.1 rfl (Nat.le_of_ble_eq_true rfl) dX5_mean_60 ⟨(Nat.le_of_ble_eq_true rfl), (Nat.le_of_ble_eq_true rfl)⟩) w hA (fun H locs w => ?_)
            exact w_iret hx hb hr hlocks w ⟨hq.symm, rfl, rfl⟩ (Nat.le_refl _) (Nat.le_refl _) dX5_mean_63
        · skip
          have hq := hq.trans (if_neg c4)
          refine lv_iload hx hb dX5_mean_36 (lv_at hl 0 rfl) ?_
          exact w_iret hx hb hr hlocks w ⟨hq.symm, rfl, rfl⟩ (Nat.le_refl _) (Nat.le_refl _) dX5_mean_38
      · skip
        have hq := hq.trans (if_pos c3)
        refine lv_iconst (v := (-1)) hx hb dX5_mean_21 (by decide) ?_
        exact w_iret hx hb hr hlocks w ⟨hq.symm, rfl, rfl⟩ (Nat.le_refl _) (Nat.le_refl _) dX5_mean_22
  · skip
    have hq := hq.trans (if_neg c1)
    refine w_finQ (v := .null) (by unfold f_X5_shelfAt_none; first | rfl | (split <;> rfl)) (w_runV (rm := ({ frames := 0, cells := 0, slots := 0, locals := 0 } : Room)) (As := [.int d]) (rest := []) (n := 1) hx hb hml hts hown hK w (c_X5_shelfAt_none l D cI cP cS cL L _ x d x_no x_ke x_mi x_im x_sh x_co x_ot sh h_x h_x_sh c1) gX5_mean_X5_shelfAt rfl rfl rfl (by decide +kernel) ⟨(Nat.le_of_ble_eq_true rfl), (Nat.le_of_ble_eq_true rfl)⟩ h_x rfl rfl hl.1 rfl (Nat.le_of_ble_eq_true rfl) dX5_mean_2 ⟨(Nat.le_of_ble_eq_true rfl), (Nat.le_of_ble_eq_true rfl)⟩) w hA (fun H locs w => ?_)
    refine lv_astoreN (lv' := [(4, .null), (0, .ref x), (1, .int d), (2, .int what), (3, .int part)]) hx hb dX5_mean_5 hl (by decide) rfl (fun ls hl => ?_)
    refine lv_iload_n hx hb dX5_mean_7 rfl (lv_at hl 3 rfl) ?_
    refine w_finI (w_runS (rm := ({ frames := 0, cells := 0, slots := 0, locals := 0 } : Room)) (As := [.int what]) (rest := []) (n := 1) hx hb hml hts hown hK w (c_X5_isOneOfTwo l D cI cP cS cL L _ what ) gX5_mean_X5_isOneOfTwo rfl rfl rfl (by decide +kernel) ⟨(Nat.le_of_ble_eq_true rfl), (Nat.le_of_ble_eq_true rfl)⟩ rfl hl.1 rfl (Nat.le_of_ble_eq_true rfl) dX5_mean_8 ⟨(Nat.le_of_ble_eq_true rfl), (Nat.le_of_ble_eq_true rfl)⟩) w hA (fun H locs w => ?_)
    refine lv_if_eq (tgt := 21) hx hb dX5_mean_11 (by decide) (fun c6 => ?_) (fun c6 => ?_)
    · skip
      have hq := hq.trans (if_pos c6)
      refine lv_iconst (v := (-1)) hx hb dX5_mean_21 (by decide) ?_
      exact w_iret hx hb hr hlocks w ⟨hq.symm, rfl, rfl⟩ (Nat.le_refl _) (Nat.le_refl _) dX5_mean_22
    · skip
      have hq := hq.trans (if_neg c6)
      refine lv_iload_n hx hb dX5_mean_14 rfl (lv_at hl 4 rfl) ?_
      refine w_finI (w_runS (rm := ({ frames := 0, cells := 0, slots := 0, locals := 0 } : Room)) (As := [.int part]) (rest := []) (n := 1) hx hb hml hts hown hK w (c_X5_isOneOfTwo l D cI cP cS cL L _ part ) gX5_mean_X5_isOneOfTwo rfl rfl rfl (by decide +kernel) ⟨(Nat.le_of_ble_eq_true rfl), (Nat.le_of_ble_eq_true rfl)⟩ rfl hl.1 rfl (Nat.le_of_ble_eq_true rfl) dX5_mean_15 ⟨(Nat.le_of_ble_eq_true rfl), (Nat.le_of_ble_eq_true rfl)⟩) w hA (fun H locs w => ?_)
      refine lv_if_ne (tgt := 23) hx hb dX5_mean_18 (by decide) (fun c7 => ?_) (fun c7 => ?_)
      · skip
        have hq := hq.trans (if_neg c7)
        refine lv_aload_n hx hb dX5_mean_23 rfl (lv_at hl 1 rfl) ?_
        refine lv_aloadN hx hb dX5_mean_24 (lv_at hl 0 rfl) ?_
        refine w_finI (r := (-1)) (w_runV (rm := ({ frames := 2, cells := 0, slots := 0, locals := 41 } : Room)) (As := [.null]) (rest := []) (n := 1) hx hb hml hts hown hK w (c_X5_cardsRefusal_n l D cI cP cS cL L _ x x_no x_ke x_mi x_im x_sh x_co x_ot h_x) gX5_mean_X5_cardsRefusal rfl rfl rfl (by decide +kernel) ⟨(Nat.le_of_ble_eq_true rfl), (Nat.le_of_ble_eq_true rfl)⟩ h_x rfl rfl hl.1 rfl (Nat.le_of_ble_eq_true rfl) dX5_mean_26 ⟨(Nat.le_of_ble_eq_true rfl), (Nat.le_of_ble_eq_true rfl)⟩) w hA (fun H locs w => ?_)
        refine lv_istore (lv' := [(5, .int (-1)), (4, .null), (0, .ref x), (1, .int d), (2, .int what), (3, .int part)]) hx hb dX5_mean_29 hl (by decide) rfl (fun ls hl => ?_)
        refine lv_iload hx hb dX5_mean_31 (lv_at hl 0 rfl) ?_
        refine lv_if_eq (tgt := 39) hx hb dX5_mean_33 (by decide) (fun c => absurd c (by decide)) (fun _ => ?_)
        refine lv_iload hx hb dX5_mean_36 (lv_at hl 0 rfl) ?_
        exact w_iret hx hb hr hlocks w ⟨hq.symm, rfl, rfl⟩ (Nat.le_refl _) (Nat.le_refl _) dX5_mean_38
      · skip
        have hq := hq.trans (if_pos c7)
        refine lv_iconst (v := (-1)) hx hb dX5_mean_21 (by decide) ?_
        exact w_iret hx hb hr hlocks w ⟨hq.symm, rfl, rfl⟩ (Nat.le_refl _) (Nat.le_refl _) dX5_mean_22
def f_X5_winners (d : Int32) (what : Int32) (x_no_up : Int32) (x_no_down : Int32) (x_no_high : Int32) (x_no_prize : Int32) (sh_ho : Nat → Int32) (rw_sz : Nat → Int32) (el_f : Nat → Nat → Int32) : Int32 := if (¬ d < 0 ∧ ¬ (8 : Int32) ≤ d) then (if (f_X5_isOneOfTwo what) = (0 : Int32) then (-1) else (if (f_X5_cardsRefusal x_no_high (sh_ho (d.toNatClampNeg)) (rw_sz (d.toNatClampNeg)) (el_f (d.toNatClampNeg))) = (0 : Int32) then (if what = (0 : Int32) then (f_X0_countWinners x_no_up x_no_down x_no_prize (rw_sz (d.toNatClampNeg)) (el_f (d.toNatClampNeg))) else (f_X0_firstWinner x_no_up x_no_down x_no_prize (rw_sz (d.toNatClampNeg)) (el_f (d.toNatClampNeg)))) else (f_X5_cardsRefusal x_no_high (sh_ho (d.toNatClampNeg)) (rw_sz (d.toNatClampNeg)) (el_f (d.toNatClampNeg))))) else (if (f_X5_isOneOfTwo what) = (0 : Int32) then (-1) else (-1))
set_option maxHeartbeats 400000 in
set_option maxRecDepth 100000 in
theorem c_X5_winners (l : Launch) (D : va_G) (cI cP cS cL : ClassId) (L : List Nat) (F : Nat → va_E) (x : Nat) (d : Int32) (what : Int32) (x_no : Nat) (x_ke : Nat) (x_mi : Nat) (x_im : Int32) (x_sh : Nat) (x_co : Nat) (x_ot : Nat) (x_no_up : Int32) (x_no_down : Int32) (x_no_high : Int32) (x_no_prize : Int32) (x_no_z : Int32) (x_no_rounds : Int32) (x_no_people : Int32) (x_no_pa : Nat) (x_no_cr : Nat) (x_no_ls : Int32) (sh : Nat → Nat) (sh_ho : Nat → Int32) (rw : Nat → Nat) (sp : Nat → Nat) (el : Nat → Nat) (rw_so : Nat → Int32) (rw_sz : Nat → Int32) (el_f : Nat → Nat → Int32) (h_x : wi L F x (eX x_no x_ke x_mi x_im x_sh x_co x_ot)) (h_x_no : wi L F x_no (eG x_no_up x_no_down x_no_high x_no_prize x_no_z x_no_rounds x_no_people x_no_pa x_no_cr x_no_ls)) (h_x_sh : wi L F x_sh (eQ cS 8 (fun i => some (sh i)))) (h_sh : ∀ i, i < 8 → wi L F (sh i) (eS (sh_ho i) (rw i) (sp i))) (h_rw : ∀ i, i < 8 → wi L F (rw i) (eR (el i) (rw_so i) (rw_sz i))) (h_el : ∀ i, i < 8 → wi L F (el i) (eI cI 100 (el_f i))) (hzs : ∀ i, i < 8 → (rw_sz i).toInt ≤ 100) : wMI l D cI cP cS cL yX5_winners wsX5_winners ({ frames := 4, cells := 0, slots := 0, locals := 97 } : Room) [.ref x, .int d, .int what] L F (f_X5_winners d what x_no_up x_no_down x_no_high x_no_prize sh_ho rw_sz el_f) F := by
  refine wM.of (cc := cX5_winners) (maxL := 5) (ret := (some .int)) (by decide) rfl (Nat.le_of_ble_eq_true rfl) ?_
  intro pZ eZ sZ mZ below meth cZ A ls C hl w
  obtain ⟨hx, hb, hr, hml, hts, hown, hlocks, hK, hA, hin⟩ := C
  have hown : sZ.vm.findClass RX5 = some mZ.cls := hown
  have hl : lv_has ls 5 [(0, .ref x), (1, .int d), (2, .int what)] := hl
  have m_0 : ((.fieldLink RX5 10 "TwoThirds" "now" "LTwoThirds$Game;") : Cond) ∈ wsX5_winners := by decide +kernel
  have i_X5 : ∀ w ∈ wsX50, w ∈ wsX5_winners := by decide +kernel
  have m_2 : ((.fieldLink RX5 44 "TwoThirds$Shelf" "row" "LTwoThirds$Row;") : Cond) ∈ wsX5_winners := by decide +kernel
  have i_X4 : ∀ w ∈ wsX40, w ∈ wsX5_winners := by decide +kernel
  have hq : f_X5_winners d what x_no_up x_no_down x_no_high x_no_prize sh_ho rw_sz el_f = f_X5_winners d what x_no_up x_no_down x_no_high x_no_prize sh_ho rw_sz el_f := rfl
  refine lv_aload_n hx hb dX5_winners_0 rfl (lv_at hl 0 rfl) ?_
  refine lv_iload_n hx hb dX5_winners_1 rfl (lv_at hl 1 rfl) ?_
  by_cases c1 : (¬ d < 0 ∧ ¬ (8 : Int32) ≤ d)
  · skip
    have hq := hq.trans (if_pos c1)
    have hlt_C : d.toNatClampNeg < 8 := w_okP (n := 8) c1 (by decide)
    refine w_finQ (v := .ref (sh (d.toNatClampNeg))) rfl (w_runV (rm := ({ frames := 0, cells := 0, slots := 0, locals := 0 } : Room)) (As := [.int d]) (rest := []) (n := 1) hx hb hml hts hown hK w (c_X5_shelfAt_some l D cI cP cS cL L _ x d x_no x_ke x_mi x_im x_sh x_co x_ot sh sh_ho rw sp h_x h_x_sh h_sh c1) gX5_winners_X5_shelfAt rfl rfl rfl (by decide +kernel) ⟨(Nat.le_of_ble_eq_true rfl), (Nat.le_of_ble_eq_true rfl)⟩ h_x rfl rfl hl.1 rfl (Nat.le_of_ble_eq_true rfl) dX5_winners_2 ⟨(Nat.le_of_ble_eq_true rfl), (Nat.le_of_ble_eq_true rfl)⟩) w hA (fun H locs w => ?_)
    refine lv_astore_n (lv' := [(3, .ref (sh (d.toNatClampNeg))), (0, .ref x), (1, .int d), (2, .int what)]) hx hb dX5_winners_5 rfl hl (by decide) rfl (fun ls hl => ?_)
    refine lv_iload_n hx hb dX5_winners_6 rfl (lv_at hl 3 rfl) ?_
    refine w_finI (w_runS (rm := ({ frames := 0, cells := 0, slots := 0, locals := 0 } : Room)) (As := [.int what]) (rest := []) (n := 1) hx hb hml hts hown hK w (c_X5_isOneOfTwo l D cI cP cS cL L _ what ) gX5_winners_X5_isOneOfTwo rfl rfl rfl (by decide +kernel) ⟨(Nat.le_of_ble_eq_true rfl), (Nat.le_of_ble_eq_true rfl)⟩ rfl hl.1 rfl (Nat.le_of_ble_eq_true rfl) dX5_winners_7 ⟨(Nat.le_of_ble_eq_true rfl), (Nat.le_of_ble_eq_true rfl)⟩) w hA (fun H locs w => ?_)
    refine lv_if_ne (tgt := 15) hx hb dX5_winners_10 (by decide) (fun c2 => ?_) (fun c2 => ?_)
    · skip
      have hq := hq.trans (if_neg c2)
      refine lv_aload_n hx hb dX5_winners_15 rfl (lv_at hl 1 rfl) ?_
      refine lv_aload_n hx hb dX5_winners_16 rfl (lv_at hl 0 rfl) ?_
      refine w_finI (w_runV (rm := ({ frames := 2, cells := 0, slots := 0, locals := 43 } : Room)) (As := [.ref (sh (d.toNatClampNeg))]) (rest := []) (n := 1) hx hb hml hts hown hK w (c_X5_cardsRefusal l D cI cP cS cL L _ x (sh (d.toNatClampNeg)) x_no x_ke x_mi x_im x_sh x_co x_ot x_no_up x_no_down x_no_high x_no_prize x_no_z x_no_rounds x_no_people x_no_pa x_no_cr x_no_ls (sh_ho (d.toNatClampNeg)) (rw (d.toNatClampNeg)) (sp (d.toNatClampNeg)) (el (d.toNatClampNeg)) (rw_so (d.toNatClampNeg)) (rw_sz (d.toNatClampNeg)) 100 (el_f (d.toNatClampNeg)) h_x h_x_no (h_sh (d.toNatClampNeg) (by omega)) (h_rw (d.toNatClampNeg) (by omega)) (h_el (d.toNatClampNeg) (by omega)) (hzs (d.toNatClampNeg) (by omega))) gX5_winners_X5_cardsRefusal rfl rfl rfl (by decide +kernel) ⟨(Nat.le_of_ble_eq_true rfl), (Nat.le_of_ble_eq_true rfl)⟩ h_x rfl rfl hl.1 rfl (Nat.le_of_ble_eq_true rfl) dX5_winners_17 ⟨(Nat.le_of_ble_eq_true rfl), (Nat.le_of_ble_eq_true rfl)⟩) w hA (fun H locs w => ?_)
      refine lv_istore (lv' := [(4, .int (f_X5_cardsRefusal x_no_high (sh_ho (d.toNatClampNeg)) (rw_sz (d.toNatClampNeg)) (el_f (d.toNatClampNeg)))), (3, .ref (sh (d.toNatClampNeg))), (0, .ref x), (1, .int d), (2, .int what)]) hx hb dX5_winners_20 hl (by decide) rfl (fun ls hl => ?_)
      refine lv_iload hx hb dX5_winners_22 (lv_at hl 0 rfl) ?_
      refine lv_if_eq (tgt := 30) hx hb dX5_winners_24 (by decide) (fun c3 => ?_) (fun c3 => ?_)
      · skip
        have hq := hq.trans (if_pos c3)
        refine lv_iload_n hx hb dX5_winners_30 rfl (lv_at hl 4 rfl) ?_
        refine lv_if_ne (tgt := 48) hx hb dX5_winners_31 (by decide) (fun c4 => ?_) (fun c4 => ?_)
        · skip
          have hq := hq.trans (if_neg c4)
          refine lv_aload_n hx hb dX5_winners_48 rfl (lv_at hl 2 rfl) ?_
          refine w_get (v := .ref x_no) hx hb hts i_X5 hown hK w h_x rfl 0 (by decide) (hts _ m_0) rfl dX5_winners_49 ?_
          refine lv_aload_n hx hb dX5_winners_52 rfl (lv_at hl 1 rfl) ?_
          refine w_get (v := .ref (rw (d.toNatClampNeg))) hx hb hts i_X4 hown hK w (h_sh (d.toNatClampNeg) (by omega)) rfl 1 (by decide) (hts _ m_2) rfl dX5_winners_53 ?_
          refine w_finI (w_runV (rm := ({ frames := 2, cells := 0, slots := 0, locals := 43 } : Room)) (As := [.ref (rw (d.toNatClampNeg))]) (rest := []) (n := 1) hx hb hml hts hown hK w (c_X0_firstWinner l D cI cP cS cL L _ x_no (rw (d.toNatClampNeg)) x_no_up x_no_down x_no_high x_no_prize x_no_z x_no_rounds x_no_people x_no_pa x_no_cr x_no_ls (el (d.toNatClampNeg)) (rw_so (d.toNatClampNeg)) (rw_sz (d.toNatClampNeg)) 100 (el_f (d.toNatClampNeg)) h_x_no (h_rw (d.toNatClampNeg) (by omega)) (h_el (d.toNatClampNeg) (by omega)) (hzs (d.toNatClampNeg) (by omega))) gX5_winners_X0_firstWinner rfl rfl rfl (by decide +kernel) ⟨(Nat.le_of_ble_eq_true rfl), (Nat.le_of_ble_eq_true rfl)⟩ h_x_no rfl rfl hl.1 rfl (Nat.le_of_ble_eq_true rfl) dX5_winners_56 ⟨(Nat.le_of_ble_eq_true rfl), (Nat.le_of_ble_eq_true rfl)⟩) w hA (fun H locs w => ?_)
          exact w_iret hx hb hr hlocks w ⟨hq.symm, rfl, rfl⟩ (Nat.le_refl _) (Nat.le_refl _) dX5_winners_59
        · skip
          have hq := hq.trans (if_pos c4)
          refine lv_aload_n hx hb dX5_winners_34 rfl (lv_at hl 2 rfl) ?_
          refine w_get (v := .ref x_no) hx hb hts i_X5 hown hK w h_x rfl 0 (by decide) (hts _ m_0) rfl dX5_winners_35 ?_
          refine lv_aload_n hx hb dX5_winners_38 rfl (lv_at hl 1 rfl) ?_
          refine w_get (v := .ref (rw (d.toNatClampNeg))) hx hb hts i_X4 hown hK w (h_sh (d.toNatClampNeg) (by omega)) rfl 1 (by decide) (hts _ m_2) rfl dX5_winners_39 ?_
          refine w_finI (w_runV (rm := ({ frames := 3, cells := 0, slots := 0, locals := 70 } : Room)) (As := [.ref (rw (d.toNatClampNeg))]) (rest := []) (n := 1) hx hb hml hts hown hK w (c_X0_countWinners l D cI cP cS cL L _ x_no (rw (d.toNatClampNeg)) x_no_up x_no_down x_no_high x_no_prize x_no_z x_no_rounds x_no_people x_no_pa x_no_cr x_no_ls (el (d.toNatClampNeg)) (rw_so (d.toNatClampNeg)) (rw_sz (d.toNatClampNeg)) 100 (el_f (d.toNatClampNeg)) h_x_no (h_rw (d.toNatClampNeg) (by omega)) (h_el (d.toNatClampNeg) (by omega)) (hzs (d.toNatClampNeg) (by omega))) gX5_winners_X0_countWinners rfl rfl rfl (by decide +kernel) ⟨(Nat.le_of_ble_eq_true rfl), (Nat.le_of_ble_eq_true rfl)⟩ h_x_no rfl rfl hl.1 rfl (Nat.le_of_ble_eq_true rfl) dX5_winners_42 ⟨(Nat.le_of_ble_eq_true rfl), (Nat.le_of_ble_eq_true rfl)⟩) w hA (fun H locs w => ?_)
          refine lv_goto (tgt := 59) hx hb dX5_winners_45 (by decide) ?_
          exact w_iret hx hb hr hlocks w ⟨hq.symm, rfl, rfl⟩ (Nat.le_refl _) (Nat.le_refl _) dX5_winners_59
      · skip
        have hq := hq.trans (if_neg c3)
        refine lv_iload hx hb dX5_winners_27 (lv_at hl 0 rfl) ?_
        exact w_iret hx hb hr hlocks w ⟨hq.symm, rfl, rfl⟩ (Nat.le_refl _) (Nat.le_refl _) dX5_winners_29
    · skip
      have hq := hq.trans (if_pos c2)
      refine lv_iconst (v := (-1)) hx hb dX5_winners_13 (by decide) ?_
      exact w_iret hx hb hr hlocks w ⟨hq.symm, rfl, rfl⟩ (Nat.le_refl _) (Nat.le_refl _) dX5_winners_14
  · skip
    have hq := hq.trans (if_neg c1)
    refine w_finQ (v := .null) (by unfold f_X5_shelfAt_none; first | rfl | (split <;> rfl)) (w_runV (rm := ({ frames := 0, cells := 0, slots := 0, locals := 0 } : Room)) (As := [.int d]) (rest := []) (n := 1) hx hb hml hts hown hK w (c_X5_shelfAt_none l D cI cP cS cL L _ x d x_no x_ke x_mi x_im x_sh x_co x_ot sh h_x h_x_sh c1) gX5_winners_X5_shelfAt rfl rfl rfl (by decide +kernel) ⟨(Nat.le_of_ble_eq_true rfl), (Nat.le_of_ble_eq_true rfl)⟩ h_x rfl rfl hl.1 rfl (Nat.le_of_ble_eq_true rfl) dX5_winners_2 ⟨(Nat.le_of_ble_eq_true rfl), (Nat.le_of_ble_eq_true rfl)⟩) w hA (fun H locs w => ?_)
    refine lv_astore_nN (lv' := [(3, .null), (0, .ref x), (1, .int d), (2, .int what)]) hx hb dX5_winners_5 rfl hl (by decide) rfl (fun ls hl => ?_)
    refine lv_iload_n hx hb dX5_winners_6 rfl (lv_at hl 3 rfl) ?_
    refine w_finI (w_runS (rm := ({ frames := 0, cells := 0, slots := 0, locals := 0 } : Room)) (As := [.int what]) (rest := []) (n := 1) hx hb hml hts hown hK w (c_X5_isOneOfTwo l D cI cP cS cL L _ what ) gX5_winners_X5_isOneOfTwo rfl rfl rfl (by decide +kernel) ⟨(Nat.le_of_ble_eq_true rfl), (Nat.le_of_ble_eq_true rfl)⟩ rfl hl.1 rfl (Nat.le_of_ble_eq_true rfl) dX5_winners_7 ⟨(Nat.le_of_ble_eq_true rfl), (Nat.le_of_ble_eq_true rfl)⟩) w hA (fun H locs w => ?_)
    refine lv_if_ne (tgt := 15) hx hb dX5_winners_10 (by decide) (fun c5 => ?_) (fun c5 => ?_)
    · skip
      have hq := hq.trans (if_neg c5)
      refine lv_aload_n hx hb dX5_winners_15 rfl (lv_at hl 1 rfl) ?_
      refine lv_aload_nN hx hb dX5_winners_16 rfl (lv_at hl 0 rfl) ?_
      refine w_finI (r := (-1)) (w_runV (rm := ({ frames := 2, cells := 0, slots := 0, locals := 41 } : Room)) (As := [.null]) (rest := []) (n := 1) hx hb hml hts hown hK w (c_X5_cardsRefusal_n l D cI cP cS cL L _ x x_no x_ke x_mi x_im x_sh x_co x_ot h_x) gX5_winners_X5_cardsRefusal rfl rfl rfl (by decide +kernel) ⟨(Nat.le_of_ble_eq_true rfl), (Nat.le_of_ble_eq_true rfl)⟩ h_x rfl rfl hl.1 rfl (Nat.le_of_ble_eq_true rfl) dX5_winners_17 ⟨(Nat.le_of_ble_eq_true rfl), (Nat.le_of_ble_eq_true rfl)⟩) w hA (fun H locs w => ?_)
      refine lv_istore (lv' := [(4, .int (-1)), (3, .null), (0, .ref x), (1, .int d), (2, .int what)]) hx hb dX5_winners_20 hl (by decide) rfl (fun ls hl => ?_)
      refine lv_iload hx hb dX5_winners_22 (lv_at hl 0 rfl) ?_
      refine lv_if_eq (tgt := 30) hx hb dX5_winners_24 (by decide) (fun c => absurd c (by decide)) (fun _ => ?_)
      refine lv_iload hx hb dX5_winners_27 (lv_at hl 0 rfl) ?_
      exact w_iret hx hb hr hlocks w ⟨hq.symm, rfl, rfl⟩ (Nat.le_refl _) (Nat.le_refl _) dX5_winners_29
    · skip
      have hq := hq.trans (if_pos c5)
      refine lv_iconst (v := (-1)) hx hb dX5_winners_13 (by decide) ?_
      exact w_iret hx hb hr hlocks w ⟨hq.symm, rfl, rfl⟩ (Nat.le_refl _) (Nat.le_refl _) dX5_winners_14
def f_X5_best (d : Int32) (x_no_up : Int32) (x_no_down : Int32) (x_no_high : Int32) (x_no_prize : Int32) (sh_ho : Nat → Int32) (rw_sz : Nat → Int32) (el_f : Nat → Nat → Int32) : Int32 := if (¬ d < 0 ∧ ¬ (8 : Int32) ≤ d) then (if (f_X5_cardsRefusal x_no_high (sh_ho (d.toNatClampNeg)) (rw_sz (d.toNatClampNeg)) (el_f (d.toNatClampNeg))) = (0 : Int32) then (f_X0_bestAgainst x_no_up x_no_down x_no_high x_no_prize (rw_sz (d.toNatClampNeg)) (el_f (d.toNatClampNeg))) else (f_X5_cardsRefusal x_no_high (sh_ho (d.toNatClampNeg)) (rw_sz (d.toNatClampNeg)) (el_f (d.toNatClampNeg)))) else (-1)
set_option maxHeartbeats 400000 in
set_option maxRecDepth 100000 in
theorem c_X5_best (l : Launch) (D : va_G) (cI cP cS cL : ClassId) (L : List Nat) (F : Nat → va_E) (x : Nat) (d : Int32) (x_no : Nat) (x_ke : Nat) (x_mi : Nat) (x_im : Int32) (x_sh : Nat) (x_co : Nat) (x_ot : Nat) (x_no_up : Int32) (x_no_down : Int32) (x_no_high : Int32) (x_no_prize : Int32) (x_no_z : Int32) (x_no_rounds : Int32) (x_no_people : Int32) (x_no_pa : Nat) (x_no_cr : Nat) (x_no_ls : Int32) (sh : Nat → Nat) (sh_ho : Nat → Int32) (rw : Nat → Nat) (sp : Nat → Nat) (el : Nat → Nat) (rw_so : Nat → Int32) (rw_sz : Nat → Int32) (el_f : Nat → Nat → Int32) (h_x : wi L F x (eX x_no x_ke x_mi x_im x_sh x_co x_ot)) (h_x_no : wi L F x_no (eG x_no_up x_no_down x_no_high x_no_prize x_no_z x_no_rounds x_no_people x_no_pa x_no_cr x_no_ls)) (h_x_sh : wi L F x_sh (eQ cS 8 (fun i => some (sh i)))) (h_sh : ∀ i, i < 8 → wi L F (sh i) (eS (sh_ho i) (rw i) (sp i))) (h_rw : ∀ i, i < 8 → wi L F (rw i) (eR (el i) (rw_so i) (rw_sz i))) (h_el : ∀ i, i < 8 → wi L F (el i) (eI cI 100 (el_f i))) (hzs : ∀ i, i < 8 → (rw_sz i).toInt ≤ 100) (hhi : x_no_high.toInt ≤ 1000) : wMI l D cI cP cS cL yX5_best wsX5_best ({ frames := 3, cells := 0, slots := 0, locals := 65 } : Room) [.ref x, .int d] L F (f_X5_best d x_no_up x_no_down x_no_high x_no_prize sh_ho rw_sz el_f) F := by
  refine wM.of (cc := cX5_best) (maxL := 4) (ret := (some .int)) (by decide) rfl (Nat.le_of_ble_eq_true rfl) ?_
  intro pZ eZ sZ mZ below meth cZ A ls C hl w
  obtain ⟨hx, hb, hr, hml, hts, hown, hlocks, hK, hA, hin⟩ := C
  have hown : sZ.vm.findClass RX5 = some mZ.cls := hown
  have hl : lv_has ls 4 [(0, .ref x), (1, .int d)] := hl
  have m_0 : ((.fieldLink RX5 10 "TwoThirds" "now" "LTwoThirds$Game;") : Cond) ∈ wsX5_best := by decide +kernel
  have i_X5 : ∀ w ∈ wsX50, w ∈ wsX5_best := by decide +kernel
  have m_2 : ((.fieldLink RX5 44 "TwoThirds$Shelf" "row" "LTwoThirds$Row;") : Cond) ∈ wsX5_best := by decide +kernel
  have i_X4 : ∀ w ∈ wsX40, w ∈ wsX5_best := by decide +kernel
  have hq : f_X5_best d x_no_up x_no_down x_no_high x_no_prize sh_ho rw_sz el_f = f_X5_best d x_no_up x_no_down x_no_high x_no_prize sh_ho rw_sz el_f := rfl
  refine lv_aload_n hx hb dX5_best_0 rfl (lv_at hl 0 rfl) ?_
  refine lv_iload_n hx hb dX5_best_1 rfl (lv_at hl 1 rfl) ?_
  by_cases c1 : (¬ d < 0 ∧ ¬ (8 : Int32) ≤ d)
  · skip
    have hq := hq.trans (if_pos c1)
    have hlt_C : d.toNatClampNeg < 8 := w_okP (n := 8) c1 (by decide)
    refine w_finQ (v := .ref (sh (d.toNatClampNeg))) rfl (w_runV (rm := ({ frames := 0, cells := 0, slots := 0, locals := 0 } : Room)) (As := [.int d]) (rest := []) (n := 1) hx hb hml hts hown hK w (c_X5_shelfAt_some l D cI cP cS cL L _ x d x_no x_ke x_mi x_im x_sh x_co x_ot sh sh_ho rw sp h_x h_x_sh h_sh c1) gX5_best_X5_shelfAt rfl rfl rfl (by decide +kernel) ⟨(Nat.le_of_ble_eq_true rfl), (Nat.le_of_ble_eq_true rfl)⟩ h_x rfl rfl hl.1 rfl (Nat.le_of_ble_eq_true rfl) dX5_best_2 ⟨(Nat.le_of_ble_eq_true rfl), (Nat.le_of_ble_eq_true rfl)⟩) w hA (fun H locs w => ?_)
    refine lv_astore_n (lv' := [(2, .ref (sh (d.toNatClampNeg))), (0, .ref x), (1, .int d)]) hx hb dX5_best_5 rfl hl (by decide) rfl (fun ls hl => ?_)
    refine lv_aload_n hx hb dX5_best_6 rfl (lv_at hl 1 rfl) ?_
    refine lv_aload_n hx hb dX5_best_7 rfl (lv_at hl 0 rfl) ?_
    refine w_finI (w_runV (rm := ({ frames := 2, cells := 0, slots := 0, locals := 43 } : Room)) (As := [.ref (sh (d.toNatClampNeg))]) (rest := []) (n := 1) hx hb hml hts hown hK w (c_X5_cardsRefusal l D cI cP cS cL L _ x (sh (d.toNatClampNeg)) x_no x_ke x_mi x_im x_sh x_co x_ot x_no_up x_no_down x_no_high x_no_prize x_no_z x_no_rounds x_no_people x_no_pa x_no_cr x_no_ls (sh_ho (d.toNatClampNeg)) (rw (d.toNatClampNeg)) (sp (d.toNatClampNeg)) (el (d.toNatClampNeg)) (rw_so (d.toNatClampNeg)) (rw_sz (d.toNatClampNeg)) 100 (el_f (d.toNatClampNeg)) h_x h_x_no (h_sh (d.toNatClampNeg) (by omega)) (h_rw (d.toNatClampNeg) (by omega)) (h_el (d.toNatClampNeg) (by omega)) (hzs (d.toNatClampNeg) (by omega))) gX5_best_X5_cardsRefusal rfl rfl rfl (by decide +kernel) ⟨(Nat.le_of_ble_eq_true rfl), (Nat.le_of_ble_eq_true rfl)⟩ h_x rfl rfl hl.1 rfl (Nat.le_of_ble_eq_true rfl) dX5_best_8 ⟨(Nat.le_of_ble_eq_true rfl), (Nat.le_of_ble_eq_true rfl)⟩) w hA (fun H locs w => ?_)
    refine lv_istore_n (lv' := [(3, .int (f_X5_cardsRefusal x_no_high (sh_ho (d.toNatClampNeg)) (rw_sz (d.toNatClampNeg)) (el_f (d.toNatClampNeg)))), (2, .ref (sh (d.toNatClampNeg))), (0, .ref x), (1, .int d)]) hx hb dX5_best_11 rfl hl (by decide) rfl (fun ls hl => ?_)
    refine lv_iload_n hx hb dX5_best_12 rfl (lv_at hl 0 rfl) ?_
    refine lv_if_eq (tgt := 20) hx hb dX5_best_13 (by decide) (fun c2 => ?_) (fun c2 => ?_)
    · skip
      have hq := hq.trans (if_pos c2)
      refine lv_aload_n hx hb dX5_best_20 rfl (lv_at hl 2 rfl) ?_
      refine w_get (v := .ref x_no) hx hb hts i_X5 hown hK w h_x rfl 0 (by decide) (hts _ m_0) rfl dX5_best_21 ?_
      refine lv_aload_n hx hb dX5_best_24 rfl (lv_at hl 1 rfl) ?_
      refine w_get (v := .ref (rw (d.toNatClampNeg))) hx hb hts i_X4 hown hK w (h_sh (d.toNatClampNeg) (by omega)) rfl 1 (by decide) (hts _ m_2) rfl dX5_best_25 ?_
      refine w_finI (w_runV (rm := ({ frames := 1, cells := 0, slots := 0, locals := 24 } : Room)) (As := [.ref (rw (d.toNatClampNeg))]) (rest := []) (n := 1) hx hb hml hts hown hK w (c_X0_bestAgainst l D cI cP cS cL L _ x_no (rw (d.toNatClampNeg)) x_no_up x_no_down x_no_high x_no_prize x_no_z x_no_rounds x_no_people x_no_pa x_no_cr x_no_ls (el (d.toNatClampNeg)) (rw_so (d.toNatClampNeg)) (rw_sz (d.toNatClampNeg)) 100 (el_f (d.toNatClampNeg)) h_x_no (h_rw (d.toNatClampNeg) (by omega)) (h_el (d.toNatClampNeg) (by omega)) (hzs (d.toNatClampNeg) (by omega)) hhi) gX5_best_X0_bestAgainst rfl rfl rfl (by decide +kernel) ⟨(Nat.le_of_ble_eq_true rfl), (Nat.le_of_ble_eq_true rfl)⟩ h_x_no rfl rfl hl.1 rfl (Nat.le_of_ble_eq_true rfl) dX5_best_28 ⟨(Nat.le_of_ble_eq_true rfl), (Nat.le_of_ble_eq_true rfl)⟩) w hA (fun H locs w => ?_)
      exact w_iret hx hb hr hlocks w ⟨hq.symm, rfl, rfl⟩ (Nat.le_refl _) (Nat.le_refl _) dX5_best_31
    · skip
      have hq := hq.trans (if_neg c2)
      refine lv_iload_n hx hb dX5_best_16 rfl (lv_at hl 0 rfl) ?_
      refine lv_goto (tgt := 31) hx hb dX5_best_17 (by decide) ?_
      exact w_iret hx hb hr hlocks w ⟨hq.symm, rfl, rfl⟩ (Nat.le_refl _) (Nat.le_refl _) dX5_best_31
  · skip
    have hq := hq.trans (if_neg c1)
    refine w_finQ (v := .null) (by unfold f_X5_shelfAt_none; first | rfl | (split <;> rfl)) (w_runV (rm := ({ frames := 0, cells := 0, slots := 0, locals := 0 } : Room)) (As := [.int d]) (rest := []) (n := 1) hx hb hml hts hown hK w (c_X5_shelfAt_none l D cI cP cS cL L _ x d x_no x_ke x_mi x_im x_sh x_co x_ot sh h_x h_x_sh c1) gX5_best_X5_shelfAt rfl rfl rfl (by decide +kernel) ⟨(Nat.le_of_ble_eq_true rfl), (Nat.le_of_ble_eq_true rfl)⟩ h_x rfl rfl hl.1 rfl (Nat.le_of_ble_eq_true rfl) dX5_best_2 ⟨(Nat.le_of_ble_eq_true rfl), (Nat.le_of_ble_eq_true rfl)⟩) w hA (fun H locs w => ?_)
    refine lv_astore_nN (lv' := [(2, .null), (0, .ref x), (1, .int d)]) hx hb dX5_best_5 rfl hl (by decide) rfl (fun ls hl => ?_)
    refine lv_aload_n hx hb dX5_best_6 rfl (lv_at hl 1 rfl) ?_
    refine lv_aload_nN hx hb dX5_best_7 rfl (lv_at hl 0 rfl) ?_
    refine w_finI (r := (-1)) (w_runV (rm := ({ frames := 2, cells := 0, slots := 0, locals := 41 } : Room)) (As := [.null]) (rest := []) (n := 1) hx hb hml hts hown hK w (c_X5_cardsRefusal_n l D cI cP cS cL L _ x x_no x_ke x_mi x_im x_sh x_co x_ot h_x) gX5_best_X5_cardsRefusal rfl rfl rfl (by decide +kernel) ⟨(Nat.le_of_ble_eq_true rfl), (Nat.le_of_ble_eq_true rfl)⟩ h_x rfl rfl hl.1 rfl (Nat.le_of_ble_eq_true rfl) dX5_best_8 ⟨(Nat.le_of_ble_eq_true rfl), (Nat.le_of_ble_eq_true rfl)⟩) w hA (fun H locs w => ?_)
    refine lv_istore_n (lv' := [(3, .int (-1)), (2, .null), (0, .ref x), (1, .int d)]) hx hb dX5_best_11 rfl hl (by decide) rfl (fun ls hl => ?_)
    refine lv_iload_n hx hb dX5_best_12 rfl (lv_at hl 0 rfl) ?_
    refine lv_if_eq (tgt := 20) hx hb dX5_best_13 (by decide) (fun c => absurd c (by decide)) (fun _ => ?_)
    refine lv_iload_n hx hb dX5_best_16 rfl (lv_at hl 0 rfl) ?_
    refine lv_goto (tgt := 31) hx hb dX5_best_17 (by decide) ?_
    exact w_iret hx hb hr hlocks w ⟨hq.symm, rfl, rfl⟩ (Nat.le_refl _) (Nat.le_refl _) dX5_best_31
def f_X5_level (k0 : Int32) (x_no_up : Int32) (x_no_down : Int32) (x_no_high : Int32) : Int32 := if (f_X5_isStepCount k0) = (0 : Int32) then (-1) else (f_X0_stepped k0 x_no_up x_no_down x_no_high)
set_option maxHeartbeats 400000 in
set_option maxRecDepth 100000 in
theorem c_X5_level (l : Launch) (D : va_G) (cI cP cS cL : ClassId) (L : List Nat) (F : Nat → va_E) (x : Nat) (k0 : Int32) (x_no : Nat) (x_ke : Nat) (x_mi : Nat) (x_im : Int32) (x_sh : Nat) (x_co : Nat) (x_ot : Nat) (x_no_up : Int32) (x_no_down : Int32) (x_no_high : Int32) (x_no_prize : Int32) (x_no_z : Int32) (x_no_rounds : Int32) (x_no_people : Int32) (x_no_pa : Nat) (x_no_cr : Nat) (x_no_ls : Int32) (h_x : wi L F x (eX x_no x_ke x_mi x_im x_sh x_co x_ot)) (h_x_no : wi L F x_no (eG x_no_up x_no_down x_no_high x_no_prize x_no_z x_no_rounds x_no_people x_no_pa x_no_cr x_no_ls)) : wMI l D cI cP cS cL yX5_level wsX5_level ({ frames := 4, cells := 0, slots := 0, locals := 87 } : Room) [.ref x, .int k0] L F (f_X5_level k0 x_no_up x_no_down x_no_high) F := by
  refine wM.of (cc := cX5_level) (maxL := 2) (ret := (some .int)) (by decide) rfl (Nat.le_of_ble_eq_true rfl) ?_
  intro pZ eZ sZ mZ below meth cZ A ls C hl w
  obtain ⟨hx, hb, hr, hml, hts, hown, hlocks, hK, hA, hin⟩ := C
  have hown : sZ.vm.findClass RX5 = some mZ.cls := hown
  have hl : lv_has ls 2 [(0, .ref x), (1, .int k0)] := hl
  have m_0 : ((.fieldLink RX5 10 "TwoThirds" "now" "LTwoThirds$Game;") : Cond) ∈ wsX5_level := by decide +kernel
  have i_X5 : ∀ w ∈ wsX50, w ∈ wsX5_level := by decide +kernel
  have hq : f_X5_level k0 x_no_up x_no_down x_no_high = f_X5_level k0 x_no_up x_no_down x_no_high := rfl
  refine lv_iload_n hx hb dX5_level_0 rfl (lv_at hl 1 rfl) ?_
  refine w_finI (w_runS (rm := ({ frames := 0, cells := 0, slots := 0, locals := 0 } : Room)) (As := [.int k0]) (rest := []) (n := 1) hx hb hml hts hown hK w (c_X5_isStepCount l D cI cP cS cL L _ k0 ) gX5_level_X5_isStepCount rfl rfl rfl (by decide +kernel) ⟨(Nat.le_of_ble_eq_true rfl), (Nat.le_of_ble_eq_true rfl)⟩ rfl hl.1 rfl (Nat.le_of_ble_eq_true rfl) dX5_level_1 ⟨(Nat.le_of_ble_eq_true rfl), (Nat.le_of_ble_eq_true rfl)⟩) w hA (fun H locs w => ?_)
  refine lv_if_eq (tgt := 18) hx hb dX5_level_4 (by decide) (fun c1 => ?_) (fun c1 => ?_)
  · skip
    have hq := hq.trans (if_pos c1)
    refine lv_iconst (v := (-1)) hx hb dX5_level_18 (by decide) ?_
    exact w_iret hx hb hr hlocks w ⟨hq.symm, rfl, rfl⟩ (Nat.le_refl _) (Nat.le_refl _) dX5_level_19
  · skip
    have hq := hq.trans (if_neg c1)
    refine lv_aload_n hx hb dX5_level_7 rfl (lv_at hl 0 rfl) ?_
    refine w_get (v := .ref x_no) hx hb hts i_X5 hown hK w h_x rfl 0 (by decide) (hts _ m_0) rfl dX5_level_8 ?_
    refine lv_iload_n hx hb dX5_level_11 rfl (lv_at hl 1 rfl) ?_
    refine w_finI (w_runV (rm := ({ frames := 3, cells := 0, slots := 0, locals := 66 } : Room)) (As := [.int k0]) (rest := []) (n := 1) hx hb hml hts hown hK w (c_X0_stepped l D cI cP cS cL L _ x_no k0 x_no_up x_no_down x_no_high x_no_prize x_no_z x_no_rounds x_no_people x_no_pa x_no_cr x_no_ls h_x_no) gX5_level_X0_stepped rfl rfl rfl (by decide +kernel) ⟨(Nat.le_of_ble_eq_true rfl), (Nat.le_of_ble_eq_true rfl)⟩ h_x_no rfl rfl hl.1 rfl (Nat.le_of_ble_eq_true rfl) dX5_level_12 ⟨(Nat.le_of_ble_eq_true rfl), (Nat.le_of_ble_eq_true rfl)⟩) w hA (fun H locs w => ?_)
    refine lv_goto (tgt := 19) hx hb dX5_level_15 (by decide) ?_
    exact w_iret hx hb hr hlocks w ⟨hq.symm, rfl, rfl⟩ (Nat.le_refl _) (Nat.le_refl _) dX5_level_19
def f_X5_stepsOf (card : Int32) (x_no_up : Int32) (x_no_down : Int32) (x_no_high : Int32) : Int32 := if (f_X0_isCard card x_no_high) = (0 : Int32) then (-1) else (f_X0_nearestSteps card x_no_up x_no_down x_no_high)
set_option maxHeartbeats 400000 in
set_option maxRecDepth 100000 in
theorem c_X5_stepsOf (l : Launch) (D : va_G) (cI cP cS cL : ClassId) (L : List Nat) (F : Nat → va_E) (x : Nat) (card : Int32) (x_no : Nat) (x_ke : Nat) (x_mi : Nat) (x_im : Int32) (x_sh : Nat) (x_co : Nat) (x_ot : Nat) (x_no_up : Int32) (x_no_down : Int32) (x_no_high : Int32) (x_no_prize : Int32) (x_no_z : Int32) (x_no_rounds : Int32) (x_no_people : Int32) (x_no_pa : Nat) (x_no_cr : Nat) (x_no_ls : Int32) (h_x : wi L F x (eX x_no x_ke x_mi x_im x_sh x_co x_ot)) (h_x_no : wi L F x_no (eG x_no_up x_no_down x_no_high x_no_prize x_no_z x_no_rounds x_no_people x_no_pa x_no_cr x_no_ls)) : wMI l D cI cP cS cL yX5_stepsOf wsX5_stepsOf ({ frames := 3, cells := 0, slots := 0, locals := 68 } : Room) [.ref x, .int card] L F (f_X5_stepsOf card x_no_up x_no_down x_no_high) F := by
  refine wM.of (cc := cX5_stepsOf) (maxL := 2) (ret := (some .int)) (by decide) rfl (Nat.le_of_ble_eq_true rfl) ?_
  intro pZ eZ sZ mZ below meth cZ A ls C hl w
  obtain ⟨hx, hb, hr, hml, hts, hown, hlocks, hK, hA, hin⟩ := C
  have hown : sZ.vm.findClass RX5 = some mZ.cls := hown
  have hl : lv_has ls 2 [(0, .ref x), (1, .int card)] := hl
  have m_0 : ((.fieldLink RX5 10 "TwoThirds" "now" "LTwoThirds$Game;") : Cond) ∈ wsX5_stepsOf := by decide +kernel
  have i_X5 : ∀ w ∈ wsX50, w ∈ wsX5_stepsOf := by decide +kernel
  have hq : f_X5_stepsOf card x_no_up x_no_down x_no_high = f_X5_stepsOf card x_no_up x_no_down x_no_high := rfl
  refine lv_aload_n hx hb dX5_stepsOf_0 rfl (lv_at hl 0 rfl) ?_
  refine w_get (v := .ref x_no) hx hb hts i_X5 hown hK w h_x rfl 0 (by decide) (hts _ m_0) rfl dX5_stepsOf_1 ?_
  refine lv_iload_n hx hb dX5_stepsOf_4 rfl (lv_at hl 1 rfl) ?_
  refine w_finI (w_runV (rm := ({ frames := 0, cells := 0, slots := 0, locals := 0 } : Room)) (As := [.int card]) (rest := []) (n := 1) hx hb hml hts hown hK w (c_X0_isCard l D cI cP cS cL L _ x_no card x_no_up x_no_down x_no_high x_no_prize x_no_z x_no_rounds x_no_people x_no_pa x_no_cr x_no_ls h_x_no) gX5_stepsOf_X0_isCard rfl rfl rfl (by decide +kernel) ⟨(Nat.le_of_ble_eq_true rfl), (Nat.le_of_ble_eq_true rfl)⟩ h_x_no rfl rfl hl.1 rfl (Nat.le_of_ble_eq_true rfl) dX5_stepsOf_5 ⟨(Nat.le_of_ble_eq_true rfl), (Nat.le_of_ble_eq_true rfl)⟩) w hA (fun H locs w => ?_)
  refine lv_if_eq (tgt := 22) hx hb dX5_stepsOf_8 (by decide) (fun c1 => ?_) (fun c1 => ?_)
  · skip
    have hq := hq.trans (if_pos c1)
    refine lv_iconst (v := (-1)) hx hb dX5_stepsOf_22 (by decide) ?_
    exact w_iret hx hb hr hlocks w ⟨hq.symm, rfl, rfl⟩ (Nat.le_refl _) (Nat.le_refl _) dX5_stepsOf_23
  · skip
    have hq := hq.trans (if_neg c1)
    refine lv_aload_n hx hb dX5_stepsOf_11 rfl (lv_at hl 0 rfl) ?_
    refine w_get (v := .ref x_no) hx hb hts i_X5 hown hK w h_x rfl 0 (by decide) (hts _ m_0) rfl dX5_stepsOf_12 ?_
    refine lv_iload_n hx hb dX5_stepsOf_15 rfl (lv_at hl 1 rfl) ?_
    refine w_finI (w_runV (rm := ({ frames := 2, cells := 0, slots := 0, locals := 42 } : Room)) (As := [.int card]) (rest := []) (n := 1) hx hb hml hts hown hK w (c_X0_nearestSteps l D cI cP cS cL L _ x_no card x_no_up x_no_down x_no_high x_no_prize x_no_z x_no_rounds x_no_people x_no_pa x_no_cr x_no_ls h_x_no) gX5_stepsOf_X0_nearestSteps rfl rfl rfl (by decide +kernel) ⟨(Nat.le_of_ble_eq_true rfl), (Nat.le_of_ble_eq_true rfl)⟩ h_x_no rfl rfl hl.1 rfl (Nat.le_of_ble_eq_true rfl) dX5_stepsOf_16 ⟨(Nat.le_of_ble_eq_true rfl), (Nat.le_of_ble_eq_true rfl)⟩) w hA (fun H locs w => ?_)
    refine lv_goto (tgt := 23) hx hb dX5_stepsOf_19 (by decide) ?_
    exact w_iret hx hb hr hlocks w ⟨hq.symm, rfl, rfl⟩ (Nat.le_refl _) (Nat.le_refl _) dX5_stepsOf_23
def f_X5_shares_L36 (d : Int32) (k0 : Int32) (x_no_up : Int32) (x_no_down : Int32) (x_no_high : Int32) (rw_sz : Nat → Int32) (el_f : Nat → Nat → Int32) : Nat → Nat → Int32 → Int32
  | 0, _, _ => 0
  | n + 1, k, v5 => if (rw_sz (d.toNatClampNeg)) ≤ (nI k) then v5 else (if (f_X0_nearestSteps (f_X3_at (nI k) (rw_sz (d.toNatClampNeg)) (el_f (d.toNatClampNeg))) x_no_up x_no_down x_no_high) = k0 then (f_X5_shares_L36 d k0 x_no_up x_no_down x_no_high rw_sz el_f n ((k + 1)) (v5 + 1)) else (f_X5_shares_L36 d k0 x_no_up x_no_down x_no_high rw_sz el_f n ((k + 1)) v5))
theorem f_X5_shares_L36_s (d : Int32) (k0 : Int32) (x_no_up : Int32) (x_no_down : Int32) (x_no_high : Int32) (rw_sz : Nat → Int32) (el_f : Nat → Nat → Int32) (n k : Nat) (v5 : Int32) : f_X5_shares_L36 d k0 x_no_up x_no_down x_no_high rw_sz el_f (n + 1) k v5 = (if (rw_sz (d.toNatClampNeg)) ≤ (nI k) then v5 else (if (f_X0_nearestSteps (f_X3_at (nI k) (rw_sz (d.toNatClampNeg)) (el_f (d.toNatClampNeg))) x_no_up x_no_down x_no_high) = k0 then (f_X5_shares_L36 d k0 x_no_up x_no_down x_no_high rw_sz el_f n ((k + 1)) (v5 + 1)) else (f_X5_shares_L36 d k0 x_no_up x_no_down x_no_high rw_sz el_f n ((k + 1)) v5))) := rfl
def f_X5_shares (d : Int32) (k0 : Int32) (x_no_up : Int32) (x_no_down : Int32) (x_no_high : Int32) (sh_ho : Nat → Int32) (rw_sz : Nat → Int32) (el_f : Nat → Nat → Int32) : Int32 := if (¬ d < 0 ∧ ¬ (8 : Int32) ≤ d) then (if (f_X5_isStepCount k0) = (0 : Int32) then (-1) else (if (f_X5_cardsRefusal x_no_high (sh_ho (d.toNatClampNeg)) (rw_sz (d.toNatClampNeg)) (el_f (d.toNatClampNeg))) = (0 : Int32) then (f_X5_shares_L36 d k0 x_no_up x_no_down x_no_high rw_sz el_f ((rw_sz (d.toNatClampNeg)).toNatClampNeg + 1) 0 0) else (f_X5_cardsRefusal x_no_high (sh_ho (d.toNatClampNeg)) (rw_sz (d.toNatClampNeg)) (el_f (d.toNatClampNeg))))) else (if (f_X5_isStepCount k0) = (0 : Int32) then (-1) else (-1))
set_option maxHeartbeats 400000 in
set_option maxRecDepth 100000 in
theorem c_X5_shares (l : Launch) (D : va_G) (cI cP cS cL : ClassId) (L : List Nat) (F : Nat → va_E) (x : Nat) (d : Int32) (k0 : Int32) (x_no : Nat) (x_ke : Nat) (x_mi : Nat) (x_im : Int32) (x_sh : Nat) (x_co : Nat) (x_ot : Nat) (x_no_up : Int32) (x_no_down : Int32) (x_no_high : Int32) (x_no_prize : Int32) (x_no_z : Int32) (x_no_rounds : Int32) (x_no_people : Int32) (x_no_pa : Nat) (x_no_cr : Nat) (x_no_ls : Int32) (sh : Nat → Nat) (sh_ho : Nat → Int32) (rw : Nat → Nat) (sp : Nat → Nat) (el : Nat → Nat) (rw_so : Nat → Int32) (rw_sz : Nat → Int32) (el_f : Nat → Nat → Int32) (h_x : wi L F x (eX x_no x_ke x_mi x_im x_sh x_co x_ot)) (h_x_no : wi L F x_no (eG x_no_up x_no_down x_no_high x_no_prize x_no_z x_no_rounds x_no_people x_no_pa x_no_cr x_no_ls)) (h_x_sh : wi L F x_sh (eQ cS 8 (fun i => some (sh i)))) (h_sh : ∀ i, i < 8 → wi L F (sh i) (eS (sh_ho i) (rw i) (sp i))) (h_rw : ∀ i, i < 8 → wi L F (rw i) (eR (el i) (rw_so i) (rw_sz i))) (h_el : ∀ i, i < 8 → wi L F (el i) (eI cI 100 (el_f i))) (hzs : ∀ i, i < 8 → (rw_sz i).toInt ≤ 100) : wMI l D cI cP cS cL yX5_shares wsX5_shares ({ frames := 3, cells := 0, slots := 0, locals := 68 } : Room) [.ref x, .int d, .int k0] L F (f_X5_shares d k0 x_no_up x_no_down x_no_high sh_ho rw_sz el_f) F := by
  refine wM.of (cc := cX5_shares) (maxL := 7) (ret := (some .int)) (by decide) rfl (Nat.le_of_ble_eq_true rfl) ?_
  intro pZ eZ sZ mZ below meth cZ A ls C hl w
  obtain ⟨hx, hb, hr, hml, hts, hown, hlocks, hK, hA, hin⟩ := C
  have hown : sZ.vm.findClass RX5 = some mZ.cls := hown
  have hl : lv_has ls 7 [(0, .ref x), (1, .int d), (2, .int k0)] := hl
  have m_0 : ((.fieldLink RX5 44 "TwoThirds$Shelf" "row" "LTwoThirds$Row;") : Cond) ∈ wsX5_shares := by decide +kernel
  have i_X4 : ∀ w ∈ wsX40, w ∈ wsX5_shares := by decide +kernel
  have m_2 : ((.fieldLink RX5 167 "TwoThirds$Row" "size" "I") : Cond) ∈ wsX5_shares := by decide +kernel
  have i_X3 : ∀ w ∈ wsX30, w ∈ wsX5_shares := by decide +kernel
  have m_4 : ((.fieldLink RX5 10 "TwoThirds" "now" "LTwoThirds$Game;") : Cond) ∈ wsX5_shares := by decide +kernel
  have i_X5 : ∀ w ∈ wsX50, w ∈ wsX5_shares := by decide +kernel
  have hq : f_X5_shares d k0 x_no_up x_no_down x_no_high sh_ho rw_sz el_f = f_X5_shares d k0 x_no_up x_no_down x_no_high sh_ho rw_sz el_f := rfl
  refine lv_aload_n hx hb dX5_shares_0 rfl (lv_at hl 0 rfl) ?_
  refine lv_iload_n hx hb dX5_shares_1 rfl (lv_at hl 1 rfl) ?_
  by_cases c1 : (¬ d < 0 ∧ ¬ (8 : Int32) ≤ d)
  · skip
    have hq := hq.trans (if_pos c1)
    have hlt_C : d.toNatClampNeg < 8 := w_okP (n := 8) c1 (by decide)
    refine w_finQ (v := .ref (sh (d.toNatClampNeg))) rfl (w_runV (rm := ({ frames := 0, cells := 0, slots := 0, locals := 0 } : Room)) (As := [.int d]) (rest := []) (n := 1) hx hb hml hts hown hK w (c_X5_shelfAt_some l D cI cP cS cL L _ x d x_no x_ke x_mi x_im x_sh x_co x_ot sh sh_ho rw sp h_x h_x_sh h_sh c1) gX5_shares_X5_shelfAt rfl rfl rfl (by decide +kernel) ⟨(Nat.le_of_ble_eq_true rfl), (Nat.le_of_ble_eq_true rfl)⟩ h_x rfl rfl hl.1 rfl (Nat.le_of_ble_eq_true rfl) dX5_shares_2 ⟨(Nat.le_of_ble_eq_true rfl), (Nat.le_of_ble_eq_true rfl)⟩) w hA (fun H locs w => ?_)
    refine lv_astore_n (lv' := [(3, .ref (sh (d.toNatClampNeg))), (0, .ref x), (1, .int d), (2, .int k0)]) hx hb dX5_shares_5 rfl hl (by decide) rfl (fun ls hl => ?_)
    refine lv_iload_n hx hb dX5_shares_6 rfl (lv_at hl 3 rfl) ?_
    refine w_finI (w_runS (rm := ({ frames := 0, cells := 0, slots := 0, locals := 0 } : Room)) (As := [.int k0]) (rest := []) (n := 1) hx hb hml hts hown hK w (c_X5_isStepCount l D cI cP cS cL L _ k0 ) gX5_shares_X5_isStepCount rfl rfl rfl (by decide +kernel) ⟨(Nat.le_of_ble_eq_true rfl), (Nat.le_of_ble_eq_true rfl)⟩ rfl hl.1 rfl (Nat.le_of_ble_eq_true rfl) dX5_shares_7 ⟨(Nat.le_of_ble_eq_true rfl), (Nat.le_of_ble_eq_true rfl)⟩) w hA (fun H locs w => ?_)
    refine lv_if_ne (tgt := 15) hx hb dX5_shares_10 (by decide) (fun c2 => ?_) (fun c2 => ?_)
    · skip
      have hq := hq.trans (if_neg c2)
      refine lv_aload_n hx hb dX5_shares_15 rfl (lv_at hl 1 rfl) ?_
      refine lv_aload_n hx hb dX5_shares_16 rfl (lv_at hl 0 rfl) ?_
      refine w_finI (w_runV (rm := ({ frames := 2, cells := 0, slots := 0, locals := 43 } : Room)) (As := [.ref (sh (d.toNatClampNeg))]) (rest := []) (n := 1) hx hb hml hts hown hK w (c_X5_cardsRefusal l D cI cP cS cL L _ x (sh (d.toNatClampNeg)) x_no x_ke x_mi x_im x_sh x_co x_ot x_no_up x_no_down x_no_high x_no_prize x_no_z x_no_rounds x_no_people x_no_pa x_no_cr x_no_ls (sh_ho (d.toNatClampNeg)) (rw (d.toNatClampNeg)) (sp (d.toNatClampNeg)) (el (d.toNatClampNeg)) (rw_so (d.toNatClampNeg)) (rw_sz (d.toNatClampNeg)) 100 (el_f (d.toNatClampNeg)) h_x h_x_no (h_sh (d.toNatClampNeg) (by omega)) (h_rw (d.toNatClampNeg) (by omega)) (h_el (d.toNatClampNeg) (by omega)) (hzs (d.toNatClampNeg) (by omega))) gX5_shares_X5_cardsRefusal rfl rfl rfl (by decide +kernel) ⟨(Nat.le_of_ble_eq_true rfl), (Nat.le_of_ble_eq_true rfl)⟩ h_x rfl rfl hl.1 rfl (Nat.le_of_ble_eq_true rfl) dX5_shares_17 ⟨(Nat.le_of_ble_eq_true rfl), (Nat.le_of_ble_eq_true rfl)⟩) w hA (fun H locs w => ?_)
      refine lv_istore (lv' := [(4, .int (f_X5_cardsRefusal x_no_high (sh_ho (d.toNatClampNeg)) (rw_sz (d.toNatClampNeg)) (el_f (d.toNatClampNeg)))), (3, .ref (sh (d.toNatClampNeg))), (0, .ref x), (1, .int d), (2, .int k0)]) hx hb dX5_shares_20 hl (by decide) rfl (fun ls hl => ?_)
      refine lv_iload hx hb dX5_shares_22 (lv_at hl 0 rfl) ?_
      refine lv_if_eq (tgt := 30) hx hb dX5_shares_24 (by decide) (fun c3 => ?_) (fun c3 => ?_)
      · skip
        have hq := hq.trans (if_pos c3)
        refine lv_iconst (v := 0) hx hb dX5_shares_30 (by decide) ?_
        refine lv_istore (lv' := [(5, .int 0), (4, .int (f_X5_cardsRefusal x_no_high (sh_ho (d.toNatClampNeg)) (rw_sz (d.toNatClampNeg)) (el_f (d.toNatClampNeg)))), (3, .ref (sh (d.toNatClampNeg))), (0, .ref x), (1, .int d), (2, .int k0)]) hx hb dX5_shares_31 hl (by decide) rfl (fun ls hl => ?_)
        refine lv_iconst (v := 0) hx hb dX5_shares_33 (by decide) ?_
        refine lv_istore (lv' := [(6, .int 0), (5, .int 0), (4, .int (f_X5_cardsRefusal x_no_high (sh_ho (d.toNatClampNeg)) (rw_sz (d.toNatClampNeg)) (el_f (d.toNatClampNeg)))), (3, .ref (sh (d.toNatClampNeg))), (0, .ref x), (1, .int d), (2, .int k0)]) hx hb dX5_shares_34 hl (by decide) rfl (fun ls hl => ?_)
        have hL36 : ∀ (n k : Nat) (v5 : Int32) (H : Heap) (locs : List Loc) (ls : Array Slot), k ≤ (rw_sz (d.toNatClampNeg)).toNatClampNeg → (rw_sz (d.toNatClampNeg)).toNatClampNeg - k < n → f_X5_shares d k0 x_no_up x_no_down x_no_high sh_ho rw_sz el_f = f_X5_shares_L36 d k0 x_no_up x_no_down x_no_high rw_sz el_f n k v5 → lv_has ls 7 [(0, .ref x), (1, .int d), (2, .int k0), (3, .ref (sh (d.toNatClampNeg))), (4, .int (f_X5_cardsRefusal x_no_high (sh_ho (d.toNatClampNeg)) (rw_sz (d.toNatClampNeg)) (el_f (d.toNatClampNeg)))), (5, .int v5), (6, .int (nI k))] → ww D A sZ.heap L F H locs → W pZ l eZ ({ frames := 3, cells := 0, slots := 0, locals := 68 } : Room) sZ mZ [.ref x, .int d, .int k0].toArray below meth cZ H locs 0 0 (MQ below (wQi D A (fun r1 L1 F1 => r1 = (f_X5_shares d k0 x_no_up x_no_down x_no_high sh_ho rw_sz el_f) ∧ L1 = L ∧ F1 = F)) [.ref x, .int d, .int k0].toArray sZ 0 0 A) (F0 mZ 36 ls []) := by
          intro n; induction n with
          | zero => intro k v5 H locs ls hkT hmeas; exact absurd hmeas (Nat.not_lt_zero _)
          | succ n ih =>
            intro k v5 H locs ls hkT hmeas hq hl w
            have hk31 : k < 2147483648 := Nat.lt_of_le_of_lt hkT (w_clamp_lt _)
            have hq := hq.trans (f_X5_shares_L36_s d k0 x_no_up x_no_down x_no_high rw_sz el_f n k v5)
            refine lv_iload hx hb dX5_shares_36 (lv_at hl 6 rfl) ?_
            refine lv_aload_n hx hb dX5_shares_38 rfl (lv_at hl 3 rfl) ?_
            refine w_get (v := .ref (rw (d.toNatClampNeg))) hx hb hts i_X4 hown hK w (h_sh (d.toNatClampNeg) (by omega)) rfl 1 (by decide) (hts _ m_0) rfl dX5_shares_39 ?_
            refine w_get (v := .int (rw_sz (d.toNatClampNeg))) hx hb hts i_X3 hown hK w (h_rw (d.toNatClampNeg) (by omega)) rfl 2 (by decide) (hts _ m_2) rfl dX5_shares_42 ?_
            refine lv_icmp_ge (tgt := 77) hx hb dX5_shares_45 (by decide) (fun c4 => ?_) (fun c4 => ?_)
            · skip
              have hq := hq.trans (if_pos c4)
              refine lv_iload hx hb dX5_shares_77 (lv_at hl 5 rfl) ?_
              exact w_iret hx hb hr hlocks w ⟨hq.symm, rfl, rfl⟩ (Nat.le_refl _) (Nat.le_refl _) dX5_shares_79
            · skip
              have hq := hq.trans (if_neg c4)
              have hlt45 : k < (rw_sz (d.toNatClampNeg)).toNatClampNeg := w_ltk hk31 c4
              refine lv_aload_n hx hb dX5_shares_48 rfl (lv_at hl 0 rfl) ?_
              refine w_get (v := .ref x_no) hx hb hts i_X5 hown hK w h_x rfl 0 (by decide) (hts _ m_4) rfl dX5_shares_49 ?_
              refine lv_aload_n hx hb dX5_shares_52 rfl (lv_at hl 3 rfl) ?_
              refine w_get (v := .ref (rw (d.toNatClampNeg))) hx hb hts i_X4 hown hK w (h_sh (d.toNatClampNeg) (by omega)) rfl 1 (by decide) (hts _ m_0) rfl dX5_shares_53 ?_
              refine lv_iload hx hb dX5_shares_56 (lv_at hl 6 rfl) ?_
              refine w_finI (w_runV (rm := ({ frames := 0, cells := 0, slots := 0, locals := 0 } : Room)) (As := [.int (nI k)]) (rest := [.ref x_no]) (n := 1) hx hb hml hts hown hK w (c_X3_at l D cI cP cS cL L _ (rw (d.toNatClampNeg)) (nI k) (el (d.toNatClampNeg)) (rw_so (d.toNatClampNeg)) (rw_sz (d.toNatClampNeg)) 100 (el_f (d.toNatClampNeg)) (h_rw (d.toNatClampNeg) (by omega)) (h_el (d.toNatClampNeg) (by omega)) (hzs (d.toNatClampNeg) (by omega))) gX5_shares_X3_at rfl rfl rfl (by decide +kernel) ⟨(Nat.le_of_ble_eq_true rfl), (Nat.le_of_ble_eq_true rfl)⟩ (h_rw (d.toNatClampNeg) (by omega)) rfl rfl hl.1 rfl (Nat.le_of_ble_eq_true rfl) dX5_shares_58 ⟨(Nat.le_of_ble_eq_true rfl), (Nat.le_of_ble_eq_true rfl)⟩) w hA (fun H locs w => ?_)
              refine w_finI (w_runV (rm := ({ frames := 2, cells := 0, slots := 0, locals := 42 } : Room)) (As := [.int (f_X3_at (nI k) (rw_sz (d.toNatClampNeg)) (el_f (d.toNatClampNeg)))]) (rest := []) (n := 1) hx hb hml hts hown hK w (c_X0_nearestSteps l D cI cP cS cL L _ x_no (f_X3_at (nI k) (rw_sz (d.toNatClampNeg)) (el_f (d.toNatClampNeg))) x_no_up x_no_down x_no_high x_no_prize x_no_z x_no_rounds x_no_people x_no_pa x_no_cr x_no_ls h_x_no) gX5_shares_X0_nearestSteps rfl rfl rfl (by decide +kernel) ⟨(Nat.le_of_ble_eq_true rfl), (Nat.le_of_ble_eq_true rfl)⟩ h_x_no rfl rfl hl.1 rfl (Nat.le_of_ble_eq_true rfl) dX5_shares_61 ⟨(Nat.le_of_ble_eq_true rfl), (Nat.le_of_ble_eq_true rfl)⟩) w hA (fun H locs w => ?_)
              refine lv_iload_n hx hb dX5_shares_64 rfl (lv_at hl 2 rfl) ?_
              refine lv_icmp_ne (tgt := 71) hx hb dX5_shares_65 (by decide) (fun c5 => ?_) (fun c5 => ?_)
              · skip
                have hq := hq.trans (if_neg c5)
                refine lv_iinc (v := (nI (k + 1))) (lv' := [(6, .int (nI (k + 1))), (0, .ref x), (1, .int d), (2, .int k0), (3, .ref (sh (d.toNatClampNeg))), (4, .int (f_X5_cardsRefusal x_no_high (sh_ho (d.toNatClampNeg)) (rw_sz (d.toNatClampNeg)) (el_f (d.toNatClampNeg)))), (5, .int v5)]) hx hb dX5_shares_71 hl (k := 6) rfl (w_inc _) (by decide) rfl (fun ls hl => ?_)
                refine lv_goto (tgt := 36) hx hb dX5_shares_74 (by decide) ?_
                exact ih ((k + 1)) v5 _ _ _ (by omega) (by omega) hq (lv_sub hl [1, 2, 3, 4, 5, 6, 0] rfl) w
              · skip
                have hq := hq.trans (if_pos c5)
                refine lv_iinc (v := (v5 + 1)) (lv' := [(5, .int (v5 + 1)), (0, .ref x), (1, .int d), (2, .int k0), (3, .ref (sh (d.toNatClampNeg))), (4, .int (f_X5_cardsRefusal x_no_high (sh_ho (d.toNatClampNeg)) (rw_sz (d.toNatClampNeg)) (el_f (d.toNatClampNeg)))), (6, .int (nI k))]) hx hb dX5_shares_68 hl (k := 5) rfl rfl (by decide) rfl (fun ls hl => ?_)
                refine lv_iinc (v := (nI (k + 1))) (lv' := [(6, .int (nI (k + 1))), (5, .int (v5 + 1)), (0, .ref x), (1, .int d), (2, .int k0), (3, .ref (sh (d.toNatClampNeg))), (4, .int (f_X5_cardsRefusal x_no_high (sh_ho (d.toNatClampNeg)) (rw_sz (d.toNatClampNeg)) (el_f (d.toNatClampNeg))))]) hx hb dX5_shares_71 hl (k := 6) rfl (w_inc _) (by decide) rfl (fun ls hl => ?_)
                refine lv_goto (tgt := 36) hx hb dX5_shares_74 (by decide) ?_
                exact ih ((k + 1)) (v5 + 1) _ _ _ (by omega) (by omega) hq (lv_sub hl [2, 3, 4, 5, 6, 1, 0] rfl) w
        exact hL36 ((rw_sz (d.toNatClampNeg)).toNatClampNeg + 1) 0 0 _ _ _ (Nat.zero_le _) (by omega) hq (lv_sub hl [4, 5, 6, 3, 2, 1, 0] rfl) w
      · skip
        have hq := hq.trans (if_neg c3)
        refine lv_iload hx hb dX5_shares_27 (lv_at hl 0 rfl) ?_
        exact w_iret hx hb hr hlocks w ⟨hq.symm, rfl, rfl⟩ (Nat.le_refl _) (Nat.le_refl _) dX5_shares_29
    · skip
      have hq := hq.trans (if_pos c2)
      refine lv_iconst (v := (-1)) hx hb dX5_shares_13 (by decide) ?_
      exact w_iret hx hb hr hlocks w ⟨hq.symm, rfl, rfl⟩ (Nat.le_refl _) (Nat.le_refl _) dX5_shares_14
  · skip
    have hq := hq.trans (if_neg c1)
    refine w_finQ (v := .null) (by unfold f_X5_shelfAt_none; first | rfl | (split <;> rfl)) (w_runV (rm := ({ frames := 0, cells := 0, slots := 0, locals := 0 } : Room)) (As := [.int d]) (rest := []) (n := 1) hx hb hml hts hown hK w (c_X5_shelfAt_none l D cI cP cS cL L _ x d x_no x_ke x_mi x_im x_sh x_co x_ot sh h_x h_x_sh c1) gX5_shares_X5_shelfAt rfl rfl rfl (by decide +kernel) ⟨(Nat.le_of_ble_eq_true rfl), (Nat.le_of_ble_eq_true rfl)⟩ h_x rfl rfl hl.1 rfl (Nat.le_of_ble_eq_true rfl) dX5_shares_2 ⟨(Nat.le_of_ble_eq_true rfl), (Nat.le_of_ble_eq_true rfl)⟩) w hA (fun H locs w => ?_)
    refine lv_astore_nN (lv' := [(3, .null), (0, .ref x), (1, .int d), (2, .int k0)]) hx hb dX5_shares_5 rfl hl (by decide) rfl (fun ls hl => ?_)
    refine lv_iload_n hx hb dX5_shares_6 rfl (lv_at hl 3 rfl) ?_
    refine w_finI (w_runS (rm := ({ frames := 0, cells := 0, slots := 0, locals := 0 } : Room)) (As := [.int k0]) (rest := []) (n := 1) hx hb hml hts hown hK w (c_X5_isStepCount l D cI cP cS cL L _ k0 ) gX5_shares_X5_isStepCount rfl rfl rfl (by decide +kernel) ⟨(Nat.le_of_ble_eq_true rfl), (Nat.le_of_ble_eq_true rfl)⟩ rfl hl.1 rfl (Nat.le_of_ble_eq_true rfl) dX5_shares_7 ⟨(Nat.le_of_ble_eq_true rfl), (Nat.le_of_ble_eq_true rfl)⟩) w hA (fun H locs w => ?_)
    refine lv_if_ne (tgt := 15) hx hb dX5_shares_10 (by decide) (fun c6 => ?_) (fun c6 => ?_)
    · skip
      have hq := hq.trans (if_neg c6)
      refine lv_aload_n hx hb dX5_shares_15 rfl (lv_at hl 1 rfl) ?_
      refine lv_aload_nN hx hb dX5_shares_16 rfl (lv_at hl 0 rfl) ?_
      refine w_finI (r := (-1)) (w_runV (rm := ({ frames := 2, cells := 0, slots := 0, locals := 41 } : Room)) (As := [.null]) (rest := []) (n := 1) hx hb hml hts hown hK w (c_X5_cardsRefusal_n l D cI cP cS cL L _ x x_no x_ke x_mi x_im x_sh x_co x_ot h_x) gX5_shares_X5_cardsRefusal rfl rfl rfl (by decide +kernel) ⟨(Nat.le_of_ble_eq_true rfl), (Nat.le_of_ble_eq_true rfl)⟩ h_x rfl rfl hl.1 rfl (Nat.le_of_ble_eq_true rfl) dX5_shares_17 ⟨(Nat.le_of_ble_eq_true rfl), (Nat.le_of_ble_eq_true rfl)⟩) w hA (fun H locs w => ?_)
      refine lv_istore (lv' := [(4, .int (-1)), (3, .null), (0, .ref x), (1, .int d), (2, .int k0)]) hx hb dX5_shares_20 hl (by decide) rfl (fun ls hl => ?_)
      refine lv_iload hx hb dX5_shares_22 (lv_at hl 0 rfl) ?_
      refine lv_if_eq (tgt := 30) hx hb dX5_shares_24 (by decide) (fun c => absurd c (by decide)) (fun _ => ?_)
      refine lv_iload hx hb dX5_shares_27 (lv_at hl 0 rfl) ?_
      exact w_iret hx hb hr hlocks w ⟨hq.symm, rfl, rfl⟩ (Nat.le_refl _) (Nat.le_refl _) dX5_shares_29
    · skip
      have hq := hq.trans (if_pos c6)
      refine lv_iconst (v := (-1)) hx hb dX5_shares_13 (by decide) ?_
      exact w_iret hx hb hr hlocks w ⟨hq.symm, rfl, rfl⟩ (Nat.le_refl _) (Nat.le_refl _) dX5_shares_14
def f_X5_words_L100 (d : Int32) (e0 : Int32) (what : Int32) (x_no_up : Int32) (x_no_down : Int32) (x_no_high : Int32) (rw_sz : Nat → Int32) (el_f : Nat → Nat → Int32) : Nat → Nat → Int32 → Int32 → Int32
  | 0, _, _, _ => 0
  | n + 1, k, v7, v8 => if (rw_sz (d.toNatClampNeg)) ≤ (nI k) then (if what = (0 : Int32) then v7 else v8) else (if ((f_X3_at (nI k) (rw_sz (e0.toNatClampNeg)) (el_f (e0.toNatClampNeg))) - (f_X0_nearestSteps (f_X3_at (nI k) (rw_sz (d.toNatClampNeg)) (el_f (d.toNatClampNeg))) x_no_up x_no_down x_no_high)) = (0 : Int32) then (f_X5_words_L100 d e0 what x_no_up x_no_down x_no_high rw_sz el_f n ((k + 1)) (v7 + 1) v8) else (if ((f_X3_at (nI k) (rw_sz (e0.toNatClampNeg)) (el_f (e0.toNatClampNeg))) - (f_X0_nearestSteps (f_X3_at (nI k) (rw_sz (d.toNatClampNeg)) (el_f (d.toNatClampNeg))) x_no_up x_no_down x_no_high)) ≤ (0 : Int32) then (f_X5_words_L100 d e0 what x_no_up x_no_down x_no_high rw_sz el_f n ((k + 1)) v7 v8) else (f_X5_words_L100 d e0 what x_no_up x_no_down x_no_high rw_sz el_f n ((k + 1)) v7 (v8 + 1))))
theorem f_X5_words_L100_s (d : Int32) (e0 : Int32) (what : Int32) (x_no_up : Int32) (x_no_down : Int32) (x_no_high : Int32) (rw_sz : Nat → Int32) (el_f : Nat → Nat → Int32) (n k : Nat) (v7 : Int32) (v8 : Int32) : f_X5_words_L100 d e0 what x_no_up x_no_down x_no_high rw_sz el_f (n + 1) k v7 v8 = (if (rw_sz (d.toNatClampNeg)) ≤ (nI k) then (if what = (0 : Int32) then v7 else v8) else (if ((f_X3_at (nI k) (rw_sz (e0.toNatClampNeg)) (el_f (e0.toNatClampNeg))) - (f_X0_nearestSteps (f_X3_at (nI k) (rw_sz (d.toNatClampNeg)) (el_f (d.toNatClampNeg))) x_no_up x_no_down x_no_high)) = (0 : Int32) then (f_X5_words_L100 d e0 what x_no_up x_no_down x_no_high rw_sz el_f n ((k + 1)) (v7 + 1) v8) else (if ((f_X3_at (nI k) (rw_sz (e0.toNatClampNeg)) (el_f (e0.toNatClampNeg))) - (f_X0_nearestSteps (f_X3_at (nI k) (rw_sz (d.toNatClampNeg)) (el_f (d.toNatClampNeg))) x_no_up x_no_down x_no_high)) ≤ (0 : Int32) then (f_X5_words_L100 d e0 what x_no_up x_no_down x_no_high rw_sz el_f n ((k + 1)) v7 v8) else (f_X5_words_L100 d e0 what x_no_up x_no_down x_no_high rw_sz el_f n ((k + 1)) v7 (v8 + 1))))) := rfl
def f_X5_words (d : Int32) (e0 : Int32) (what : Int32) (x_no_up : Int32) (x_no_down : Int32) (x_no_high : Int32) (sh_ho : Nat → Int32) (rw_so : Nat → Int32) (rw_sz : Nat → Int32) (el_f : Nat → Nat → Int32) : Int32 := if (¬ d < 0 ∧ ¬ (8 : Int32) ≤ d) then (if (¬ e0 < 0 ∧ ¬ (8 : Int32) ≤ e0) then (if (f_X5_isOneOfTwo what) = (0 : Int32) then (-1) else (if (f_X5_twoRowsRefusal (sh_ho (d.toNatClampNeg)) (sh_ho (e0.toNatClampNeg))) = (0 : Int32) then (if (rw_so (e0.toNatClampNeg)) = (0 : Int32) then (if (f_X0_areCards x_no_high (rw_sz (d.toNatClampNeg)) (el_f (d.toNatClampNeg))) = (0 : Int32) then (-13) else (if (rw_sz (d.toNatClampNeg)) = (rw_sz (e0.toNatClampNeg)) then (f_X5_words_L100 d e0 what x_no_up x_no_down x_no_high rw_sz el_f ((rw_sz (d.toNatClampNeg)).toNatClampNeg + 1) 0 0 0) else (-13))) else (-12)) else (f_X5_twoRowsRefusal (sh_ho (d.toNatClampNeg)) (sh_ho (e0.toNatClampNeg))))) else (if (f_X5_isOneOfTwo what) = (0 : Int32) then (-1) else (-1))) else (if (¬ e0 < 0 ∧ ¬ (8 : Int32) ≤ e0) then (if (f_X5_isOneOfTwo what) = (0 : Int32) then (-1) else (-1)) else (if (f_X5_isOneOfTwo what) = (0 : Int32) then (-1) else (-1)))
set_option maxHeartbeats 400000 in
set_option maxRecDepth 100000 in
theorem c_X5_words (l : Launch) (D : va_G) (cI cP cS cL : ClassId) (L : List Nat) (F : Nat → va_E) (x : Nat) (d : Int32) (e0 : Int32) (what : Int32) (x_no : Nat) (x_ke : Nat) (x_mi : Nat) (x_im : Int32) (x_sh : Nat) (x_co : Nat) (x_ot : Nat) (x_no_up : Int32) (x_no_down : Int32) (x_no_high : Int32) (x_no_prize : Int32) (x_no_z : Int32) (x_no_rounds : Int32) (x_no_people : Int32) (x_no_pa : Nat) (x_no_cr : Nat) (x_no_ls : Int32) (sh : Nat → Nat) (sh_ho : Nat → Int32) (rw : Nat → Nat) (sp : Nat → Nat) (el : Nat → Nat) (rw_so : Nat → Int32) (rw_sz : Nat → Int32) (el_f : Nat → Nat → Int32) (h_x : wi L F x (eX x_no x_ke x_mi x_im x_sh x_co x_ot)) (h_x_no : wi L F x_no (eG x_no_up x_no_down x_no_high x_no_prize x_no_z x_no_rounds x_no_people x_no_pa x_no_cr x_no_ls)) (h_x_sh : wi L F x_sh (eQ cS 8 (fun i => some (sh i)))) (h_sh : ∀ i, i < 8 → wi L F (sh i) (eS (sh_ho i) (rw i) (sp i))) (h_rw : ∀ i, i < 8 → wi L F (rw i) (eR (el i) (rw_so i) (rw_sz i))) (h_el : ∀ i, i < 8 → wi L F (el i) (eI cI 100 (el_f i))) (hzs : ∀ i, i < 8 → (rw_sz i).toInt ≤ 100) : wMI l D cI cP cS cL yX5_words wsX5_words ({ frames := 3, cells := 0, slots := 0, locals := 68 } : Room) [.ref x, .int d, .int e0, .int what] L F (f_X5_words d e0 what x_no_up x_no_down x_no_high sh_ho rw_so rw_sz el_f) F := by
  refine wM.of (cc := cX5_words) (maxL := 11) (ret := (some .int)) (by decide) rfl (Nat.le_of_ble_eq_true rfl) ?_
  intro pZ eZ sZ mZ below meth cZ A ls C hl w
  obtain ⟨hx, hb, hr, hml, hts, hown, hlocks, hK, hA, hin⟩ := C
  have hown : sZ.vm.findClass RX5 = some mZ.cls := hown
  have hl : lv_has ls 11 [(0, .ref x), (1, .int d), (2, .int e0), (3, .int what)] := hl
  have m_0 : ((.fieldLink RX5 44 "TwoThirds$Shelf" "row" "LTwoThirds$Row;") : Cond) ∈ wsX5_words := by decide +kernel
  have i_X4 : ∀ w ∈ wsX40, w ∈ wsX5_words := by decide +kernel
  have m_2 : ((.fieldLink RX5 48 "TwoThirds$Row" "sort" "I") : Cond) ∈ wsX5_words := by decide +kernel
  have i_X3 : ∀ w ∈ wsX30, w ∈ wsX5_words := by decide +kernel
  have m_4 : ((.fieldLink RX5 10 "TwoThirds" "now" "LTwoThirds$Game;") : Cond) ∈ wsX5_words := by decide +kernel
  have i_X5 : ∀ w ∈ wsX50, w ∈ wsX5_words := by decide +kernel
  have m_6 : ((.fieldLink RX5 167 "TwoThirds$Row" "size" "I") : Cond) ∈ wsX5_words := by decide +kernel
  have hq : f_X5_words d e0 what x_no_up x_no_down x_no_high sh_ho rw_so rw_sz el_f = f_X5_words d e0 what x_no_up x_no_down x_no_high sh_ho rw_so rw_sz el_f := rfl
  refine lv_aload_n hx hb dX5_words_0 rfl (lv_at hl 0 rfl) ?_
  refine lv_iload_n hx hb dX5_words_1 rfl (lv_at hl 1 rfl) ?_
  by_cases c1 : (¬ d < 0 ∧ ¬ (8 : Int32) ≤ d)
  · skip
    have hq := hq.trans (if_pos c1)
    have hlt_C : d.toNatClampNeg < 8 := w_okP (n := 8) c1 (by decide)
    refine w_finQ (v := .ref (sh (d.toNatClampNeg))) rfl (w_runV (rm := ({ frames := 0, cells := 0, slots := 0, locals := 0 } : Room)) (As := [.int d]) (rest := []) (n := 1) hx hb hml hts hown hK w (c_X5_shelfAt_some l D cI cP cS cL L _ x d x_no x_ke x_mi x_im x_sh x_co x_ot sh sh_ho rw sp h_x h_x_sh h_sh c1) gX5_words_X5_shelfAt rfl rfl rfl (by decide +kernel) ⟨(Nat.le_of_ble_eq_true rfl), (Nat.le_of_ble_eq_true rfl)⟩ h_x rfl rfl hl.1 rfl (Nat.le_of_ble_eq_true rfl) dX5_words_2 ⟨(Nat.le_of_ble_eq_true rfl), (Nat.le_of_ble_eq_true rfl)⟩) w hA (fun H locs w => ?_)
    refine lv_astore (lv' := [(4, .ref (sh (d.toNatClampNeg))), (0, .ref x), (1, .int d), (2, .int e0), (3, .int what)]) hx hb dX5_words_5 hl (by decide) rfl (fun ls hl => ?_)
    refine lv_aload_n hx hb dX5_words_7 rfl (lv_at hl 1 rfl) ?_
    refine lv_iload_n hx hb dX5_words_8 rfl (lv_at hl 3 rfl) ?_
    by_cases c2 : (¬ e0 < 0 ∧ ¬ (8 : Int32) ≤ e0)
    · skip
      have hq := hq.trans (if_pos c2)
      have hlt_C : e0.toNatClampNeg < 8 := w_okP (n := 8) c2 (by decide)
      refine w_finQ (v := .ref (sh (e0.toNatClampNeg))) rfl (w_runV (rm := ({ frames := 0, cells := 0, slots := 0, locals := 0 } : Room)) (As := [.int e0]) (rest := []) (n := 1) hx hb hml hts hown hK w (c_X5_shelfAt_some l D cI cP cS cL L _ x e0 x_no x_ke x_mi x_im x_sh x_co x_ot sh sh_ho rw sp h_x h_x_sh h_sh c2) gX5_words_X5_shelfAt rfl rfl rfl (by decide +kernel) ⟨(Nat.le_of_ble_eq_true rfl), (Nat.le_of_ble_eq_true rfl)⟩ h_x rfl rfl hl.1 rfl (Nat.le_of_ble_eq_true rfl) dX5_words_9 ⟨(Nat.le_of_ble_eq_true rfl), (Nat.le_of_ble_eq_true rfl)⟩) w hA (fun H locs w => ?_)
      refine lv_astore (lv' := [(5, .ref (sh (e0.toNatClampNeg))), (4, .ref (sh (d.toNatClampNeg))), (0, .ref x), (1, .int d), (2, .int e0), (3, .int what)]) hx hb dX5_words_12 hl (by decide) rfl (fun ls hl => ?_)
      refine lv_iload_n hx hb dX5_words_14 rfl (lv_at hl 5 rfl) ?_
      refine w_finI (w_runS (rm := ({ frames := 0, cells := 0, slots := 0, locals := 0 } : Room)) (As := [.int what]) (rest := []) (n := 1) hx hb hml hts hown hK w (c_X5_isOneOfTwo l D cI cP cS cL L _ what ) gX5_words_X5_isOneOfTwo rfl rfl rfl (by decide +kernel) ⟨(Nat.le_of_ble_eq_true rfl), (Nat.le_of_ble_eq_true rfl)⟩ rfl hl.1 rfl (Nat.le_of_ble_eq_true rfl) dX5_words_15 ⟨(Nat.le_of_ble_eq_true rfl), (Nat.le_of_ble_eq_true rfl)⟩) w hA (fun H locs w => ?_)
      refine lv_if_ne (tgt := 23) hx hb dX5_words_18 (by decide) (fun c3 => ?_) (fun c3 => ?_)
      · skip
        have hq := hq.trans (if_neg c3)
        refine lv_aload hx hb dX5_words_23 (lv_at hl 1 rfl) ?_
        refine lv_aload hx hb dX5_words_25 (lv_at hl 0 rfl) ?_
        refine w_finI (w_runS (rm := ({ frames := 0, cells := 0, slots := 0, locals := 0 } : Room)) (As := [.ref (sh (d.toNatClampNeg)), .ref (sh (e0.toNatClampNeg))]) (rest := []) (n := 2) hx hb hml hts hown hK w (c_X5_twoRowsRefusal l D cI cP cS cL L _ (sh (d.toNatClampNeg)) (sh (e0.toNatClampNeg)) (sh_ho (d.toNatClampNeg)) (rw (d.toNatClampNeg)) (sp (d.toNatClampNeg)) (sh_ho (e0.toNatClampNeg)) (rw (e0.toNatClampNeg)) (sp (e0.toNatClampNeg)) (h_sh (d.toNatClampNeg) (by omega)) (h_sh (e0.toNatClampNeg) (by omega))) gX5_words_X5_twoRowsRefusal rfl rfl rfl (by decide +kernel) ⟨(Nat.le_of_ble_eq_true rfl), (Nat.le_of_ble_eq_true rfl)⟩ rfl hl.1 rfl (Nat.le_of_ble_eq_true rfl) dX5_words_27 ⟨(Nat.le_of_ble_eq_true rfl), (Nat.le_of_ble_eq_true rfl)⟩) w hA (fun H locs w => ?_)
        refine lv_istore (lv' := [(6, .int (f_X5_twoRowsRefusal (sh_ho (d.toNatClampNeg)) (sh_ho (e0.toNatClampNeg)))), (5, .ref (sh (e0.toNatClampNeg))), (4, .ref (sh (d.toNatClampNeg))), (0, .ref x), (1, .int d), (2, .int e0), (3, .int what)]) hx hb dX5_words_30 hl (by decide) rfl (fun ls hl => ?_)
        refine lv_iload hx hb dX5_words_32 (lv_at hl 0 rfl) ?_
        refine lv_if_eq (tgt := 40) hx hb dX5_words_34 (by decide) (fun c4 => ?_) (fun c4 => ?_)
        · skip
          have hq := hq.trans (if_pos c4)
          refine lv_aload hx hb dX5_words_40 (lv_at hl 1 rfl) ?_
          refine w_get (v := .ref (rw (e0.toNatClampNeg))) hx hb hts i_X4 hown hK w (h_sh (e0.toNatClampNeg) (by omega)) rfl 1 (by decide) (hts _ m_0) rfl dX5_words_42 ?_
          refine w_get (v := .int (rw_so (e0.toNatClampNeg))) hx hb hts i_X3 hown hK w (h_rw (e0.toNatClampNeg) (by omega)) rfl 1 (by decide) (hts _ m_2) rfl dX5_words_45 ?_
          refine lv_if_eq (tgt := 54) hx hb dX5_words_48 (by decide) (fun c5 => ?_) (fun c5 => ?_)
          · skip
            have hq := hq.trans (if_pos c5)
            refine lv_aload_n hx hb dX5_words_54 rfl (lv_at hl 3 rfl) ?_
            refine w_get (v := .ref x_no) hx hb hts i_X5 hown hK w h_x rfl 0 (by decide) (hts _ m_4) rfl dX5_words_55 ?_
            refine lv_aload hx hb dX5_words_58 (lv_at hl 2 rfl) ?_
            refine w_get (v := .ref (rw (d.toNatClampNeg))) hx hb hts i_X4 hown hK w (h_sh (d.toNatClampNeg) (by omega)) rfl 1 (by decide) (hts _ m_0) rfl dX5_words_60 ?_
            refine w_finI (w_runV (rm := ({ frames := 1, cells := 0, slots := 0, locals := 21 } : Room)) (As := [.ref (rw (d.toNatClampNeg))]) (rest := []) (n := 1) hx hb hml hts hown hK w (c_X0_areCards l D cI cP cS cL L _ x_no (rw (d.toNatClampNeg)) x_no_up x_no_down x_no_high x_no_prize x_no_z x_no_rounds x_no_people x_no_pa x_no_cr x_no_ls (el (d.toNatClampNeg)) (rw_so (d.toNatClampNeg)) (rw_sz (d.toNatClampNeg)) 100 (el_f (d.toNatClampNeg)) h_x_no (h_rw (d.toNatClampNeg) (by omega)) (h_el (d.toNatClampNeg) (by omega)) (hzs (d.toNatClampNeg) (by omega))) gX5_words_X0_areCards rfl rfl rfl (by decide +kernel) ⟨(Nat.le_of_ble_eq_true rfl), (Nat.le_of_ble_eq_true rfl)⟩ h_x_no rfl rfl hl.1 rfl (Nat.le_of_ble_eq_true rfl) dX5_words_63 ⟨(Nat.le_of_ble_eq_true rfl), (Nat.le_of_ble_eq_true rfl)⟩) w hA (fun H locs w => ?_)
            refine lv_if_eq (tgt := 88) hx hb dX5_words_66 (by decide) (fun c6 => ?_) (fun c6 => ?_)
            · skip
              have hq := hq.trans (if_pos c6)
              refine lv_bipush (v := (-13)) hx hb dX5_words_88 (by decide) ?_
              exact w_iret hx hb hr hlocks w ⟨hq.symm, rfl, rfl⟩ (Nat.le_refl _) (Nat.le_refl _) dX5_words_90
            · skip
              have hq := hq.trans (if_neg c6)
              refine lv_aload hx hb dX5_words_69 (lv_at hl 2 rfl) ?_
              refine w_get (v := .ref (rw (d.toNatClampNeg))) hx hb hts i_X4 hown hK w (h_sh (d.toNatClampNeg) (by omega)) rfl 1 (by decide) (hts _ m_0) rfl dX5_words_71 ?_
              refine w_get (v := .int (rw_sz (d.toNatClampNeg))) hx hb hts i_X3 hown hK w (h_rw (d.toNatClampNeg) (by omega)) rfl 2 (by decide) (hts _ m_6) rfl dX5_words_74 ?_
              refine lv_aload hx hb dX5_words_77 (lv_at hl 1 rfl) ?_
              refine w_get (v := .ref (rw (e0.toNatClampNeg))) hx hb hts i_X4 hown hK w (h_sh (e0.toNatClampNeg) (by omega)) rfl 1 (by decide) (hts _ m_0) rfl dX5_words_79 ?_
              refine w_get (v := .int (rw_sz (e0.toNatClampNeg))) hx hb hts i_X3 hown hK w (h_rw (e0.toNatClampNeg) (by omega)) rfl 2 (by decide) (hts _ m_6) rfl dX5_words_82 ?_
              refine lv_icmp_eq (tgt := 91) hx hb dX5_words_85 (by decide) (fun c7 => ?_) (fun c7 => ?_)
              · skip
                have hq := hq.trans (if_pos c7)
                refine lv_iconst (v := 0) hx hb dX5_words_91 (by decide) ?_
                refine lv_istore (lv' := [(7, .int 0), (6, .int (f_X5_twoRowsRefusal (sh_ho (d.toNatClampNeg)) (sh_ho (e0.toNatClampNeg)))), (5, .ref (sh (e0.toNatClampNeg))), (4, .ref (sh (d.toNatClampNeg))), (0, .ref x), (1, .int d), (2, .int e0), (3, .int what)]) hx hb dX5_words_92 hl (by decide) rfl (fun ls hl => ?_)
                refine lv_iconst (v := 0) hx hb dX5_words_94 (by decide) ?_
                refine lv_istore (lv' := [(8, .int 0), (7, .int 0), (6, .int (f_X5_twoRowsRefusal (sh_ho (d.toNatClampNeg)) (sh_ho (e0.toNatClampNeg)))), (5, .ref (sh (e0.toNatClampNeg))), (4, .ref (sh (d.toNatClampNeg))), (0, .ref x), (1, .int d), (2, .int e0), (3, .int what)]) hx hb dX5_words_95 hl (by decide) rfl (fun ls hl => ?_)
                refine lv_iconst (v := 0) hx hb dX5_words_97 (by decide) ?_
                refine lv_istore (lv' := [(9, .int 0), (8, .int 0), (7, .int 0), (6, .int (f_X5_twoRowsRefusal (sh_ho (d.toNatClampNeg)) (sh_ho (e0.toNatClampNeg)))), (5, .ref (sh (e0.toNatClampNeg))), (4, .ref (sh (d.toNatClampNeg))), (0, .ref x), (1, .int d), (2, .int e0), (3, .int what)]) hx hb dX5_words_98 hl (by decide) rfl (fun ls hl => ?_)
                have hL100 : ∀ (n k : Nat) (v7 : Int32) (v8 : Int32) (H : Heap) (locs : List Loc) (ls : Array Slot), k ≤ (rw_sz (d.toNatClampNeg)).toNatClampNeg → (rw_sz (d.toNatClampNeg)).toNatClampNeg - k < n → f_X5_words d e0 what x_no_up x_no_down x_no_high sh_ho rw_so rw_sz el_f = f_X5_words_L100 d e0 what x_no_up x_no_down x_no_high rw_sz el_f n k v7 v8 → lv_has ls 11 [(0, .ref x), (1, .int d), (2, .int e0), (3, .int what), (4, .ref (sh (d.toNatClampNeg))), (5, .ref (sh (e0.toNatClampNeg))), (6, .int (f_X5_twoRowsRefusal (sh_ho (d.toNatClampNeg)) (sh_ho (e0.toNatClampNeg)))), (7, .int v7), (8, .int v8), (9, .int (nI k))] → ww D A sZ.heap L F H locs → W pZ l eZ ({ frames := 3, cells := 0, slots := 0, locals := 68 } : Room) sZ mZ [.ref x, .int d, .int e0, .int what].toArray below meth cZ H locs 0 0 (MQ below (wQi D A (fun r1 L1 F1 => r1 = (f_X5_words d e0 what x_no_up x_no_down x_no_high sh_ho rw_so rw_sz el_f) ∧ L1 = L ∧ F1 = F)) [.ref x, .int d, .int e0, .int what].toArray sZ 0 0 A) (F0 mZ 100 ls []) := by
                  intro n; induction n with
                  | zero => intro k v7 v8 H locs ls hkT hmeas; exact absurd hmeas (Nat.not_lt_zero _)
                  | succ n ih =>
                    intro k v7 v8 H locs ls hkT hmeas hq hl w
                    have hk31 : k < 2147483648 := Nat.lt_of_le_of_lt hkT (w_clamp_lt _)
                    have hq := hq.trans (f_X5_words_L100_s d e0 what x_no_up x_no_down x_no_high rw_sz el_f n k v7 v8)
                    refine lv_iload hx hb dX5_words_100 (lv_at hl 9 rfl) ?_
                    refine lv_aload hx hb dX5_words_102 (lv_at hl 4 rfl) ?_
                    refine w_get (v := .ref (rw (d.toNatClampNeg))) hx hb hts i_X4 hown hK w (h_sh (d.toNatClampNeg) (by omega)) rfl 1 (by decide) (hts _ m_0) rfl dX5_words_104 ?_
                    refine w_get (v := .int (rw_sz (d.toNatClampNeg))) hx hb hts i_X3 hown hK w (h_rw (d.toNatClampNeg) (by omega)) rfl 2 (by decide) (hts _ m_6) rfl dX5_words_107 ?_
                    refine lv_icmp_ge (tgt := 168) hx hb dX5_words_110 (by decide) (fun c8 => ?_) (fun c8 => ?_)
                    · skip
                      have hq := hq.trans (if_pos c8)
                      refine lv_iload_n hx hb dX5_words_168 rfl (lv_at hl 3 rfl) ?_
                      refine lv_if_ne (tgt := 177) hx hb dX5_words_169 (by decide) (fun c9 => ?_) (fun c9 => ?_)
                      · skip
                        have hq := hq.trans (if_neg c9)
                        refine lv_iload hx hb dX5_words_177 (lv_at hl 8 rfl) ?_
                        exact w_iret hx hb hr hlocks w ⟨hq.symm, rfl, rfl⟩ (Nat.le_refl _) (Nat.le_refl _) dX5_words_179
                      · skip
                        have hq := hq.trans (if_pos c9)
                        refine lv_iload hx hb dX5_words_172 (lv_at hl 7 rfl) ?_
                        refine lv_goto (tgt := 179) hx hb dX5_words_174 (by decide) ?_
                        exact w_iret hx hb hr hlocks w ⟨hq.symm, rfl, rfl⟩ (Nat.le_refl _) (Nat.le_refl _) dX5_words_179
                    · skip
                      have hq := hq.trans (if_neg c8)
                      have hlt110 : k < (rw_sz (d.toNatClampNeg)).toNatClampNeg := w_ltk hk31 c8
                      refine lv_aload hx hb dX5_words_113 (lv_at hl 5 rfl) ?_
                      refine w_get (v := .ref (rw (e0.toNatClampNeg))) hx hb hts i_X4 hown hK w (h_sh (e0.toNatClampNeg) (by omega)) rfl 1 (by decide) (hts _ m_0) rfl dX5_words_115 ?_
                      refine lv_iload hx hb dX5_words_118 (lv_at hl 9 rfl) ?_
                      refine w_finI (w_runV (rm := ({ frames := 0, cells := 0, slots := 0, locals := 0 } : Room)) (As := [.int (nI k)]) (rest := []) (n := 1) hx hb hml hts hown hK w (c_X3_at l D cI cP cS cL L _ (rw (e0.toNatClampNeg)) (nI k) (el (e0.toNatClampNeg)) (rw_so (e0.toNatClampNeg)) (rw_sz (e0.toNatClampNeg)) 100 (el_f (e0.toNatClampNeg)) (h_rw (e0.toNatClampNeg) (by omega)) (h_el (e0.toNatClampNeg) (by omega)) (hzs (e0.toNatClampNeg) (by omega))) gX5_words_X3_at rfl rfl rfl (by decide +kernel) ⟨(Nat.le_of_ble_eq_true rfl), (Nat.le_of_ble_eq_true rfl)⟩ (h_rw (e0.toNatClampNeg) (by omega)) rfl rfl hl.1 rfl (Nat.le_of_ble_eq_true rfl) dX5_words_120 ⟨(Nat.le_of_ble_eq_true rfl), (Nat.le_of_ble_eq_true rfl)⟩) w hA (fun H locs w => ?_)
                      refine lv_aload_n hx hb dX5_words_123 rfl (lv_at hl 0 rfl) ?_
                      refine w_get (v := .ref x_no) hx hb hts i_X5 hown hK w h_x rfl 0 (by decide) (hts _ m_4) rfl dX5_words_124 ?_
                      refine lv_aload hx hb dX5_words_127 (lv_at hl 4 rfl) ?_
                      refine w_get (v := .ref (rw (d.toNatClampNeg))) hx hb hts i_X4 hown hK w (h_sh (d.toNatClampNeg) (by omega)) rfl 1 (by decide) (hts _ m_0) rfl dX5_words_129 ?_
                      refine lv_iload hx hb dX5_words_132 (lv_at hl 9 rfl) ?_
                      refine w_finI (w_runV (rm := ({ frames := 0, cells := 0, slots := 0, locals := 0 } : Room)) (As := [.int (nI k)]) (rest := [.ref x_no, .int (f_X3_at (nI k) (rw_sz (e0.toNatClampNeg)) (el_f (e0.toNatClampNeg)))]) (n := 1) hx hb hml hts hown hK w (c_X3_at l D cI cP cS cL L _ (rw (d.toNatClampNeg)) (nI k) (el (d.toNatClampNeg)) (rw_so (d.toNatClampNeg)) (rw_sz (d.toNatClampNeg)) 100 (el_f (d.toNatClampNeg)) (h_rw (d.toNatClampNeg) (by omega)) (h_el (d.toNatClampNeg) (by omega)) (hzs (d.toNatClampNeg) (by omega))) gX5_words_X3_at rfl rfl rfl (by decide +kernel) ⟨(Nat.le_of_ble_eq_true rfl), (Nat.le_of_ble_eq_true rfl)⟩ (h_rw (d.toNatClampNeg) (by omega)) rfl rfl hl.1 rfl (Nat.le_of_ble_eq_true rfl) dX5_words_134 ⟨(Nat.le_of_ble_eq_true rfl), (Nat.le_of_ble_eq_true rfl)⟩) w hA (fun H locs w => ?_)
                      refine w_finI (w_runV (rm := ({ frames := 2, cells := 0, slots := 0, locals := 42 } : Room)) (As := [.int (f_X3_at (nI k) (rw_sz (d.toNatClampNeg)) (el_f (d.toNatClampNeg)))]) (rest := [.int (f_X3_at (nI k) (rw_sz (e0.toNatClampNeg)) (el_f (e0.toNatClampNeg)))]) (n := 1) hx hb hml hts hown hK w (c_X0_nearestSteps l D cI cP cS cL L _ x_no (f_X3_at (nI k) (rw_sz (d.toNatClampNeg)) (el_f (d.toNatClampNeg))) x_no_up x_no_down x_no_high x_no_prize x_no_z x_no_rounds x_no_people x_no_pa x_no_cr x_no_ls h_x_no) gX5_words_X0_nearestSteps rfl rfl rfl (by decide +kernel) ⟨(Nat.le_of_ble_eq_true rfl), (Nat.le_of_ble_eq_true rfl)⟩ h_x_no rfl rfl hl.1 rfl (Nat.le_of_ble_eq_true rfl) dX5_words_137 ⟨(Nat.le_of_ble_eq_true rfl), (Nat.le_of_ble_eq_true rfl)⟩) w hA (fun H locs w => ?_)
                      refine lv_isub hx hb dX5_words_140 ?_
                      refine lv_istore (lv' := [(10, .int ((f_X3_at (nI k) (rw_sz (e0.toNatClampNeg)) (el_f (e0.toNatClampNeg))) - (f_X0_nearestSteps (f_X3_at (nI k) (rw_sz (d.toNatClampNeg)) (el_f (d.toNatClampNeg))) x_no_up x_no_down x_no_high))), (0, .ref x), (1, .int d), (2, .int e0), (3, .int what), (4, .ref (sh (d.toNatClampNeg))), (5, .ref (sh (e0.toNatClampNeg))), (6, .int (f_X5_twoRowsRefusal (sh_ho (d.toNatClampNeg)) (sh_ho (e0.toNatClampNeg)))), (7, .int v7), (8, .int v8), (9, .int (nI k))]) hx hb dX5_words_141 hl (by decide) rfl (fun ls hl => ?_)
                      refine lv_iload hx hb dX5_words_143 (lv_at hl 0 rfl) ?_
                      refine lv_if_ne (tgt := 154) hx hb dX5_words_145 (by decide) (fun c10 => ?_) (fun c10 => ?_)
                      · skip
                        have hq := hq.trans (if_neg c10)
                        refine lv_iload hx hb dX5_words_154 (lv_at hl 0 rfl) ?_
                        refine lv_if_le (tgt := 162) hx hb dX5_words_156 (by decide) (fun c11 => ?_) (fun c11 => ?_)
                        · skip
                          have hq := hq.trans (if_pos c11)
                          refine lv_iinc (v := (nI (k + 1))) (lv' := [(9, .int (nI (k + 1))), (10, .int ((f_X3_at (nI k) (rw_sz (e0.toNatClampNeg)) (el_f (e0.toNatClampNeg))) - (f_X0_nearestSteps (f_X3_at (nI k) (rw_sz (d.toNatClampNeg)) (el_f (d.toNatClampNeg))) x_no_up x_no_down x_no_high))), (0, .ref x), (1, .int d), (2, .int e0), (3, .int what), (4, .ref (sh (d.toNatClampNeg))), (5, .ref (sh (e0.toNatClampNeg))), (6, .int (f_X5_twoRowsRefusal (sh_ho (d.toNatClampNeg)) (sh_ho (e0.toNatClampNeg)))), (7, .int v7), (8, .int v8)]) hx hb dX5_words_162 hl (k := 10) rfl (w_inc _) (by decide) rfl (fun ls hl => ?_)
                          refine lv_goto (tgt := 100) hx hb dX5_words_165 (by decide) ?_
                          exact ih ((k + 1)) v7 v8 _ _ _ (by omega) (by omega) hq (lv_sub hl [2, 3, 4, 5, 6, 7, 8, 9, 10, 0] rfl) w
                        · skip
                          have hq := hq.trans (if_neg c11)
                          refine lv_iinc (v := (v8 + 1)) (lv' := [(8, .int (v8 + 1)), (10, .int ((f_X3_at (nI k) (rw_sz (e0.toNatClampNeg)) (el_f (e0.toNatClampNeg))) - (f_X0_nearestSteps (f_X3_at (nI k) (rw_sz (d.toNatClampNeg)) (el_f (d.toNatClampNeg))) x_no_up x_no_down x_no_high))), (0, .ref x), (1, .int d), (2, .int e0), (3, .int what), (4, .ref (sh (d.toNatClampNeg))), (5, .ref (sh (e0.toNatClampNeg))), (6, .int (f_X5_twoRowsRefusal (sh_ho (d.toNatClampNeg)) (sh_ho (e0.toNatClampNeg)))), (7, .int v7), (9, .int (nI k))]) hx hb dX5_words_159 hl (k := 9) rfl rfl (by decide) rfl (fun ls hl => ?_)
                          refine lv_iinc (v := (nI (k + 1))) (lv' := [(9, .int (nI (k + 1))), (8, .int (v8 + 1)), (10, .int ((f_X3_at (nI k) (rw_sz (e0.toNatClampNeg)) (el_f (e0.toNatClampNeg))) - (f_X0_nearestSteps (f_X3_at (nI k) (rw_sz (d.toNatClampNeg)) (el_f (d.toNatClampNeg))) x_no_up x_no_down x_no_high))), (0, .ref x), (1, .int d), (2, .int e0), (3, .int what), (4, .ref (sh (d.toNatClampNeg))), (5, .ref (sh (e0.toNatClampNeg))), (6, .int (f_X5_twoRowsRefusal (sh_ho (d.toNatClampNeg)) (sh_ho (e0.toNatClampNeg)))), (7, .int v7)]) hx hb dX5_words_162 hl (k := 10) rfl (w_inc _) (by decide) rfl (fun ls hl => ?_)
                          refine lv_goto (tgt := 100) hx hb dX5_words_165 (by decide) ?_
                          exact ih ((k + 1)) v7 (v8 + 1) _ _ _ (by omega) (by omega) hq (lv_sub hl [3, 4, 5, 6, 7, 8, 9, 10, 1, 0] rfl) w
                      · skip
                        have hq := hq.trans (if_pos c10)
                        refine lv_iinc (v := (v7 + 1)) (lv' := [(7, .int (v7 + 1)), (10, .int ((f_X3_at (nI k) (rw_sz (e0.toNatClampNeg)) (el_f (e0.toNatClampNeg))) - (f_X0_nearestSteps (f_X3_at (nI k) (rw_sz (d.toNatClampNeg)) (el_f (d.toNatClampNeg))) x_no_up x_no_down x_no_high))), (0, .ref x), (1, .int d), (2, .int e0), (3, .int what), (4, .ref (sh (d.toNatClampNeg))), (5, .ref (sh (e0.toNatClampNeg))), (6, .int (f_X5_twoRowsRefusal (sh_ho (d.toNatClampNeg)) (sh_ho (e0.toNatClampNeg)))), (8, .int v8), (9, .int (nI k))]) hx hb dX5_words_148 hl (k := 8) rfl rfl (by decide) rfl (fun ls hl => ?_)
                        refine lv_goto (tgt := 162) hx hb dX5_words_151 (by decide) ?_
                        refine lv_iinc (v := (nI (k + 1))) (lv' := [(9, .int (nI (k + 1))), (7, .int (v7 + 1)), (10, .int ((f_X3_at (nI k) (rw_sz (e0.toNatClampNeg)) (el_f (e0.toNatClampNeg))) - (f_X0_nearestSteps (f_X3_at (nI k) (rw_sz (d.toNatClampNeg)) (el_f (d.toNatClampNeg))) x_no_up x_no_down x_no_high))), (0, .ref x), (1, .int d), (2, .int e0), (3, .int what), (4, .ref (sh (d.toNatClampNeg))), (5, .ref (sh (e0.toNatClampNeg))), (6, .int (f_X5_twoRowsRefusal (sh_ho (d.toNatClampNeg)) (sh_ho (e0.toNatClampNeg)))), (8, .int v8)]) hx hb dX5_words_162 hl (k := 10) rfl (w_inc _) (by decide) rfl (fun ls hl => ?_)
                        refine lv_goto (tgt := 100) hx hb dX5_words_165 (by decide) ?_
                        exact ih ((k + 1)) (v7 + 1) v8 _ _ _ (by omega) (by omega) hq (lv_sub hl [3, 4, 5, 6, 7, 8, 9, 1, 10, 0] rfl) w
                exact hL100 ((rw_sz (d.toNatClampNeg)).toNatClampNeg + 1) 0 0 0 _ _ _ (Nat.zero_le _) (by omega) hq (lv_sub hl [6, 7, 8, 9, 5, 4, 3, 2, 1, 0] rfl) w
              · skip
                have hq := hq.trans (if_neg c7)
                refine lv_bipush (v := (-13)) hx hb dX5_words_88 (by decide) ?_
                exact w_iret hx hb hr hlocks w ⟨hq.symm, rfl, rfl⟩ (Nat.le_refl _) (Nat.le_refl _) dX5_words_90
          · skip
            have hq := hq.trans (if_neg c5)
            refine lv_bipush (v := (-12)) hx hb dX5_words_51 (by decide) ?_
            exact w_iret hx hb hr hlocks w ⟨hq.symm, rfl, rfl⟩ (Nat.le_refl _) (Nat.le_refl _) dX5_words_53
        · skip
          have hq := hq.trans (if_neg c4)
          refine lv_iload hx hb dX5_words_37 (lv_at hl 0 rfl) ?_
          exact w_iret hx hb hr hlocks w ⟨hq.symm, rfl, rfl⟩ (Nat.le_refl _) (Nat.le_refl _) dX5_words_39
      · skip
        have hq := hq.trans (if_pos c3)
        refine lv_iconst (v := (-1)) hx hb dX5_words_21 (by decide) ?_
        exact w_iret hx hb hr hlocks w ⟨hq.symm, rfl, rfl⟩ (Nat.le_refl _) (Nat.le_refl _) dX5_words_22
    · skip
      have hq := hq.trans (if_neg c2)
      refine w_finQ (v := .null) (by unfold f_X5_shelfAt_none; first | rfl | (split <;> rfl)) (w_runV (rm := ({ frames := 0, cells := 0, slots := 0, locals := 0 } : Room)) (As := [.int e0]) (rest := []) (n := 1) hx hb hml hts hown hK w (c_X5_shelfAt_none l D cI cP cS cL L _ x e0 x_no x_ke x_mi x_im x_sh x_co x_ot sh h_x h_x_sh c2) gX5_words_X5_shelfAt rfl rfl rfl (by decide +kernel) ⟨(Nat.le_of_ble_eq_true rfl), (Nat.le_of_ble_eq_true rfl)⟩ h_x rfl rfl hl.1 rfl (Nat.le_of_ble_eq_true rfl) dX5_words_9 ⟨(Nat.le_of_ble_eq_true rfl), (Nat.le_of_ble_eq_true rfl)⟩) w hA (fun H locs w => ?_)
      refine lv_astoreN (lv' := [(5, .null), (4, .ref (sh (d.toNatClampNeg))), (0, .ref x), (1, .int d), (2, .int e0), (3, .int what)]) hx hb dX5_words_12 hl (by decide) rfl (fun ls hl => ?_)
      refine lv_iload_n hx hb dX5_words_14 rfl (lv_at hl 5 rfl) ?_
      refine w_finI (w_runS (rm := ({ frames := 0, cells := 0, slots := 0, locals := 0 } : Room)) (As := [.int what]) (rest := []) (n := 1) hx hb hml hts hown hK w (c_X5_isOneOfTwo l D cI cP cS cL L _ what ) gX5_words_X5_isOneOfTwo rfl rfl rfl (by decide +kernel) ⟨(Nat.le_of_ble_eq_true rfl), (Nat.le_of_ble_eq_true rfl)⟩ rfl hl.1 rfl (Nat.le_of_ble_eq_true rfl) dX5_words_15 ⟨(Nat.le_of_ble_eq_true rfl), (Nat.le_of_ble_eq_true rfl)⟩) w hA (fun H locs w => ?_)
      refine lv_if_ne (tgt := 23) hx hb dX5_words_18 (by decide) (fun c12 => ?_) (fun c12 => ?_)
      · skip
        have hq := hq.trans (if_neg c12)
        refine lv_aload hx hb dX5_words_23 (lv_at hl 1 rfl) ?_
        refine lv_aloadN hx hb dX5_words_25 (lv_at hl 0 rfl) ?_
        refine w_finI (r := (-1)) (w_runS (rm := ({ frames := 0, cells := 0, slots := 0, locals := 0 } : Room)) (As := [.ref (sh (d.toNatClampNeg)), .null]) (rest := []) (n := 2) hx hb hml hts hown hK w (c_X5_twoRowsRefusal_rn l D cI cP cS cL L _ (sh (d.toNatClampNeg)) (sh_ho (d.toNatClampNeg)) (rw (d.toNatClampNeg)) (sp (d.toNatClampNeg)) (h_sh (d.toNatClampNeg) (by omega))) gX5_words_X5_twoRowsRefusal rfl rfl rfl (by decide +kernel) ⟨(Nat.le_of_ble_eq_true rfl), (Nat.le_of_ble_eq_true rfl)⟩ rfl hl.1 rfl (Nat.le_of_ble_eq_true rfl) dX5_words_27 ⟨(Nat.le_of_ble_eq_true rfl), (Nat.le_of_ble_eq_true rfl)⟩) w hA (fun H locs w => ?_)
        refine lv_istore (lv' := [(6, .int (-1)), (5, .null), (4, .ref (sh (d.toNatClampNeg))), (0, .ref x), (1, .int d), (2, .int e0), (3, .int what)]) hx hb dX5_words_30 hl (by decide) rfl (fun ls hl => ?_)
        refine lv_iload hx hb dX5_words_32 (lv_at hl 0 rfl) ?_
        refine lv_if_eq (tgt := 40) hx hb dX5_words_34 (by decide) (fun c => absurd c (by decide)) (fun _ => ?_)
        refine lv_iload hx hb dX5_words_37 (lv_at hl 0 rfl) ?_
        exact w_iret hx hb hr hlocks w ⟨hq.symm, rfl, rfl⟩ (Nat.le_refl _) (Nat.le_refl _) dX5_words_39
      · skip
        have hq := hq.trans (if_pos c12)
        refine lv_iconst (v := (-1)) hx hb dX5_words_21 (by decide) ?_
        exact w_iret hx hb hr hlocks w ⟨hq.symm, rfl, rfl⟩ (Nat.le_refl _) (Nat.le_refl _) dX5_words_22
  · skip
    have hq := hq.trans (if_neg c1)
    refine w_finQ (v := .null) (by unfold f_X5_shelfAt_none; first | rfl | (split <;> rfl)) (w_runV (rm := ({ frames := 0, cells := 0, slots := 0, locals := 0 } : Room)) (As := [.int d]) (rest := []) (n := 1) hx hb hml hts hown hK w (c_X5_shelfAt_none l D cI cP cS cL L _ x d x_no x_ke x_mi x_im x_sh x_co x_ot sh h_x h_x_sh c1) gX5_words_X5_shelfAt rfl rfl rfl (by decide +kernel) ⟨(Nat.le_of_ble_eq_true rfl), (Nat.le_of_ble_eq_true rfl)⟩ h_x rfl rfl hl.1 rfl (Nat.le_of_ble_eq_true rfl) dX5_words_2 ⟨(Nat.le_of_ble_eq_true rfl), (Nat.le_of_ble_eq_true rfl)⟩) w hA (fun H locs w => ?_)
    refine lv_astoreN (lv' := [(4, .null), (0, .ref x), (1, .int d), (2, .int e0), (3, .int what)]) hx hb dX5_words_5 hl (by decide) rfl (fun ls hl => ?_)
    refine lv_aload_n hx hb dX5_words_7 rfl (lv_at hl 1 rfl) ?_
    refine lv_iload_n hx hb dX5_words_8 rfl (lv_at hl 3 rfl) ?_
    by_cases c13 : (¬ e0 < 0 ∧ ¬ (8 : Int32) ≤ e0)
    · skip
      have hq := hq.trans (if_pos c13)
      have hlt_C : e0.toNatClampNeg < 8 := w_okP (n := 8) c13 (by decide)
      refine w_finQ (v := .ref (sh (e0.toNatClampNeg))) rfl (w_runV (rm := ({ frames := 0, cells := 0, slots := 0, locals := 0 } : Room)) (As := [.int e0]) (rest := []) (n := 1) hx hb hml hts hown hK w (c_X5_shelfAt_some l D cI cP cS cL L _ x e0 x_no x_ke x_mi x_im x_sh x_co x_ot sh sh_ho rw sp h_x h_x_sh h_sh c13) gX5_words_X5_shelfAt rfl rfl rfl (by decide +kernel) ⟨(Nat.le_of_ble_eq_true rfl), (Nat.le_of_ble_eq_true rfl)⟩ h_x rfl rfl hl.1 rfl (Nat.le_of_ble_eq_true rfl) dX5_words_9 ⟨(Nat.le_of_ble_eq_true rfl), (Nat.le_of_ble_eq_true rfl)⟩) w hA (fun H locs w => ?_)
      refine lv_astore (lv' := [(5, .ref (sh (e0.toNatClampNeg))), (4, .null), (0, .ref x), (1, .int d), (2, .int e0), (3, .int what)]) hx hb dX5_words_12 hl (by decide) rfl (fun ls hl => ?_)
      refine lv_iload_n hx hb dX5_words_14 rfl (lv_at hl 5 rfl) ?_
      refine w_finI (w_runS (rm := ({ frames := 0, cells := 0, slots := 0, locals := 0 } : Room)) (As := [.int what]) (rest := []) (n := 1) hx hb hml hts hown hK w (c_X5_isOneOfTwo l D cI cP cS cL L _ what ) gX5_words_X5_isOneOfTwo rfl rfl rfl (by decide +kernel) ⟨(Nat.le_of_ble_eq_true rfl), (Nat.le_of_ble_eq_true rfl)⟩ rfl hl.1 rfl (Nat.le_of_ble_eq_true rfl) dX5_words_15 ⟨(Nat.le_of_ble_eq_true rfl), (Nat.le_of_ble_eq_true rfl)⟩) w hA (fun H locs w => ?_)
      refine lv_if_ne (tgt := 23) hx hb dX5_words_18 (by decide) (fun c14 => ?_) (fun c14 => ?_)
      · skip
        have hq := hq.trans (if_neg c14)
        refine lv_aloadN hx hb dX5_words_23 (lv_at hl 1 rfl) ?_
        refine lv_aload hx hb dX5_words_25 (lv_at hl 0 rfl) ?_
        refine w_finI (r := (-1)) (w_runS (rm := ({ frames := 0, cells := 0, slots := 0, locals := 0 } : Room)) (As := [.null, .ref (sh (e0.toNatClampNeg))]) (rest := []) (n := 2) hx hb hml hts hown hK w (c_X5_twoRowsRefusal_nr l D cI cP cS cL L _ (sh (e0.toNatClampNeg)) (sh_ho (e0.toNatClampNeg)) (rw (e0.toNatClampNeg)) (sp (e0.toNatClampNeg)) (h_sh (e0.toNatClampNeg) (by omega))) gX5_words_X5_twoRowsRefusal rfl rfl rfl (by decide +kernel) ⟨(Nat.le_of_ble_eq_true rfl), (Nat.le_of_ble_eq_true rfl)⟩ rfl hl.1 rfl (Nat.le_of_ble_eq_true rfl) dX5_words_27 ⟨(Nat.le_of_ble_eq_true rfl), (Nat.le_of_ble_eq_true rfl)⟩) w hA (fun H locs w => ?_)
        refine lv_istore (lv' := [(6, .int (-1)), (5, .ref (sh (e0.toNatClampNeg))), (4, .null), (0, .ref x), (1, .int d), (2, .int e0), (3, .int what)]) hx hb dX5_words_30 hl (by decide) rfl (fun ls hl => ?_)
        refine lv_iload hx hb dX5_words_32 (lv_at hl 0 rfl) ?_
        refine lv_if_eq (tgt := 40) hx hb dX5_words_34 (by decide) (fun c => absurd c (by decide)) (fun _ => ?_)
        refine lv_iload hx hb dX5_words_37 (lv_at hl 0 rfl) ?_
        exact w_iret hx hb hr hlocks w ⟨hq.symm, rfl, rfl⟩ (Nat.le_refl _) (Nat.le_refl _) dX5_words_39
      · skip
        have hq := hq.trans (if_pos c14)
        refine lv_iconst (v := (-1)) hx hb dX5_words_21 (by decide) ?_
        exact w_iret hx hb hr hlocks w ⟨hq.symm, rfl, rfl⟩ (Nat.le_refl _) (Nat.le_refl _) dX5_words_22
    · skip
      have hq := hq.trans (if_neg c13)
      refine w_finQ (v := .null) (by unfold f_X5_shelfAt_none; first | rfl | (split <;> rfl)) (w_runV (rm := ({ frames := 0, cells := 0, slots := 0, locals := 0 } : Room)) (As := [.int e0]) (rest := []) (n := 1) hx hb hml hts hown hK w (c_X5_shelfAt_none l D cI cP cS cL L _ x e0 x_no x_ke x_mi x_im x_sh x_co x_ot sh h_x h_x_sh c13) gX5_words_X5_shelfAt rfl rfl rfl (by decide +kernel) ⟨(Nat.le_of_ble_eq_true rfl), (Nat.le_of_ble_eq_true rfl)⟩ h_x rfl rfl hl.1 rfl (Nat.le_of_ble_eq_true rfl) dX5_words_9 ⟨(Nat.le_of_ble_eq_true rfl), (Nat.le_of_ble_eq_true rfl)⟩) w hA (fun H locs w => ?_)
      refine lv_astoreN (lv' := [(5, .null), (4, .null), (0, .ref x), (1, .int d), (2, .int e0), (3, .int what)]) hx hb dX5_words_12 hl (by decide) rfl (fun ls hl => ?_)
      refine lv_iload_n hx hb dX5_words_14 rfl (lv_at hl 5 rfl) ?_
      refine w_finI (w_runS (rm := ({ frames := 0, cells := 0, slots := 0, locals := 0 } : Room)) (As := [.int what]) (rest := []) (n := 1) hx hb hml hts hown hK w (c_X5_isOneOfTwo l D cI cP cS cL L _ what ) gX5_words_X5_isOneOfTwo rfl rfl rfl (by decide +kernel) ⟨(Nat.le_of_ble_eq_true rfl), (Nat.le_of_ble_eq_true rfl)⟩ rfl hl.1 rfl (Nat.le_of_ble_eq_true rfl) dX5_words_15 ⟨(Nat.le_of_ble_eq_true rfl), (Nat.le_of_ble_eq_true rfl)⟩) w hA (fun H locs w => ?_)
      refine lv_if_ne (tgt := 23) hx hb dX5_words_18 (by decide) (fun c15 => ?_) (fun c15 => ?_)
      · skip
        have hq := hq.trans (if_neg c15)
        refine lv_aloadN hx hb dX5_words_23 (lv_at hl 1 rfl) ?_
        refine lv_aloadN hx hb dX5_words_25 (lv_at hl 0 rfl) ?_
        refine w_finI (r := (-1)) (w_runS (rm := ({ frames := 0, cells := 0, slots := 0, locals := 0 } : Room)) (As := [.null, .null]) (rest := []) (n := 2) hx hb hml hts hown hK w (c_X5_twoRowsRefusal_nn l D cI cP cS cL L _  ) gX5_words_X5_twoRowsRefusal rfl rfl rfl (by decide +kernel) ⟨(Nat.le_of_ble_eq_true rfl), (Nat.le_of_ble_eq_true rfl)⟩ rfl hl.1 rfl (Nat.le_of_ble_eq_true rfl) dX5_words_27 ⟨(Nat.le_of_ble_eq_true rfl), (Nat.le_of_ble_eq_true rfl)⟩) w hA (fun H locs w => ?_)
        refine lv_istore (lv' := [(6, .int (-1)), (5, .null), (4, .null), (0, .ref x), (1, .int d), (2, .int e0), (3, .int what)]) hx hb dX5_words_30 hl (by decide) rfl (fun ls hl => ?_)
        refine lv_iload hx hb dX5_words_32 (lv_at hl 0 rfl) ?_
        refine lv_if_eq (tgt := 40) hx hb dX5_words_34 (by decide) (fun c => absurd c (by decide)) (fun _ => ?_)
        refine lv_iload hx hb dX5_words_37 (lv_at hl 0 rfl) ?_
        exact w_iret hx hb hr hlocks w ⟨hq.symm, rfl, rfl⟩ (Nat.le_refl _) (Nat.le_refl _) dX5_words_39
      · skip
        have hq := hq.trans (if_pos c15)
        refine lv_iconst (v := (-1)) hx hb dX5_words_21 (by decide) ?_
        exact w_iret hx hb hr hlocks w ⟨hq.symm, rfl, rfl⟩ (Nat.le_refl _) (Nat.le_refl _) dX5_words_22
def f_X5_worth (d : Int32) (k0 : Int32) (x_no_up : Int32) (x_no_down : Int32) (x_no_high : Int32) (sh_ho : Nat → Int32) (rw_sz : Nat → Int32) (el_f : Nat → Nat → Int32) : Int64 := if (¬ d < 0 ∧ ¬ (8 : Int32) ≤ d) then (if k0 < (0 : Int32) then (-4000000000000000001) else (if k0 < (9 : Int32) then (if (f_X5_cardsRefusal x_no_high (sh_ho (d.toNatClampNeg)) (rw_sz (d.toNatClampNeg)) (el_f (d.toNatClampNeg))) = (0 : Int32) then (((if 0 ≤ (((f_X0_stepped k0 x_no_up x_no_down x_no_high) * (f_X5_leastPart (f_X0_targetAbove x_no_up (rw_sz (d.toNatClampNeg)) (el_f (d.toNatClampNeg))) (f_X0_targetLine x_no_down (rw_sz (d.toNatClampNeg))) 1)) - (f_X5_leastPart (f_X0_targetAbove x_no_up (rw_sz (d.toNatClampNeg)) (el_f (d.toNatClampNeg))) (f_X0_targetLine x_no_down (rw_sz (d.toNatClampNeg))) 0)) then (((f_X0_stepped k0 x_no_up x_no_down x_no_high) * (f_X5_leastPart (f_X0_targetAbove x_no_up (rw_sz (d.toNatClampNeg)) (el_f (d.toNatClampNeg))) (f_X0_targetLine x_no_down (rw_sz (d.toNatClampNeg))) 1)) - (f_X5_leastPart (f_X0_targetAbove x_no_up (rw_sz (d.toNatClampNeg)) (el_f (d.toNatClampNeg))) (f_X0_targetLine x_no_down (rw_sz (d.toNatClampNeg))) 0)) else 0 - (((f_X0_stepped k0 x_no_up x_no_down x_no_high) * (f_X5_leastPart (f_X0_targetAbove x_no_up (rw_sz (d.toNatClampNeg)) (el_f (d.toNatClampNeg))) (f_X0_targetLine x_no_down (rw_sz (d.toNatClampNeg))) 1)) - (f_X5_leastPart (f_X0_targetAbove x_no_up (rw_sz (d.toNatClampNeg)) (el_f (d.toNatClampNeg))) (f_X0_targetLine x_no_down (rw_sz (d.toNatClampNeg))) 0))) - (if 0 ≤ (((f_X0_stepped (k0 + 1) x_no_up x_no_down x_no_high) * (f_X5_leastPart (f_X0_targetAbove x_no_up (rw_sz (d.toNatClampNeg)) (el_f (d.toNatClampNeg))) (f_X0_targetLine x_no_down (rw_sz (d.toNatClampNeg))) 1)) - (f_X5_leastPart (f_X0_targetAbove x_no_up (rw_sz (d.toNatClampNeg)) (el_f (d.toNatClampNeg))) (f_X0_targetLine x_no_down (rw_sz (d.toNatClampNeg))) 0)) then (((f_X0_stepped (k0 + 1) x_no_up x_no_down x_no_high) * (f_X5_leastPart (f_X0_targetAbove x_no_up (rw_sz (d.toNatClampNeg)) (el_f (d.toNatClampNeg))) (f_X0_targetLine x_no_down (rw_sz (d.toNatClampNeg))) 1)) - (f_X5_leastPart (f_X0_targetAbove x_no_up (rw_sz (d.toNatClampNeg)) (el_f (d.toNatClampNeg))) (f_X0_targetLine x_no_down (rw_sz (d.toNatClampNeg))) 0)) else 0 - (((f_X0_stepped (k0 + 1) x_no_up x_no_down x_no_high) * (f_X5_leastPart (f_X0_targetAbove x_no_up (rw_sz (d.toNatClampNeg)) (el_f (d.toNatClampNeg))) (f_X0_targetLine x_no_down (rw_sz (d.toNatClampNeg))) 1)) - (f_X5_leastPart (f_X0_targetAbove x_no_up (rw_sz (d.toNatClampNeg)) (el_f (d.toNatClampNeg))) (f_X0_targetLine x_no_down (rw_sz (d.toNatClampNeg))) 0)))).toInt64) else ((-4000000000000000000) + ((f_X5_cardsRefusal x_no_high (sh_ho (d.toNatClampNeg)) (rw_sz (d.toNatClampNeg)) (el_f (d.toNatClampNeg))).toInt64))) else (-4000000000000000001))) else (if k0 < (0 : Int32) then (-4000000000000000001) else (if k0 < (9 : Int32) then ((-4000000000000000000) + ((-1 : Int32).toInt64)) else (-4000000000000000001)))
set_option maxHeartbeats 400000 in
set_option maxRecDepth 100000 in
theorem c_X5_worth (l : Launch) (D : va_G) (cI cP cS cL : ClassId) (L : List Nat) (F : Nat → va_E) (x : Nat) (d : Int32) (k0 : Int32) (x_no : Nat) (x_ke : Nat) (x_mi : Nat) (x_im : Int32) (x_sh : Nat) (x_co : Nat) (x_ot : Nat) (x_no_up : Int32) (x_no_down : Int32) (x_no_high : Int32) (x_no_prize : Int32) (x_no_z : Int32) (x_no_rounds : Int32) (x_no_people : Int32) (x_no_pa : Nat) (x_no_cr : Nat) (x_no_ls : Int32) (sh : Nat → Nat) (sh_ho : Nat → Int32) (rw : Nat → Nat) (sp : Nat → Nat) (el : Nat → Nat) (rw_so : Nat → Int32) (rw_sz : Nat → Int32) (el_f : Nat → Nat → Int32) (h_x : wi L F x (eX x_no x_ke x_mi x_im x_sh x_co x_ot)) (h_x_no : wi L F x_no (eG x_no_up x_no_down x_no_high x_no_prize x_no_z x_no_rounds x_no_people x_no_pa x_no_cr x_no_ls)) (h_x_sh : wi L F x_sh (eQ cS 8 (fun i => some (sh i)))) (h_sh : ∀ i, i < 8 → wi L F (sh i) (eS (sh_ho i) (rw i) (sp i))) (h_rw : ∀ i, i < 8 → wi L F (rw i) (eR (el i) (rw_so i) (rw_sz i))) (h_el : ∀ i, i < 8 → wi L F (el i) (eI cI 100 (el_f i))) (hzs : ∀ i, i < 8 → (rw_sz i).toInt ≤ 100) : wML l D cI cP cS cL yX5_worth wsX5_worth ({ frames := 4, cells := 0, slots := 0, locals := 87 } : Room) [.ref x, .int d, .int k0] L F (f_X5_worth d k0 x_no_up x_no_down x_no_high sh_ho rw_sz el_f) F := by
  refine wM.of (cc := cX5_worth) (maxL := 9) (ret := (some .long)) (by decide) rfl (Nat.le_of_ble_eq_true rfl) ?_
  intro pZ eZ sZ mZ below meth cZ A ls C hl w
  obtain ⟨hx, hb, hr, hml, hts, hown, hlocks, hK, hA, hin⟩ := C
  have hown : sZ.vm.findClass RX5 = some mZ.cls := hown
  have hl : lv_has ls 9 [(0, .ref x), (1, .int d), (2, .int k0)] := hl
  have m_0 : ((.constantLong RX5 196 (-4000000000000000001)) : Cond) ∈ wsX5_worth := by decide +kernel
  have m_1 : ((.fieldLink RX5 10 "TwoThirds" "now" "LTwoThirds$Game;") : Cond) ∈ wsX5_worth := by decide +kernel
  have i_X5 : ∀ w ∈ wsX50, w ∈ wsX5_worth := by decide +kernel
  have m_3 : ((.fieldLink RX5 44 "TwoThirds$Shelf" "row" "LTwoThirds$Row;") : Cond) ∈ wsX5_worth := by decide +kernel
  have i_X4 : ∀ w ∈ wsX40, w ∈ wsX5_worth := by decide +kernel
  have m_5 : ((.methodLink RX5 200 Lib.Math.abs.name) : Cond) ∈ wsX5_worth := by decide +kernel
  have m_6 : ((.static Lib.Math.abs.name) : Cond) ∈ wsX5_worth := by decide +kernel
  have m_7 : ((.initialized "java/lang/Math") : Cond) ∈ wsX5_worth := by decide +kernel
  have m_8 : ((.code Lib.Math.abs.name Lib.Math.abs.code 1 (some .int)) : Cond) ∈ wsX5_worth := by decide +kernel
  have m_9 : ((.constantLong RX5 198 (-4000000000000000000)) : Cond) ∈ wsX5_worth := by decide +kernel
  have hq : f_X5_worth d k0 x_no_up x_no_down x_no_high sh_ho rw_sz el_f = f_X5_worth d k0 x_no_up x_no_down x_no_high sh_ho rw_sz el_f := rfl
  refine lv_aload_n hx hb dX5_worth_0 rfl (lv_at hl 0 rfl) ?_
  refine lv_iload_n hx hb dX5_worth_1 rfl (lv_at hl 1 rfl) ?_
  by_cases c1 : (¬ d < 0 ∧ ¬ (8 : Int32) ≤ d)
  · skip
    have hq := hq.trans (if_pos c1)
    have hlt_C : d.toNatClampNeg < 8 := w_okP (n := 8) c1 (by decide)
    refine w_finQ (v := .ref (sh (d.toNatClampNeg))) rfl (w_runV (rm := ({ frames := 0, cells := 0, slots := 0, locals := 0 } : Room)) (As := [.int d]) (rest := []) (n := 1) hx hb hml hts hown hK w (c_X5_shelfAt_some l D cI cP cS cL L _ x d x_no x_ke x_mi x_im x_sh x_co x_ot sh sh_ho rw sp h_x h_x_sh h_sh c1) gX5_worth_X5_shelfAt rfl rfl rfl (by decide +kernel) ⟨(Nat.le_of_ble_eq_true rfl), (Nat.le_of_ble_eq_true rfl)⟩ h_x rfl rfl hl.1 rfl (Nat.le_of_ble_eq_true rfl) dX5_worth_2 ⟨(Nat.le_of_ble_eq_true rfl), (Nat.le_of_ble_eq_true rfl)⟩) w hA (fun H locs w => ?_)
    refine lv_astore_n (lv' := [(3, .ref (sh (d.toNatClampNeg))), (0, .ref x), (1, .int d), (2, .int k0)]) hx hb dX5_worth_5 rfl hl (by decide) rfl (fun ls hl => ?_)
    refine lv_iload_n hx hb dX5_worth_6 rfl (lv_at hl 3 rfl) ?_
    refine lv_if_lt (tgt := 16) hx hb dX5_worth_7 (by decide) (fun c2 => ?_) (fun c2 => ?_)
    · skip
      have hq := hq.trans (if_pos c2)
      refine lv_ldc2 (v := (-4000000000000000001)) hx hb hown (hts _ m_0) dX5_worth_16 ?_
      exact w_lret hx hb hr hlocks w ⟨hq.symm, rfl, rfl⟩ (Nat.le_refl _) (Nat.le_refl _) dX5_worth_19
    · skip
      have hq := hq.trans (if_neg c2)
      refine lv_iload_n hx hb dX5_worth_10 rfl (lv_at hl 3 rfl) ?_
      refine lv_bipush (v := 9) hx hb dX5_worth_11 (by decide) ?_
      refine lv_icmp_lt (tgt := 20) hx hb dX5_worth_13 (by decide) (fun c3 => ?_) (fun c3 => ?_)
      · skip
        have hq := hq.trans (if_pos c3)
        refine lv_aload_n hx hb dX5_worth_20 rfl (lv_at hl 1 rfl) ?_
        refine lv_aload_n hx hb dX5_worth_21 rfl (lv_at hl 0 rfl) ?_
        refine w_finI (w_runV (rm := ({ frames := 2, cells := 0, slots := 0, locals := 43 } : Room)) (As := [.ref (sh (d.toNatClampNeg))]) (rest := []) (n := 1) hx hb hml hts hown hK w (c_X5_cardsRefusal l D cI cP cS cL L _ x (sh (d.toNatClampNeg)) x_no x_ke x_mi x_im x_sh x_co x_ot x_no_up x_no_down x_no_high x_no_prize x_no_z x_no_rounds x_no_people x_no_pa x_no_cr x_no_ls (sh_ho (d.toNatClampNeg)) (rw (d.toNatClampNeg)) (sp (d.toNatClampNeg)) (el (d.toNatClampNeg)) (rw_so (d.toNatClampNeg)) (rw_sz (d.toNatClampNeg)) 100 (el_f (d.toNatClampNeg)) h_x h_x_no (h_sh (d.toNatClampNeg) (by omega)) (h_rw (d.toNatClampNeg) (by omega)) (h_el (d.toNatClampNeg) (by omega)) (hzs (d.toNatClampNeg) (by omega))) gX5_worth_X5_cardsRefusal rfl rfl rfl (by decide +kernel) ⟨(Nat.le_of_ble_eq_true rfl), (Nat.le_of_ble_eq_true rfl)⟩ h_x rfl rfl hl.1 rfl (Nat.le_of_ble_eq_true rfl) dX5_worth_22 ⟨(Nat.le_of_ble_eq_true rfl), (Nat.le_of_ble_eq_true rfl)⟩) w hA (fun H locs w => ?_)
        refine lv_istore (lv' := [(4, .int (f_X5_cardsRefusal x_no_high (sh_ho (d.toNatClampNeg)) (rw_sz (d.toNatClampNeg)) (el_f (d.toNatClampNeg)))), (3, .ref (sh (d.toNatClampNeg))), (0, .ref x), (1, .int d), (2, .int k0)]) hx hb dX5_worth_25 hl (by decide) rfl (fun ls hl => ?_)
        refine lv_iload hx hb dX5_worth_27 (lv_at hl 0 rfl) ?_
        refine lv_if_eq (tgt := 40) hx hb dX5_worth_29 (by decide) (fun c4 => ?_) (fun c4 => ?_)
        · skip
          have hq := hq.trans (if_pos c4)
          refine lv_aload_n hx hb dX5_worth_40 rfl (lv_at hl 2 rfl) ?_
          refine w_get (v := .ref x_no) hx hb hts i_X5 hown hK w h_x rfl 0 (by decide) (hts _ m_1) rfl dX5_worth_41 ?_
          refine lv_aload_n hx hb dX5_worth_44 rfl (lv_at hl 1 rfl) ?_
          refine w_get (v := .ref (rw (d.toNatClampNeg))) hx hb hts i_X4 hown hK w (h_sh (d.toNatClampNeg) (by omega)) rfl 1 (by decide) (hts _ m_3) rfl dX5_worth_45 ?_
          refine w_finI (w_runV (rm := ({ frames := 1, cells := 0, slots := 0, locals := 22 } : Room)) (As := [.ref (rw (d.toNatClampNeg))]) (rest := []) (n := 1) hx hb hml hts hown hK w (c_X0_targetAbove l D cI cP cS cL L _ x_no (rw (d.toNatClampNeg)) x_no_up x_no_down x_no_high x_no_prize x_no_z x_no_rounds x_no_people x_no_pa x_no_cr x_no_ls (el (d.toNatClampNeg)) (rw_so (d.toNatClampNeg)) (rw_sz (d.toNatClampNeg)) 100 (el_f (d.toNatClampNeg)) h_x_no (h_rw (d.toNatClampNeg) (by omega)) (h_el (d.toNatClampNeg) (by omega)) (hzs (d.toNatClampNeg) (by omega))) gX5_worth_X0_targetAbove rfl rfl rfl (by decide +kernel) ⟨(Nat.le_of_ble_eq_true rfl), (Nat.le_of_ble_eq_true rfl)⟩ h_x_no rfl rfl hl.1 rfl (Nat.le_of_ble_eq_true rfl) dX5_worth_48 ⟨(Nat.le_of_ble_eq_true rfl), (Nat.le_of_ble_eq_true rfl)⟩) w hA (fun H locs w => ?_)
          refine lv_aload_n hx hb dX5_worth_51 rfl (lv_at hl 2 rfl) ?_
          refine w_get (v := .ref x_no) hx hb hts i_X5 hown hK w h_x rfl 0 (by decide) (hts _ m_1) rfl dX5_worth_52 ?_
          refine lv_aload_n hx hb dX5_worth_55 rfl (lv_at hl 1 rfl) ?_
          refine w_get (v := .ref (rw (d.toNatClampNeg))) hx hb hts i_X4 hown hK w (h_sh (d.toNatClampNeg) (by omega)) rfl 1 (by decide) (hts _ m_3) rfl dX5_worth_56 ?_
          refine w_finI (w_runV (rm := ({ frames := 0, cells := 0, slots := 0, locals := 0 } : Room)) (As := [.ref (rw (d.toNatClampNeg))]) (rest := [.int (f_X0_targetAbove x_no_up (rw_sz (d.toNatClampNeg)) (el_f (d.toNatClampNeg)))]) (n := 1) hx hb hml hts hown hK w (c_X0_targetLine l D cI cP cS cL L _ x_no (rw (d.toNatClampNeg)) x_no_up x_no_down x_no_high x_no_prize x_no_z x_no_rounds x_no_people x_no_pa x_no_cr x_no_ls (el (d.toNatClampNeg)) (rw_so (d.toNatClampNeg)) (rw_sz (d.toNatClampNeg)) h_x_no (h_rw (d.toNatClampNeg) (by omega))) gX5_worth_X0_targetLine rfl rfl rfl (by decide +kernel) ⟨(Nat.le_of_ble_eq_true rfl), (Nat.le_of_ble_eq_true rfl)⟩ h_x_no rfl rfl hl.1 rfl (Nat.le_of_ble_eq_true rfl) dX5_worth_59 ⟨(Nat.le_of_ble_eq_true rfl), (Nat.le_of_ble_eq_true rfl)⟩) w hA (fun H locs w => ?_)
          refine lv_iconst (v := 0) hx hb dX5_worth_62 (by decide) ?_
          refine w_finI (w_runS (rm := ({ frames := 1, cells := 0, slots := 0, locals := 25 } : Room)) (As := [.int (f_X0_targetAbove x_no_up (rw_sz (d.toNatClampNeg)) (el_f (d.toNatClampNeg))), .int (f_X0_targetLine x_no_down (rw_sz (d.toNatClampNeg))), .int 0]) (rest := []) (n := 3) hx hb hml hts hown hK w (c_X5_leastPart l D cI cP cS cL L _ (f_X0_targetAbove x_no_up (rw_sz (d.toNatClampNeg)) (el_f (d.toNatClampNeg))) (f_X0_targetLine x_no_down (rw_sz (d.toNatClampNeg))) 0 ) gX5_worth_X5_leastPart rfl rfl rfl (by decide +kernel) ⟨(Nat.le_of_ble_eq_true rfl), (Nat.le_of_ble_eq_true rfl)⟩ rfl hl.1 rfl (Nat.le_of_ble_eq_true rfl) dX5_worth_63 ⟨(Nat.le_of_ble_eq_true rfl), (Nat.le_of_ble_eq_true rfl)⟩) w hA (fun H locs w => ?_)
          refine lv_istore (lv' := [(5, .int (f_X5_leastPart (f_X0_targetAbove x_no_up (rw_sz (d.toNatClampNeg)) (el_f (d.toNatClampNeg))) (f_X0_targetLine x_no_down (rw_sz (d.toNatClampNeg))) 0)), (4, .int (f_X5_cardsRefusal x_no_high (sh_ho (d.toNatClampNeg)) (rw_sz (d.toNatClampNeg)) (el_f (d.toNatClampNeg)))), (3, .ref (sh (d.toNatClampNeg))), (0, .ref x), (1, .int d), (2, .int k0)]) hx hb dX5_worth_66 hl (by decide) rfl (fun ls hl => ?_)
          refine lv_aload_n hx hb dX5_worth_68 rfl (lv_at hl 3 rfl) ?_
          refine w_get (v := .ref x_no) hx hb hts i_X5 hown hK w h_x rfl 0 (by decide) (hts _ m_1) rfl dX5_worth_69 ?_
          refine lv_aload_n hx hb dX5_worth_72 rfl (lv_at hl 2 rfl) ?_
          refine w_get (v := .ref (rw (d.toNatClampNeg))) hx hb hts i_X4 hown hK w (h_sh (d.toNatClampNeg) (by omega)) rfl 1 (by decide) (hts _ m_3) rfl dX5_worth_73 ?_
          refine w_finI (w_runV (rm := ({ frames := 1, cells := 0, slots := 0, locals := 22 } : Room)) (As := [.ref (rw (d.toNatClampNeg))]) (rest := []) (n := 1) hx hb hml hts hown hK w (c_X0_targetAbove l D cI cP cS cL L _ x_no (rw (d.toNatClampNeg)) x_no_up x_no_down x_no_high x_no_prize x_no_z x_no_rounds x_no_people x_no_pa x_no_cr x_no_ls (el (d.toNatClampNeg)) (rw_so (d.toNatClampNeg)) (rw_sz (d.toNatClampNeg)) 100 (el_f (d.toNatClampNeg)) h_x_no (h_rw (d.toNatClampNeg) (by omega)) (h_el (d.toNatClampNeg) (by omega)) (hzs (d.toNatClampNeg) (by omega))) gX5_worth_X0_targetAbove rfl rfl rfl (by decide +kernel) ⟨(Nat.le_of_ble_eq_true rfl), (Nat.le_of_ble_eq_true rfl)⟩ h_x_no rfl rfl hl.1 rfl (Nat.le_of_ble_eq_true rfl) dX5_worth_76 ⟨(Nat.le_of_ble_eq_true rfl), (Nat.le_of_ble_eq_true rfl)⟩) w hA (fun H locs w => ?_)
          refine lv_aload_n hx hb dX5_worth_79 rfl (lv_at hl 3 rfl) ?_
          refine w_get (v := .ref x_no) hx hb hts i_X5 hown hK w h_x rfl 0 (by decide) (hts _ m_1) rfl dX5_worth_80 ?_
          refine lv_aload_n hx hb dX5_worth_83 rfl (lv_at hl 2 rfl) ?_
          refine w_get (v := .ref (rw (d.toNatClampNeg))) hx hb hts i_X4 hown hK w (h_sh (d.toNatClampNeg) (by omega)) rfl 1 (by decide) (hts _ m_3) rfl dX5_worth_84 ?_
          refine w_finI (w_runV (rm := ({ frames := 0, cells := 0, slots := 0, locals := 0 } : Room)) (As := [.ref (rw (d.toNatClampNeg))]) (rest := [.int (f_X0_targetAbove x_no_up (rw_sz (d.toNatClampNeg)) (el_f (d.toNatClampNeg)))]) (n := 1) hx hb hml hts hown hK w (c_X0_targetLine l D cI cP cS cL L _ x_no (rw (d.toNatClampNeg)) x_no_up x_no_down x_no_high x_no_prize x_no_z x_no_rounds x_no_people x_no_pa x_no_cr x_no_ls (el (d.toNatClampNeg)) (rw_so (d.toNatClampNeg)) (rw_sz (d.toNatClampNeg)) h_x_no (h_rw (d.toNatClampNeg) (by omega))) gX5_worth_X0_targetLine rfl rfl rfl (by decide +kernel) ⟨(Nat.le_of_ble_eq_true rfl), (Nat.le_of_ble_eq_true rfl)⟩ h_x_no rfl rfl hl.1 rfl (Nat.le_of_ble_eq_true rfl) dX5_worth_87 ⟨(Nat.le_of_ble_eq_true rfl), (Nat.le_of_ble_eq_true rfl)⟩) w hA (fun H locs w => ?_)
          refine lv_iconst (v := 1) hx hb dX5_worth_90 (by decide) ?_
          refine w_finI (w_runS (rm := ({ frames := 1, cells := 0, slots := 0, locals := 25 } : Room)) (As := [.int (f_X0_targetAbove x_no_up (rw_sz (d.toNatClampNeg)) (el_f (d.toNatClampNeg))), .int (f_X0_targetLine x_no_down (rw_sz (d.toNatClampNeg))), .int 1]) (rest := []) (n := 3) hx hb hml hts hown hK w (c_X5_leastPart l D cI cP cS cL L _ (f_X0_targetAbove x_no_up (rw_sz (d.toNatClampNeg)) (el_f (d.toNatClampNeg))) (f_X0_targetLine x_no_down (rw_sz (d.toNatClampNeg))) 1 ) gX5_worth_X5_leastPart rfl rfl rfl (by decide +kernel) ⟨(Nat.le_of_ble_eq_true rfl), (Nat.le_of_ble_eq_true rfl)⟩ rfl hl.1 rfl (Nat.le_of_ble_eq_true rfl) dX5_worth_91 ⟨(Nat.le_of_ble_eq_true rfl), (Nat.le_of_ble_eq_true rfl)⟩) w hA (fun H locs w => ?_)
          refine lv_istore (lv' := [(6, .int (f_X5_leastPart (f_X0_targetAbove x_no_up (rw_sz (d.toNatClampNeg)) (el_f (d.toNatClampNeg))) (f_X0_targetLine x_no_down (rw_sz (d.toNatClampNeg))) 1)), (5, .int (f_X5_leastPart (f_X0_targetAbove x_no_up (rw_sz (d.toNatClampNeg)) (el_f (d.toNatClampNeg))) (f_X0_targetLine x_no_down (rw_sz (d.toNatClampNeg))) 0)), (4, .int (f_X5_cardsRefusal x_no_high (sh_ho (d.toNatClampNeg)) (rw_sz (d.toNatClampNeg)) (el_f (d.toNatClampNeg)))), (3, .ref (sh (d.toNatClampNeg))), (0, .ref x), (1, .int d), (2, .int k0)]) hx hb dX5_worth_94 hl (by decide) rfl (fun ls hl => ?_)
          refine lv_aload_n hx hb dX5_worth_96 rfl (lv_at hl 4 rfl) ?_
          refine w_get (v := .ref x_no) hx hb hts i_X5 hown hK w h_x rfl 0 (by decide) (hts _ m_1) rfl dX5_worth_97 ?_
          refine lv_iload_n hx hb dX5_worth_100 rfl (lv_at hl 6 rfl) ?_
          refine w_finI (w_runV (rm := ({ frames := 3, cells := 0, slots := 0, locals := 66 } : Room)) (As := [.int k0]) (rest := []) (n := 1) hx hb hml hts hown hK w (c_X0_stepped l D cI cP cS cL L _ x_no k0 x_no_up x_no_down x_no_high x_no_prize x_no_z x_no_rounds x_no_people x_no_pa x_no_cr x_no_ls h_x_no) gX5_worth_X0_stepped rfl rfl rfl (by decide +kernel) ⟨(Nat.le_of_ble_eq_true rfl), (Nat.le_of_ble_eq_true rfl)⟩ h_x_no rfl rfl hl.1 rfl (Nat.le_of_ble_eq_true rfl) dX5_worth_101 ⟨(Nat.le_of_ble_eq_true rfl), (Nat.le_of_ble_eq_true rfl)⟩) w hA (fun H locs w => ?_)
          refine lv_iload hx hb dX5_worth_104 (lv_at hl 0 rfl) ?_
          refine lv_imul hx hb dX5_worth_106 ?_
          refine lv_iload hx hb dX5_worth_107 (lv_at hl 1 rfl) ?_
          refine lv_isub hx hb dX5_worth_109 ?_
          refine va_mabs hx hb (hml.trans hl.1.symm) hown (hts _ m_5) (hts _ m_6) (hts _ m_7) (hts _ m_8) (Nat.le_of_ble_eq_true rfl) (Nat.le_of_ble_eq_true rfl) (Nat.zero_le _) (Nat.zero_le _) dX5_worth_110 ?_
          refine lv_istore (lv' := [(7, .int (if 0 ≤ (((f_X0_stepped k0 x_no_up x_no_down x_no_high) * (f_X5_leastPart (f_X0_targetAbove x_no_up (rw_sz (d.toNatClampNeg)) (el_f (d.toNatClampNeg))) (f_X0_targetLine x_no_down (rw_sz (d.toNatClampNeg))) 1)) - (f_X5_leastPart (f_X0_targetAbove x_no_up (rw_sz (d.toNatClampNeg)) (el_f (d.toNatClampNeg))) (f_X0_targetLine x_no_down (rw_sz (d.toNatClampNeg))) 0)) then (((f_X0_stepped k0 x_no_up x_no_down x_no_high) * (f_X5_leastPart (f_X0_targetAbove x_no_up (rw_sz (d.toNatClampNeg)) (el_f (d.toNatClampNeg))) (f_X0_targetLine x_no_down (rw_sz (d.toNatClampNeg))) 1)) - (f_X5_leastPart (f_X0_targetAbove x_no_up (rw_sz (d.toNatClampNeg)) (el_f (d.toNatClampNeg))) (f_X0_targetLine x_no_down (rw_sz (d.toNatClampNeg))) 0)) else 0 - (((f_X0_stepped k0 x_no_up x_no_down x_no_high) * (f_X5_leastPart (f_X0_targetAbove x_no_up (rw_sz (d.toNatClampNeg)) (el_f (d.toNatClampNeg))) (f_X0_targetLine x_no_down (rw_sz (d.toNatClampNeg))) 1)) - (f_X5_leastPart (f_X0_targetAbove x_no_up (rw_sz (d.toNatClampNeg)) (el_f (d.toNatClampNeg))) (f_X0_targetLine x_no_down (rw_sz (d.toNatClampNeg))) 0)))), (6, .int (f_X5_leastPart (f_X0_targetAbove x_no_up (rw_sz (d.toNatClampNeg)) (el_f (d.toNatClampNeg))) (f_X0_targetLine x_no_down (rw_sz (d.toNatClampNeg))) 1)), (5, .int (f_X5_leastPart (f_X0_targetAbove x_no_up (rw_sz (d.toNatClampNeg)) (el_f (d.toNatClampNeg))) (f_X0_targetLine x_no_down (rw_sz (d.toNatClampNeg))) 0)), (4, .int (f_X5_cardsRefusal x_no_high (sh_ho (d.toNatClampNeg)) (rw_sz (d.toNatClampNeg)) (el_f (d.toNatClampNeg)))), (3, .ref (sh (d.toNatClampNeg))), (0, .ref x), (1, .int d), (2, .int k0)]) hx hb dX5_worth_113 hl (by decide) rfl (fun ls hl => ?_)
          refine lv_aload_n hx hb dX5_worth_115 rfl (lv_at hl 5 rfl) ?_
          refine w_get (v := .ref x_no) hx hb hts i_X5 hown hK w h_x rfl 0 (by decide) (hts _ m_1) rfl dX5_worth_116 ?_
          refine lv_iload_n hx hb dX5_worth_119 rfl (lv_at hl 7 rfl) ?_
          refine lv_iconst (v := 1) hx hb dX5_worth_120 (by decide) ?_
          refine lv_iadd hx hb dX5_worth_121 ?_
          refine w_finI (w_runV (rm := ({ frames := 3, cells := 0, slots := 0, locals := 66 } : Room)) (As := [.int (k0 + 1)]) (rest := []) (n := 1) hx hb hml hts hown hK w (c_X0_stepped l D cI cP cS cL L _ x_no (k0 + 1) x_no_up x_no_down x_no_high x_no_prize x_no_z x_no_rounds x_no_people x_no_pa x_no_cr x_no_ls h_x_no) gX5_worth_X0_stepped rfl rfl rfl (by decide +kernel) ⟨(Nat.le_of_ble_eq_true rfl), (Nat.le_of_ble_eq_true rfl)⟩ h_x_no rfl rfl hl.1 rfl (Nat.le_of_ble_eq_true rfl) dX5_worth_122 ⟨(Nat.le_of_ble_eq_true rfl), (Nat.le_of_ble_eq_true rfl)⟩) w hA (fun H locs w => ?_)
          refine lv_iload hx hb dX5_worth_125 (lv_at hl 1 rfl) ?_
          refine lv_imul hx hb dX5_worth_127 ?_
          refine lv_iload hx hb dX5_worth_128 (lv_at hl 2 rfl) ?_
          refine lv_isub hx hb dX5_worth_130 ?_
          refine va_mabs hx hb (hml.trans hl.1.symm) hown (hts _ m_5) (hts _ m_6) (hts _ m_7) (hts _ m_8) (Nat.le_of_ble_eq_true rfl) (Nat.le_of_ble_eq_true rfl) (Nat.zero_le _) (Nat.zero_le _) dX5_worth_131 ?_
          refine lv_istore (lv' := [(8, .int (if 0 ≤ (((f_X0_stepped (k0 + 1) x_no_up x_no_down x_no_high) * (f_X5_leastPart (f_X0_targetAbove x_no_up (rw_sz (d.toNatClampNeg)) (el_f (d.toNatClampNeg))) (f_X0_targetLine x_no_down (rw_sz (d.toNatClampNeg))) 1)) - (f_X5_leastPart (f_X0_targetAbove x_no_up (rw_sz (d.toNatClampNeg)) (el_f (d.toNatClampNeg))) (f_X0_targetLine x_no_down (rw_sz (d.toNatClampNeg))) 0)) then (((f_X0_stepped (k0 + 1) x_no_up x_no_down x_no_high) * (f_X5_leastPart (f_X0_targetAbove x_no_up (rw_sz (d.toNatClampNeg)) (el_f (d.toNatClampNeg))) (f_X0_targetLine x_no_down (rw_sz (d.toNatClampNeg))) 1)) - (f_X5_leastPart (f_X0_targetAbove x_no_up (rw_sz (d.toNatClampNeg)) (el_f (d.toNatClampNeg))) (f_X0_targetLine x_no_down (rw_sz (d.toNatClampNeg))) 0)) else 0 - (((f_X0_stepped (k0 + 1) x_no_up x_no_down x_no_high) * (f_X5_leastPart (f_X0_targetAbove x_no_up (rw_sz (d.toNatClampNeg)) (el_f (d.toNatClampNeg))) (f_X0_targetLine x_no_down (rw_sz (d.toNatClampNeg))) 1)) - (f_X5_leastPart (f_X0_targetAbove x_no_up (rw_sz (d.toNatClampNeg)) (el_f (d.toNatClampNeg))) (f_X0_targetLine x_no_down (rw_sz (d.toNatClampNeg))) 0)))), (7, .int (if 0 ≤ (((f_X0_stepped k0 x_no_up x_no_down x_no_high) * (f_X5_leastPart (f_X0_targetAbove x_no_up (rw_sz (d.toNatClampNeg)) (el_f (d.toNatClampNeg))) (f_X0_targetLine x_no_down (rw_sz (d.toNatClampNeg))) 1)) - (f_X5_leastPart (f_X0_targetAbove x_no_up (rw_sz (d.toNatClampNeg)) (el_f (d.toNatClampNeg))) (f_X0_targetLine x_no_down (rw_sz (d.toNatClampNeg))) 0)) then (((f_X0_stepped k0 x_no_up x_no_down x_no_high) * (f_X5_leastPart (f_X0_targetAbove x_no_up (rw_sz (d.toNatClampNeg)) (el_f (d.toNatClampNeg))) (f_X0_targetLine x_no_down (rw_sz (d.toNatClampNeg))) 1)) - (f_X5_leastPart (f_X0_targetAbove x_no_up (rw_sz (d.toNatClampNeg)) (el_f (d.toNatClampNeg))) (f_X0_targetLine x_no_down (rw_sz (d.toNatClampNeg))) 0)) else 0 - (((f_X0_stepped k0 x_no_up x_no_down x_no_high) * (f_X5_leastPart (f_X0_targetAbove x_no_up (rw_sz (d.toNatClampNeg)) (el_f (d.toNatClampNeg))) (f_X0_targetLine x_no_down (rw_sz (d.toNatClampNeg))) 1)) - (f_X5_leastPart (f_X0_targetAbove x_no_up (rw_sz (d.toNatClampNeg)) (el_f (d.toNatClampNeg))) (f_X0_targetLine x_no_down (rw_sz (d.toNatClampNeg))) 0)))), (6, .int (f_X5_leastPart (f_X0_targetAbove x_no_up (rw_sz (d.toNatClampNeg)) (el_f (d.toNatClampNeg))) (f_X0_targetLine x_no_down (rw_sz (d.toNatClampNeg))) 1)), (5, .int (f_X5_leastPart (f_X0_targetAbove x_no_up (rw_sz (d.toNatClampNeg)) (el_f (d.toNatClampNeg))) (f_X0_targetLine x_no_down (rw_sz (d.toNatClampNeg))) 0)), (4, .int (f_X5_cardsRefusal x_no_high (sh_ho (d.toNatClampNeg)) (rw_sz (d.toNatClampNeg)) (el_f (d.toNatClampNeg)))), (3, .ref (sh (d.toNatClampNeg))), (0, .ref x), (1, .int d), (2, .int k0)]) hx hb dX5_worth_134 hl (by decide) rfl (fun ls hl => ?_)
          refine lv_iload hx hb dX5_worth_136 (lv_at hl 1 rfl) ?_
          refine lv_iload hx hb dX5_worth_138 (lv_at hl 0 rfl) ?_
          refine lv_isub hx hb dX5_worth_140 ?_
          refine lv_i2l (v := (((if 0 ≤ (((f_X0_stepped k0 x_no_up x_no_down x_no_high) * (f_X5_leastPart (f_X0_targetAbove x_no_up (rw_sz (d.toNatClampNeg)) (el_f (d.toNatClampNeg))) (f_X0_targetLine x_no_down (rw_sz (d.toNatClampNeg))) 1)) - (f_X5_leastPart (f_X0_targetAbove x_no_up (rw_sz (d.toNatClampNeg)) (el_f (d.toNatClampNeg))) (f_X0_targetLine x_no_down (rw_sz (d.toNatClampNeg))) 0)) then (((f_X0_stepped k0 x_no_up x_no_down x_no_high) * (f_X5_leastPart (f_X0_targetAbove x_no_up (rw_sz (d.toNatClampNeg)) (el_f (d.toNatClampNeg))) (f_X0_targetLine x_no_down (rw_sz (d.toNatClampNeg))) 1)) - (f_X5_leastPart (f_X0_targetAbove x_no_up (rw_sz (d.toNatClampNeg)) (el_f (d.toNatClampNeg))) (f_X0_targetLine x_no_down (rw_sz (d.toNatClampNeg))) 0)) else 0 - (((f_X0_stepped k0 x_no_up x_no_down x_no_high) * (f_X5_leastPart (f_X0_targetAbove x_no_up (rw_sz (d.toNatClampNeg)) (el_f (d.toNatClampNeg))) (f_X0_targetLine x_no_down (rw_sz (d.toNatClampNeg))) 1)) - (f_X5_leastPart (f_X0_targetAbove x_no_up (rw_sz (d.toNatClampNeg)) (el_f (d.toNatClampNeg))) (f_X0_targetLine x_no_down (rw_sz (d.toNatClampNeg))) 0))) - (if 0 ≤ (((f_X0_stepped (k0 + 1) x_no_up x_no_down x_no_high) * (f_X5_leastPart (f_X0_targetAbove x_no_up (rw_sz (d.toNatClampNeg)) (el_f (d.toNatClampNeg))) (f_X0_targetLine x_no_down (rw_sz (d.toNatClampNeg))) 1)) - (f_X5_leastPart (f_X0_targetAbove x_no_up (rw_sz (d.toNatClampNeg)) (el_f (d.toNatClampNeg))) (f_X0_targetLine x_no_down (rw_sz (d.toNatClampNeg))) 0)) then (((f_X0_stepped (k0 + 1) x_no_up x_no_down x_no_high) * (f_X5_leastPart (f_X0_targetAbove x_no_up (rw_sz (d.toNatClampNeg)) (el_f (d.toNatClampNeg))) (f_X0_targetLine x_no_down (rw_sz (d.toNatClampNeg))) 1)) - (f_X5_leastPart (f_X0_targetAbove x_no_up (rw_sz (d.toNatClampNeg)) (el_f (d.toNatClampNeg))) (f_X0_targetLine x_no_down (rw_sz (d.toNatClampNeg))) 0)) else 0 - (((f_X0_stepped (k0 + 1) x_no_up x_no_down x_no_high) * (f_X5_leastPart (f_X0_targetAbove x_no_up (rw_sz (d.toNatClampNeg)) (el_f (d.toNatClampNeg))) (f_X0_targetLine x_no_down (rw_sz (d.toNatClampNeg))) 1)) - (f_X5_leastPart (f_X0_targetAbove x_no_up (rw_sz (d.toNatClampNeg)) (el_f (d.toNatClampNeg))) (f_X0_targetLine x_no_down (rw_sz (d.toNatClampNeg))) 0)))).toInt64)) hx hb dX5_worth_141 rfl ?_
          exact w_lret hx hb hr hlocks w ⟨hq.symm, rfl, rfl⟩ (Nat.le_refl _) (Nat.le_refl _) dX5_worth_142
        · skip
          have hq := hq.trans (if_neg c4)
          refine lv_ldc2 (v := (-4000000000000000000)) hx hb hown (hts _ m_9) dX5_worth_32 ?_
          refine lv_iload hx hb dX5_worth_35 (lv_at hl 0 rfl) ?_
          refine lv_i2l (v := ((f_X5_cardsRefusal x_no_high (sh_ho (d.toNatClampNeg)) (rw_sz (d.toNatClampNeg)) (el_f (d.toNatClampNeg))).toInt64)) hx hb dX5_worth_37 rfl ?_
          refine lv_ladd hx hb dX5_worth_38 ?_
          exact w_lret hx hb hr hlocks w ⟨hq.symm, rfl, rfl⟩ (Nat.le_refl _) (Nat.le_refl _) dX5_worth_39
      · skip
        have hq := hq.trans (if_neg c3)
        refine lv_ldc2 (v := (-4000000000000000001)) hx hb hown (hts _ m_0) dX5_worth_16 ?_
        exact w_lret hx hb hr hlocks w ⟨hq.symm, rfl, rfl⟩ (Nat.le_refl _) (Nat.le_refl _) dX5_worth_19
  · skip
    have hq := hq.trans (if_neg c1)
    refine w_finQ (v := .null) (by unfold f_X5_shelfAt_none; first | rfl | (split <;> rfl)) (w_runV (rm := ({ frames := 0, cells := 0, slots := 0, locals := 0 } : Room)) (As := [.int d]) (rest := []) (n := 1) hx hb hml hts hown hK w (c_X5_shelfAt_none l D cI cP cS cL L _ x d x_no x_ke x_mi x_im x_sh x_co x_ot sh h_x h_x_sh c1) gX5_worth_X5_shelfAt rfl rfl rfl (by decide +kernel) ⟨(Nat.le_of_ble_eq_true rfl), (Nat.le_of_ble_eq_true rfl)⟩ h_x rfl rfl hl.1 rfl (Nat.le_of_ble_eq_true rfl) dX5_worth_2 ⟨(Nat.le_of_ble_eq_true rfl), (Nat.le_of_ble_eq_true rfl)⟩) w hA (fun H locs w => ?_)
    refine lv_astore_nN (lv' := [(3, .null), (0, .ref x), (1, .int d), (2, .int k0)]) hx hb dX5_worth_5 rfl hl (by decide) rfl (fun ls hl => ?_)
    refine lv_iload_n hx hb dX5_worth_6 rfl (lv_at hl 3 rfl) ?_
    refine lv_if_lt (tgt := 16) hx hb dX5_worth_7 (by decide) (fun c5 => ?_) (fun c5 => ?_)
    · skip
      have hq := hq.trans (if_pos c5)
      refine lv_ldc2 (v := (-4000000000000000001)) hx hb hown (hts _ m_0) dX5_worth_16 ?_
      exact w_lret hx hb hr hlocks w ⟨hq.symm, rfl, rfl⟩ (Nat.le_refl _) (Nat.le_refl _) dX5_worth_19
    · skip
      have hq := hq.trans (if_neg c5)
      refine lv_iload_n hx hb dX5_worth_10 rfl (lv_at hl 3 rfl) ?_
      refine lv_bipush (v := 9) hx hb dX5_worth_11 (by decide) ?_
      refine lv_icmp_lt (tgt := 20) hx hb dX5_worth_13 (by decide) (fun c6 => ?_) (fun c6 => ?_)
      · skip
        have hq := hq.trans (if_pos c6)
        refine lv_aload_n hx hb dX5_worth_20 rfl (lv_at hl 1 rfl) ?_
        refine lv_aload_nN hx hb dX5_worth_21 rfl (lv_at hl 0 rfl) ?_
        refine w_finI (r := (-1)) (w_runV (rm := ({ frames := 2, cells := 0, slots := 0, locals := 41 } : Room)) (As := [.null]) (rest := []) (n := 1) hx hb hml hts hown hK w (c_X5_cardsRefusal_n l D cI cP cS cL L _ x x_no x_ke x_mi x_im x_sh x_co x_ot h_x) gX5_worth_X5_cardsRefusal rfl rfl rfl (by decide +kernel) ⟨(Nat.le_of_ble_eq_true rfl), (Nat.le_of_ble_eq_true rfl)⟩ h_x rfl rfl hl.1 rfl (Nat.le_of_ble_eq_true rfl) dX5_worth_22 ⟨(Nat.le_of_ble_eq_true rfl), (Nat.le_of_ble_eq_true rfl)⟩) w hA (fun H locs w => ?_)
        refine lv_istore (lv' := [(4, .int (-1)), (3, .null), (0, .ref x), (1, .int d), (2, .int k0)]) hx hb dX5_worth_25 hl (by decide) rfl (fun ls hl => ?_)
        refine lv_iload hx hb dX5_worth_27 (lv_at hl 0 rfl) ?_
        refine lv_if_eq (tgt := 40) hx hb dX5_worth_29 (by decide) (fun c => absurd c (by decide)) (fun _ => ?_)
        refine lv_ldc2 (v := (-4000000000000000000)) hx hb hown (hts _ m_9) dX5_worth_32 ?_
        refine lv_iload hx hb dX5_worth_35 (lv_at hl 0 rfl) ?_
        refine lv_i2l (v := ((-1 : Int32).toInt64)) hx hb dX5_worth_37 rfl ?_
        refine lv_ladd hx hb dX5_worth_38 ?_
        exact w_lret hx hb hr hlocks w ⟨hq.symm, rfl, rfl⟩ (Nat.le_refl _) (Nat.le_refl _) dX5_worth_39
      · skip
        have hq := hq.trans (if_neg c6)
        refine lv_ldc2 (v := (-4000000000000000001)) hx hb hown (hts _ m_0) dX5_worth_16 ?_
        exact w_lret hx hb hr hlocks w ⟨hq.symm, rfl, rfl⟩ (Nat.le_refl _) (Nat.le_refl _) dX5_worth_19
def f_X5_jokers (d : Int32) (part : Int32) (x_no_up : Int32) (x_no_down : Int32) (x_no_high : Int32) (sh_ho : Nat → Int32) (rw_sz : Nat → Int32) (el_f : Nat → Nat → Int32) : Int32 := if (¬ d < 0 ∧ ¬ (8 : Int32) ≤ d) then (if (f_X5_isOneOfTwo part) = (0 : Int32) then (-1) else (if (f_X5_cardsRefusal x_no_high (sh_ho (d.toNatClampNeg)) (rw_sz (d.toNatClampNeg)) (el_f (d.toNatClampNeg))) = (0 : Int32) then (if ((rw_sz (d.toNatClampNeg)) - (f_X3_countOf x_no_high (rw_sz (d.toNatClampNeg)) (el_f (d.toNatClampNeg)))) = (0 : Int32) then (f_X5_leastPart (x_no_up * (f_X3_sum (rw_sz (d.toNatClampNeg)) (el_f (d.toNatClampNeg)))) (x_no_down * (rw_sz (d.toNatClampNeg))) part) else (f_X5_leastPart (x_no_up * (((f_X3_sum (rw_sz (d.toNatClampNeg)) (el_f (d.toNatClampNeg))) * ((rw_sz (d.toNatClampNeg)) - (f_X3_countOf x_no_high (rw_sz (d.toNatClampNeg)) (el_f (d.toNatClampNeg))))) - (((f_X3_sum (rw_sz (d.toNatClampNeg)) (el_f (d.toNatClampNeg))) - (((rw_sz (d.toNatClampNeg)) - ((rw_sz (d.toNatClampNeg)) - (f_X3_countOf x_no_high (rw_sz (d.toNatClampNeg)) (el_f (d.toNatClampNeg))))) * x_no_high)) * (rw_sz (d.toNatClampNeg))))) ((x_no_down * (rw_sz (d.toNatClampNeg))) * ((rw_sz (d.toNatClampNeg)) - (f_X3_countOf x_no_high (rw_sz (d.toNatClampNeg)) (el_f (d.toNatClampNeg))))) part)) else (f_X5_cardsRefusal x_no_high (sh_ho (d.toNatClampNeg)) (rw_sz (d.toNatClampNeg)) (el_f (d.toNatClampNeg))))) else (if (f_X5_isOneOfTwo part) = (0 : Int32) then (-1) else (-1))
set_option maxHeartbeats 400000 in
set_option maxRecDepth 100000 in
theorem c_X5_jokers (l : Launch) (D : va_G) (cI cP cS cL : ClassId) (L : List Nat) (F : Nat → va_E) (x : Nat) (d : Int32) (part : Int32) (x_no : Nat) (x_ke : Nat) (x_mi : Nat) (x_im : Int32) (x_sh : Nat) (x_co : Nat) (x_ot : Nat) (x_no_up : Int32) (x_no_down : Int32) (x_no_high : Int32) (x_no_prize : Int32) (x_no_z : Int32) (x_no_rounds : Int32) (x_no_people : Int32) (x_no_pa : Nat) (x_no_cr : Nat) (x_no_ls : Int32) (sh : Nat → Nat) (sh_ho : Nat → Int32) (rw : Nat → Nat) (sp : Nat → Nat) (el : Nat → Nat) (rw_so : Nat → Int32) (rw_sz : Nat → Int32) (el_f : Nat → Nat → Int32) (h_x : wi L F x (eX x_no x_ke x_mi x_im x_sh x_co x_ot)) (h_x_no : wi L F x_no (eG x_no_up x_no_down x_no_high x_no_prize x_no_z x_no_rounds x_no_people x_no_pa x_no_cr x_no_ls)) (h_x_sh : wi L F x_sh (eQ cS 8 (fun i => some (sh i)))) (h_sh : ∀ i, i < 8 → wi L F (sh i) (eS (sh_ho i) (rw i) (sp i))) (h_rw : ∀ i, i < 8 → wi L F (rw i) (eR (el i) (rw_so i) (rw_sz i))) (h_el : ∀ i, i < 8 → wi L F (el i) (eI cI 100 (el_f i))) (hzs : ∀ i, i < 8 → (rw_sz i).toInt ≤ 100) : wMI l D cI cP cS cL yX5_jokers wsX5_jokers ({ frames := 3, cells := 0, slots := 0, locals := 65 } : Room) [.ref x, .int d, .int part] L F (f_X5_jokers d part x_no_up x_no_down x_no_high sh_ho rw_sz el_f) F := by
  refine wM.of (cc := cX5_jokers) (maxL := 10) (ret := (some .int)) (by decide) rfl (Nat.le_of_ble_eq_true rfl) ?_
  intro pZ eZ sZ mZ below meth cZ A ls C hl w
  obtain ⟨hx, hb, hr, hml, hts, hown, hlocks, hK, hA, hin⟩ := C
  have hown : sZ.vm.findClass RX5 = some mZ.cls := hown
  have hl : lv_has ls 10 [(0, .ref x), (1, .int d), (2, .int part)] := hl
  have m_0 : ((.fieldLink RX5 44 "TwoThirds$Shelf" "row" "LTwoThirds$Row;") : Cond) ∈ wsX5_jokers := by decide +kernel
  have i_X4 : ∀ w ∈ wsX40, w ∈ wsX5_jokers := by decide +kernel
  have m_2 : ((.fieldLink RX5 167 "TwoThirds$Row" "size" "I") : Cond) ∈ wsX5_jokers := by decide +kernel
  have i_X3 : ∀ w ∈ wsX30, w ∈ wsX5_jokers := by decide +kernel
  have m_4 : ((.fieldLink RX5 10 "TwoThirds" "now" "LTwoThirds$Game;") : Cond) ∈ wsX5_jokers := by decide +kernel
  have i_X5 : ∀ w ∈ wsX50, w ∈ wsX5_jokers := by decide +kernel
  have m_6 : ((.fieldLink RX5 205 "TwoThirds$Game" "high" "I") : Cond) ∈ wsX5_jokers := by decide +kernel
  have i_X0 : ∀ w ∈ wsX00, w ∈ wsX5_jokers := by decide +kernel
  have m_8 : ((.fieldLink RX5 190 "TwoThirds$Game" "up" "I") : Cond) ∈ wsX5_jokers := by decide +kernel
  have m_9 : ((.fieldLink RX5 193 "TwoThirds$Game" "down" "I") : Cond) ∈ wsX5_jokers := by decide +kernel
  have hq : f_X5_jokers d part x_no_up x_no_down x_no_high sh_ho rw_sz el_f = f_X5_jokers d part x_no_up x_no_down x_no_high sh_ho rw_sz el_f := rfl
  refine lv_aload_n hx hb dX5_jokers_0 rfl (lv_at hl 0 rfl) ?_
  refine lv_iload_n hx hb dX5_jokers_1 rfl (lv_at hl 1 rfl) ?_
  by_cases c1 : (¬ d < 0 ∧ ¬ (8 : Int32) ≤ d)
  · skip
    have hq := hq.trans (if_pos c1)
    have hlt_C : d.toNatClampNeg < 8 := w_okP (n := 8) c1 (by decide)
    refine w_finQ (v := .ref (sh (d.toNatClampNeg))) rfl (w_runV (rm := ({ frames := 0, cells := 0, slots := 0, locals := 0 } : Room)) (As := [.int d]) (rest := []) (n := 1) hx hb hml hts hown hK w (c_X5_shelfAt_some l D cI cP cS cL L _ x d x_no x_ke x_mi x_im x_sh x_co x_ot sh sh_ho rw sp h_x h_x_sh h_sh c1) gX5_jokers_X5_shelfAt rfl rfl rfl (by decide +kernel) ⟨(Nat.le_of_ble_eq_true rfl), (Nat.le_of_ble_eq_true rfl)⟩ h_x rfl rfl hl.1 rfl (Nat.le_of_ble_eq_true rfl) dX5_jokers_2 ⟨(Nat.le_of_ble_eq_true rfl), (Nat.le_of_ble_eq_true rfl)⟩) w hA (fun H locs w => ?_)
    refine lv_astore_n (lv' := [(3, .ref (sh (d.toNatClampNeg))), (0, .ref x), (1, .int d), (2, .int part)]) hx hb dX5_jokers_5 rfl hl (by decide) rfl (fun ls hl => ?_)
    refine lv_iload_n hx hb dX5_jokers_6 rfl (lv_at hl 3 rfl) ?_
    refine w_finI (w_runS (rm := ({ frames := 0, cells := 0, slots := 0, locals := 0 } : Room)) (As := [.int part]) (rest := []) (n := 1) hx hb hml hts hown hK w (c_X5_isOneOfTwo l D cI cP cS cL L _ part ) gX5_jokers_X5_isOneOfTwo rfl rfl rfl (by decide +kernel) ⟨(Nat.le_of_ble_eq_true rfl), (Nat.le_of_ble_eq_true rfl)⟩ rfl hl.1 rfl (Nat.le_of_ble_eq_true rfl) dX5_jokers_7 ⟨(Nat.le_of_ble_eq_true rfl), (Nat.le_of_ble_eq_true rfl)⟩) w hA (fun H locs w => ?_)
    refine lv_if_ne (tgt := 15) hx hb dX5_jokers_10 (by decide) (fun c2 => ?_) (fun c2 => ?_)
    · skip
      have hq := hq.trans (if_neg c2)
      refine lv_aload_n hx hb dX5_jokers_15 rfl (lv_at hl 1 rfl) ?_
      refine lv_aload_n hx hb dX5_jokers_16 rfl (lv_at hl 0 rfl) ?_
      refine w_finI (w_runV (rm := ({ frames := 2, cells := 0, slots := 0, locals := 43 } : Room)) (As := [.ref (sh (d.toNatClampNeg))]) (rest := []) (n := 1) hx hb hml hts hown hK w (c_X5_cardsRefusal l D cI cP cS cL L _ x (sh (d.toNatClampNeg)) x_no x_ke x_mi x_im x_sh x_co x_ot x_no_up x_no_down x_no_high x_no_prize x_no_z x_no_rounds x_no_people x_no_pa x_no_cr x_no_ls (sh_ho (d.toNatClampNeg)) (rw (d.toNatClampNeg)) (sp (d.toNatClampNeg)) (el (d.toNatClampNeg)) (rw_so (d.toNatClampNeg)) (rw_sz (d.toNatClampNeg)) 100 (el_f (d.toNatClampNeg)) h_x h_x_no (h_sh (d.toNatClampNeg) (by omega)) (h_rw (d.toNatClampNeg) (by omega)) (h_el (d.toNatClampNeg) (by omega)) (hzs (d.toNatClampNeg) (by omega))) gX5_jokers_X5_cardsRefusal rfl rfl rfl (by decide +kernel) ⟨(Nat.le_of_ble_eq_true rfl), (Nat.le_of_ble_eq_true rfl)⟩ h_x rfl rfl hl.1 rfl (Nat.le_of_ble_eq_true rfl) dX5_jokers_17 ⟨(Nat.le_of_ble_eq_true rfl), (Nat.le_of_ble_eq_true rfl)⟩) w hA (fun H locs w => ?_)
      refine lv_istore (lv' := [(4, .int (f_X5_cardsRefusal x_no_high (sh_ho (d.toNatClampNeg)) (rw_sz (d.toNatClampNeg)) (el_f (d.toNatClampNeg)))), (3, .ref (sh (d.toNatClampNeg))), (0, .ref x), (1, .int d), (2, .int part)]) hx hb dX5_jokers_20 hl (by decide) rfl (fun ls hl => ?_)
      refine lv_iload hx hb dX5_jokers_22 (lv_at hl 0 rfl) ?_
      refine lv_if_eq (tgt := 30) hx hb dX5_jokers_24 (by decide) (fun c3 => ?_) (fun c3 => ?_)
      · skip
        have hq := hq.trans (if_pos c3)
        refine lv_aload_n hx hb dX5_jokers_30 rfl (lv_at hl 1 rfl) ?_
        refine w_get (v := .ref (rw (d.toNatClampNeg))) hx hb hts i_X4 hown hK w (h_sh (d.toNatClampNeg) (by omega)) rfl 1 (by decide) (hts _ m_0) rfl dX5_jokers_31 ?_
        refine w_get (v := .int (rw_sz (d.toNatClampNeg))) hx hb hts i_X3 hown hK w (h_rw (d.toNatClampNeg) (by omega)) rfl 2 (by decide) (hts _ m_2) rfl dX5_jokers_34 ?_
        refine lv_istore (lv' := [(5, .int (rw_sz (d.toNatClampNeg))), (4, .int (f_X5_cardsRefusal x_no_high (sh_ho (d.toNatClampNeg)) (rw_sz (d.toNatClampNeg)) (el_f (d.toNatClampNeg)))), (3, .ref (sh (d.toNatClampNeg))), (0, .ref x), (1, .int d), (2, .int part)]) hx hb dX5_jokers_37 hl (by decide) rfl (fun ls hl => ?_)
        refine lv_aload_n hx hb dX5_jokers_39 rfl (lv_at hl 2 rfl) ?_
        refine w_get (v := .ref (rw (d.toNatClampNeg))) hx hb hts i_X4 hown hK w (h_sh (d.toNatClampNeg) (by omega)) rfl 1 (by decide) (hts _ m_0) rfl dX5_jokers_40 ?_
        refine w_finI (w_runV (rm := ({ frames := 0, cells := 0, slots := 0, locals := 0 } : Room)) (As := []) (rest := []) (n := 0) hx hb hml hts hown hK w (c_X3_sum l D cI cP cS cL L _ (rw (d.toNatClampNeg)) (el (d.toNatClampNeg)) (rw_so (d.toNatClampNeg)) (rw_sz (d.toNatClampNeg)) 100 (el_f (d.toNatClampNeg)) (h_rw (d.toNatClampNeg) (by omega)) (h_el (d.toNatClampNeg) (by omega)) (hzs (d.toNatClampNeg) (by omega))) gX5_jokers_X3_sum rfl rfl rfl (by decide +kernel) ⟨(Nat.le_of_ble_eq_true rfl), (Nat.le_of_ble_eq_true rfl)⟩ (h_rw (d.toNatClampNeg) (by omega)) rfl rfl hl.1 rfl (Nat.le_of_ble_eq_true rfl) dX5_jokers_43 ⟨(Nat.le_of_ble_eq_true rfl), (Nat.le_of_ble_eq_true rfl)⟩) w hA (fun H locs w => ?_)
        refine lv_istore (lv' := [(6, .int (f_X3_sum (rw_sz (d.toNatClampNeg)) (el_f (d.toNatClampNeg)))), (5, .int (rw_sz (d.toNatClampNeg))), (4, .int (f_X5_cardsRefusal x_no_high (sh_ho (d.toNatClampNeg)) (rw_sz (d.toNatClampNeg)) (el_f (d.toNatClampNeg)))), (3, .ref (sh (d.toNatClampNeg))), (0, .ref x), (1, .int d), (2, .int part)]) hx hb dX5_jokers_46 hl (by decide) rfl (fun ls hl => ?_)
        refine lv_iload hx hb dX5_jokers_48 (lv_at hl 1 rfl) ?_
        refine lv_aload_n hx hb dX5_jokers_50 rfl (lv_at hl 3 rfl) ?_
        refine w_get (v := .ref (rw (d.toNatClampNeg))) hx hb hts i_X4 hown hK w (h_sh (d.toNatClampNeg) (by omega)) rfl 1 (by decide) (hts _ m_0) rfl dX5_jokers_51 ?_
        refine lv_aload_n hx hb dX5_jokers_54 rfl (lv_at hl 4 rfl) ?_
        refine w_get (v := .ref x_no) hx hb hts i_X5 hown hK w h_x rfl 0 (by decide) (hts _ m_4) rfl dX5_jokers_55 ?_
        refine w_get (v := .int x_no_high) hx hb hts i_X0 hown hK w h_x_no rfl 2 (by decide) (hts _ m_6) rfl dX5_jokers_58 ?_
        refine w_finI (w_runV (rm := ({ frames := 0, cells := 0, slots := 0, locals := 0 } : Room)) (As := [.int x_no_high]) (rest := [.int (rw_sz (d.toNatClampNeg))]) (n := 1) hx hb hml hts hown hK w (c_X3_countOf l D cI cP cS cL L _ (rw (d.toNatClampNeg)) x_no_high (el (d.toNatClampNeg)) (rw_so (d.toNatClampNeg)) (rw_sz (d.toNatClampNeg)) 100 (el_f (d.toNatClampNeg)) (h_rw (d.toNatClampNeg) (by omega)) (h_el (d.toNatClampNeg) (by omega)) (hzs (d.toNatClampNeg) (by omega))) gX5_jokers_X3_countOf rfl rfl rfl (by decide +kernel) ⟨(Nat.le_of_ble_eq_true rfl), (Nat.le_of_ble_eq_true rfl)⟩ (h_rw (d.toNatClampNeg) (by omega)) rfl rfl hl.1 rfl (Nat.le_of_ble_eq_true rfl) dX5_jokers_61 ⟨(Nat.le_of_ble_eq_true rfl), (Nat.le_of_ble_eq_true rfl)⟩) w hA (fun H locs w => ?_)
        refine lv_isub hx hb dX5_jokers_64 ?_
        refine lv_istore (lv' := [(7, .int ((rw_sz (d.toNatClampNeg)) - (f_X3_countOf x_no_high (rw_sz (d.toNatClampNeg)) (el_f (d.toNatClampNeg))))), (6, .int (f_X3_sum (rw_sz (d.toNatClampNeg)) (el_f (d.toNatClampNeg)))), (5, .int (rw_sz (d.toNatClampNeg))), (4, .int (f_X5_cardsRefusal x_no_high (sh_ho (d.toNatClampNeg)) (rw_sz (d.toNatClampNeg)) (el_f (d.toNatClampNeg)))), (3, .ref (sh (d.toNatClampNeg))), (0, .ref x), (1, .int d), (2, .int part)]) hx hb dX5_jokers_65 hl (by decide) rfl (fun ls hl => ?_)
        refine lv_iload hx hb dX5_jokers_67 (lv_at hl 1 rfl) ?_
        refine lv_iload hx hb dX5_jokers_69 (lv_at hl 2 rfl) ?_
        refine lv_iload hx hb dX5_jokers_71 (lv_at hl 0 rfl) ?_
        refine lv_isub hx hb dX5_jokers_73 ?_
        refine lv_aload_n hx hb dX5_jokers_74 rfl (lv_at hl 5 rfl) ?_
        refine w_get (v := .ref x_no) hx hb hts i_X5 hown hK w h_x rfl 0 (by decide) (hts _ m_4) rfl dX5_jokers_75 ?_
        refine w_get (v := .int x_no_high) hx hb hts i_X0 hown hK w h_x_no rfl 2 (by decide) (hts _ m_6) rfl dX5_jokers_78 ?_
        refine lv_imul hx hb dX5_jokers_81 ?_
        refine lv_isub hx hb dX5_jokers_82 ?_
        refine lv_istore (lv' := [(8, .int ((f_X3_sum (rw_sz (d.toNatClampNeg)) (el_f (d.toNatClampNeg))) - (((rw_sz (d.toNatClampNeg)) - ((rw_sz (d.toNatClampNeg)) - (f_X3_countOf x_no_high (rw_sz (d.toNatClampNeg)) (el_f (d.toNatClampNeg))))) * x_no_high))), (7, .int ((rw_sz (d.toNatClampNeg)) - (f_X3_countOf x_no_high (rw_sz (d.toNatClampNeg)) (el_f (d.toNatClampNeg))))), (6, .int (f_X3_sum (rw_sz (d.toNatClampNeg)) (el_f (d.toNatClampNeg)))), (5, .int (rw_sz (d.toNatClampNeg))), (4, .int (f_X5_cardsRefusal x_no_high (sh_ho (d.toNatClampNeg)) (rw_sz (d.toNatClampNeg)) (el_f (d.toNatClampNeg)))), (3, .ref (sh (d.toNatClampNeg))), (0, .ref x), (1, .int d), (2, .int part)]) hx hb dX5_jokers_83 hl (by decide) rfl (fun ls hl => ?_)
        refine lv_iload hx hb dX5_jokers_85 (lv_at hl 1 rfl) ?_
        refine lv_if_ne (tgt := 115) hx hb dX5_jokers_87 (by decide) (fun c4 => ?_) (fun c4 => ?_)
        · skip
          have hq := hq.trans (if_neg c4)
          refine lv_aload_n hx hb dX5_jokers_115 rfl (lv_at hl 6 rfl) ?_
          refine w_get (v := .ref x_no) hx hb hts i_X5 hown hK w h_x rfl 0 (by decide) (hts _ m_4) rfl dX5_jokers_116 ?_
          refine w_get (v := .int x_no_up) hx hb hts i_X0 hown hK w h_x_no rfl 0 (by decide) (hts _ m_8) rfl dX5_jokers_119 ?_
          refine lv_iload hx hb dX5_jokers_122 (lv_at hl 2 rfl) ?_
          refine lv_iload hx hb dX5_jokers_124 (lv_at hl 1 rfl) ?_
          refine lv_imul hx hb dX5_jokers_126 ?_
          refine lv_iload hx hb dX5_jokers_127 (lv_at hl 0 rfl) ?_
          refine lv_iload hx hb dX5_jokers_129 (lv_at hl 3 rfl) ?_
          refine lv_imul hx hb dX5_jokers_131 ?_
          refine lv_isub hx hb dX5_jokers_132 ?_
          refine lv_imul hx hb dX5_jokers_133 ?_
          refine lv_istore (lv' := [(9, .int (x_no_up * (((f_X3_sum (rw_sz (d.toNatClampNeg)) (el_f (d.toNatClampNeg))) * ((rw_sz (d.toNatClampNeg)) - (f_X3_countOf x_no_high (rw_sz (d.toNatClampNeg)) (el_f (d.toNatClampNeg))))) - (((f_X3_sum (rw_sz (d.toNatClampNeg)) (el_f (d.toNatClampNeg))) - (((rw_sz (d.toNatClampNeg)) - ((rw_sz (d.toNatClampNeg)) - (f_X3_countOf x_no_high (rw_sz (d.toNatClampNeg)) (el_f (d.toNatClampNeg))))) * x_no_high)) * (rw_sz (d.toNatClampNeg)))))), (8, .int ((f_X3_sum (rw_sz (d.toNatClampNeg)) (el_f (d.toNatClampNeg))) - (((rw_sz (d.toNatClampNeg)) - ((rw_sz (d.toNatClampNeg)) - (f_X3_countOf x_no_high (rw_sz (d.toNatClampNeg)) (el_f (d.toNatClampNeg))))) * x_no_high))), (7, .int ((rw_sz (d.toNatClampNeg)) - (f_X3_countOf x_no_high (rw_sz (d.toNatClampNeg)) (el_f (d.toNatClampNeg))))), (6, .int (f_X3_sum (rw_sz (d.toNatClampNeg)) (el_f (d.toNatClampNeg)))), (5, .int (rw_sz (d.toNatClampNeg))), (4, .int (f_X5_cardsRefusal x_no_high (sh_ho (d.toNatClampNeg)) (rw_sz (d.toNatClampNeg)) (el_f (d.toNatClampNeg)))), (3, .ref (sh (d.toNatClampNeg))), (0, .ref x), (1, .int d), (2, .int part)]) hx hb dX5_jokers_134 hl (by decide) rfl (fun ls hl => ?_)
          refine lv_iload hx hb dX5_jokers_136 (lv_at hl 0 rfl) ?_
          refine lv_aload_n hx hb dX5_jokers_138 rfl (lv_at hl 7 rfl) ?_
          refine w_get (v := .ref x_no) hx hb hts i_X5 hown hK w h_x rfl 0 (by decide) (hts _ m_4) rfl dX5_jokers_139 ?_
          refine w_get (v := .int x_no_down) hx hb hts i_X0 hown hK w h_x_no rfl 1 (by decide) (hts _ m_9) rfl dX5_jokers_142 ?_
          refine lv_iload hx hb dX5_jokers_145 (lv_at hl 4 rfl) ?_
          refine lv_imul hx hb dX5_jokers_147 ?_
          refine lv_iload hx hb dX5_jokers_148 (lv_at hl 2 rfl) ?_
          refine lv_imul hx hb dX5_jokers_150 ?_
          refine lv_iload_n hx hb dX5_jokers_151 rfl (lv_at hl 9 rfl) ?_
          refine w_finI (w_runS (rm := ({ frames := 1, cells := 0, slots := 0, locals := 25 } : Room)) (As := [.int (x_no_up * (((f_X3_sum (rw_sz (d.toNatClampNeg)) (el_f (d.toNatClampNeg))) * ((rw_sz (d.toNatClampNeg)) - (f_X3_countOf x_no_high (rw_sz (d.toNatClampNeg)) (el_f (d.toNatClampNeg))))) - (((f_X3_sum (rw_sz (d.toNatClampNeg)) (el_f (d.toNatClampNeg))) - (((rw_sz (d.toNatClampNeg)) - ((rw_sz (d.toNatClampNeg)) - (f_X3_countOf x_no_high (rw_sz (d.toNatClampNeg)) (el_f (d.toNatClampNeg))))) * x_no_high)) * (rw_sz (d.toNatClampNeg))))), .int ((x_no_down * (rw_sz (d.toNatClampNeg))) * ((rw_sz (d.toNatClampNeg)) - (f_X3_countOf x_no_high (rw_sz (d.toNatClampNeg)) (el_f (d.toNatClampNeg))))), .int part]) (rest := []) (n := 3) hx hb hml hts hown hK w (c_X5_leastPart l D cI cP cS cL L _ (x_no_up * (((f_X3_sum (rw_sz (d.toNatClampNeg)) (el_f (d.toNatClampNeg))) * ((rw_sz (d.toNatClampNeg)) - (f_X3_countOf x_no_high (rw_sz (d.toNatClampNeg)) (el_f (d.toNatClampNeg))))) - (((f_X3_sum (rw_sz (d.toNatClampNeg)) (el_f (d.toNatClampNeg))) - (((rw_sz (d.toNatClampNeg)) - ((rw_sz (d.toNatClampNeg)) - (f_X3_countOf x_no_high (rw_sz (d.toNatClampNeg)) (el_f (d.toNatClampNeg))))) * x_no_high)) * (rw_sz (d.toNatClampNeg))))) ((x_no_down * (rw_sz (d.toNatClampNeg))) * ((rw_sz (d.toNatClampNeg)) - (f_X3_countOf x_no_high (rw_sz (d.toNatClampNeg)) (el_f (d.toNatClampNeg))))) part ) gX5_jokers_X5_leastPart rfl rfl rfl (by decide +kernel) ⟨(Nat.le_of_ble_eq_true rfl), (Nat.le_of_ble_eq_true rfl)⟩ rfl hl.1 rfl (Nat.le_of_ble_eq_true rfl) dX5_jokers_152 ⟨(Nat.le_of_ble_eq_true rfl), (Nat.le_of_ble_eq_true rfl)⟩) w hA (fun H locs w => ?_)
          exact w_iret hx hb hr hlocks w ⟨hq.symm, rfl, rfl⟩ (Nat.le_refl _) (Nat.le_refl _) dX5_jokers_155
        · skip
          have hq := hq.trans (if_pos c4)
          refine lv_aload_n hx hb dX5_jokers_90 rfl (lv_at hl 6 rfl) ?_
          refine w_get (v := .ref x_no) hx hb hts i_X5 hown hK w h_x rfl 0 (by decide) (hts _ m_4) rfl dX5_jokers_91 ?_
          refine w_get (v := .int x_no_up) hx hb hts i_X0 hown hK w h_x_no rfl 0 (by decide) (hts _ m_8) rfl dX5_jokers_94 ?_
          refine lv_iload hx hb dX5_jokers_97 (lv_at hl 2 rfl) ?_
          refine lv_imul hx hb dX5_jokers_99 ?_
          refine lv_aload_n hx hb dX5_jokers_100 rfl (lv_at hl 6 rfl) ?_
          refine w_get (v := .ref x_no) hx hb hts i_X5 hown hK w h_x rfl 0 (by decide) (hts _ m_4) rfl dX5_jokers_101 ?_
          refine w_get (v := .int x_no_down) hx hb hts i_X0 hown hK w h_x_no rfl 1 (by decide) (hts _ m_9) rfl dX5_jokers_104 ?_
          refine lv_iload hx hb dX5_jokers_107 (lv_at hl 3 rfl) ?_
          refine lv_imul hx hb dX5_jokers_109 ?_
          refine lv_iload_n hx hb dX5_jokers_110 rfl (lv_at hl 8 rfl) ?_
          refine w_finI (w_runS (rm := ({ frames := 1, cells := 0, slots := 0, locals := 25 } : Room)) (As := [.int (x_no_up * (f_X3_sum (rw_sz (d.toNatClampNeg)) (el_f (d.toNatClampNeg)))), .int (x_no_down * (rw_sz (d.toNatClampNeg))), .int part]) (rest := []) (n := 3) hx hb hml hts hown hK w (c_X5_leastPart l D cI cP cS cL L _ (x_no_up * (f_X3_sum (rw_sz (d.toNatClampNeg)) (el_f (d.toNatClampNeg)))) (x_no_down * (rw_sz (d.toNatClampNeg))) part ) gX5_jokers_X5_leastPart rfl rfl rfl (by decide +kernel) ⟨(Nat.le_of_ble_eq_true rfl), (Nat.le_of_ble_eq_true rfl)⟩ rfl hl.1 rfl (Nat.le_of_ble_eq_true rfl) dX5_jokers_111 ⟨(Nat.le_of_ble_eq_true rfl), (Nat.le_of_ble_eq_true rfl)⟩) w hA (fun H locs w => ?_)
          exact w_iret hx hb hr hlocks w ⟨hq.symm, rfl, rfl⟩ (Nat.le_refl _) (Nat.le_refl _) dX5_jokers_114
      · skip
        have hq := hq.trans (if_neg c3)
        refine lv_iload hx hb dX5_jokers_27 (lv_at hl 0 rfl) ?_
        exact w_iret hx hb hr hlocks w ⟨hq.symm, rfl, rfl⟩ (Nat.le_refl _) (Nat.le_refl _) dX5_jokers_29
    · skip
      have hq := hq.trans (if_pos c2)
      refine lv_iconst (v := (-1)) hx hb dX5_jokers_13 (by decide) ?_
      exact w_iret hx hb hr hlocks w ⟨hq.symm, rfl, rfl⟩ (Nat.le_refl _) (Nat.le_refl _) dX5_jokers_14
  · skip
    have hq := hq.trans (if_neg c1)
    refine w_finQ (v := .null) (by unfold f_X5_shelfAt_none; first | rfl | (split <;> rfl)) (w_runV (rm := ({ frames := 0, cells := 0, slots := 0, locals := 0 } : Room)) (As := [.int d]) (rest := []) (n := 1) hx hb hml hts hown hK w (c_X5_shelfAt_none l D cI cP cS cL L _ x d x_no x_ke x_mi x_im x_sh x_co x_ot sh h_x h_x_sh c1) gX5_jokers_X5_shelfAt rfl rfl rfl (by decide +kernel) ⟨(Nat.le_of_ble_eq_true rfl), (Nat.le_of_ble_eq_true rfl)⟩ h_x rfl rfl hl.1 rfl (Nat.le_of_ble_eq_true rfl) dX5_jokers_2 ⟨(Nat.le_of_ble_eq_true rfl), (Nat.le_of_ble_eq_true rfl)⟩) w hA (fun H locs w => ?_)
    refine lv_astore_nN (lv' := [(3, .null), (0, .ref x), (1, .int d), (2, .int part)]) hx hb dX5_jokers_5 rfl hl (by decide) rfl (fun ls hl => ?_)
    refine lv_iload_n hx hb dX5_jokers_6 rfl (lv_at hl 3 rfl) ?_
    refine w_finI (w_runS (rm := ({ frames := 0, cells := 0, slots := 0, locals := 0 } : Room)) (As := [.int part]) (rest := []) (n := 1) hx hb hml hts hown hK w (c_X5_isOneOfTwo l D cI cP cS cL L _ part ) gX5_jokers_X5_isOneOfTwo rfl rfl rfl (by decide +kernel) ⟨(Nat.le_of_ble_eq_true rfl), (Nat.le_of_ble_eq_true rfl)⟩ rfl hl.1 rfl (Nat.le_of_ble_eq_true rfl) dX5_jokers_7 ⟨(Nat.le_of_ble_eq_true rfl), (Nat.le_of_ble_eq_true rfl)⟩) w hA (fun H locs w => ?_)
    refine lv_if_ne (tgt := 15) hx hb dX5_jokers_10 (by decide) (fun c5 => ?_) (fun c5 => ?_)
    · skip
      have hq := hq.trans (if_neg c5)
      refine lv_aload_n hx hb dX5_jokers_15 rfl (lv_at hl 1 rfl) ?_
      refine lv_aload_nN hx hb dX5_jokers_16 rfl (lv_at hl 0 rfl) ?_
      refine w_finI (r := (-1)) (w_runV (rm := ({ frames := 2, cells := 0, slots := 0, locals := 41 } : Room)) (As := [.null]) (rest := []) (n := 1) hx hb hml hts hown hK w (c_X5_cardsRefusal_n l D cI cP cS cL L _ x x_no x_ke x_mi x_im x_sh x_co x_ot h_x) gX5_jokers_X5_cardsRefusal rfl rfl rfl (by decide +kernel) ⟨(Nat.le_of_ble_eq_true rfl), (Nat.le_of_ble_eq_true rfl)⟩ h_x rfl rfl hl.1 rfl (Nat.le_of_ble_eq_true rfl) dX5_jokers_17 ⟨(Nat.le_of_ble_eq_true rfl), (Nat.le_of_ble_eq_true rfl)⟩) w hA (fun H locs w => ?_)
      refine lv_istore (lv' := [(4, .int (-1)), (3, .null), (0, .ref x), (1, .int d), (2, .int part)]) hx hb dX5_jokers_20 hl (by decide) rfl (fun ls hl => ?_)
      refine lv_iload hx hb dX5_jokers_22 (lv_at hl 0 rfl) ?_
      refine lv_if_eq (tgt := 30) hx hb dX5_jokers_24 (by decide) (fun c => absurd c (by decide)) (fun _ => ?_)
      refine lv_iload hx hb dX5_jokers_27 (lv_at hl 0 rfl) ?_
      exact w_iret hx hb hr hlocks w ⟨hq.symm, rfl, rfl⟩ (Nat.le_refl _) (Nat.le_refl _) dX5_jokers_29
    · skip
      have hq := hq.trans (if_pos c5)
      refine lv_iconst (v := (-1)) hx hb dX5_jokers_13 (by decide) ?_
      exact w_iret hx hb hr hlocks w ⟨hq.symm, rfl, rfl⟩ (Nat.le_refl _) (Nat.le_refl _) dX5_jokers_14
def f_X5_differ_L98 (d : Int32) (e0 : Int32) (rw_sz : Nat → Int32) (x73 : (Nat → Int32)) (x89 : (Nat → Int32)) : Nat → Nat → Int32 → Int32 × (Nat → Int32) × (Nat → Int32)
  | 0, _, _ => (0, (fun _ => 0), (fun _ => 0))
  | n + 1, k, v6 => if (9 : Int32) < (nI k) then (v6, x73, x89) else (f_X5_differ_L98 d e0 rw_sz x73 x89 n ((k + 1)) (v6 + (if 0 ≤ (((x73 k) * (rw_sz (e0.toNatClampNeg))) - ((x89 k) * (rw_sz (d.toNatClampNeg)))) then (((x73 k) * (rw_sz (e0.toNatClampNeg))) - ((x89 k) * (rw_sz (d.toNatClampNeg)))) else 0 - (((x73 k) * (rw_sz (e0.toNatClampNeg))) - ((x89 k) * (rw_sz (d.toNatClampNeg)))))))
theorem f_X5_differ_L98_s (d : Int32) (e0 : Int32) (rw_sz : Nat → Int32) (x73 : (Nat → Int32)) (x89 : (Nat → Int32)) (n k : Nat) (v6 : Int32) : f_X5_differ_L98 d e0 rw_sz x73 x89 (n + 1) k v6 = (if (9 : Int32) < (nI k) then (v6, x73, x89) else (f_X5_differ_L98 d e0 rw_sz x73 x89 n ((k + 1)) (v6 + (if 0 ≤ (((x73 k) * (rw_sz (e0.toNatClampNeg))) - ((x89 k) * (rw_sz (d.toNatClampNeg)))) then (((x73 k) * (rw_sz (e0.toNatClampNeg))) - ((x89 k) * (rw_sz (d.toNatClampNeg)))) else 0 - (((x73 k) * (rw_sz (e0.toNatClampNeg))) - ((x89 k) * (rw_sz (d.toNatClampNeg)))))))) := rfl
def f_X5_differ (d : Int32) (e0 : Int32) (x_no_up : Int32) (x_no_down : Int32) (x_no_high : Int32) (x_co_f : Nat → Int32) (x_ot_f : Nat → Int32) (sh_ho : Nat → Int32) (rw_sz : Nat → Int32) (el_f : Nat → Nat → Int32) : Int32 × (Nat → Int32) × (Nat → Int32) := if (¬ d < 0 ∧ ¬ (8 : Int32) ≤ d) then (if (¬ e0 < 0 ∧ ¬ (8 : Int32) ≤ e0) then (if (f_X5_twoRowsRefusal (sh_ho (d.toNatClampNeg)) (sh_ho (e0.toNatClampNeg))) = (0 : Int32) then (if (f_X0_areCards x_no_high (rw_sz (d.toNatClampNeg)) (el_f (d.toNatClampNeg))) = (0 : Int32) then ((-13), x_co_f, x_ot_f) else (if (f_X0_areCards x_no_high (rw_sz (e0.toNatClampNeg)) (el_f (e0.toNatClampNeg))) = (0 : Int32) then ((-13), x_co_f, x_ot_f) else (bnd (f_X0_countSteps x_no_up x_no_down x_no_high (rw_sz (d.toNatClampNeg)) (el_f (d.toNatClampNeg)) x_co_f) (fun x73 : (Nat → Int32) => (bnd (f_X0_countSteps x_no_up x_no_down x_no_high (rw_sz (e0.toNatClampNeg)) (el_f (e0.toNatClampNeg)) x_ot_f) (fun x89 : (Nat → Int32) => f_X5_differ_L98 d e0 rw_sz x73 x89 (10 + 1) 0 0)))))) else ((f_X5_twoRowsRefusal (sh_ho (d.toNatClampNeg)) (sh_ho (e0.toNatClampNeg))), x_co_f, x_ot_f)) else ((-1), x_co_f, x_ot_f)) else (if (¬ e0 < 0 ∧ ¬ (8 : Int32) ≤ e0) then ((-1), x_co_f, x_ot_f) else ((-1), x_co_f, x_ot_f))
set_option maxHeartbeats 400000 in
set_option maxRecDepth 100000 in
theorem c_X5_differ (l : Launch) (D : va_G) (cI cP cS cL : ClassId) (L : List Nat) (F : Nat → va_E) (x : Nat) (d : Int32) (e0 : Int32) (x_no : Nat) (x_ke : Nat) (x_mi : Nat) (x_im : Int32) (x_sh : Nat) (x_co : Nat) (x_ot : Nat) (x_no_up : Int32) (x_no_down : Int32) (x_no_high : Int32) (x_no_prize : Int32) (x_no_z : Int32) (x_no_rounds : Int32) (x_no_people : Int32) (x_no_pa : Nat) (x_no_cr : Nat) (x_no_ls : Int32) (x_co_f : Nat → Int32) (x_ot_f : Nat → Int32) (sh : Nat → Nat) (sh_ho : Nat → Int32) (rw : Nat → Nat) (sp : Nat → Nat) (el : Nat → Nat) (rw_so : Nat → Int32) (rw_sz : Nat → Int32) (el_f : Nat → Nat → Int32) (h_x : wi L F x (eX x_no x_ke x_mi x_im x_sh x_co x_ot)) (h_x_no : wi L F x_no (eG x_no_up x_no_down x_no_high x_no_prize x_no_z x_no_rounds x_no_people x_no_pa x_no_cr x_no_ls)) (h_x_sh : wi L F x_sh (eQ cS 8 (fun i => some (sh i)))) (h_x_co : wi L F x_co (eI cI 10 x_co_f)) (h_x_ot : wi L F x_ot (eI cI 10 x_ot_f)) (h_sh : ∀ i, i < 8 → wi L F (sh i) (eS (sh_ho i) (rw i) (sp i))) (h_rw : ∀ i, i < 8 → wi L F (rw i) (eR (el i) (rw_so i) (rw_sz i))) (h_el : ∀ i, i < 8 → wi L F (el i) (eI cI 100 (el_f i))) (hzs : ∀ i, i < 8 → (rw_sz i).toInt ≤ 100) (ne_el_x_co : ∀ i, i < 8 → el i ≠ x_co) (ne_x_ot_x_co : x_ot ≠ x_co) (ne_el_x_ot : ∀ i, i < 8 → el i ≠ x_ot) (ne_x_co_x_ot : x_co ≠ x_ot) : wMj l D cI cP cS cL yX5_differ wsX5_differ ({ frames := 4, cells := 0, slots := 0, locals := 92 } : Room) [.ref x, .int d, .int e0] L F (fun r1 F1 => ∃ y9 : Int32 × (Nat → Int32) × (Nat → Int32), y9 = (f_X5_differ d e0 x_no_up x_no_down x_no_high x_co_f x_ot_f sh_ho rw_sz el_f) ∧ r1 = y9.1 ∧ F1 x_co = (eI cI 10 y9.2.1) ∧ F1 x_ot = (eI cI 10 y9.2.2) ∧ wk (fun q : Nat => q ≠ x_co ∧ q ≠ x_ot ∧ True) F1 F) := by
  refine wM.of (cc := cX5_differ) (maxL := 8) (ret := (some .int)) (by decide) rfl (Nat.le_of_ble_eq_true rfl) ?_
  intro pZ eZ sZ mZ below meth cZ A ls C hl w
  obtain ⟨hx, hb, hr, hml, hts, hown, hlocks, hK, hA, hin⟩ := C
  have hown : sZ.vm.findClass RX5 = some mZ.cls := hown
  have hl : lv_has ls 8 [(0, .ref x), (1, .int d), (2, .int e0)] := hl
  have m_0 : ((.fieldLink RX5 10 "TwoThirds" "now" "LTwoThirds$Game;") : Cond) ∈ wsX5_differ := by decide +kernel
  have i_X5 : ∀ w ∈ wsX50, w ∈ wsX5_differ := by decide +kernel
  have m_2 : ((.fieldLink RX5 44 "TwoThirds$Shelf" "row" "LTwoThirds$Row;") : Cond) ∈ wsX5_differ := by decide +kernel
  have i_X4 : ∀ w ∈ wsX40, w ∈ wsX5_differ := by decide +kernel
  have m_4 : ((.fieldLink RX5 29 "TwoThirds" "counts" "[I") : Cond) ∈ wsX5_differ := by decide +kernel
  have m_5 : ((.fieldLink RX5 33 "TwoThirds" "otherCounts" "[I") : Cond) ∈ wsX5_differ := by decide +kernel
  have m_6 : ((.fieldLink RX5 167 "TwoThirds$Row" "size" "I") : Cond) ∈ wsX5_differ := by decide +kernel
  have i_X3 : ∀ w ∈ wsX30, w ∈ wsX5_differ := by decide +kernel
  have m_8 : ((.methodLink RX5 200 Lib.Math.abs.name) : Cond) ∈ wsX5_differ := by decide +kernel
  have m_9 : ((.static Lib.Math.abs.name) : Cond) ∈ wsX5_differ := by decide +kernel
  have m_10 : ((.initialized "java/lang/Math") : Cond) ∈ wsX5_differ := by decide +kernel
  have m_11 : ((.code Lib.Math.abs.name Lib.Math.abs.code 1 (some .int)) : Cond) ∈ wsX5_differ := by decide +kernel
  have hk : wk (fun q : Nat => q ≠ x_co ∧ q ≠ x_ot ∧ True) F F := wk.rf
  have hq : f_X5_differ d e0 x_no_up x_no_down x_no_high x_co_f x_ot_f sh_ho rw_sz el_f = f_X5_differ d e0 x_no_up x_no_down x_no_high x_co_f x_ot_f sh_ho rw_sz el_f := rfl
  refine lv_aload_n hx hb dX5_differ_0 rfl (lv_at hl 0 rfl) ?_
  refine lv_iload_n hx hb dX5_differ_1 rfl (lv_at hl 1 rfl) ?_
  by_cases c1 : (¬ d < 0 ∧ ¬ (8 : Int32) ≤ d)
  · skip
    have hq := hq.trans (if_pos c1)
    have hlt_C : d.toNatClampNeg < 8 := w_okP (n := 8) c1 (by decide)
    refine w_finQ (v := .ref (sh (d.toNatClampNeg))) rfl (w_runV (rm := ({ frames := 0, cells := 0, slots := 0, locals := 0 } : Room)) (As := [.int d]) (rest := []) (n := 1) hx hb hml hts hown hK w (c_X5_shelfAt_some l D cI cP cS cL L _ x d x_no x_ke x_mi x_im x_sh x_co x_ot sh sh_ho rw sp h_x h_x_sh h_sh c1) gX5_differ_X5_shelfAt rfl rfl rfl (by decide +kernel) ⟨(Nat.le_of_ble_eq_true rfl), (Nat.le_of_ble_eq_true rfl)⟩ h_x rfl rfl hl.1 rfl (Nat.le_of_ble_eq_true rfl) dX5_differ_2 ⟨(Nat.le_of_ble_eq_true rfl), (Nat.le_of_ble_eq_true rfl)⟩) w hA (fun H locs w => ?_)
    refine lv_astore_n (lv' := [(3, .ref (sh (d.toNatClampNeg))), (0, .ref x), (1, .int d), (2, .int e0)]) hx hb dX5_differ_5 rfl hl (by decide) rfl (fun ls hl => ?_)
    refine lv_aload_n hx hb dX5_differ_6 rfl (lv_at hl 1 rfl) ?_
    refine lv_iload_n hx hb dX5_differ_7 rfl (lv_at hl 3 rfl) ?_
    by_cases c2 : (¬ e0 < 0 ∧ ¬ (8 : Int32) ≤ e0)
    · skip
      have hq := hq.trans (if_pos c2)
      have hlt_C : e0.toNatClampNeg < 8 := w_okP (n := 8) c2 (by decide)
      refine w_finQ (v := .ref (sh (e0.toNatClampNeg))) rfl (w_runV (rm := ({ frames := 0, cells := 0, slots := 0, locals := 0 } : Room)) (As := [.int e0]) (rest := []) (n := 1) hx hb hml hts hown hK w (c_X5_shelfAt_some l D cI cP cS cL L _ x e0 x_no x_ke x_mi x_im x_sh x_co x_ot sh sh_ho rw sp h_x h_x_sh h_sh c2) gX5_differ_X5_shelfAt rfl rfl rfl (by decide +kernel) ⟨(Nat.le_of_ble_eq_true rfl), (Nat.le_of_ble_eq_true rfl)⟩ h_x rfl rfl hl.1 rfl (Nat.le_of_ble_eq_true rfl) dX5_differ_8 ⟨(Nat.le_of_ble_eq_true rfl), (Nat.le_of_ble_eq_true rfl)⟩) w hA (fun H locs w => ?_)
      refine lv_astore (lv' := [(4, .ref (sh (e0.toNatClampNeg))), (3, .ref (sh (d.toNatClampNeg))), (0, .ref x), (1, .int d), (2, .int e0)]) hx hb dX5_differ_11 hl (by decide) rfl (fun ls hl => ?_)
      refine lv_aload_n hx hb dX5_differ_13 rfl (lv_at hl 1 rfl) ?_
      refine lv_aload hx hb dX5_differ_14 (lv_at hl 0 rfl) ?_
      refine w_finI (w_runS (rm := ({ frames := 0, cells := 0, slots := 0, locals := 0 } : Room)) (As := [.ref (sh (d.toNatClampNeg)), .ref (sh (e0.toNatClampNeg))]) (rest := []) (n := 2) hx hb hml hts hown hK w (c_X5_twoRowsRefusal l D cI cP cS cL L _ (sh (d.toNatClampNeg)) (sh (e0.toNatClampNeg)) (sh_ho (d.toNatClampNeg)) (rw (d.toNatClampNeg)) (sp (d.toNatClampNeg)) (sh_ho (e0.toNatClampNeg)) (rw (e0.toNatClampNeg)) (sp (e0.toNatClampNeg)) (h_sh (d.toNatClampNeg) (by omega)) (h_sh (e0.toNatClampNeg) (by omega))) gX5_differ_X5_twoRowsRefusal rfl rfl rfl (by decide +kernel) ⟨(Nat.le_of_ble_eq_true rfl), (Nat.le_of_ble_eq_true rfl)⟩ rfl hl.1 rfl (Nat.le_of_ble_eq_true rfl) dX5_differ_16 ⟨(Nat.le_of_ble_eq_true rfl), (Nat.le_of_ble_eq_true rfl)⟩) w hA (fun H locs w => ?_)
      refine lv_istore (lv' := [(5, .int (f_X5_twoRowsRefusal (sh_ho (d.toNatClampNeg)) (sh_ho (e0.toNatClampNeg)))), (4, .ref (sh (e0.toNatClampNeg))), (3, .ref (sh (d.toNatClampNeg))), (0, .ref x), (1, .int d), (2, .int e0)]) hx hb dX5_differ_19 hl (by decide) rfl (fun ls hl => ?_)
      refine lv_iload hx hb dX5_differ_21 (lv_at hl 0 rfl) ?_
      refine lv_if_eq (tgt := 29) hx hb dX5_differ_23 (by decide) (fun c3 => ?_) (fun c3 => ?_)
      · skip
        have hq := hq.trans (if_pos c3)
        refine lv_aload_n hx hb dX5_differ_29 rfl (lv_at hl 3 rfl) ?_
        refine w_get (v := .ref x_no) hx hb hts i_X5 hown hK w h_x rfl 0 (by decide) (hts _ m_0) rfl dX5_differ_30 ?_
        refine lv_aload_n hx hb dX5_differ_33 rfl (lv_at hl 2 rfl) ?_
        refine w_get (v := .ref (rw (d.toNatClampNeg))) hx hb hts i_X4 hown hK w (h_sh (d.toNatClampNeg) (by omega)) rfl 1 (by decide) (hts _ m_2) rfl dX5_differ_34 ?_
        refine w_finI (w_runV (rm := ({ frames := 1, cells := 0, slots := 0, locals := 21 } : Room)) (As := [.ref (rw (d.toNatClampNeg))]) (rest := []) (n := 1) hx hb hml hts hown hK w (c_X0_areCards l D cI cP cS cL L _ x_no (rw (d.toNatClampNeg)) x_no_up x_no_down x_no_high x_no_prize x_no_z x_no_rounds x_no_people x_no_pa x_no_cr x_no_ls (el (d.toNatClampNeg)) (rw_so (d.toNatClampNeg)) (rw_sz (d.toNatClampNeg)) 100 (el_f (d.toNatClampNeg)) h_x_no (h_rw (d.toNatClampNeg) (by omega)) (h_el (d.toNatClampNeg) (by omega)) (hzs (d.toNatClampNeg) (by omega))) gX5_differ_X0_areCards rfl rfl rfl (by decide +kernel) ⟨(Nat.le_of_ble_eq_true rfl), (Nat.le_of_ble_eq_true rfl)⟩ h_x_no rfl rfl hl.1 rfl (Nat.le_of_ble_eq_true rfl) dX5_differ_37 ⟨(Nat.le_of_ble_eq_true rfl), (Nat.le_of_ble_eq_true rfl)⟩) w hA (fun H locs w => ?_)
        refine lv_if_eq (tgt := 58) hx hb dX5_differ_40 (by decide) (fun c4 => ?_) (fun c4 => ?_)
        · skip
          have hq := hq.trans (if_pos c4)
          refine lv_bipush (v := (-13)) hx hb dX5_differ_58 (by decide) ?_
          exact w_iret hx hb hr hlocks w ⟨rfl, _, hq.symm, rfl, h_x_co.2, h_x_ot.2, hk⟩ (Nat.le_refl _) (Nat.le_refl _) dX5_differ_60
        · skip
          have hq := hq.trans (if_neg c4)
          refine lv_aload_n hx hb dX5_differ_43 rfl (lv_at hl 3 rfl) ?_
          refine w_get (v := .ref x_no) hx hb hts i_X5 hown hK w h_x rfl 0 (by decide) (hts _ m_0) rfl dX5_differ_44 ?_
          refine lv_aload hx hb dX5_differ_47 (lv_at hl 1 rfl) ?_
          refine w_get (v := .ref (rw (e0.toNatClampNeg))) hx hb hts i_X4 hown hK w (h_sh (e0.toNatClampNeg) (by omega)) rfl 1 (by decide) (hts _ m_2) rfl dX5_differ_49 ?_
          refine w_finI (w_runV (rm := ({ frames := 1, cells := 0, slots := 0, locals := 21 } : Room)) (As := [.ref (rw (e0.toNatClampNeg))]) (rest := []) (n := 1) hx hb hml hts hown hK w (c_X0_areCards l D cI cP cS cL L _ x_no (rw (e0.toNatClampNeg)) x_no_up x_no_down x_no_high x_no_prize x_no_z x_no_rounds x_no_people x_no_pa x_no_cr x_no_ls (el (e0.toNatClampNeg)) (rw_so (e0.toNatClampNeg)) (rw_sz (e0.toNatClampNeg)) 100 (el_f (e0.toNatClampNeg)) h_x_no (h_rw (e0.toNatClampNeg) (by omega)) (h_el (e0.toNatClampNeg) (by omega)) (hzs (e0.toNatClampNeg) (by omega))) gX5_differ_X0_areCards rfl rfl rfl (by decide +kernel) ⟨(Nat.le_of_ble_eq_true rfl), (Nat.le_of_ble_eq_true rfl)⟩ h_x_no rfl rfl hl.1 rfl (Nat.le_of_ble_eq_true rfl) dX5_differ_52 ⟨(Nat.le_of_ble_eq_true rfl), (Nat.le_of_ble_eq_true rfl)⟩) w hA (fun H locs w => ?_)
          refine lv_if_ne (tgt := 61) hx hb dX5_differ_55 (by decide) (fun c5 => ?_) (fun c5 => ?_)
          · skip
            have hq := hq.trans (if_neg c5)
            refine lv_aload_n hx hb dX5_differ_61 rfl (lv_at hl 3 rfl) ?_
            refine w_get (v := .ref x_no) hx hb hts i_X5 hown hK w h_x rfl 0 (by decide) (hts _ m_0) rfl dX5_differ_62 ?_
            refine lv_aload_n hx hb dX5_differ_65 rfl (lv_at hl 2 rfl) ?_
            refine w_get (v := .ref (rw (d.toNatClampNeg))) hx hb hts i_X4 hown hK w (h_sh (d.toNatClampNeg) (by omega)) rfl 1 (by decide) (hts _ m_2) rfl dX5_differ_66 ?_
            refine lv_aload_n hx hb dX5_differ_69 rfl (lv_at hl 3 rfl) ?_
            refine w_get (v := .ref x_co) hx hb hts i_X5 hown hK w h_x rfl 5 (by decide) (hts _ m_4) rfl dX5_differ_70 ?_
            refine w_finw (w_runV (rm := ({ frames := 3, cells := 0, slots := 0, locals := 68 } : Room)) (As := [.ref (rw (d.toNatClampNeg)), .ref x_co]) (rest := []) (n := 2) hx hb hml hts hown hK w (c_X0_countSteps l D cI cP cS cL L _ x_no (rw (d.toNatClampNeg)) x_co x_no_up x_no_down x_no_high x_no_prize x_no_z x_no_rounds x_no_people x_no_pa x_no_cr x_no_ls (el (d.toNatClampNeg)) (rw_so (d.toNatClampNeg)) (rw_sz (d.toNatClampNeg)) 100 (el_f (d.toNatClampNeg)) x_co_f h_x_no (h_rw (d.toNatClampNeg) (by omega)) (h_el (d.toNatClampNeg) (by omega)) h_x_co (hzs (d.toNatClampNeg) (by omega)) (ne_el_x_co (d.toNatClampNeg) (by omega))) gX5_differ_X0_countSteps rfl rfl rfl (by decide +kernel) ⟨(Nat.le_of_ble_eq_true rfl), (Nat.le_of_ble_eq_true rfl)⟩ h_x_no rfl rfl hl.1 rfl (Nat.le_of_ble_eq_true rfl) dX5_differ_73 ⟨(Nat.le_of_ble_eq_true rfl), (Nat.le_of_ble_eq_true rfl)⟩) w hA (fun F1 H locs hp w => ?_)
            obtain ⟨x73, hx73, hw0, hk9⟩ := hp
            have hq := hq.trans (w_bnd hx73)
            have h_x := h_x.keep hk9 ⟨(wi.ne h_x h_x_co (by intro h; cases h)), trivial⟩
            have h_x_no := h_x_no.keep hk9 ⟨(wi.ne h_x_no h_x_co (by intro h; cases h)), trivial⟩
            have h_x_sh := h_x_sh.keep hk9 ⟨(wi.ne h_x_sh h_x_co (by intro h; cases h)), trivial⟩
            have h_x_ot := h_x_ot.keep hk9 ⟨ne_x_ot_x_co, trivial⟩
            have h_sh := fun i (hi : i < 8) => (h_sh i hi).keep hk9 ⟨(wi.ne (h_sh i hi) h_x_co (by intro h; cases h)), trivial⟩
            have h_rw := fun i (hi : i < 8) => (h_rw i hi).keep hk9 ⟨(wi.ne (h_rw i hi) h_x_co (by intro h; cases h)), trivial⟩
            have h_el := fun i (hi : i < 8) => (h_el i hi).keep hk9 ⟨(ne_el_x_co i hi), trivial⟩
            have h_x_co := h_x_co.new hw0
            have hk := hk.call hk9 (fun q h => ⟨h.1, trivial⟩)
            refine lv_aload_n hx hb dX5_differ_76 rfl (lv_at hl 3 rfl) ?_
            refine w_get (v := .ref x_no) hx hb hts i_X5 hown hK w h_x rfl 0 (by decide) (hts _ m_0) rfl dX5_differ_77 ?_
            refine lv_aload hx hb dX5_differ_80 (lv_at hl 1 rfl) ?_
            refine w_get (v := .ref (rw (e0.toNatClampNeg))) hx hb hts i_X4 hown hK w (h_sh (e0.toNatClampNeg) (by omega)) rfl 1 (by decide) (hts _ m_2) rfl dX5_differ_82 ?_
            refine lv_aload_n hx hb dX5_differ_85 rfl (lv_at hl 3 rfl) ?_
            refine w_get (v := .ref x_ot) hx hb hts i_X5 hown hK w h_x rfl 6 (by decide) (hts _ m_5) rfl dX5_differ_86 ?_
            refine w_finw (w_runV (rm := ({ frames := 3, cells := 0, slots := 0, locals := 68 } : Room)) (As := [.ref (rw (e0.toNatClampNeg)), .ref x_ot]) (rest := []) (n := 2) hx hb hml hts hown hK w (c_X0_countSteps l D cI cP cS cL L _ x_no (rw (e0.toNatClampNeg)) x_ot x_no_up x_no_down x_no_high x_no_prize x_no_z x_no_rounds x_no_people x_no_pa x_no_cr x_no_ls (el (e0.toNatClampNeg)) (rw_so (e0.toNatClampNeg)) (rw_sz (e0.toNatClampNeg)) 100 (el_f (e0.toNatClampNeg)) x_ot_f h_x_no (h_rw (e0.toNatClampNeg) (by omega)) (h_el (e0.toNatClampNeg) (by omega)) h_x_ot (hzs (e0.toNatClampNeg) (by omega)) (ne_el_x_ot (e0.toNatClampNeg) (by omega))) gX5_differ_X0_countSteps rfl rfl rfl (by decide +kernel) ⟨(Nat.le_of_ble_eq_true rfl), (Nat.le_of_ble_eq_true rfl)⟩ h_x_no rfl rfl hl.1 rfl (Nat.le_of_ble_eq_true rfl) dX5_differ_89 ⟨(Nat.le_of_ble_eq_true rfl), (Nat.le_of_ble_eq_true rfl)⟩) w hA (fun F1 H locs hp w => ?_)
            obtain ⟨x89, hx89, hw0, hk9⟩ := hp
            have hq := hq.trans (w_bnd hx89)
            have h_x := h_x.keep hk9 ⟨(wi.ne h_x h_x_ot (by intro h; cases h)), trivial⟩
            have h_x_no := h_x_no.keep hk9 ⟨(wi.ne h_x_no h_x_ot (by intro h; cases h)), trivial⟩
            have h_x_sh := h_x_sh.keep hk9 ⟨(wi.ne h_x_sh h_x_ot (by intro h; cases h)), trivial⟩
            have h_x_co := h_x_co.keep hk9 ⟨ne_x_co_x_ot, trivial⟩
            have h_sh := fun i (hi : i < 8) => (h_sh i hi).keep hk9 ⟨(wi.ne (h_sh i hi) h_x_ot (by intro h; cases h)), trivial⟩
            have h_rw := fun i (hi : i < 8) => (h_rw i hi).keep hk9 ⟨(wi.ne (h_rw i hi) h_x_ot (by intro h; cases h)), trivial⟩
            have h_el := fun i (hi : i < 8) => (h_el i hi).keep hk9 ⟨(ne_el_x_ot i hi), trivial⟩
            have h_x_ot := h_x_ot.new hw0
            have hk := hk.call hk9 (fun q h => ⟨h.2.1, trivial⟩)
            refine lv_iconst (v := 0) hx hb dX5_differ_92 (by decide) ?_
            refine lv_istore (lv' := [(6, .int 0), (5, .int (f_X5_twoRowsRefusal (sh_ho (d.toNatClampNeg)) (sh_ho (e0.toNatClampNeg)))), (4, .ref (sh (e0.toNatClampNeg))), (3, .ref (sh (d.toNatClampNeg))), (0, .ref x), (1, .int d), (2, .int e0)]) hx hb dX5_differ_93 hl (by decide) rfl (fun ls hl => ?_)
            refine lv_iconst (v := 0) hx hb dX5_differ_95 (by decide) ?_
            refine lv_istore (lv' := [(7, .int 0), (6, .int 0), (5, .int (f_X5_twoRowsRefusal (sh_ho (d.toNatClampNeg)) (sh_ho (e0.toNatClampNeg)))), (4, .ref (sh (e0.toNatClampNeg))), (3, .ref (sh (d.toNatClampNeg))), (0, .ref x), (1, .int d), (2, .int e0)]) hx hb dX5_differ_96 hl (by decide) rfl (fun ls hl => ?_)
            have hL98 : ∀ (n k : Nat) (v6 : Int32) (F1 : Nat → va_E) (H : Heap) (locs : List Loc) (ls : Array Slot), k ≤ 10 → 10 - k < n → f_X5_differ d e0 x_no_up x_no_down x_no_high x_co_f x_ot_f sh_ho rw_sz el_f = f_X5_differ_L98 d e0 rw_sz x73 x89 n k v6 → lv_has ls 8 [(0, .ref x), (1, .int d), (2, .int e0), (3, .ref (sh (d.toNatClampNeg))), (4, .ref (sh (e0.toNatClampNeg))), (5, .int (f_X5_twoRowsRefusal (sh_ho (d.toNatClampNeg)) (sh_ho (e0.toNatClampNeg)))), (6, .int v6), (7, .int (nI k))] → ww D A sZ.heap L F1 H locs → (wi L F1 x (eX x_no x_ke x_mi x_im x_sh x_co x_ot)) → (wi L F1 x_no (eG x_no_up x_no_down x_no_high x_no_prize x_no_z x_no_rounds x_no_people x_no_pa x_no_cr x_no_ls)) → (wi L F1 x_sh (eQ cS 8 (fun i => some (sh i)))) → (wi L F1 x_co (eI cI 10 x73)) → (wi L F1 x_ot (eI cI 10 x89)) → (∀ i, i < 8 → wi L F1 (sh i) (eS (sh_ho i) (rw i) (sp i))) → (∀ i, i < 8 → wi L F1 (rw i) (eR (el i) (rw_so i) (rw_sz i))) → (∀ i, i < 8 → wi L F1 (el i) (eI cI 100 (el_f i))) → wk (fun q : Nat => q ≠ x_co ∧ q ≠ x_ot ∧ True) F1 F → W pZ l eZ ({ frames := 4, cells := 0, slots := 0, locals := 92 } : Room) sZ mZ [.ref x, .int d, .int e0].toArray below meth cZ H locs 0 0 (MQ below (wQi D A (fun r1 L1 F1 => L1 = L ∧ ∃ y9 : Int32 × (Nat → Int32) × (Nat → Int32), y9 = (f_X5_differ d e0 x_no_up x_no_down x_no_high x_co_f x_ot_f sh_ho rw_sz el_f) ∧ r1 = y9.1 ∧ F1 x_co = (eI cI 10 y9.2.1) ∧ F1 x_ot = (eI cI 10 y9.2.2) ∧ wk (fun q : Nat => q ≠ x_co ∧ q ≠ x_ot ∧ True) F1 F)) [.ref x, .int d, .int e0].toArray sZ 0 0 A) (F0 mZ 98 ls []) := by
              intro n; induction n with
              | zero => intro k v6 F1 H locs ls hkT hmeas; exact absurd hmeas (Nat.not_lt_zero _)
              | succ n ih =>
                intro k v6 F1 H locs ls hkT hmeas hq hl w h_x h_x_no h_x_sh h_x_co h_x_ot h_sh h_rw h_el hk
                have hk31 : k < 2147483648 := by omega
                have hq := hq.trans (f_X5_differ_L98_s d e0 rw_sz x73 x89 n k v6)
                refine lv_iload hx hb dX5_differ_98 (lv_at hl 7 rfl) ?_
                refine lv_bipush (v := 9) hx hb dX5_differ_100 (by decide) ?_
                refine lv_icmp_gt (tgt := 151) hx hb dX5_differ_102 (by decide) (fun c6 => ?_) (fun c6 => ?_)
                · skip
                  have hq := hq.trans (if_pos c6)
                  refine lv_iload hx hb dX5_differ_151 (lv_at hl 6 rfl) ?_
                  exact w_iret hx hb hr hlocks w ⟨rfl, _, hq.symm, rfl, h_x_co.2, h_x_ot.2, hk⟩ (Nat.le_refl _) (Nat.le_refl _) dX5_differ_153
                · skip
                  have hq := hq.trans (if_neg c6)
                  have hlt102 : k < 9 + 1 := w_lek hk31 c6
                  refine lv_iload hx hb dX5_differ_105 (lv_at hl 6 rfl) ?_
                  refine lv_aload_n hx hb dX5_differ_107 rfl (lv_at hl 0 rfl) ?_
                  refine w_get (v := .ref x_co) hx hb hts i_X5 hown hK w h_x rfl 5 (by decide) (hts _ m_4) rfl dX5_differ_108 ?_
                  refine lv_iload hx hb dX5_differ_111 (lv_at hl 7 rfl) ?_
                  refine w_ild (j := k) hx hb hK w h_x_co (vp_in_nI (n := k) (N := 10) (by omega) (by omega)) (nI_clamp (by omega)) dX5_differ_113 ?_
                  refine lv_aload hx hb dX5_differ_114 (lv_at hl 4 rfl) ?_
                  refine w_get (v := .ref (rw (e0.toNatClampNeg))) hx hb hts i_X4 hown hK w (h_sh (e0.toNatClampNeg) (by omega)) rfl 1 (by decide) (hts _ m_2) rfl dX5_differ_116 ?_
                  refine w_get (v := .int (rw_sz (e0.toNatClampNeg))) hx hb hts i_X3 hown hK w (h_rw (e0.toNatClampNeg) (by omega)) rfl 2 (by decide) (hts _ m_6) rfl dX5_differ_119 ?_
                  refine lv_imul hx hb dX5_differ_122 ?_
                  refine lv_aload_n hx hb dX5_differ_123 rfl (lv_at hl 0 rfl) ?_
                  refine w_get (v := .ref x_ot) hx hb hts i_X5 hown hK w h_x rfl 6 (by decide) (hts _ m_5) rfl dX5_differ_124 ?_
                  refine lv_iload hx hb dX5_differ_127 (lv_at hl 7 rfl) ?_
                  refine w_ild (j := k) hx hb hK w h_x_ot (vp_in_nI (n := k) (N := 10) (by omega) (by omega)) (nI_clamp (by omega)) dX5_differ_129 ?_
                  refine lv_aload_n hx hb dX5_differ_130 rfl (lv_at hl 3 rfl) ?_
                  refine w_get (v := .ref (rw (d.toNatClampNeg))) hx hb hts i_X4 hown hK w (h_sh (d.toNatClampNeg) (by omega)) rfl 1 (by decide) (hts _ m_2) rfl dX5_differ_131 ?_
                  refine w_get (v := .int (rw_sz (d.toNatClampNeg))) hx hb hts i_X3 hown hK w (h_rw (d.toNatClampNeg) (by omega)) rfl 2 (by decide) (hts _ m_6) rfl dX5_differ_134 ?_
                  refine lv_imul hx hb dX5_differ_137 ?_
                  refine lv_isub hx hb dX5_differ_138 ?_
                  refine va_mabs hx hb (hml.trans hl.1.symm) hown (hts _ m_8) (hts _ m_9) (hts _ m_10) (hts _ m_11) (Nat.le_of_ble_eq_true rfl) (Nat.le_of_ble_eq_true rfl) (Nat.zero_le _) (Nat.zero_le _) dX5_differ_139 ?_
                  refine lv_iadd hx hb dX5_differ_142 ?_
                  refine lv_istore (lv' := [(6, .int (v6 + (if 0 ≤ (((x73 k) * (rw_sz (e0.toNatClampNeg))) - ((x89 k) * (rw_sz (d.toNatClampNeg)))) then (((x73 k) * (rw_sz (e0.toNatClampNeg))) - ((x89 k) * (rw_sz (d.toNatClampNeg)))) else 0 - (((x73 k) * (rw_sz (e0.toNatClampNeg))) - ((x89 k) * (rw_sz (d.toNatClampNeg))))))), (0, .ref x), (1, .int d), (2, .int e0), (3, .ref (sh (d.toNatClampNeg))), (4, .ref (sh (e0.toNatClampNeg))), (5, .int (f_X5_twoRowsRefusal (sh_ho (d.toNatClampNeg)) (sh_ho (e0.toNatClampNeg)))), (7, .int (nI k))]) hx hb dX5_differ_143 hl (by decide) rfl (fun ls hl => ?_)
                  refine lv_iinc (v := (nI (k + 1))) (lv' := [(7, .int (nI (k + 1))), (6, .int (v6 + (if 0 ≤ (((x73 k) * (rw_sz (e0.toNatClampNeg))) - ((x89 k) * (rw_sz (d.toNatClampNeg)))) then (((x73 k) * (rw_sz (e0.toNatClampNeg))) - ((x89 k) * (rw_sz (d.toNatClampNeg)))) else 0 - (((x73 k) * (rw_sz (e0.toNatClampNeg))) - ((x89 k) * (rw_sz (d.toNatClampNeg))))))), (0, .ref x), (1, .int d), (2, .int e0), (3, .ref (sh (d.toNatClampNeg))), (4, .ref (sh (e0.toNatClampNeg))), (5, .int (f_X5_twoRowsRefusal (sh_ho (d.toNatClampNeg)) (sh_ho (e0.toNatClampNeg))))]) hx hb dX5_differ_145 hl (k := 7) rfl (w_inc _) (by decide) rfl (fun ls hl => ?_)
                  refine lv_goto (tgt := 98) hx hb dX5_differ_148 (by decide) ?_
                  exact ih ((k + 1)) (v6 + (if 0 ≤ (((x73 k) * (rw_sz (e0.toNatClampNeg))) - ((x89 k) * (rw_sz (d.toNatClampNeg)))) then (((x73 k) * (rw_sz (e0.toNatClampNeg))) - ((x89 k) * (rw_sz (d.toNatClampNeg)))) else 0 - (((x73 k) * (rw_sz (e0.toNatClampNeg))) - ((x89 k) * (rw_sz (d.toNatClampNeg)))))) _ _ _ _ (by omega) (by omega) hq (lv_sub hl [2, 3, 4, 5, 6, 7, 1, 0] rfl) w h_x h_x_no h_x_sh h_x_co h_x_ot h_sh h_rw h_el hk
            exact hL98 (10 + 1) 0 0 _ _ _ _ (Nat.zero_le _) (by omega) hq (lv_sub hl [5, 6, 7, 4, 3, 2, 1, 0] rfl) w h_x h_x_no h_x_sh h_x_co h_x_ot h_sh h_rw h_el hk
          · skip
            have hq := hq.trans (if_pos c5)
            refine lv_bipush (v := (-13)) hx hb dX5_differ_58 (by decide) ?_
            exact w_iret hx hb hr hlocks w ⟨rfl, _, hq.symm, rfl, h_x_co.2, h_x_ot.2, hk⟩ (Nat.le_refl _) (Nat.le_refl _) dX5_differ_60
      · skip
        have hq := hq.trans (if_neg c3)
        refine lv_iload hx hb dX5_differ_26 (lv_at hl 0 rfl) ?_
        exact w_iret hx hb hr hlocks w ⟨rfl, _, hq.symm, rfl, h_x_co.2, h_x_ot.2, hk⟩ (Nat.le_refl _) (Nat.le_refl _) dX5_differ_28
    · skip
      have hq := hq.trans (if_neg c2)
      refine w_finQ (v := .null) (by unfold f_X5_shelfAt_none; first | rfl | (split <;> rfl)) (w_runV (rm := ({ frames := 0, cells := 0, slots := 0, locals := 0 } : Room)) (As := [.int e0]) (rest := []) (n := 1) hx hb hml hts hown hK w (c_X5_shelfAt_none l D cI cP cS cL L _ x e0 x_no x_ke x_mi x_im x_sh x_co x_ot sh h_x h_x_sh c2) gX5_differ_X5_shelfAt rfl rfl rfl (by decide +kernel) ⟨(Nat.le_of_ble_eq_true rfl), (Nat.le_of_ble_eq_true rfl)⟩ h_x rfl rfl hl.1 rfl (Nat.le_of_ble_eq_true rfl) dX5_differ_8 ⟨(Nat.le_of_ble_eq_true rfl), (Nat.le_of_ble_eq_true rfl)⟩) w hA (fun H locs w => ?_)
      refine lv_astoreN (lv' := [(4, .null), (3, .ref (sh (d.toNatClampNeg))), (0, .ref x), (1, .int d), (2, .int e0)]) hx hb dX5_differ_11 hl (by decide) rfl (fun ls hl => ?_)
      refine lv_aload_n hx hb dX5_differ_13 rfl (lv_at hl 1 rfl) ?_
      refine lv_aloadN hx hb dX5_differ_14 (lv_at hl 0 rfl) ?_
      refine w_finI (r := (-1)) (w_runS (rm := ({ frames := 0, cells := 0, slots := 0, locals := 0 } : Room)) (As := [.ref (sh (d.toNatClampNeg)), .null]) (rest := []) (n := 2) hx hb hml hts hown hK w (c_X5_twoRowsRefusal_rn l D cI cP cS cL L _ (sh (d.toNatClampNeg)) (sh_ho (d.toNatClampNeg)) (rw (d.toNatClampNeg)) (sp (d.toNatClampNeg)) (h_sh (d.toNatClampNeg) (by omega))) gX5_differ_X5_twoRowsRefusal rfl rfl rfl (by decide +kernel) ⟨(Nat.le_of_ble_eq_true rfl), (Nat.le_of_ble_eq_true rfl)⟩ rfl hl.1 rfl (Nat.le_of_ble_eq_true rfl) dX5_differ_16 ⟨(Nat.le_of_ble_eq_true rfl), (Nat.le_of_ble_eq_true rfl)⟩) w hA (fun H locs w => ?_)
      refine lv_istore (lv' := [(5, .int (-1)), (4, .null), (3, .ref (sh (d.toNatClampNeg))), (0, .ref x), (1, .int d), (2, .int e0)]) hx hb dX5_differ_19 hl (by decide) rfl (fun ls hl => ?_)
      refine lv_iload hx hb dX5_differ_21 (lv_at hl 0 rfl) ?_
      refine lv_if_eq (tgt := 29) hx hb dX5_differ_23 (by decide) (fun c => absurd c (by decide)) (fun _ => ?_)
      refine lv_iload hx hb dX5_differ_26 (lv_at hl 0 rfl) ?_
      exact w_iret hx hb hr hlocks w ⟨rfl, _, hq.symm, rfl, h_x_co.2, h_x_ot.2, hk⟩ (Nat.le_refl _) (Nat.le_refl _) dX5_differ_28
  · skip
    have hq := hq.trans (if_neg c1)
    refine w_finQ (v := .null) (by unfold f_X5_shelfAt_none; first | rfl | (split <;> rfl)) (w_runV (rm := ({ frames := 0, cells := 0, slots := 0, locals := 0 } : Room)) (As := [.int d]) (rest := []) (n := 1) hx hb hml hts hown hK w (c_X5_shelfAt_none l D cI cP cS cL L _ x d x_no x_ke x_mi x_im x_sh x_co x_ot sh h_x h_x_sh c1) gX5_differ_X5_shelfAt rfl rfl rfl (by decide +kernel) ⟨(Nat.le_of_ble_eq_true rfl), (Nat.le_of_ble_eq_true rfl)⟩ h_x rfl rfl hl.1 rfl (Nat.le_of_ble_eq_true rfl) dX5_differ_2 ⟨(Nat.le_of_ble_eq_true rfl), (Nat.le_of_ble_eq_true rfl)⟩) w hA (fun H locs w => ?_)
    refine lv_astore_nN (lv' := [(3, .null), (0, .ref x), (1, .int d), (2, .int e0)]) hx hb dX5_differ_5 rfl hl (by decide) rfl (fun ls hl => ?_)
    refine lv_aload_n hx hb dX5_differ_6 rfl (lv_at hl 1 rfl) ?_
    refine lv_iload_n hx hb dX5_differ_7 rfl (lv_at hl 3 rfl) ?_
    by_cases c7 : (¬ e0 < 0 ∧ ¬ (8 : Int32) ≤ e0)
    · skip
      have hq := hq.trans (if_pos c7)
      have hlt_C : e0.toNatClampNeg < 8 := w_okP (n := 8) c7 (by decide)
      refine w_finQ (v := .ref (sh (e0.toNatClampNeg))) rfl (w_runV (rm := ({ frames := 0, cells := 0, slots := 0, locals := 0 } : Room)) (As := [.int e0]) (rest := []) (n := 1) hx hb hml hts hown hK w (c_X5_shelfAt_some l D cI cP cS cL L _ x e0 x_no x_ke x_mi x_im x_sh x_co x_ot sh sh_ho rw sp h_x h_x_sh h_sh c7) gX5_differ_X5_shelfAt rfl rfl rfl (by decide +kernel) ⟨(Nat.le_of_ble_eq_true rfl), (Nat.le_of_ble_eq_true rfl)⟩ h_x rfl rfl hl.1 rfl (Nat.le_of_ble_eq_true rfl) dX5_differ_8 ⟨(Nat.le_of_ble_eq_true rfl), (Nat.le_of_ble_eq_true rfl)⟩) w hA (fun H locs w => ?_)
      refine lv_astore (lv' := [(4, .ref (sh (e0.toNatClampNeg))), (3, .null), (0, .ref x), (1, .int d), (2, .int e0)]) hx hb dX5_differ_11 hl (by decide) rfl (fun ls hl => ?_)
      refine lv_aload_nN hx hb dX5_differ_13 rfl (lv_at hl 1 rfl) ?_
      refine lv_aload hx hb dX5_differ_14 (lv_at hl 0 rfl) ?_
      refine w_finI (r := (-1)) (w_runS (rm := ({ frames := 0, cells := 0, slots := 0, locals := 0 } : Room)) (As := [.null, .ref (sh (e0.toNatClampNeg))]) (rest := []) (n := 2) hx hb hml hts hown hK w (c_X5_twoRowsRefusal_nr l D cI cP cS cL L _ (sh (e0.toNatClampNeg)) (sh_ho (e0.toNatClampNeg)) (rw (e0.toNatClampNeg)) (sp (e0.toNatClampNeg)) (h_sh (e0.toNatClampNeg) (by omega))) gX5_differ_X5_twoRowsRefusal rfl rfl rfl (by decide +kernel) ⟨(Nat.le_of_ble_eq_true rfl), (Nat.le_of_ble_eq_true rfl)⟩ rfl hl.1 rfl (Nat.le_of_ble_eq_true rfl) dX5_differ_16 ⟨(Nat.le_of_ble_eq_true rfl), (Nat.le_of_ble_eq_true rfl)⟩) w hA (fun H locs w => ?_)
      refine lv_istore (lv' := [(5, .int (-1)), (4, .ref (sh (e0.toNatClampNeg))), (3, .null), (0, .ref x), (1, .int d), (2, .int e0)]) hx hb dX5_differ_19 hl (by decide) rfl (fun ls hl => ?_)
      refine lv_iload hx hb dX5_differ_21 (lv_at hl 0 rfl) ?_
      refine lv_if_eq (tgt := 29) hx hb dX5_differ_23 (by decide) (fun c => absurd c (by decide)) (fun _ => ?_)
      refine lv_iload hx hb dX5_differ_26 (lv_at hl 0 rfl) ?_
      exact w_iret hx hb hr hlocks w ⟨rfl, _, hq.symm, rfl, h_x_co.2, h_x_ot.2, hk⟩ (Nat.le_refl _) (Nat.le_refl _) dX5_differ_28
    · skip
      have hq := hq.trans (if_neg c7)
      refine w_finQ (v := .null) (by unfold f_X5_shelfAt_none; first | rfl | (split <;> rfl)) (w_runV (rm := ({ frames := 0, cells := 0, slots := 0, locals := 0 } : Room)) (As := [.int e0]) (rest := []) (n := 1) hx hb hml hts hown hK w (c_X5_shelfAt_none l D cI cP cS cL L _ x e0 x_no x_ke x_mi x_im x_sh x_co x_ot sh h_x h_x_sh c7) gX5_differ_X5_shelfAt rfl rfl rfl (by decide +kernel) ⟨(Nat.le_of_ble_eq_true rfl), (Nat.le_of_ble_eq_true rfl)⟩ h_x rfl rfl hl.1 rfl (Nat.le_of_ble_eq_true rfl) dX5_differ_8 ⟨(Nat.le_of_ble_eq_true rfl), (Nat.le_of_ble_eq_true rfl)⟩) w hA (fun H locs w => ?_)
      refine lv_astoreN (lv' := [(4, .null), (3, .null), (0, .ref x), (1, .int d), (2, .int e0)]) hx hb dX5_differ_11 hl (by decide) rfl (fun ls hl => ?_)
      refine lv_aload_nN hx hb dX5_differ_13 rfl (lv_at hl 1 rfl) ?_
      refine lv_aloadN hx hb dX5_differ_14 (lv_at hl 0 rfl) ?_
      refine w_finI (r := (-1)) (w_runS (rm := ({ frames := 0, cells := 0, slots := 0, locals := 0 } : Room)) (As := [.null, .null]) (rest := []) (n := 2) hx hb hml hts hown hK w (c_X5_twoRowsRefusal_nn l D cI cP cS cL L _  ) gX5_differ_X5_twoRowsRefusal rfl rfl rfl (by decide +kernel) ⟨(Nat.le_of_ble_eq_true rfl), (Nat.le_of_ble_eq_true rfl)⟩ rfl hl.1 rfl (Nat.le_of_ble_eq_true rfl) dX5_differ_16 ⟨(Nat.le_of_ble_eq_true rfl), (Nat.le_of_ble_eq_true rfl)⟩) w hA (fun H locs w => ?_)
      refine lv_istore (lv' := [(5, .int (-1)), (4, .null), (3, .null), (0, .ref x), (1, .int d), (2, .int e0)]) hx hb dX5_differ_19 hl (by decide) rfl (fun ls hl => ?_)
      refine lv_iload hx hb dX5_differ_21 (lv_at hl 0 rfl) ?_
      refine lv_if_eq (tgt := 29) hx hb dX5_differ_23 (by decide) (fun c => absurd c (by decide)) (fun _ => ?_)
      refine lv_iload hx hb dX5_differ_26 (lv_at hl 0 rfl) ?_
      exact w_iret hx hb hr hlocks w ⟨rfl, _, hq.symm, rfl, h_x_co.2, h_x_ot.2, hk⟩ (Nat.le_refl _) (Nat.le_refl _) dX5_differ_28
def f_X5_judge_L48 (d : Int32) (x_no_people : Int32) (x_no_cr_sz : Int32) (x_no_cr_e_f : Nat → Int32) (rw_so : Nat → Int32) (rw_sz : Nat → Int32) (el_f : Nat → Nat → Int32) : Nat → Nat → Int32
  | 0, _ => 0
  | n + 1, k => if (rw_sz (d.toNatClampNeg)) ≤ (nI k) then (if (rw_sz (d.toNatClampNeg)) ≤ x_no_people then (-4) else x_no_people) else (if x_no_people ≤ (nI k) then (if (rw_sz (d.toNatClampNeg)) ≤ x_no_people then (-4) else x_no_people) else (if (f_X3_at (nI k) (rw_sz (d.toNatClampNeg)) (el_f (d.toNatClampNeg))) = (f_X3_leastNumber (rw_so (d.toNatClampNeg))) then (f_X5_judge_L48 d x_no_people x_no_cr_sz x_no_cr_e_f rw_so rw_sz el_f n ((k + 1)) ) else (if (f_X3_at (nI k) (rw_sz (d.toNatClampNeg)) (el_f (d.toNatClampNeg))) = (f_X3_at (nI k) x_no_cr_sz x_no_cr_e_f) then (f_X5_judge_L48 d x_no_people x_no_cr_sz x_no_cr_e_f rw_so rw_sz el_f n ((k + 1)) ) else (nI k))))
theorem f_X5_judge_L48_s (d : Int32) (x_no_people : Int32) (x_no_cr_sz : Int32) (x_no_cr_e_f : Nat → Int32) (rw_so : Nat → Int32) (rw_sz : Nat → Int32) (el_f : Nat → Nat → Int32) (n k : Nat)  : f_X5_judge_L48 d x_no_people x_no_cr_sz x_no_cr_e_f rw_so rw_sz el_f (n + 1) k = (if (rw_sz (d.toNatClampNeg)) ≤ (nI k) then (if (rw_sz (d.toNatClampNeg)) ≤ x_no_people then (-4) else x_no_people) else (if x_no_people ≤ (nI k) then (if (rw_sz (d.toNatClampNeg)) ≤ x_no_people then (-4) else x_no_people) else (if (f_X3_at (nI k) (rw_sz (d.toNatClampNeg)) (el_f (d.toNatClampNeg))) = (f_X3_leastNumber (rw_so (d.toNatClampNeg))) then (f_X5_judge_L48 d x_no_people x_no_cr_sz x_no_cr_e_f rw_so rw_sz el_f n ((k + 1)) ) else (if (f_X3_at (nI k) (rw_sz (d.toNatClampNeg)) (el_f (d.toNatClampNeg))) = (f_X3_at (nI k) x_no_cr_sz x_no_cr_e_f) then (f_X5_judge_L48 d x_no_people x_no_cr_sz x_no_cr_e_f rw_so rw_sz el_f n ((k + 1)) ) else (nI k))))) := rfl
def f_X5_judge (d : Int32) (x_no_rounds : Int32) (x_no_people : Int32) (x_no_cr_sz : Int32) (x_no_cr_e_f : Nat → Int32) (sh_ho : Nat → Int32) (rw_so : Nat → Int32) (rw_sz : Nat → Int32) (el_f : Nat → Nat → Int32) : Int32 := if (¬ d < 0 ∧ ¬ (8 : Int32) ≤ d) then (if x_no_rounds = (0 : Int32) then (-3) else (if (f_X5_rowRefusal (sh_ho (d.toNatClampNeg))) = (0 : Int32) then (f_X5_judge_L48 d x_no_people x_no_cr_sz x_no_cr_e_f rw_so rw_sz el_f ((rw_sz (d.toNatClampNeg)).toNatClampNeg + 1) 0 ) else (f_X5_rowRefusal (sh_ho (d.toNatClampNeg))))) else (-1)
set_option maxHeartbeats 400000 in
set_option maxRecDepth 100000 in
theorem c_X5_judge (l : Launch) (D : va_G) (cI cP cS cL : ClassId) (L : List Nat) (F : Nat → va_E) (x : Nat) (d : Int32) (x_no : Nat) (x_ke : Nat) (x_mi : Nat) (x_im : Int32) (x_sh : Nat) (x_co : Nat) (x_ot : Nat) (x_no_up : Int32) (x_no_down : Int32) (x_no_high : Int32) (x_no_prize : Int32) (x_no_z : Int32) (x_no_rounds : Int32) (x_no_people : Int32) (x_no_pa : Nat) (x_no_cr : Nat) (x_no_ls : Int32) (x_no_cr_e : Nat) (x_no_cr_so : Int32) (x_no_cr_sz : Int32) (x_no_cr_e_f : Nat → Int32) (sh : Nat → Nat) (sh_ho : Nat → Int32) (rw : Nat → Nat) (sp : Nat → Nat) (el : Nat → Nat) (rw_so : Nat → Int32) (rw_sz : Nat → Int32) (el_f : Nat → Nat → Int32) (h_x : wi L F x (eX x_no x_ke x_mi x_im x_sh x_co x_ot)) (h_x_no : wi L F x_no (eG x_no_up x_no_down x_no_high x_no_prize x_no_z x_no_rounds x_no_people x_no_pa x_no_cr x_no_ls)) (h_x_no_cr : wi L F x_no_cr (eR x_no_cr_e x_no_cr_so x_no_cr_sz)) (h_x_no_cr_e : wi L F x_no_cr_e (eI cI 12 x_no_cr_e_f)) (h_x_sh : wi L F x_sh (eQ cS 8 (fun i => some (sh i)))) (h_sh : ∀ i, i < 8 → wi L F (sh i) (eS (sh_ho i) (rw i) (sp i))) (h_rw : ∀ i, i < 8 → wi L F (rw i) (eR (el i) (rw_so i) (rw_sz i))) (h_el : ∀ i, i < 8 → wi L F (el i) (eI cI 100 (el_f i))) (hzs : ∀ i, i < 8 → (rw_sz i).toInt ≤ 100) (hzc : x_no_cr_sz.toInt ≤ 12) : wMI l D cI cP cS cL yX5_judge wsX5_judge ({ frames := 2, cells := 0, slots := 0, locals := 41 } : Room) [.ref x, .int d] L F (f_X5_judge d x_no_rounds x_no_people x_no_cr_sz x_no_cr_e_f sh_ho rw_so rw_sz el_f) F := by
  refine wM.of (cc := cX5_judge) (maxL := 7) (ret := (some .int)) (by decide) rfl (Nat.le_of_ble_eq_true rfl) ?_
  intro pZ eZ sZ mZ below meth cZ A ls C hl w
  obtain ⟨hx, hb, hr, hml, hts, hown, hlocks, hK, hA, hin⟩ := C
  have hown : sZ.vm.findClass RX5 = some mZ.cls := hown
  have hl : lv_has ls 7 [(0, .ref x), (1, .int d)] := hl
  have m_0 : ((.fieldLink RX5 10 "TwoThirds" "now" "LTwoThirds$Game;") : Cond) ∈ wsX5_judge := by decide +kernel
  have i_X5 : ∀ w ∈ wsX50, w ∈ wsX5_judge := by decide +kernel
  have m_2 : ((.fieldLink RX5 93 "TwoThirds$Game" "rounds" "I") : Cond) ∈ wsX5_judge := by decide +kernel
  have i_X0 : ∀ w ∈ wsX00, w ∈ wsX5_judge := by decide +kernel
  have m_4 : ((.fieldLink RX5 44 "TwoThirds$Shelf" "row" "LTwoThirds$Row;") : Cond) ∈ wsX5_judge := by decide +kernel
  have i_X4 : ∀ w ∈ wsX40, w ∈ wsX5_judge := by decide +kernel
  have m_6 : ((.fieldLink RX5 167 "TwoThirds$Row" "size" "I") : Cond) ∈ wsX5_judge := by decide +kernel
  have i_X3 : ∀ w ∈ wsX30, w ∈ wsX5_judge := by decide +kernel
  have m_8 : ((.fieldLink RX5 125 "TwoThirds$Game" "people" "I") : Cond) ∈ wsX5_judge := by decide +kernel
  have m_9 : ((.fieldLink RX5 96 "TwoThirds$Game" "cards" "LTwoThirds$Row;") : Cond) ∈ wsX5_judge := by decide +kernel
  have hq : f_X5_judge d x_no_rounds x_no_people x_no_cr_sz x_no_cr_e_f sh_ho rw_so rw_sz el_f = f_X5_judge d x_no_rounds x_no_people x_no_cr_sz x_no_cr_e_f sh_ho rw_so rw_sz el_f := rfl
  refine lv_aload_n hx hb dX5_judge_0 rfl (lv_at hl 0 rfl) ?_
  refine lv_iload_n hx hb dX5_judge_1 rfl (lv_at hl 1 rfl) ?_
  by_cases c1 : (¬ d < 0 ∧ ¬ (8 : Int32) ≤ d)
  · skip
    have hq := hq.trans (if_pos c1)
    have hlt_C : d.toNatClampNeg < 8 := w_okP (n := 8) c1 (by decide)
    refine w_finQ (v := .ref (sh (d.toNatClampNeg))) rfl (w_runV (rm := ({ frames := 0, cells := 0, slots := 0, locals := 0 } : Room)) (As := [.int d]) (rest := []) (n := 1) hx hb hml hts hown hK w (c_X5_shelfAt_some l D cI cP cS cL L _ x d x_no x_ke x_mi x_im x_sh x_co x_ot sh sh_ho rw sp h_x h_x_sh h_sh c1) gX5_judge_X5_shelfAt rfl rfl rfl (by decide +kernel) ⟨(Nat.le_of_ble_eq_true rfl), (Nat.le_of_ble_eq_true rfl)⟩ h_x rfl rfl hl.1 rfl (Nat.le_of_ble_eq_true rfl) dX5_judge_2 ⟨(Nat.le_of_ble_eq_true rfl), (Nat.le_of_ble_eq_true rfl)⟩) w hA (fun H locs w => ?_)
    refine lv_astore_n (lv' := [(2, .ref (sh (d.toNatClampNeg))), (0, .ref x), (1, .int d)]) hx hb dX5_judge_5 rfl hl (by decide) rfl (fun ls hl => ?_)
    refine lv_aload_n hx hb dX5_judge_6 rfl (lv_at hl 0 rfl) ?_
    refine lv_ifnonnull (tgt := 12) hx hb dX5_judge_7 (by decide) ?_
    refine lv_aload_n hx hb dX5_judge_12 rfl (lv_at hl 1 rfl) ?_
    refine w_get (v := .ref x_no) hx hb hts i_X5 hown hK w h_x rfl 0 (by decide) (hts _ m_0) rfl dX5_judge_13 ?_
    refine w_get (v := .int x_no_rounds) hx hb hts i_X0 hown hK w h_x_no rfl 5 (by decide) (hts _ m_2) rfl dX5_judge_16 ?_
    refine lv_if_ne (tgt := 25) hx hb dX5_judge_19 (by decide) (fun c2 => ?_) (fun c2 => ?_)
    · skip
      have hq := hq.trans (if_neg c2)
      refine lv_aload_n hx hb dX5_judge_25 rfl (lv_at hl 0 rfl) ?_
      refine w_finI (w_runS (rm := ({ frames := 1, cells := 0, slots := 0, locals := 21 } : Room)) (As := [.ref (sh (d.toNatClampNeg))]) (rest := []) (n := 1) hx hb hml hts hown hK w (c_X5_rowRefusal l D cI cP cS cL L _ (sh (d.toNatClampNeg)) (sh_ho (d.toNatClampNeg)) (rw (d.toNatClampNeg)) (sp (d.toNatClampNeg)) (h_sh (d.toNatClampNeg) (by omega))) gX5_judge_X5_rowRefusal rfl rfl rfl (by decide +kernel) ⟨(Nat.le_of_ble_eq_true rfl), (Nat.le_of_ble_eq_true rfl)⟩ rfl hl.1 rfl (Nat.le_of_ble_eq_true rfl) dX5_judge_26 ⟨(Nat.le_of_ble_eq_true rfl), (Nat.le_of_ble_eq_true rfl)⟩) w hA (fun H locs w => ?_)
      refine lv_istore_n (lv' := [(3, .int (f_X5_rowRefusal (sh_ho (d.toNatClampNeg)))), (2, .ref (sh (d.toNatClampNeg))), (0, .ref x), (1, .int d)]) hx hb dX5_judge_29 rfl hl (by decide) rfl (fun ls hl => ?_)
      refine lv_iload_n hx hb dX5_judge_30 rfl (lv_at hl 0 rfl) ?_
      refine lv_if_eq (tgt := 36) hx hb dX5_judge_31 (by decide) (fun c3 => ?_) (fun c3 => ?_)
      · skip
        have hq := hq.trans (if_pos c3)
        refine lv_aload_n hx hb dX5_judge_36 rfl (lv_at hl 1 rfl) ?_
        refine w_get (v := .ref (rw (d.toNatClampNeg))) hx hb hts i_X4 hown hK w (h_sh (d.toNatClampNeg) (by omega)) rfl 1 (by decide) (hts _ m_4) rfl dX5_judge_37 ?_
        refine w_finI (w_runV (rm := ({ frames := 0, cells := 0, slots := 0, locals := 0 } : Room)) (As := []) (rest := []) (n := 0) hx hb hml hts hown hK w (c_X3_leastNumber l D cI cP cS cL L _ (rw (d.toNatClampNeg)) (el (d.toNatClampNeg)) (rw_so (d.toNatClampNeg)) (rw_sz (d.toNatClampNeg)) (h_rw (d.toNatClampNeg) (by omega))) gX5_judge_X3_leastNumber rfl rfl rfl (by decide +kernel) ⟨(Nat.le_of_ble_eq_true rfl), (Nat.le_of_ble_eq_true rfl)⟩ (h_rw (d.toNatClampNeg) (by omega)) rfl rfl hl.1 rfl (Nat.le_of_ble_eq_true rfl) dX5_judge_40 ⟨(Nat.le_of_ble_eq_true rfl), (Nat.le_of_ble_eq_true rfl)⟩) w hA (fun H locs w => ?_)
        refine lv_istore (lv' := [(4, .int (f_X3_leastNumber (rw_so (d.toNatClampNeg)))), (3, .int (f_X5_rowRefusal (sh_ho (d.toNatClampNeg)))), (2, .ref (sh (d.toNatClampNeg))), (0, .ref x), (1, .int d)]) hx hb dX5_judge_43 hl (by decide) rfl (fun ls hl => ?_)
        refine lv_iconst (v := 0) hx hb dX5_judge_45 (by decide) ?_
        refine lv_istore (lv' := [(5, .int 0), (4, .int (f_X3_leastNumber (rw_so (d.toNatClampNeg)))), (3, .int (f_X5_rowRefusal (sh_ho (d.toNatClampNeg)))), (2, .ref (sh (d.toNatClampNeg))), (0, .ref x), (1, .int d)]) hx hb dX5_judge_46 hl (by decide) rfl (fun ls hl => ?_)
        have hL48 : ∀ (n k : Nat)  (H : Heap) (locs : List Loc) (ls : Array Slot), k ≤ (rw_sz (d.toNatClampNeg)).toNatClampNeg → (rw_sz (d.toNatClampNeg)).toNatClampNeg - k < n → f_X5_judge d x_no_rounds x_no_people x_no_cr_sz x_no_cr_e_f sh_ho rw_so rw_sz el_f = f_X5_judge_L48 d x_no_people x_no_cr_sz x_no_cr_e_f rw_so rw_sz el_f n k → lv_has ls 7 [(0, .ref x), (1, .int d), (2, .ref (sh (d.toNatClampNeg))), (3, .int (f_X5_rowRefusal (sh_ho (d.toNatClampNeg)))), (4, .int (f_X3_leastNumber (rw_so (d.toNatClampNeg)))), (5, .int (nI k))] → ww D A sZ.heap L F H locs → W pZ l eZ ({ frames := 2, cells := 0, slots := 0, locals := 41 } : Room) sZ mZ [.ref x, .int d].toArray below meth cZ H locs 0 0 (MQ below (wQi D A (fun r1 L1 F1 => r1 = (f_X5_judge d x_no_rounds x_no_people x_no_cr_sz x_no_cr_e_f sh_ho rw_so rw_sz el_f) ∧ L1 = L ∧ F1 = F)) [.ref x, .int d].toArray sZ 0 0 A) (F0 mZ 48 ls []) := by
          intro n; induction n with
          | zero => intro k H locs ls hkT hmeas; exact absurd hmeas (Nat.not_lt_zero _)
          | succ n ih =>
            intro k H locs ls hkT hmeas hq hl w
            have hk31 : k < 2147483648 := Nat.lt_of_le_of_lt hkT (w_clamp_lt _)
            have hq := hq.trans (f_X5_judge_L48_s d x_no_people x_no_cr_sz x_no_cr_e_f rw_so rw_sz el_f n k)
            refine lv_iload hx hb dX5_judge_48 (lv_at hl 5 rfl) ?_
            refine lv_aload_n hx hb dX5_judge_50 rfl (lv_at hl 2 rfl) ?_
            refine w_get (v := .ref (rw (d.toNatClampNeg))) hx hb hts i_X4 hown hK w (h_sh (d.toNatClampNeg) (by omega)) rfl 1 (by decide) (hts _ m_4) rfl dX5_judge_51 ?_
            refine w_get (v := .int (rw_sz (d.toNatClampNeg))) hx hb hts i_X3 hown hK w (h_rw (d.toNatClampNeg) (by omega)) rfl 2 (by decide) (hts _ m_6) rfl dX5_judge_54 ?_
            refine lv_icmp_ge (tgt := 116) hx hb dX5_judge_57 (by decide) (fun c4 => ?_) (fun c4 => ?_)
            · skip
              have hq := hq.trans (if_pos c4)
              refine lv_aload_n hx hb dX5_judge_116 rfl (lv_at hl 2 rfl) ?_
              refine w_get (v := .ref (rw (d.toNatClampNeg))) hx hb hts i_X4 hown hK w (h_sh (d.toNatClampNeg) (by omega)) rfl 1 (by decide) (hts _ m_4) rfl dX5_judge_117 ?_
              refine w_get (v := .int (rw_sz (d.toNatClampNeg))) hx hb hts i_X3 hown hK w (h_rw (d.toNatClampNeg) (by omega)) rfl 2 (by decide) (hts _ m_6) rfl dX5_judge_120 ?_
              refine lv_aload_n hx hb dX5_judge_123 rfl (lv_at hl 0 rfl) ?_
              refine w_get (v := .ref x_no) hx hb hts i_X5 hown hK w h_x rfl 0 (by decide) (hts _ m_0) rfl dX5_judge_124 ?_
              refine w_get (v := .int x_no_people) hx hb hts i_X0 hown hK w h_x_no rfl 6 (by decide) (hts _ m_8) rfl dX5_judge_127 ?_
              refine lv_icmp_le (tgt := 143) hx hb dX5_judge_130 (by decide) (fun c5 => ?_) (fun c5 => ?_)
              · skip
                have hq := hq.trans (if_pos c5)
                refine lv_bipush (v := (-4)) hx hb dX5_judge_143 (by decide) ?_
                exact w_iret hx hb hr hlocks w ⟨hq.symm, rfl, rfl⟩ (Nat.le_refl _) (Nat.le_refl _) dX5_judge_145
              · skip
                have hq := hq.trans (if_neg c5)
                refine lv_aload_n hx hb dX5_judge_133 rfl (lv_at hl 0 rfl) ?_
                refine w_get (v := .ref x_no) hx hb hts i_X5 hown hK w h_x rfl 0 (by decide) (hts _ m_0) rfl dX5_judge_134 ?_
                refine w_get (v := .int x_no_people) hx hb hts i_X0 hown hK w h_x_no rfl 6 (by decide) (hts _ m_8) rfl dX5_judge_137 ?_
                refine lv_goto (tgt := 145) hx hb dX5_judge_140 (by decide) ?_
                exact w_iret hx hb hr hlocks w ⟨hq.symm, rfl, rfl⟩ (Nat.le_refl _) (Nat.le_refl _) dX5_judge_145
            · skip
              have hq := hq.trans (if_neg c4)
              have hlt57 : k < (rw_sz (d.toNatClampNeg)).toNatClampNeg := w_ltk hk31 c4
              refine lv_iload hx hb dX5_judge_60 (lv_at hl 5 rfl) ?_
              refine lv_aload_n hx hb dX5_judge_62 rfl (lv_at hl 0 rfl) ?_
              refine w_get (v := .ref x_no) hx hb hts i_X5 hown hK w h_x rfl 0 (by decide) (hts _ m_0) rfl dX5_judge_63 ?_
              refine w_get (v := .int x_no_people) hx hb hts i_X0 hown hK w h_x_no rfl 6 (by decide) (hts _ m_8) rfl dX5_judge_66 ?_
              refine lv_icmp_ge (tgt := 116) hx hb dX5_judge_69 (by decide) (fun c6 => ?_) (fun c6 => ?_)
              · skip
                have hq := hq.trans (if_pos c6)
                refine lv_aload_n hx hb dX5_judge_116 rfl (lv_at hl 2 rfl) ?_
                refine w_get (v := .ref (rw (d.toNatClampNeg))) hx hb hts i_X4 hown hK w (h_sh (d.toNatClampNeg) (by omega)) rfl 1 (by decide) (hts _ m_4) rfl dX5_judge_117 ?_
                refine w_get (v := .int (rw_sz (d.toNatClampNeg))) hx hb hts i_X3 hown hK w (h_rw (d.toNatClampNeg) (by omega)) rfl 2 (by decide) (hts _ m_6) rfl dX5_judge_120 ?_
                refine lv_aload_n hx hb dX5_judge_123 rfl (lv_at hl 0 rfl) ?_
                refine w_get (v := .ref x_no) hx hb hts i_X5 hown hK w h_x rfl 0 (by decide) (hts _ m_0) rfl dX5_judge_124 ?_
                refine w_get (v := .int x_no_people) hx hb hts i_X0 hown hK w h_x_no rfl 6 (by decide) (hts _ m_8) rfl dX5_judge_127 ?_
                refine lv_icmp_le (tgt := 143) hx hb dX5_judge_130 (by decide) (fun c7 => ?_) (fun c7 => ?_)
                · skip
                  have hq := hq.trans (if_pos c7)
                  refine lv_bipush (v := (-4)) hx hb dX5_judge_143 (by decide) ?_
                  exact w_iret hx hb hr hlocks w ⟨hq.symm, rfl, rfl⟩ (Nat.le_refl _) (Nat.le_refl _) dX5_judge_145
                · skip
                  have hq := hq.trans (if_neg c7)
                  refine lv_aload_n hx hb dX5_judge_133 rfl (lv_at hl 0 rfl) ?_
                  refine w_get (v := .ref x_no) hx hb hts i_X5 hown hK w h_x rfl 0 (by decide) (hts _ m_0) rfl dX5_judge_134 ?_
                  refine w_get (v := .int x_no_people) hx hb hts i_X0 hown hK w h_x_no rfl 6 (by decide) (hts _ m_8) rfl dX5_judge_137 ?_
                  refine lv_goto (tgt := 145) hx hb dX5_judge_140 (by decide) ?_
                  exact w_iret hx hb hr hlocks w ⟨hq.symm, rfl, rfl⟩ (Nat.le_refl _) (Nat.le_refl _) dX5_judge_145
              · skip
                have hq := hq.trans (if_neg c6)
                have hlt69 : k < x_no_people.toNatClampNeg := w_ltk hk31 c6
                refine lv_aload_n hx hb dX5_judge_72 rfl (lv_at hl 2 rfl) ?_
                refine w_get (v := .ref (rw (d.toNatClampNeg))) hx hb hts i_X4 hown hK w (h_sh (d.toNatClampNeg) (by omega)) rfl 1 (by decide) (hts _ m_4) rfl dX5_judge_73 ?_
                refine lv_iload hx hb dX5_judge_76 (lv_at hl 5 rfl) ?_
                refine w_finI (w_runV (rm := ({ frames := 0, cells := 0, slots := 0, locals := 0 } : Room)) (As := [.int (nI k)]) (rest := []) (n := 1) hx hb hml hts hown hK w (c_X3_at l D cI cP cS cL L _ (rw (d.toNatClampNeg)) (nI k) (el (d.toNatClampNeg)) (rw_so (d.toNatClampNeg)) (rw_sz (d.toNatClampNeg)) 100 (el_f (d.toNatClampNeg)) (h_rw (d.toNatClampNeg) (by omega)) (h_el (d.toNatClampNeg) (by omega)) (hzs (d.toNatClampNeg) (by omega))) gX5_judge_X3_at rfl rfl rfl (by decide +kernel) ⟨(Nat.le_of_ble_eq_true rfl), (Nat.le_of_ble_eq_true rfl)⟩ (h_rw (d.toNatClampNeg) (by omega)) rfl rfl hl.1 rfl (Nat.le_of_ble_eq_true rfl) dX5_judge_78 ⟨(Nat.le_of_ble_eq_true rfl), (Nat.le_of_ble_eq_true rfl)⟩) w hA (fun H locs w => ?_)
                refine lv_istore (lv' := [(6, .int (f_X3_at (nI k) (rw_sz (d.toNatClampNeg)) (el_f (d.toNatClampNeg)))), (0, .ref x), (1, .int d), (2, .ref (sh (d.toNatClampNeg))), (3, .int (f_X5_rowRefusal (sh_ho (d.toNatClampNeg)))), (4, .int (f_X3_leastNumber (rw_so (d.toNatClampNeg)))), (5, .int (nI k))]) hx hb dX5_judge_81 hl (by decide) rfl (fun ls hl => ?_)
                refine lv_iload hx hb dX5_judge_83 (lv_at hl 0 rfl) ?_
                refine lv_iload hx hb dX5_judge_85 (lv_at hl 5 rfl) ?_
                refine lv_icmp_eq (tgt := 110) hx hb dX5_judge_87 (by decide) (fun c8 => ?_) (fun c8 => ?_)
                · skip
                  have hq := hq.trans (if_pos c8)
                  refine lv_iinc (v := (nI (k + 1))) (lv' := [(5, .int (nI (k + 1))), (6, .int (f_X3_at (nI k) (rw_sz (d.toNatClampNeg)) (el_f (d.toNatClampNeg)))), (0, .ref x), (1, .int d), (2, .ref (sh (d.toNatClampNeg))), (3, .int (f_X5_rowRefusal (sh_ho (d.toNatClampNeg)))), (4, .int (f_X3_leastNumber (rw_so (d.toNatClampNeg))))]) hx hb dX5_judge_110 hl (k := 6) rfl (w_inc _) (by decide) rfl (fun ls hl => ?_)
                  refine lv_goto (tgt := 48) hx hb dX5_judge_113 (by decide) ?_
                  exact ih ((k + 1))  _ _ _ (by omega) (by omega) hq (lv_sub hl [2, 3, 4, 5, 6, 0] rfl) w
                · skip
                  have hq := hq.trans (if_neg c8)
                  refine lv_iload hx hb dX5_judge_90 (lv_at hl 0 rfl) ?_
                  refine lv_aload_n hx hb dX5_judge_92 rfl (lv_at hl 1 rfl) ?_
                  refine w_get (v := .ref x_no) hx hb hts i_X5 hown hK w h_x rfl 0 (by decide) (hts _ m_0) rfl dX5_judge_93 ?_
                  refine w_get (v := .ref x_no_cr) hx hb hts i_X0 hown hK w h_x_no rfl 8 (by decide) (hts _ m_9) rfl dX5_judge_96 ?_
                  refine lv_iload hx hb dX5_judge_99 (lv_at hl 6 rfl) ?_
                  refine w_finI (w_runV (rm := ({ frames := 0, cells := 0, slots := 0, locals := 0 } : Room)) (As := [.int (nI k)]) (rest := [.int (f_X3_at (nI k) (rw_sz (d.toNatClampNeg)) (el_f (d.toNatClampNeg)))]) (n := 1) hx hb hml hts hown hK w (c_X3_at l D cI cP cS cL L _ x_no_cr (nI k) x_no_cr_e x_no_cr_so x_no_cr_sz 12 x_no_cr_e_f h_x_no_cr h_x_no_cr_e hzc) gX5_judge_X3_at rfl rfl rfl (by decide +kernel) ⟨(Nat.le_of_ble_eq_true rfl), (Nat.le_of_ble_eq_true rfl)⟩ h_x_no_cr rfl rfl hl.1 rfl (Nat.le_of_ble_eq_true rfl) dX5_judge_101 ⟨(Nat.le_of_ble_eq_true rfl), (Nat.le_of_ble_eq_true rfl)⟩) w hA (fun H locs w => ?_)
                  refine lv_icmp_eq (tgt := 110) hx hb dX5_judge_104 (by decide) (fun c9 => ?_) (fun c9 => ?_)
                  · skip
                    have hq := hq.trans (if_pos c9)
                    refine lv_iinc (v := (nI (k + 1))) (lv' := [(5, .int (nI (k + 1))), (6, .int (f_X3_at (nI k) (rw_sz (d.toNatClampNeg)) (el_f (d.toNatClampNeg)))), (0, .ref x), (1, .int d), (2, .ref (sh (d.toNatClampNeg))), (3, .int (f_X5_rowRefusal (sh_ho (d.toNatClampNeg)))), (4, .int (f_X3_leastNumber (rw_so (d.toNatClampNeg))))]) hx hb dX5_judge_110 hl (k := 6) rfl (w_inc _) (by decide) rfl (fun ls hl => ?_)
                    refine lv_goto (tgt := 48) hx hb dX5_judge_113 (by decide) ?_
                    exact ih ((k + 1))  _ _ _ (by omega) (by omega) hq (lv_sub hl [2, 3, 4, 5, 6, 0] rfl) w
                  · skip
                    have hq := hq.trans (if_neg c9)
                    refine lv_iload hx hb dX5_judge_107 (lv_at hl 6 rfl) ?_
                    exact w_iret hx hb hr hlocks w ⟨hq.symm, rfl, rfl⟩ (Nat.le_refl _) (Nat.le_refl _) dX5_judge_109
        exact hL48 ((rw_sz (d.toNatClampNeg)).toNatClampNeg + 1) 0  _ _ _ (Nat.zero_le _) (by omega) hq (lv_sub hl [4, 5, 3, 2, 1, 0] rfl) w
      · skip
        have hq := hq.trans (if_neg c3)
        refine lv_iload_n hx hb dX5_judge_34 rfl (lv_at hl 0 rfl) ?_
        exact w_iret hx hb hr hlocks w ⟨hq.symm, rfl, rfl⟩ (Nat.le_refl _) (Nat.le_refl _) dX5_judge_35
    · skip
      have hq := hq.trans (if_pos c2)
      refine lv_bipush (v := (-3)) hx hb dX5_judge_22 (by decide) ?_
      exact w_iret hx hb hr hlocks w ⟨hq.symm, rfl, rfl⟩ (Nat.le_refl _) (Nat.le_refl _) dX5_judge_24
  · skip
    have hq := hq.trans (if_neg c1)
    refine w_finQ (v := .null) (by unfold f_X5_shelfAt_none; first | rfl | (split <;> rfl)) (w_runV (rm := ({ frames := 0, cells := 0, slots := 0, locals := 0 } : Room)) (As := [.int d]) (rest := []) (n := 1) hx hb hml hts hown hK w (c_X5_shelfAt_none l D cI cP cS cL L _ x d x_no x_ke x_mi x_im x_sh x_co x_ot sh h_x h_x_sh c1) gX5_judge_X5_shelfAt rfl rfl rfl (by decide +kernel) ⟨(Nat.le_of_ble_eq_true rfl), (Nat.le_of_ble_eq_true rfl)⟩ h_x rfl rfl hl.1 rfl (Nat.le_of_ble_eq_true rfl) dX5_judge_2 ⟨(Nat.le_of_ble_eq_true rfl), (Nat.le_of_ble_eq_true rfl)⟩) w hA (fun H locs w => ?_)
    refine lv_astore_nN (lv' := [(2, .null), (0, .ref x), (1, .int d)]) hx hb dX5_judge_5 rfl hl (by decide) rfl (fun ls hl => ?_)
    refine lv_aload_nN hx hb dX5_judge_6 rfl (lv_at hl 0 rfl) ?_
    refine lv_ifnonnullN hx hb dX5_judge_7 ?_
    refine lv_iconst (v := (-1)) hx hb dX5_judge_10 (by decide) ?_
    exact w_iret hx hb hr hlocks w ⟨hq.symm, rfl, rfl⟩ (Nat.le_refl _) (Nat.le_refl _) dX5_judge_11
def f_X5_ends_L19 (what : Int32) (x_no_up : Int32) (x_no_down : Int32) (x_no_high : Int32) : Nat → Nat → Int32 → Int32
  | 0, _, _ => 0
  | n + 1, k, v2 => if (100 : Int32) < (nI k) then (-4) else (if (f_X0_shareOf v2 x_no_up x_no_down x_no_high) = v2 then (if what = (0 : Int32) then v2 else (nI k)) else (f_X5_ends_L19 what x_no_up x_no_down x_no_high n ((k + 1)) (f_X0_shareOf v2 x_no_up x_no_down x_no_high)))
theorem f_X5_ends_L19_s (what : Int32) (x_no_up : Int32) (x_no_down : Int32) (x_no_high : Int32) (n k : Nat) (v2 : Int32) : f_X5_ends_L19 what x_no_up x_no_down x_no_high (n + 1) k v2 = (if (100 : Int32) < (nI k) then (-4) else (if (f_X0_shareOf v2 x_no_up x_no_down x_no_high) = v2 then (if what = (0 : Int32) then v2 else (nI k)) else (f_X5_ends_L19 what x_no_up x_no_down x_no_high n ((k + 1)) (f_X0_shareOf v2 x_no_up x_no_down x_no_high)))) := rfl
def f_X5_ends (what : Int32) (x_no_up : Int32) (x_no_down : Int32) (x_no_high : Int32) : Int32 := if (f_X5_isOneOfTwo what) = (0 : Int32) then (-1) else (f_X5_ends_L19 what x_no_up x_no_down x_no_high (101 + 1) 0 (f_X0_middle x_no_high))
set_option maxHeartbeats 400000 in
set_option maxRecDepth 100000 in
theorem c_X5_ends (l : Launch) (D : va_G) (cI cP cS cL : ClassId) (L : List Nat) (F : Nat → va_E) (x : Nat) (what : Int32) (x_no : Nat) (x_ke : Nat) (x_mi : Nat) (x_im : Int32) (x_sh : Nat) (x_co : Nat) (x_ot : Nat) (x_no_up : Int32) (x_no_down : Int32) (x_no_high : Int32) (x_no_prize : Int32) (x_no_z : Int32) (x_no_rounds : Int32) (x_no_people : Int32) (x_no_pa : Nat) (x_no_cr : Nat) (x_no_ls : Int32) (h_x : wi L F x (eX x_no x_ke x_mi x_im x_sh x_co x_ot)) (h_x_no : wi L F x_no (eG x_no_up x_no_down x_no_high x_no_prize x_no_z x_no_rounds x_no_people x_no_pa x_no_cr x_no_ls)) : wMI l D cI cP cS cL yX5_ends wsX5_ends ({ frames := 2, cells := 0, slots := 0, locals := 42 } : Room) [.ref x, .int what] L F (f_X5_ends what x_no_up x_no_down x_no_high) F := by
  refine wM.of (cc := cX5_ends) (maxL := 5) (ret := (some .int)) (by decide) rfl (Nat.le_of_ble_eq_true rfl) ?_
  intro pZ eZ sZ mZ below meth cZ A ls C hl w
  obtain ⟨hx, hb, hr, hml, hts, hown, hlocks, hK, hA, hin⟩ := C
  have hown : sZ.vm.findClass RX5 = some mZ.cls := hown
  have hl : lv_has ls 5 [(0, .ref x), (1, .int what)] := hl
  have m_0 : ((.fieldLink RX5 10 "TwoThirds" "now" "LTwoThirds$Game;") : Cond) ∈ wsX5_ends := by decide +kernel
  have i_X5 : ∀ w ∈ wsX50, w ∈ wsX5_ends := by decide +kernel
  have hq : f_X5_ends what x_no_up x_no_down x_no_high = f_X5_ends what x_no_up x_no_down x_no_high := rfl
  refine lv_iload_n hx hb dX5_ends_0 rfl (lv_at hl 1 rfl) ?_
  refine w_finI (w_runS (rm := ({ frames := 0, cells := 0, slots := 0, locals := 0 } : Room)) (As := [.int what]) (rest := []) (n := 1) hx hb hml hts hown hK w (c_X5_isOneOfTwo l D cI cP cS cL L _ what ) gX5_ends_X5_isOneOfTwo rfl rfl rfl (by decide +kernel) ⟨(Nat.le_of_ble_eq_true rfl), (Nat.le_of_ble_eq_true rfl)⟩ rfl hl.1 rfl (Nat.le_of_ble_eq_true rfl) dX5_ends_1 ⟨(Nat.le_of_ble_eq_true rfl), (Nat.le_of_ble_eq_true rfl)⟩) w hA (fun H locs w => ?_)
  refine lv_if_ne (tgt := 9) hx hb dX5_ends_4 (by decide) (fun c1 => ?_) (fun c1 => ?_)
  · skip
    have hq := hq.trans (if_neg c1)
    refine lv_aload_n hx hb dX5_ends_9 rfl (lv_at hl 0 rfl) ?_
    refine w_get (v := .ref x_no) hx hb hts i_X5 hown hK w h_x rfl 0 (by decide) (hts _ m_0) rfl dX5_ends_10 ?_
    refine w_finI (w_runV (rm := ({ frames := 0, cells := 0, slots := 0, locals := 0 } : Room)) (As := []) (rest := []) (n := 0) hx hb hml hts hown hK w (c_X0_middle l D cI cP cS cL L _ x_no x_no_up x_no_down x_no_high x_no_prize x_no_z x_no_rounds x_no_people x_no_pa x_no_cr x_no_ls h_x_no) gX5_ends_X0_middle rfl rfl rfl (by decide +kernel) ⟨(Nat.le_of_ble_eq_true rfl), (Nat.le_of_ble_eq_true rfl)⟩ h_x_no rfl rfl hl.1 rfl (Nat.le_of_ble_eq_true rfl) dX5_ends_13 ⟨(Nat.le_of_ble_eq_true rfl), (Nat.le_of_ble_eq_true rfl)⟩) w hA (fun H locs w => ?_)
    refine lv_istore_n (lv' := [(2, .int (f_X0_middle x_no_high)), (0, .ref x), (1, .int what)]) hx hb dX5_ends_16 rfl hl (by decide) rfl (fun ls hl => ?_)
    refine lv_iconst (v := 0) hx hb dX5_ends_17 (by decide) ?_
    refine lv_istore_n (lv' := [(3, .int 0), (2, .int (f_X0_middle x_no_high)), (0, .ref x), (1, .int what)]) hx hb dX5_ends_18 rfl hl (by decide) rfl (fun ls hl => ?_)
    have hL19 : ∀ (n k : Nat) (v2 : Int32) (H : Heap) (locs : List Loc) (ls : Array Slot), k ≤ 101 → 101 - k < n → f_X5_ends what x_no_up x_no_down x_no_high = f_X5_ends_L19 what x_no_up x_no_down x_no_high n k v2 → lv_has ls 5 [(0, .ref x), (1, .int what), (2, .int v2), (3, .int (nI k))] → ww D A sZ.heap L F H locs → W pZ l eZ ({ frames := 2, cells := 0, slots := 0, locals := 42 } : Room) sZ mZ [.ref x, .int what].toArray below meth cZ H locs 0 0 (MQ below (wQi D A (fun r1 L1 F1 => r1 = (f_X5_ends what x_no_up x_no_down x_no_high) ∧ L1 = L ∧ F1 = F)) [.ref x, .int what].toArray sZ 0 0 A) (F0 mZ 19 ls []) := by
      intro n; induction n with
      | zero => intro k v2 H locs ls hkT hmeas; exact absurd hmeas (Nat.not_lt_zero _)
      | succ n ih =>
        intro k v2 H locs ls hkT hmeas hq hl w
        have hk31 : k < 2147483648 := by omega
        have hq := hq.trans (f_X5_ends_L19_s what x_no_up x_no_down x_no_high n k v2)
        refine lv_iload_n hx hb dX5_ends_19 rfl (lv_at hl 3 rfl) ?_
        refine lv_bipush (v := 100) hx hb dX5_ends_20 (by decide) ?_
        refine lv_icmp_gt (tgt := 60) hx hb dX5_ends_22 (by decide) (fun c2 => ?_) (fun c2 => ?_)
        · skip
          have hq := hq.trans (if_pos c2)
          refine lv_bipush (v := (-4)) hx hb dX5_ends_60 (by decide) ?_
          exact w_iret hx hb hr hlocks w ⟨hq.symm, rfl, rfl⟩ (Nat.le_refl _) (Nat.le_refl _) dX5_ends_62
        · skip
          have hq := hq.trans (if_neg c2)
          have hlt22 : k < 100 + 1 := w_lek hk31 c2
          refine lv_aload_n hx hb dX5_ends_25 rfl (lv_at hl 0 rfl) ?_
          refine w_get (v := .ref x_no) hx hb hts i_X5 hown hK w h_x rfl 0 (by decide) (hts _ m_0) rfl dX5_ends_26 ?_
          refine lv_iload_n hx hb dX5_ends_29 rfl (lv_at hl 2 rfl) ?_
          refine w_finI (w_runV (rm := ({ frames := 1, cells := 0, slots := 0, locals := 21 } : Room)) (As := [.int v2]) (rest := []) (n := 1) hx hb hml hts hown hK w (c_X0_shareOf l D cI cP cS cL L _ x_no v2 x_no_up x_no_down x_no_high x_no_prize x_no_z x_no_rounds x_no_people x_no_pa x_no_cr x_no_ls h_x_no) gX5_ends_X0_shareOf rfl rfl rfl (by decide +kernel) ⟨(Nat.le_of_ble_eq_true rfl), (Nat.le_of_ble_eq_true rfl)⟩ h_x_no rfl rfl hl.1 rfl (Nat.le_of_ble_eq_true rfl) dX5_ends_30 ⟨(Nat.le_of_ble_eq_true rfl), (Nat.le_of_ble_eq_true rfl)⟩) w hA (fun H locs w => ?_)
          refine lv_istore (lv' := [(4, .int (f_X0_shareOf v2 x_no_up x_no_down x_no_high)), (0, .ref x), (1, .int what), (2, .int v2), (3, .int (nI k))]) hx hb dX5_ends_33 hl (by decide) rfl (fun ls hl => ?_)
          refine lv_iload hx hb dX5_ends_35 (lv_at hl 0 rfl) ?_
          refine lv_iload_n hx hb dX5_ends_37 rfl (lv_at hl 3 rfl) ?_
          refine lv_icmp_ne (tgt := 51) hx hb dX5_ends_38 (by decide) (fun c3 => ?_) (fun c3 => ?_)
          · skip
            have hq := hq.trans (if_neg c3)
            refine lv_iload hx hb dX5_ends_51 (lv_at hl 0 rfl) ?_
            refine lv_istore_n (lv' := [(2, .int (f_X0_shareOf v2 x_no_up x_no_down x_no_high)), (4, .int (f_X0_shareOf v2 x_no_up x_no_down x_no_high)), (0, .ref x), (1, .int what), (3, .int (nI k))]) hx hb dX5_ends_53 rfl hl (by decide) rfl (fun ls hl => ?_)
            refine lv_iinc (v := (nI (k + 1))) (lv' := [(3, .int (nI (k + 1))), (2, .int (f_X0_shareOf v2 x_no_up x_no_down x_no_high)), (4, .int (f_X0_shareOf v2 x_no_up x_no_down x_no_high)), (0, .ref x), (1, .int what)]) hx hb dX5_ends_54 hl (k := 4) rfl (w_inc _) (by decide) rfl (fun ls hl => ?_)
            refine lv_goto (tgt := 19) hx hb dX5_ends_57 (by decide) ?_
            exact ih ((k + 1)) (f_X0_shareOf v2 x_no_up x_no_down x_no_high) _ _ _ (by omega) (by omega) hq (lv_sub hl [3, 4, 1, 0] rfl) w
          · skip
            have hq := hq.trans (if_pos c3)
            refine lv_iload_n hx hb dX5_ends_41 rfl (lv_at hl 2 rfl) ?_
            refine lv_if_ne (tgt := 49) hx hb dX5_ends_42 (by decide) (fun c4 => ?_) (fun c4 => ?_)
            · skip
              have hq := hq.trans (if_neg c4)
              refine lv_iload_n hx hb dX5_ends_49 rfl (lv_at hl 4 rfl) ?_
              exact w_iret hx hb hr hlocks w ⟨hq.symm, rfl, rfl⟩ (Nat.le_refl _) (Nat.le_refl _) dX5_ends_50
            · skip
              have hq := hq.trans (if_pos c4)
              refine lv_iload_n hx hb dX5_ends_45 rfl (lv_at hl 3 rfl) ?_
              refine lv_goto (tgt := 50) hx hb dX5_ends_46 (by decide) ?_
              exact w_iret hx hb hr hlocks w ⟨hq.symm, rfl, rfl⟩ (Nat.le_refl _) (Nat.le_refl _) dX5_ends_50
    exact hL19 (101 + 1) 0 (f_X0_middle x_no_high) _ _ _ (Nat.zero_le _) (by omega) hq (lv_sub hl [2, 3, 1, 0] rfl) w
  · skip
    have hq := hq.trans (if_pos c1)
    refine lv_iconst (v := (-1)) hx hb dX5_ends_7 (by decide) ?_
    exact w_iret hx hb hr hlocks w ⟨hq.symm, rfl, rfl⟩ (Nat.le_refl _) (Nat.le_refl _) dX5_ends_8
def cp (n : Nat) (f g : Nat → Int32) : Nat → Int32 := fun i => if i < n then g i else f i
theorem tf_loop (n0 : Nat) (f0 : Nat → Int32) (up down high prize z rounds people ls so sz : Int32) (fo : Nat → Int32) (nu ki st sl : Nat → Int32) : ∀ (n k : Nat) (a b c d : Nat → Int32), k ≤ 12 → 12 - k < n →
    f_X0_takeFrom_L58 n0 f0 up down high prize z rounds people ls so sz fo nu ki st sl n k a b c d = (up, down, high, prize, z, rounds, people, ls, (f_X3_takeFrom n0 f0 so sz fo).1, (f_X3_takeFrom n0 f0 so sz fo).2.1, (f_X3_takeFrom n0 f0 so sz fo).2.2, (fun i => if k ≤ i ∧ i < 12 then nu i else a i), (fun i => if k ≤ i ∧ i < 12 then ki i else b i), (fun i => if k ≤ i ∧ i < 12 then st i else c i), (fun i => if k ≤ i ∧ i < 12 then sl i else d i)) := by
  intro n
  induction n with
  | zero => intro k a b c d _ h; exact absurd h (Nat.not_lt_zero _)
  | succ n ih =>
    intro k a b c d hk hm
    rw [f_X0_takeFrom_L58_s]
    by_cases h : (12 : Int32) ≤ nI k
    · rw [if_pos h]
      have hk12 : k = 12 := by
        rw [Int32.le_iff_toInt_le, nI_toInt (by omega)] at h
        have : (12 : Int32).toInt = 12 := rfl
        omega
      subst hk12
      have e : ∀ f g : Nat → Int32, (fun i => if 12 ≤ i ∧ i < 12 then f i else g i) = g := fun f g => funext fun i => if_neg (by omega)
      rw [e, e, e, e]
      rfl
    · rw [if_neg h, if_neg h]
      have hlt : k < 12 := w_ltk (B := 12) (by omega) h
      show f_X0_takeFrom_L58 n0 f0 up down high prize z rounds people ls so sz fo nu ki st sl n (k + 1) (upd a k (nu k)) (upd b k (ki k)) (upd c k (st k)) (upd d k (sl k)) = _
      rw [ih _ _ _ _ _ (by omega) (by omega)]
      have e : ∀ f g : Nat → Int32, (fun i => if k + 1 ≤ i ∧ i < 12 then f i else upd g k (f k) i) = (fun i => if k ≤ i ∧ i < 12 then f i else g i) := by
        intro f g
        funext i
        by_cases hi : i = k
        · subst hi
          rw [if_neg (by omega), if_pos (by omega)]
          simp [upd]
        · by_cases h2 : k + 1 ≤ i ∧ i < 12
          · rw [if_pos h2, if_pos (by omega)]
          · rw [if_neg h2, if_neg (by omega)]
            simp [upd, hi]
      rw [e, e, e, e]
theorem tf_eq (n0 : Nat) (f0 : Nat → Int32) (up down high prize z rounds people ls so sz : Int32) (fo : Nat → Int32) (a b c d nu ki st sl : Nat → Int32) :
    f_X0_takeFrom n0 f0 up down high prize z rounds people ls so sz fo a b c d nu ki st sl = (up, down, high, prize, z, rounds, people, ls, (f_X3_takeFrom n0 f0 so sz fo).1, (f_X3_takeFrom n0 f0 so sz fo).2.1, (f_X3_takeFrom n0 f0 so sz fo).2.2, cp 12 a nu, cp 12 b ki, cp 12 c st, cp 12 d sl) := by
  unfold f_X0_takeFrom
  rw [tf_loop _ _ _ _ _ _ _ _ _ _ _ _ _ _ _ _ _ _ _ _ _ _ _ (by omega) (by omega)]
  have e : ∀ f g : Nat → Int32, (fun i => if 0 ≤ i ∧ i < 12 then g i else f i) = cp 12 f g := fun f g => funext fun i => by
    simp [cp]
  rw [e, e, e, e]
theorem play_loop (up down high rounds people ls : Int32) (ki st sl : Nat → Int32) (x9 : Int32 × Int32 × (Nat → Int32)) : ∀ (n k : Nat) (z : Int32) (f : Nat → Int32), k ≤ people.toNatClampNeg → people.toNatClampNeg - k < n →
    (f_X0_play_L14 up down high rounds people ls ki st sl x9 n k z f).2.2.2.2.1 = x9.2.1 := by
  intro n
  induction n with
  | zero => intro k z f _ h; exact absurd h (Nat.not_lt_zero _)
  | succ n ih =>
    intro k z f hk hm
    rw [f_X0_play_L14_s]
    by_cases h : people ≤ nI k
    · rw [if_pos h]
    · rw [if_neg h]
      have hlt := w_lt hk h
      by_cases h2 : (12 : Int32) ≤ nI k
      · rw [if_pos h2]
      · rw [if_neg h2]
        exact ih _ _ _ (by omega) (by omega)
theorem play_sz (up down high z rounds people ls : Int32) (n0 : Nat) (f ki st sl : Nat → Int32) (hn : n0 < 2147483648) : (f_X0_play up down high z rounds people ls n0 f ki st sl).2.2.2.2.1.toInt ≤ n0 := by
  unfold f_X0_play
  show (f_X0_play_L14 up down high rounds people ls ki st sl (f_X3_begin 2 people n0 f) (people.toNatClampNeg + 1) 0 z (f_X3_begin 2 people n0 f).2.2).2.2.2.2.1.toInt ≤ n0
  rw [play_loop _ _ _ _ _ _ _ _ _ _ _ _ _ _ (Nat.zero_le _) (by omega)]
  exact begin_le hn
theorem hp_ok {i0 n0 z : Int32} {N : Nat} (c : ¬ f_X3_hasPlaces i0 n0 z = 0) (hz : z.toInt ≤ N) : ¬ i0 < 0 ∧ ¬ n0 < 0 ∧ i0.toNatClampNeg + n0.toNatClampNeg ≤ N := by
  unfold f_X3_hasPlaces at c
  by_cases h0 : i0 < 0
  · rw [if_pos h0] at c; exact absurd rfl c
  · rw [if_neg h0] at c
    by_cases h1 : n0 < 0
    · rw [if_pos h1] at c; exact absurd rfl c
    · rw [if_neg h1] at c
      by_cases h2 : z < i0
      · rw [if_pos h2] at c; exact absurd rfl c
      · rw [if_neg h2] at c
        by_cases h3 : z - i0 < n0
        · rw [if_pos h3] at c; exact absurd rfl c
        · refine ⟨h0, h1, ?_⟩
          have a1 : i0.toNatClampNeg = i0.toInt.toNat := rfl
          have a2 : n0.toNatClampNeg = n0.toInt.toNat := rfl
          have hi : (0 : Int32) ≤ i0 := Int32.not_lt.mp h0
          have hle : i0 ≤ z := Int32.not_lt.mp h2
          have hsub := Int32.toInt_sub_of_le z i0 hi hle
          rw [Int32.lt_iff_toInt_lt, Int32.toInt_zero] at h0 h1
          rw [Int32.lt_iff_toInt_lt] at h2 h3
          omega
def f_X5_wins_L40 (person : Int32) (n0 : Int32) (x32 : Int32 × Int32 × Int32 × Int32 × Int32 × Int32 × Int32 × Int32 × Int32 × Int32 × (Nat → Int32) × (Nat → Int32) × (Nat → Int32) × (Nat → Int32) × (Nat → Int32)) : Nat → Nat → Int32 → (Int32) → (Int32) → (Int32) → (Int32) → (Int32) → (Nat → Int32) → Int32 × Int32 × Int32 × Int32 × Int32 × Int32 × Int32 × Int32 × Int32 × Int32 × Int32 × (Nat → Int32) × (Nat → Int32) × (Nat → Int32) × (Nat → Int32) × (Nat → Int32)
  | 0, _, _, _, _, _, _, _, _ => (0, 0, 0, 0, 0, 0, 0, 0, 0, 0, 0, (fun _ => 0), (fun _ => 0), (fun _ => 0), (fun _ => 0), (fun _ => 0))
  | n + 1, k, v3, u_x_mi_z, u_x_mi_rounds, u_x_mi_ls, u_x_mi_cr_so, u_x_mi_cr_sz, u_x_mi_cr_e_f => if n0 ≤ (nI k) then (v3, x32.1, x32.2.1, x32.2.2.1, x32.2.2.2.1, u_x_mi_z, u_x_mi_rounds, x32.2.2.2.2.2.2.1, u_x_mi_ls, u_x_mi_cr_so, u_x_mi_cr_sz, u_x_mi_cr_e_f, x32.2.2.2.2.2.2.2.2.2.2.2.1, x32.2.2.2.2.2.2.2.2.2.2.2.2.1, x32.2.2.2.2.2.2.2.2.2.2.2.2.2.1, x32.2.2.2.2.2.2.2.2.2.2.2.2.2.2) else (bnd (f_X0_play x32.1 x32.2.1 x32.2.2.1 u_x_mi_z u_x_mi_rounds x32.2.2.2.2.2.2.1 u_x_mi_ls 12 u_x_mi_cr_e_f x32.2.2.2.2.2.2.2.2.2.2.2.2.1 x32.2.2.2.2.2.2.2.2.2.2.2.2.2.1 x32.2.2.2.2.2.2.2.2.2.2.2.2.2.2) (fun x50 : Int32 × Int32 × Int32 × Int32 × Int32 × (Nat → Int32) => if (f_X0_isWinner person x32.1 x32.2.1 x32.2.2.2.1 x50.2.2.2.2.1 x50.2.2.2.2.2) = (0 : Int32) then (f_X5_wins_L40 person n0 x32 n ((k + 1)) v3 x50.1 x50.2.1 x50.2.2.1 x50.2.2.2.1 x50.2.2.2.2.1 x50.2.2.2.2.2) else (f_X5_wins_L40 person n0 x32 n ((k + 1)) (v3 + 1) x50.1 x50.2.1 x50.2.2.1 x50.2.2.2.1 x50.2.2.2.2.1 x50.2.2.2.2.2)))
theorem f_X5_wins_L40_s (person : Int32) (n0 : Int32) (x32 : Int32 × Int32 × Int32 × Int32 × Int32 × Int32 × Int32 × Int32 × Int32 × Int32 × (Nat → Int32) × (Nat → Int32) × (Nat → Int32) × (Nat → Int32) × (Nat → Int32)) (n k : Nat) (v3 : Int32) (u_x_mi_z : Int32) (u_x_mi_rounds : Int32) (u_x_mi_ls : Int32) (u_x_mi_cr_so : Int32) (u_x_mi_cr_sz : Int32) (u_x_mi_cr_e_f : Nat → Int32) : f_X5_wins_L40 person n0 x32 (n + 1) k v3 u_x_mi_z u_x_mi_rounds u_x_mi_ls u_x_mi_cr_so u_x_mi_cr_sz u_x_mi_cr_e_f = (if n0 ≤ (nI k) then (v3, x32.1, x32.2.1, x32.2.2.1, x32.2.2.2.1, u_x_mi_z, u_x_mi_rounds, x32.2.2.2.2.2.2.1, u_x_mi_ls, u_x_mi_cr_so, u_x_mi_cr_sz, u_x_mi_cr_e_f, x32.2.2.2.2.2.2.2.2.2.2.2.1, x32.2.2.2.2.2.2.2.2.2.2.2.2.1, x32.2.2.2.2.2.2.2.2.2.2.2.2.2.1, x32.2.2.2.2.2.2.2.2.2.2.2.2.2.2) else (bnd (f_X0_play x32.1 x32.2.1 x32.2.2.1 u_x_mi_z u_x_mi_rounds x32.2.2.2.2.2.2.1 u_x_mi_ls 12 u_x_mi_cr_e_f x32.2.2.2.2.2.2.2.2.2.2.2.2.1 x32.2.2.2.2.2.2.2.2.2.2.2.2.2.1 x32.2.2.2.2.2.2.2.2.2.2.2.2.2.2) (fun x50 : Int32 × Int32 × Int32 × Int32 × Int32 × (Nat → Int32) => if (f_X0_isWinner person x32.1 x32.2.1 x32.2.2.2.1 x50.2.2.2.2.1 x50.2.2.2.2.2) = (0 : Int32) then (f_X5_wins_L40 person n0 x32 n ((k + 1)) v3 x50.1 x50.2.1 x50.2.2.1 x50.2.2.2.1 x50.2.2.2.2.1 x50.2.2.2.2.2) else (f_X5_wins_L40 person n0 x32 n ((k + 1)) (v3 + 1) x50.1 x50.2.1 x50.2.2.1 x50.2.2.2.1 x50.2.2.2.2.1 x50.2.2.2.2.2)))) := rfl
def f_X5_wins (person : Int32) (n0 : Int32) (x_no_up : Int32) (x_no_down : Int32) (x_no_high : Int32) (x_no_prize : Int32) (x_no_z : Int32) (x_no_rounds : Int32) (x_no_people : Int32) (x_no_ls : Int32) (x_no_cr_so : Int32) (x_no_cr_sz : Int32) (x_no_cr_e_f : Nat → Int32) (x_mi_up : Int32) (x_mi_down : Int32) (x_mi_high : Int32) (x_mi_prize : Int32) (x_mi_z : Int32) (x_mi_rounds : Int32) (x_mi_people : Int32) (x_mi_ls : Int32) (x_mi_cr_so : Int32) (x_mi_cr_sz : Int32) (x_mi_cr_e_f : Nat → Int32) (pr_nu : Nat → Int32) (pr_ki : Nat → Int32) (pr_st : Nat → Int32) (pr_sl : Nat → Int32) (qm_nu : Nat → Int32) (qm_ki : Nat → Int32) (qm_st : Nat → Int32) (qm_sl : Nat → Int32) : Int32 × Int32 × Int32 × Int32 × Int32 × Int32 × Int32 × Int32 × Int32 × Int32 × Int32 × (Nat → Int32) × (Nat → Int32) × (Nat → Int32) × (Nat → Int32) × (Nat → Int32) := if (¬ person < 0 ∧ ¬ x_no_people ≤ person) then (if n0 < (1 : Int32) then ((-1), x_mi_up, x_mi_down, x_mi_high, x_mi_prize, x_mi_z, x_mi_rounds, x_mi_people, x_mi_ls, x_mi_cr_so, x_mi_cr_sz, x_mi_cr_e_f, qm_nu, qm_ki, qm_st, qm_sl) else (if n0 ≤ (20 : Int32) then (bnd (f_X0_takeFrom 12 x_mi_cr_e_f x_no_up x_no_down x_no_high x_no_prize x_no_z x_no_rounds x_no_people x_no_ls x_no_cr_so x_no_cr_sz x_no_cr_e_f qm_nu qm_ki qm_st qm_sl pr_nu pr_ki pr_st pr_sl) (fun x32 : Int32 × Int32 × Int32 × Int32 × Int32 × Int32 × Int32 × Int32 × Int32 × Int32 × (Nat → Int32) × (Nat → Int32) × (Nat → Int32) × (Nat → Int32) × (Nat → Int32) => f_X5_wins_L40 person n0 x32 (n0.toNatClampNeg + 1) 0 0 x32.2.2.2.2.1 x32.2.2.2.2.2.1 x32.2.2.2.2.2.2.2.1 x32.2.2.2.2.2.2.2.2.1 x32.2.2.2.2.2.2.2.2.2.1 x32.2.2.2.2.2.2.2.2.2.2.1)) else ((-1), x_mi_up, x_mi_down, x_mi_high, x_mi_prize, x_mi_z, x_mi_rounds, x_mi_people, x_mi_ls, x_mi_cr_so, x_mi_cr_sz, x_mi_cr_e_f, qm_nu, qm_ki, qm_st, qm_sl))) else ((-1), x_mi_up, x_mi_down, x_mi_high, x_mi_prize, x_mi_z, x_mi_rounds, x_mi_people, x_mi_ls, x_mi_cr_so, x_mi_cr_sz, x_mi_cr_e_f, qm_nu, qm_ki, qm_st, qm_sl)
set_option maxHeartbeats 400000 in
set_option maxRecDepth 100000 in
theorem c_X5_wins (l : Launch) (D : va_G) (cI cP cS cL : ClassId) (L : List Nat) (F : Nat → va_E) (x : Nat) (person : Int32) (n0 : Int32) (x_no : Nat) (x_ke : Nat) (x_mi : Nat) (x_im : Int32) (x_sh : Nat) (x_co : Nat) (x_ot : Nat) (x_no_up : Int32) (x_no_down : Int32) (x_no_high : Int32) (x_no_prize : Int32) (x_no_z : Int32) (x_no_rounds : Int32) (x_no_people : Int32) (x_no_pa : Nat) (x_no_cr : Nat) (x_no_ls : Int32) (x_no_cr_e : Nat) (x_no_cr_so : Int32) (x_no_cr_sz : Int32) (x_no_cr_e_f : Nat → Int32) (x_mi_up : Int32) (x_mi_down : Int32) (x_mi_high : Int32) (x_mi_prize : Int32) (x_mi_z : Int32) (x_mi_rounds : Int32) (x_mi_people : Int32) (x_mi_pa : Nat) (x_mi_cr : Nat) (x_mi_ls : Int32) (x_mi_cr_e : Nat) (x_mi_cr_so : Int32) (x_mi_cr_sz : Int32) (x_mi_cr_e_f : Nat → Int32) (pr : Nat → Nat) (pr_nu : Nat → Int32) (pr_ki : Nat → Int32) (pr_st : Nat → Int32) (pr_sl : Nat → Int32) (qm : Nat → Nat) (qm_nu : Nat → Int32) (qm_ki : Nat → Int32) (qm_st : Nat → Int32) (qm_sl : Nat → Int32) (h_x : wi L F x (eX x_no x_ke x_mi x_im x_sh x_co x_ot)) (h_x_no : wi L F x_no (eG x_no_up x_no_down x_no_high x_no_prize x_no_z x_no_rounds x_no_people x_no_pa x_no_cr x_no_ls)) (h_x_no_pa : wi L F x_no_pa (eQ cP 12 (fun i => some (pr i)))) (h_x_no_cr : wi L F x_no_cr (eR x_no_cr_e x_no_cr_so x_no_cr_sz)) (h_x_no_cr_e : wi L F x_no_cr_e (eI cI 12 x_no_cr_e_f)) (h_x_mi : wi L F x_mi (eG x_mi_up x_mi_down x_mi_high x_mi_prize x_mi_z x_mi_rounds x_mi_people x_mi_pa x_mi_cr x_mi_ls)) (h_x_mi_pa : wi L F x_mi_pa (eQ cP 12 (fun i => some (qm i)))) (h_x_mi_cr : wi L F x_mi_cr (eR x_mi_cr_e x_mi_cr_so x_mi_cr_sz)) (h_x_mi_cr_e : wi L F x_mi_cr_e (eI cI 12 x_mi_cr_e_f)) (h_pr : ∀ i, i < 12 → wi L F (pr i) (eP (pr_nu i) (pr_ki i) (pr_st i) (pr_sl i))) (h_qm : ∀ i, i < 12 → wi L F (qm i) (eP (qm_nu i) (qm_ki i) (qm_st i) (qm_sl i))) (hpp : x_no_people.toInt ≤ 12) (hzc : x_no_cr_sz.toInt ≤ 12) (hsts : ∀ i, i < 12 → (pr_st i).toInt ≤ 1000) (ne_x_no_x_mi : x_no ≠ x_mi) (ne_pr_qm : ∀ i j, i < 12 → j < 12 → pr i ≠ qm j) (ne_x_no_cr_x_mi_cr : x_no_cr ≠ x_mi_cr) (ne_x_no_cr_e_x_mi_cr_e : x_no_cr_e ≠ x_mi_cr_e) (hinj_qm : ∀ i k, i < 12 → k < 12 → qm i = qm k → i = k) : wMj l D cI cP cS cL yX5_wins wsX5_wins ({ frames := 7, cells := 0, slots := 0, locals := 151 } : Room) [.ref x, .int person, .int n0] L F (fun r1 F1 => ∃ y9 : Int32 × Int32 × Int32 × Int32 × Int32 × Int32 × Int32 × Int32 × Int32 × Int32 × Int32 × (Nat → Int32) × (Nat → Int32) × (Nat → Int32) × (Nat → Int32) × (Nat → Int32), y9 = (f_X5_wins person n0 x_no_up x_no_down x_no_high x_no_prize x_no_z x_no_rounds x_no_people x_no_ls x_no_cr_so x_no_cr_sz x_no_cr_e_f x_mi_up x_mi_down x_mi_high x_mi_prize x_mi_z x_mi_rounds x_mi_people x_mi_ls x_mi_cr_so x_mi_cr_sz x_mi_cr_e_f pr_nu pr_ki pr_st pr_sl qm_nu qm_ki qm_st qm_sl) ∧ r1 = y9.1 ∧ F1 x_mi = (eG y9.2.1 y9.2.2.1 y9.2.2.2.1 y9.2.2.2.2.1 y9.2.2.2.2.2.1 y9.2.2.2.2.2.2.1 y9.2.2.2.2.2.2.2.1 x_mi_pa x_mi_cr y9.2.2.2.2.2.2.2.2.1) ∧ F1 x_mi_cr = (eR x_mi_cr_e y9.2.2.2.2.2.2.2.2.2.1 y9.2.2.2.2.2.2.2.2.2.2.1) ∧ F1 x_mi_cr_e = (eI cI 12 y9.2.2.2.2.2.2.2.2.2.2.2.1) ∧ (∀ i, i < 12 → F1 (qm i) = (eP (y9.2.2.2.2.2.2.2.2.2.2.2.2.1 i) (y9.2.2.2.2.2.2.2.2.2.2.2.2.2.1 i) (y9.2.2.2.2.2.2.2.2.2.2.2.2.2.2.1 i) (y9.2.2.2.2.2.2.2.2.2.2.2.2.2.2.2 i))) ∧ wk (fun q : Nat => q ≠ x_mi ∧ q ≠ x_mi_cr ∧ q ≠ x_mi_cr_e ∧ (∀ i, i < 12 → q ≠ qm i) ∧ True) F1 F) := by
  refine wM.of (cc := cX5_wins) (maxL := 5) (ret := (some .int)) (by decide) rfl (Nat.le_of_ble_eq_true rfl) ?_
  intro pZ eZ sZ mZ below meth cZ A ls C hl w
  obtain ⟨hx, hb, hr, hml, hts, hown, hlocks, hK, hA, hin⟩ := C
  have hown : sZ.vm.findClass RX5 = some mZ.cls := hown
  have hl : lv_has ls 5 [(0, .ref x), (1, .int person), (2, .int n0)] := hl
  have m_0 : ((.fieldLink RX5 10 "TwoThirds" "now" "LTwoThirds$Game;") : Cond) ∈ wsX5_wins := by decide +kernel
  have i_X5 : ∀ w ∈ wsX50, w ∈ wsX5_wins := by decide +kernel
  have m_2 : ((.fieldLink RX5 19 "TwoThirds" "mind" "LTwoThirds$Game;") : Cond) ∈ wsX5_wins := by decide +kernel
  have m_3 : ((.fieldLink RX5 96 "TwoThirds$Game" "cards" "LTwoThirds$Row;") : Cond) ∈ wsX5_wins := by decide +kernel
  have i_X0 : ∀ w ∈ wsX00, w ∈ wsX5_wins := by decide +kernel
  have hk : wk (fun q : Nat => q ≠ x_mi ∧ q ≠ x_mi_cr ∧ q ≠ x_mi_cr_e ∧ (∀ i, i < 12 → q ≠ qm i) ∧ True) F F := wk.rf
  have hq : f_X5_wins person n0 x_no_up x_no_down x_no_high x_no_prize x_no_z x_no_rounds x_no_people x_no_ls x_no_cr_so x_no_cr_sz x_no_cr_e_f x_mi_up x_mi_down x_mi_high x_mi_prize x_mi_z x_mi_rounds x_mi_people x_mi_ls x_mi_cr_so x_mi_cr_sz x_mi_cr_e_f pr_nu pr_ki pr_st pr_sl qm_nu qm_ki qm_st qm_sl = f_X5_wins person n0 x_no_up x_no_down x_no_high x_no_prize x_no_z x_no_rounds x_no_people x_no_ls x_no_cr_so x_no_cr_sz x_no_cr_e_f x_mi_up x_mi_down x_mi_high x_mi_prize x_mi_z x_mi_rounds x_mi_people x_mi_ls x_mi_cr_so x_mi_cr_sz x_mi_cr_e_f pr_nu pr_ki pr_st pr_sl qm_nu qm_ki qm_st qm_sl := rfl
  refine lv_aload_n hx hb dX5_wins_0 rfl (lv_at hl 0 rfl) ?_
  refine w_get (v := .ref x_no) hx hb hts i_X5 hown hK w h_x rfl 0 (by decide) (hts _ m_0) rfl dX5_wins_1 ?_
  refine lv_iload_n hx hb dX5_wins_4 rfl (lv_at hl 1 rfl) ?_
  by_cases c1 : (¬ person < 0 ∧ ¬ x_no_people ≤ person)
  · skip
    have hq := hq.trans (if_pos c1)
    have hlt_C : person.toNatClampNeg < 12 := w_okP c1 hpp
    refine w_finQ (v := .ref (pr (person.toNatClampNeg))) rfl (w_runV (rm := ({ frames := 0, cells := 0, slots := 0, locals := 0 } : Room)) (As := [.int person]) (rest := []) (n := 1) hx hb hml hts hown hK w (c_X0_personAt_some l D cI cP cS cL L _ x_no person x_no_up x_no_down x_no_high x_no_prize x_no_z x_no_rounds x_no_people x_no_pa x_no_cr x_no_ls pr pr_nu pr_ki pr_st pr_sl h_x_no h_x_no_pa h_pr c1 hpp) gX5_wins_X0_personAt rfl rfl rfl (by decide +kernel) ⟨(Nat.le_of_ble_eq_true rfl), (Nat.le_of_ble_eq_true rfl)⟩ h_x_no rfl rfl hl.1 rfl (Nat.le_of_ble_eq_true rfl) dX5_wins_5 ⟨(Nat.le_of_ble_eq_true rfl), (Nat.le_of_ble_eq_true rfl)⟩) w hA (fun H locs w => ?_)
    refine lv_ifnull hx hb dX5_wins_8 ?_
    refine lv_iload_n hx hb dX5_wins_11 rfl (lv_at hl 2 rfl) ?_
    refine lv_iconst (v := 1) hx hb dX5_wins_12 (by decide) ?_
    refine lv_icmp_lt (tgt := 22) hx hb dX5_wins_13 (by decide) (fun c2 => ?_) (fun c2 => ?_)
    · skip
      have hq := hq.trans (if_pos c2)
      refine lv_iconst (v := (-1)) hx hb dX5_wins_22 (by decide) ?_
      exact w_iret hx hb hr hlocks w ⟨rfl, _, hq.symm, rfl, h_x_mi.2, h_x_mi_cr.2, h_x_mi_cr_e.2, (fun i hi => (h_qm i hi).2), hk⟩ (Nat.le_refl _) (Nat.le_refl _) dX5_wins_23
    · skip
      have hq := hq.trans (if_neg c2)
      refine lv_iload_n hx hb dX5_wins_16 rfl (lv_at hl 2 rfl) ?_
      refine lv_bipush (v := 20) hx hb dX5_wins_17 (by decide) ?_
      refine lv_icmp_le (tgt := 24) hx hb dX5_wins_19 (by decide) (fun c3 => ?_) (fun c3 => ?_)
      · skip
        have hq := hq.trans (if_pos c3)
        refine lv_aload_n hx hb dX5_wins_24 rfl (lv_at hl 0 rfl) ?_
        refine w_get (v := .ref x_mi) hx hb hts i_X5 hown hK w h_x rfl 2 (by decide) (hts _ m_2) rfl dX5_wins_25 ?_
        refine lv_aload_n hx hb dX5_wins_28 rfl (lv_at hl 0 rfl) ?_
        refine w_get (v := .ref x_no) hx hb hts i_X5 hown hK w h_x rfl 0 (by decide) (hts _ m_0) rfl dX5_wins_29 ?_
        refine w_finw (w_runV (rm := ({ frames := 3, cells := 0, slots := 0, locals := 67 } : Room)) (As := [.ref x_no]) (rest := []) (n := 1) hx hb hml hts hown hK w (c_X0_takeFrom l D cI cP cS cL L _ x_mi x_no x_mi_up x_mi_down x_mi_high x_mi_prize x_mi_z x_mi_rounds x_mi_people x_mi_pa x_mi_cr x_mi_ls x_mi_cr_e x_mi_cr_so x_mi_cr_sz 12 x_mi_cr_e_f x_no_up x_no_down x_no_high x_no_prize x_no_z x_no_rounds x_no_people x_no_pa x_no_cr x_no_ls x_no_cr_e x_no_cr_so x_no_cr_sz 12 x_no_cr_e_f qm qm_nu qm_ki qm_st qm_sl pr pr_nu pr_ki pr_st pr_sl h_x_mi h_x_mi_pa h_x_mi_cr h_x_mi_cr_e h_x_no h_x_no_pa h_x_no_cr h_x_no_cr_e h_qm h_pr (by decide) hzc ne_x_no_x_mi ne_pr_qm ne_x_no_cr_x_mi_cr ne_x_no_cr_e_x_mi_cr_e hinj_qm) gX5_wins_X0_takeFrom rfl rfl rfl (by decide +kernel) ⟨(Nat.le_of_ble_eq_true rfl), (Nat.le_of_ble_eq_true rfl)⟩ h_x_mi rfl rfl hl.1 rfl (Nat.le_of_ble_eq_true rfl) dX5_wins_32 ⟨(Nat.le_of_ble_eq_true rfl), (Nat.le_of_ble_eq_true rfl)⟩) w hA (fun F1 H locs hp w => ?_)
        obtain ⟨x32, hx32, hw0, hw1, hw2, hw3, hk9⟩ := hp
        have hq := hq.trans (w_bnd hx32)
        have h_x := h_x.keep hk9 ⟨(wi.ne h_x h_x_mi (by intro h; cases h)), (wi.ne h_x h_x_mi_cr (by intro h; cases h)), (wi.ne h_x h_x_mi_cr_e (by intro h; cases h)), (fun j hj => (wi.ne h_x (h_qm j hj) (by intro h; cases h))), trivial⟩
        have h_x_no := h_x_no.keep hk9 ⟨ne_x_no_x_mi, (wi.ne h_x_no h_x_mi_cr (by intro h; cases h)), (wi.ne h_x_no h_x_mi_cr_e (by intro h; cases h)), (fun j hj => (wi.ne h_x_no (h_qm j hj) (by intro h; cases h))), trivial⟩
        have h_x_no_pa := h_x_no_pa.keep hk9 ⟨(wi.ne h_x_no_pa h_x_mi (by intro h; cases h)), (wi.ne h_x_no_pa h_x_mi_cr (by intro h; cases h)), (wi.ne h_x_no_pa h_x_mi_cr_e (by intro h; cases h)), (fun j hj => (wi.ne h_x_no_pa (h_qm j hj) (by intro h; cases h))), trivial⟩
        have h_x_no_cr := h_x_no_cr.keep hk9 ⟨(wi.ne h_x_no_cr h_x_mi (by intro h; cases h)), ne_x_no_cr_x_mi_cr, (wi.ne h_x_no_cr h_x_mi_cr_e (by intro h; cases h)), (fun j hj => (wi.ne h_x_no_cr (h_qm j hj) (by intro h; cases h))), trivial⟩
        have h_x_no_cr_e := h_x_no_cr_e.keep hk9 ⟨(wi.ne h_x_no_cr_e h_x_mi (by intro h; cases h)), (wi.ne h_x_no_cr_e h_x_mi_cr (by intro h; cases h)), ne_x_no_cr_e_x_mi_cr_e, (fun j hj => (wi.ne h_x_no_cr_e (h_qm j hj) (by intro h; cases h))), trivial⟩
        have h_x_mi_pa := h_x_mi_pa.keep hk9 ⟨(wi.ne h_x_mi_pa h_x_mi (by intro h; cases h)), (wi.ne h_x_mi_pa h_x_mi_cr (by intro h; cases h)), (wi.ne h_x_mi_pa h_x_mi_cr_e (by intro h; cases h)), (fun j hj => (wi.ne h_x_mi_pa (h_qm j hj) (by intro h; cases h))), trivial⟩
        have h_pr := fun i (hi : i < 12) => (h_pr i hi).keep hk9 ⟨(wi.ne (h_pr i hi) h_x_mi (by intro h; cases h)), (wi.ne (h_pr i hi) h_x_mi_cr (by intro h; cases h)), (wi.ne (h_pr i hi) h_x_mi_cr_e (by intro h; cases h)), (fun j hj => (ne_pr_qm i j hi hj)), trivial⟩
        have h_x_mi := h_x_mi.new hw0
        have h_x_mi_cr := h_x_mi_cr.new hw1
        have h_x_mi_cr_e := h_x_mi_cr_e.new hw2
        have h_qm := fun i (hi : i < 12) => (h_qm i hi).new (hw3 i hi)
        have hk := hk.call hk9 (fun q h => ⟨h.1, h.2.1, h.2.2.1, h.2.2.2.1, trivial⟩)
        have hq_st : ∀ i, i < 12 → (x32.2.2.2.2.2.2.2.2.2.2.2.2.2.1 i).toInt ≤ 1000 := by rw [hx32, tf_eq]; intro i hi; show (cp 12 _ pr_st i).toInt ≤ 1000; rw [show cp 12 _ pr_st i = pr_st i from if_pos hi]; exact hsts i hi
        refine lv_iconst (v := 0) hx hb dX5_wins_35 (by decide) ?_
        refine lv_istore_n (lv' := [(3, .int 0), (0, .ref x), (1, .int person), (2, .int n0)]) hx hb dX5_wins_36 rfl hl (by decide) rfl (fun ls hl => ?_)
        refine lv_iconst (v := 0) hx hb dX5_wins_37 (by decide) ?_
        refine lv_istore (lv' := [(4, .int 0), (3, .int 0), (0, .ref x), (1, .int person), (2, .int n0)]) hx hb dX5_wins_38 hl (by decide) rfl (fun ls hl => ?_)
        have hL40 : ∀ (n k : Nat) (v3 : Int32) (u_x_mi_z : Int32) (u_x_mi_rounds : Int32) (u_x_mi_ls : Int32) (u_x_mi_cr_so : Int32) (u_x_mi_cr_sz : Int32) (u_x_mi_cr_e_f : Nat → Int32) (F1 : Nat → va_E) (H : Heap) (locs : List Loc) (ls : Array Slot), k ≤ n0.toNatClampNeg → n0.toNatClampNeg - k < n → f_X5_wins person n0 x_no_up x_no_down x_no_high x_no_prize x_no_z x_no_rounds x_no_people x_no_ls x_no_cr_so x_no_cr_sz x_no_cr_e_f x_mi_up x_mi_down x_mi_high x_mi_prize x_mi_z x_mi_rounds x_mi_people x_mi_ls x_mi_cr_so x_mi_cr_sz x_mi_cr_e_f pr_nu pr_ki pr_st pr_sl qm_nu qm_ki qm_st qm_sl = f_X5_wins_L40 person n0 x32 n k v3 u_x_mi_z u_x_mi_rounds u_x_mi_ls u_x_mi_cr_so u_x_mi_cr_sz u_x_mi_cr_e_f → lv_has ls 5 [(0, .ref x), (1, .int person), (2, .int n0), (3, .int v3), (4, .int (nI k))] → ww D A sZ.heap L F1 H locs → (wi L F1 x (eX x_no x_ke x_mi x_im x_sh x_co x_ot)) → (wi L F1 x_no (eG x_no_up x_no_down x_no_high x_no_prize x_no_z x_no_rounds x_no_people x_no_pa x_no_cr x_no_ls)) → (wi L F1 x_no_pa (eQ cP 12 (fun i => some (pr i)))) → (wi L F1 x_no_cr (eR x_no_cr_e x_no_cr_so x_no_cr_sz)) → (wi L F1 x_no_cr_e (eI cI 12 x_no_cr_e_f)) → (wi L F1 x_mi (eG x32.1 x32.2.1 x32.2.2.1 x32.2.2.2.1 u_x_mi_z u_x_mi_rounds x32.2.2.2.2.2.2.1 x_mi_pa x_mi_cr u_x_mi_ls)) → (wi L F1 x_mi_pa (eQ cP 12 (fun i => some (qm i)))) → (wi L F1 x_mi_cr (eR x_mi_cr_e u_x_mi_cr_so u_x_mi_cr_sz)) → (wi L F1 x_mi_cr_e (eI cI 12 u_x_mi_cr_e_f)) → (∀ i, i < 12 → wi L F1 (pr i) (eP (pr_nu i) (pr_ki i) (pr_st i) (pr_sl i))) → (∀ i, i < 12 → wi L F1 (qm i) (eP (x32.2.2.2.2.2.2.2.2.2.2.2.1 i) (x32.2.2.2.2.2.2.2.2.2.2.2.2.1 i) (x32.2.2.2.2.2.2.2.2.2.2.2.2.2.1 i) (x32.2.2.2.2.2.2.2.2.2.2.2.2.2.2 i))) → wk (fun q : Nat => q ≠ x_mi ∧ q ≠ x_mi_cr ∧ q ≠ x_mi_cr_e ∧ (∀ i, i < 12 → q ≠ qm i) ∧ True) F1 F → W pZ l eZ ({ frames := 7, cells := 0, slots := 0, locals := 151 } : Room) sZ mZ [.ref x, .int person, .int n0].toArray below meth cZ H locs 0 0 (MQ below (wQi D A (fun r1 L1 F1 => L1 = L ∧ ∃ y9 : Int32 × Int32 × Int32 × Int32 × Int32 × Int32 × Int32 × Int32 × Int32 × Int32 × Int32 × (Nat → Int32) × (Nat → Int32) × (Nat → Int32) × (Nat → Int32) × (Nat → Int32), y9 = (f_X5_wins person n0 x_no_up x_no_down x_no_high x_no_prize x_no_z x_no_rounds x_no_people x_no_ls x_no_cr_so x_no_cr_sz x_no_cr_e_f x_mi_up x_mi_down x_mi_high x_mi_prize x_mi_z x_mi_rounds x_mi_people x_mi_ls x_mi_cr_so x_mi_cr_sz x_mi_cr_e_f pr_nu pr_ki pr_st pr_sl qm_nu qm_ki qm_st qm_sl) ∧ r1 = y9.1 ∧ F1 x_mi = (eG y9.2.1 y9.2.2.1 y9.2.2.2.1 y9.2.2.2.2.1 y9.2.2.2.2.2.1 y9.2.2.2.2.2.2.1 y9.2.2.2.2.2.2.2.1 x_mi_pa x_mi_cr y9.2.2.2.2.2.2.2.2.1) ∧ F1 x_mi_cr = (eR x_mi_cr_e y9.2.2.2.2.2.2.2.2.2.1 y9.2.2.2.2.2.2.2.2.2.2.1) ∧ F1 x_mi_cr_e = (eI cI 12 y9.2.2.2.2.2.2.2.2.2.2.2.1) ∧ (∀ i, i < 12 → F1 (qm i) = (eP (y9.2.2.2.2.2.2.2.2.2.2.2.2.1 i) (y9.2.2.2.2.2.2.2.2.2.2.2.2.2.1 i) (y9.2.2.2.2.2.2.2.2.2.2.2.2.2.2.1 i) (y9.2.2.2.2.2.2.2.2.2.2.2.2.2.2.2 i))) ∧ wk (fun q : Nat => q ≠ x_mi ∧ q ≠ x_mi_cr ∧ q ≠ x_mi_cr_e ∧ (∀ i, i < 12 → q ≠ qm i) ∧ True) F1 F)) [.ref x, .int person, .int n0].toArray sZ 0 0 A) (F0 mZ 40 ls []) := by
          intro n; induction n with
          | zero => intro k v3 u_x_mi_z u_x_mi_rounds u_x_mi_ls u_x_mi_cr_so u_x_mi_cr_sz u_x_mi_cr_e_f F1 H locs ls hkT hmeas; exact absurd hmeas (Nat.not_lt_zero _)
          | succ n ih =>
            intro k v3 u_x_mi_z u_x_mi_rounds u_x_mi_ls u_x_mi_cr_so u_x_mi_cr_sz u_x_mi_cr_e_f F1 H locs ls hkT hmeas hq hl w h_x h_x_no h_x_no_pa h_x_no_cr h_x_no_cr_e h_x_mi h_x_mi_pa h_x_mi_cr h_x_mi_cr_e h_pr h_qm hk
            have hk31 : k < 2147483648 := Nat.lt_of_le_of_lt hkT (w_clamp_lt _)
            have hq := hq.trans (f_X5_wins_L40_s person n0 x32 n k v3 u_x_mi_z u_x_mi_rounds u_x_mi_ls u_x_mi_cr_so u_x_mi_cr_sz u_x_mi_cr_e_f)
            refine lv_iload hx hb dX5_wins_40 (lv_at hl 4 rfl) ?_
            refine lv_iload_n hx hb dX5_wins_42 rfl (lv_at hl 2 rfl) ?_
            refine lv_icmp_ge (tgt := 80) hx hb dX5_wins_43 (by decide) (fun c4 => ?_) (fun c4 => ?_)
            · skip
              have hq := hq.trans (if_pos c4)
              refine lv_iload_n hx hb dX5_wins_80 rfl (lv_at hl 3 rfl) ?_
              exact w_iret hx hb hr hlocks w ⟨rfl, _, hq.symm, rfl, h_x_mi.2, h_x_mi_cr.2, h_x_mi_cr_e.2, (fun i hi => (h_qm i hi).2), hk⟩ (Nat.le_refl _) (Nat.le_refl _) dX5_wins_81
            · skip
              have hq := hq.trans (if_neg c4)
              have hlt43 : k < n0.toNatClampNeg := w_ltk hk31 c4
              refine lv_aload_n hx hb dX5_wins_46 rfl (lv_at hl 0 rfl) ?_
              refine w_get (v := .ref x_mi) hx hb hts i_X5 hown hK w h_x rfl 2 (by decide) (hts _ m_2) rfl dX5_wins_47 ?_
              refine w_finw (w_runV (rm := ({ frames := 6, cells := 0, slots := 0, locals := 130 } : Room)) (As := []) (rest := []) (n := 0) hx hb hml hts hown hK w (c_X0_play l D cI cP cS cL L _ x_mi x32.1 x32.2.1 x32.2.2.1 x32.2.2.2.1 u_x_mi_z u_x_mi_rounds x32.2.2.2.2.2.2.1 x_mi_pa x_mi_cr u_x_mi_ls x_mi_cr_e u_x_mi_cr_so u_x_mi_cr_sz 12 u_x_mi_cr_e_f qm x32.2.2.2.2.2.2.2.2.2.2.2.1 x32.2.2.2.2.2.2.2.2.2.2.2.2.1 x32.2.2.2.2.2.2.2.2.2.2.2.2.2.1 x32.2.2.2.2.2.2.2.2.2.2.2.2.2.2 h_x_mi h_x_mi_pa h_x_mi_cr h_x_mi_cr_e h_qm (by decide) hq_st) gX5_wins_X0_play rfl rfl rfl (by decide +kernel) ⟨(Nat.le_of_ble_eq_true rfl), (Nat.le_of_ble_eq_true rfl)⟩ h_x_mi rfl rfl hl.1 rfl (Nat.le_of_ble_eq_true rfl) dX5_wins_50 ⟨(Nat.le_of_ble_eq_true rfl), (Nat.le_of_ble_eq_true rfl)⟩) w hA (fun F1 H locs hp w => ?_)
              obtain ⟨x50, hx50, hw0, hw1, hw2, hk9⟩ := hp
              have hq := hq.trans (w_bnd hx50)
              have h_x := h_x.keep hk9 ⟨(wi.ne h_x h_x_mi (by intro h; cases h)), (wi.ne h_x h_x_mi_cr (by intro h; cases h)), (wi.ne h_x h_x_mi_cr_e (by intro h; cases h)), trivial⟩
              have h_x_no := h_x_no.keep hk9 ⟨ne_x_no_x_mi, (wi.ne h_x_no h_x_mi_cr (by intro h; cases h)), (wi.ne h_x_no h_x_mi_cr_e (by intro h; cases h)), trivial⟩
              have h_x_no_pa := h_x_no_pa.keep hk9 ⟨(wi.ne h_x_no_pa h_x_mi (by intro h; cases h)), (wi.ne h_x_no_pa h_x_mi_cr (by intro h; cases h)), (wi.ne h_x_no_pa h_x_mi_cr_e (by intro h; cases h)), trivial⟩
              have h_x_no_cr := h_x_no_cr.keep hk9 ⟨(wi.ne h_x_no_cr h_x_mi (by intro h; cases h)), ne_x_no_cr_x_mi_cr, (wi.ne h_x_no_cr h_x_mi_cr_e (by intro h; cases h)), trivial⟩
              have h_x_no_cr_e := h_x_no_cr_e.keep hk9 ⟨(wi.ne h_x_no_cr_e h_x_mi (by intro h; cases h)), (wi.ne h_x_no_cr_e h_x_mi_cr (by intro h; cases h)), ne_x_no_cr_e_x_mi_cr_e, trivial⟩
              have h_x_mi_pa := h_x_mi_pa.keep hk9 ⟨(wi.ne h_x_mi_pa h_x_mi (by intro h; cases h)), (wi.ne h_x_mi_pa h_x_mi_cr (by intro h; cases h)), (wi.ne h_x_mi_pa h_x_mi_cr_e (by intro h; cases h)), trivial⟩
              have h_pr := fun i (hi : i < 12) => (h_pr i hi).keep hk9 ⟨(wi.ne (h_pr i hi) h_x_mi (by intro h; cases h)), (wi.ne (h_pr i hi) h_x_mi_cr (by intro h; cases h)), (wi.ne (h_pr i hi) h_x_mi_cr_e (by intro h; cases h)), trivial⟩
              have h_qm := fun i (hi : i < 12) => (h_qm i hi).keep hk9 ⟨(wi.ne (h_qm i hi) h_x_mi (by intro h; cases h)), (wi.ne (h_qm i hi) h_x_mi_cr (by intro h; cases h)), (wi.ne (h_qm i hi) h_x_mi_cr_e (by intro h; cases h)), trivial⟩
              have h_x_mi := h_x_mi.new hw0
              have h_x_mi_cr := h_x_mi_cr.new hw1
              have h_x_mi_cr_e := h_x_mi_cr_e.new hw2
              have hk := hk.call hk9 (fun q h => ⟨h.1, h.2.1, h.2.2.1, trivial⟩)
              have hz50 : x50.2.2.2.2.1.toInt ≤ 12 := by rw [hx50]; exact play_sz _ _ _ _ _ _ _ _ _ _ _ _ (by decide)
              refine lv_aload_n hx hb dX5_wins_53 rfl (lv_at hl 0 rfl) ?_
              refine w_get (v := .ref x_mi) hx hb hts i_X5 hown hK w h_x rfl 2 (by decide) (hts _ m_2) rfl dX5_wins_54 ?_
              refine lv_aload_n hx hb dX5_wins_57 rfl (lv_at hl 0 rfl) ?_
              refine w_get (v := .ref x_mi) hx hb hts i_X5 hown hK w h_x rfl 2 (by decide) (hts _ m_2) rfl dX5_wins_58 ?_
              refine w_get (v := .ref x_mi_cr) hx hb hts i_X0 hown hK w h_x_mi rfl 8 (by decide) (hts _ m_3) rfl dX5_wins_61 ?_
              refine lv_iload_n hx hb dX5_wins_64 rfl (lv_at hl 1 rfl) ?_
              refine w_finI (w_runV (rm := ({ frames := 3, cells := 0, slots := 0, locals := 70 } : Room)) (As := [.ref x_mi_cr, .int person]) (rest := []) (n := 2) hx hb hml hts hown hK w (c_X0_isWinner l D cI cP cS cL L _ x_mi x_mi_cr person x32.1 x32.2.1 x32.2.2.1 x32.2.2.2.1 x50.1 x50.2.1 x32.2.2.2.2.2.2.1 x_mi_pa x_mi_cr x50.2.2.1 x_mi_cr_e x50.2.2.2.1 x50.2.2.2.2.1 12 x50.2.2.2.2.2 h_x_mi h_x_mi_cr h_x_mi_cr_e hz50) gX5_wins_X0_isWinner rfl rfl rfl (by decide +kernel) ⟨(Nat.le_of_ble_eq_true rfl), (Nat.le_of_ble_eq_true rfl)⟩ h_x_mi rfl rfl hl.1 rfl (Nat.le_of_ble_eq_true rfl) dX5_wins_65 ⟨(Nat.le_of_ble_eq_true rfl), (Nat.le_of_ble_eq_true rfl)⟩) w hA (fun H locs w => ?_)
              refine lv_if_eq (tgt := 74) hx hb dX5_wins_68 (by decide) (fun c5 => ?_) (fun c5 => ?_)
              · skip
                have hq := hq.trans (if_pos c5)
                refine lv_iinc (v := (nI (k + 1))) (lv' := [(4, .int (nI (k + 1))), (0, .ref x), (1, .int person), (2, .int n0), (3, .int v3)]) hx hb dX5_wins_74 hl (k := 4) rfl (w_inc _) (by decide) rfl (fun ls hl => ?_)
                refine lv_goto (tgt := 40) hx hb dX5_wins_77 (by decide) ?_
                exact ih ((k + 1)) v3 x50.1 x50.2.1 x50.2.2.1 x50.2.2.2.1 x50.2.2.2.2.1 x50.2.2.2.2.2 _ _ _ _ (by omega) (by omega) hq (lv_sub hl [1, 2, 3, 4, 0] rfl) w h_x h_x_no h_x_no_pa h_x_no_cr h_x_no_cr_e h_x_mi h_x_mi_pa h_x_mi_cr h_x_mi_cr_e h_pr h_qm hk
              · skip
                have hq := hq.trans (if_neg c5)
                refine lv_iinc (v := (v3 + 1)) (lv' := [(3, .int (v3 + 1)), (0, .ref x), (1, .int person), (2, .int n0), (4, .int (nI k))]) hx hb dX5_wins_71 hl (k := 3) rfl rfl (by decide) rfl (fun ls hl => ?_)
                refine lv_iinc (v := (nI (k + 1))) (lv' := [(4, .int (nI (k + 1))), (3, .int (v3 + 1)), (0, .ref x), (1, .int person), (2, .int n0)]) hx hb dX5_wins_74 hl (k := 4) rfl (w_inc _) (by decide) rfl (fun ls hl => ?_)
                refine lv_goto (tgt := 40) hx hb dX5_wins_77 (by decide) ?_
                exact ih ((k + 1)) (v3 + 1) x50.1 x50.2.1 x50.2.2.1 x50.2.2.2.1 x50.2.2.2.2.1 x50.2.2.2.2.2 _ _ _ _ (by omega) (by omega) hq (lv_sub hl [2, 3, 4, 1, 0] rfl) w h_x h_x_no h_x_no_pa h_x_no_cr h_x_no_cr_e h_x_mi h_x_mi_pa h_x_mi_cr h_x_mi_cr_e h_pr h_qm hk
        exact hL40 (n0.toNatClampNeg + 1) 0 0 x32.2.2.2.2.1 x32.2.2.2.2.2.1 x32.2.2.2.2.2.2.2.1 x32.2.2.2.2.2.2.2.2.1 x32.2.2.2.2.2.2.2.2.2.1 x32.2.2.2.2.2.2.2.2.2.2.1 _ _ _ _ (Nat.zero_le _) (by omega) hq (lv_sub hl [2, 3, 4, 1, 0] rfl) w h_x h_x_no h_x_no_pa h_x_no_cr h_x_no_cr_e h_x_mi h_x_mi_pa h_x_mi_cr h_x_mi_cr_e h_pr h_qm hk
      · skip
        have hq := hq.trans (if_neg c3)
        refine lv_iconst (v := (-1)) hx hb dX5_wins_22 (by decide) ?_
        exact w_iret hx hb hr hlocks w ⟨rfl, _, hq.symm, rfl, h_x_mi.2, h_x_mi_cr.2, h_x_mi_cr_e.2, (fun i hi => (h_qm i hi).2), hk⟩ (Nat.le_refl _) (Nat.le_refl _) dX5_wins_23
  · skip
    have hq := hq.trans (if_neg c1)
    refine w_finQ (v := .null) (by unfold f_X0_personAt_none; first | rfl | (split <;> rfl)) (w_runV (rm := ({ frames := 0, cells := 0, slots := 0, locals := 0 } : Room)) (As := [.int person]) (rest := []) (n := 1) hx hb hml hts hown hK w (c_X0_personAt_none l D cI cP cS cL L _ x_no person x_no_up x_no_down x_no_high x_no_prize x_no_z x_no_rounds x_no_people x_no_pa x_no_cr x_no_ls pr h_x_no h_x_no_pa c1) gX5_wins_X0_personAt rfl rfl rfl (by decide +kernel) ⟨(Nat.le_of_ble_eq_true rfl), (Nat.le_of_ble_eq_true rfl)⟩ h_x_no rfl rfl hl.1 rfl (Nat.le_of_ble_eq_true rfl) dX5_wins_5 ⟨(Nat.le_of_ble_eq_true rfl), (Nat.le_of_ble_eq_true rfl)⟩) w hA (fun H locs w => ?_)
    refine lv_ifnullN (tgt := 22) hx hb dX5_wins_8 (by decide) ?_
    refine lv_iconst (v := (-1)) hx hb dX5_wins_22 (by decide) ?_
    exact w_iret hx hb hr hlocks w ⟨rfl, _, hq.symm, rfl, h_x_mi.2, h_x_mi_cr.2, h_x_mi_cr_e.2, (fun i hi => (h_qm i hi).2), hk⟩ (Nat.le_refl _) (Nat.le_refl _) dX5_wins_23
def f_X5_ahead_L74 (d : Int32) (up : Int32) (down : Int32) (x_no_up : Int32) (x_no_down : Int32) (x_no_high : Int32) (rw_sz : Nat → Int32) (el_f : Nat → Nat → Int32) (x49 : Int32 × Int32 × Int32 × Int32 × Int32 × Int32 × Int32 × Int32 × Int32 × Int32 × (Nat → Int32) × (Nat → Int32) × (Nat → Int32) × (Nat → Int32) × (Nat → Int32)) : Nat → Nat → Int32 → Int32 × Int32 × Int32 × Int32 × Int32 × Int32 × Int32 × Int32 × Int32 × Int32 × Int32 × (Nat → Int32) × (Nat → Int32) × (Nat → Int32) × (Nat → Int32) × (Nat → Int32)
  | 0, _, _ => (0, 0, 0, 0, 0, 0, 0, 0, 0, 0, 0, (fun _ => 0), (fun _ => 0), (fun _ => 0), (fun _ => 0), (fun _ => 0))
  | n + 1, k, v6 => if (rw_sz (d.toNatClampNeg)) ≤ (nI k) then (v6, up, down, x49.2.2.1, x49.2.2.2.1, x49.2.2.2.2.1, x49.2.2.2.2.2.1, x49.2.2.2.2.2.2.1, x49.2.2.2.2.2.2.2.1, x49.2.2.2.2.2.2.2.2.1, x49.2.2.2.2.2.2.2.2.2.1, x49.2.2.2.2.2.2.2.2.2.2.1, x49.2.2.2.2.2.2.2.2.2.2.2.1, x49.2.2.2.2.2.2.2.2.2.2.2.2.1, x49.2.2.2.2.2.2.2.2.2.2.2.2.2.1, x49.2.2.2.2.2.2.2.2.2.2.2.2.2.2) else (f_X5_ahead_L74 d up down x_no_up x_no_down x_no_high rw_sz el_f x49 n ((k + 1)) (v6 + (f_X0_stepped (f_X0_nearestSteps (f_X3_at (nI k) (rw_sz (d.toNatClampNeg)) (el_f (d.toNatClampNeg))) x_no_up x_no_down x_no_high) up down x49.2.2.1)))
theorem f_X5_ahead_L74_s (d : Int32) (up : Int32) (down : Int32) (x_no_up : Int32) (x_no_down : Int32) (x_no_high : Int32) (rw_sz : Nat → Int32) (el_f : Nat → Nat → Int32) (x49 : Int32 × Int32 × Int32 × Int32 × Int32 × Int32 × Int32 × Int32 × Int32 × Int32 × (Nat → Int32) × (Nat → Int32) × (Nat → Int32) × (Nat → Int32) × (Nat → Int32)) (n k : Nat) (v6 : Int32) : f_X5_ahead_L74 d up down x_no_up x_no_down x_no_high rw_sz el_f x49 (n + 1) k v6 = (if (rw_sz (d.toNatClampNeg)) ≤ (nI k) then (v6, up, down, x49.2.2.1, x49.2.2.2.1, x49.2.2.2.2.1, x49.2.2.2.2.2.1, x49.2.2.2.2.2.2.1, x49.2.2.2.2.2.2.2.1, x49.2.2.2.2.2.2.2.2.1, x49.2.2.2.2.2.2.2.2.2.1, x49.2.2.2.2.2.2.2.2.2.2.1, x49.2.2.2.2.2.2.2.2.2.2.2.1, x49.2.2.2.2.2.2.2.2.2.2.2.2.1, x49.2.2.2.2.2.2.2.2.2.2.2.2.2.1, x49.2.2.2.2.2.2.2.2.2.2.2.2.2.2) else (f_X5_ahead_L74 d up down x_no_up x_no_down x_no_high rw_sz el_f x49 n ((k + 1)) (v6 + (f_X0_stepped (f_X0_nearestSteps (f_X3_at (nI k) (rw_sz (d.toNatClampNeg)) (el_f (d.toNatClampNeg))) x_no_up x_no_down x_no_high) up down x49.2.2.1)))) := rfl
def f_X5_ahead (d : Int32) (up : Int32) (down : Int32) (x_no_up : Int32) (x_no_down : Int32) (x_no_high : Int32) (x_no_prize : Int32) (x_no_z : Int32) (x_no_rounds : Int32) (x_no_people : Int32) (x_no_ls : Int32) (x_no_cr_so : Int32) (x_no_cr_sz : Int32) (x_no_cr_e_f : Nat → Int32) (x_mi_up : Int32) (x_mi_down : Int32) (x_mi_high : Int32) (x_mi_prize : Int32) (x_mi_z : Int32) (x_mi_rounds : Int32) (x_mi_people : Int32) (x_mi_ls : Int32) (x_mi_cr_so : Int32) (x_mi_cr_sz : Int32) (x_mi_cr_e_f : Nat → Int32) (pr_nu : Nat → Int32) (pr_ki : Nat → Int32) (pr_st : Nat → Int32) (pr_sl : Nat → Int32) (qm_nu : Nat → Int32) (qm_ki : Nat → Int32) (qm_st : Nat → Int32) (qm_sl : Nat → Int32) (sh_ho : Nat → Int32) (rw_sz : Nat → Int32) (el_f : Nat → Nat → Int32) : Int32 × Int32 × Int32 × Int32 × Int32 × Int32 × Int32 × Int32 × Int32 × Int32 × Int32 × (Nat → Int32) × (Nat → Int32) × (Nat → Int32) × (Nat → Int32) × (Nat → Int32) := if (¬ d < 0 ∧ ¬ (8 : Int32) ≤ d) then (if (f_X0_canBe 0 up) = (0 : Int32) then ((-1), x_mi_up, x_mi_down, x_mi_high, x_mi_prize, x_mi_z, x_mi_rounds, x_mi_people, x_mi_ls, x_mi_cr_so, x_mi_cr_sz, x_mi_cr_e_f, qm_nu, qm_ki, qm_st, qm_sl) else (if (f_X0_canBe 1 down) = (0 : Int32) then ((-1), x_mi_up, x_mi_down, x_mi_high, x_mi_prize, x_mi_z, x_mi_rounds, x_mi_people, x_mi_ls, x_mi_cr_so, x_mi_cr_sz, x_mi_cr_e_f, qm_nu, qm_ki, qm_st, qm_sl) else (if (f_X5_cardsRefusal x_no_high (sh_ho (d.toNatClampNeg)) (rw_sz (d.toNatClampNeg)) (el_f (d.toNatClampNeg))) = (0 : Int32) then (bnd (f_X0_takeFrom 12 x_mi_cr_e_f x_no_up x_no_down x_no_high x_no_prize x_no_z x_no_rounds x_no_people x_no_ls x_no_cr_so x_no_cr_sz x_no_cr_e_f qm_nu qm_ki qm_st qm_sl pr_nu pr_ki pr_st pr_sl) (fun x49 : Int32 × Int32 × Int32 × Int32 × Int32 × Int32 × Int32 × Int32 × Int32 × Int32 × (Nat → Int32) × (Nat → Int32) × (Nat → Int32) × (Nat → Int32) × (Nat → Int32) => f_X5_ahead_L74 d up down x_no_up x_no_down x_no_high rw_sz el_f x49 ((rw_sz (d.toNatClampNeg)).toNatClampNeg + 1) 0 0)) else ((f_X5_cardsRefusal x_no_high (sh_ho (d.toNatClampNeg)) (rw_sz (d.toNatClampNeg)) (el_f (d.toNatClampNeg))), x_mi_up, x_mi_down, x_mi_high, x_mi_prize, x_mi_z, x_mi_rounds, x_mi_people, x_mi_ls, x_mi_cr_so, x_mi_cr_sz, x_mi_cr_e_f, qm_nu, qm_ki, qm_st, qm_sl)))) else (if (f_X0_canBe 0 up) = (0 : Int32) then ((-1), x_mi_up, x_mi_down, x_mi_high, x_mi_prize, x_mi_z, x_mi_rounds, x_mi_people, x_mi_ls, x_mi_cr_so, x_mi_cr_sz, x_mi_cr_e_f, qm_nu, qm_ki, qm_st, qm_sl) else (if (f_X0_canBe 1 down) = (0 : Int32) then ((-1), x_mi_up, x_mi_down, x_mi_high, x_mi_prize, x_mi_z, x_mi_rounds, x_mi_people, x_mi_ls, x_mi_cr_so, x_mi_cr_sz, x_mi_cr_e_f, qm_nu, qm_ki, qm_st, qm_sl) else ((-1), x_mi_up, x_mi_down, x_mi_high, x_mi_prize, x_mi_z, x_mi_rounds, x_mi_people, x_mi_ls, x_mi_cr_so, x_mi_cr_sz, x_mi_cr_e_f, qm_nu, qm_ki, qm_st, qm_sl)))
set_option maxHeartbeats 400000 in
set_option maxRecDepth 100000 in
theorem c_X5_ahead (l : Launch) (D : va_G) (cI cP cS cL : ClassId) (L : List Nat) (F : Nat → va_E) (x : Nat) (d : Int32) (up : Int32) (down : Int32) (x_no : Nat) (x_ke : Nat) (x_mi : Nat) (x_im : Int32) (x_sh : Nat) (x_co : Nat) (x_ot : Nat) (x_no_up : Int32) (x_no_down : Int32) (x_no_high : Int32) (x_no_prize : Int32) (x_no_z : Int32) (x_no_rounds : Int32) (x_no_people : Int32) (x_no_pa : Nat) (x_no_cr : Nat) (x_no_ls : Int32) (x_no_cr_e : Nat) (x_no_cr_so : Int32) (x_no_cr_sz : Int32) (x_no_cr_e_f : Nat → Int32) (x_mi_up : Int32) (x_mi_down : Int32) (x_mi_high : Int32) (x_mi_prize : Int32) (x_mi_z : Int32) (x_mi_rounds : Int32) (x_mi_people : Int32) (x_mi_pa : Nat) (x_mi_cr : Nat) (x_mi_ls : Int32) (x_mi_cr_e : Nat) (x_mi_cr_so : Int32) (x_mi_cr_sz : Int32) (x_mi_cr_e_f : Nat → Int32) (pr : Nat → Nat) (pr_nu : Nat → Int32) (pr_ki : Nat → Int32) (pr_st : Nat → Int32) (pr_sl : Nat → Int32) (qm : Nat → Nat) (qm_nu : Nat → Int32) (qm_ki : Nat → Int32) (qm_st : Nat → Int32) (qm_sl : Nat → Int32) (sh : Nat → Nat) (sh_ho : Nat → Int32) (rw : Nat → Nat) (sp : Nat → Nat) (el : Nat → Nat) (rw_so : Nat → Int32) (rw_sz : Nat → Int32) (el_f : Nat → Nat → Int32) (h_x : wi L F x (eX x_no x_ke x_mi x_im x_sh x_co x_ot)) (h_x_no : wi L F x_no (eG x_no_up x_no_down x_no_high x_no_prize x_no_z x_no_rounds x_no_people x_no_pa x_no_cr x_no_ls)) (h_x_no_pa : wi L F x_no_pa (eQ cP 12 (fun i => some (pr i)))) (h_x_no_cr : wi L F x_no_cr (eR x_no_cr_e x_no_cr_so x_no_cr_sz)) (h_x_no_cr_e : wi L F x_no_cr_e (eI cI 12 x_no_cr_e_f)) (h_x_mi : wi L F x_mi (eG x_mi_up x_mi_down x_mi_high x_mi_prize x_mi_z x_mi_rounds x_mi_people x_mi_pa x_mi_cr x_mi_ls)) (h_x_mi_pa : wi L F x_mi_pa (eQ cP 12 (fun i => some (qm i)))) (h_x_mi_cr : wi L F x_mi_cr (eR x_mi_cr_e x_mi_cr_so x_mi_cr_sz)) (h_x_mi_cr_e : wi L F x_mi_cr_e (eI cI 12 x_mi_cr_e_f)) (h_x_sh : wi L F x_sh (eQ cS 8 (fun i => some (sh i)))) (h_pr : ∀ i, i < 12 → wi L F (pr i) (eP (pr_nu i) (pr_ki i) (pr_st i) (pr_sl i))) (h_qm : ∀ i, i < 12 → wi L F (qm i) (eP (qm_nu i) (qm_ki i) (qm_st i) (qm_sl i))) (h_sh : ∀ i, i < 8 → wi L F (sh i) (eS (sh_ho i) (rw i) (sp i))) (h_rw : ∀ i, i < 8 → wi L F (rw i) (eR (el i) (rw_so i) (rw_sz i))) (h_el : ∀ i, i < 8 → wi L F (el i) (eI cI 100 (el_f i))) (hzs : ∀ i, i < 8 → (rw_sz i).toInt ≤ 100) (hzc : x_no_cr_sz.toInt ≤ 12) (ne_x_no_x_mi : x_no ≠ x_mi) (ne_pr_qm : ∀ i j, i < 12 → j < 12 → pr i ≠ qm j) (ne_x_no_cr_x_mi_cr : x_no_cr ≠ x_mi_cr) (ne_x_no_cr_e_x_mi_cr_e : x_no_cr_e ≠ x_mi_cr_e) (hinj_qm : ∀ i k, i < 12 → k < 12 → qm i = qm k → i = k) (ne_rw_x_mi_cr : ∀ i, i < 8 → rw i ≠ x_mi_cr) (ne_el_x_mi_cr_e : ∀ i, i < 8 → el i ≠ x_mi_cr_e) : wMj l D cI cP cS cL yX5_ahead wsX5_ahead ({ frames := 4, cells := 0, slots := 0, locals := 89 } : Room) [.ref x, .int d, .int up, .int down] L F (fun r1 F1 => ∃ y9 : Int32 × Int32 × Int32 × Int32 × Int32 × Int32 × Int32 × Int32 × Int32 × Int32 × Int32 × (Nat → Int32) × (Nat → Int32) × (Nat → Int32) × (Nat → Int32) × (Nat → Int32), y9 = (f_X5_ahead d up down x_no_up x_no_down x_no_high x_no_prize x_no_z x_no_rounds x_no_people x_no_ls x_no_cr_so x_no_cr_sz x_no_cr_e_f x_mi_up x_mi_down x_mi_high x_mi_prize x_mi_z x_mi_rounds x_mi_people x_mi_ls x_mi_cr_so x_mi_cr_sz x_mi_cr_e_f pr_nu pr_ki pr_st pr_sl qm_nu qm_ki qm_st qm_sl sh_ho rw_sz el_f) ∧ r1 = y9.1 ∧ F1 x_mi = (eG y9.2.1 y9.2.2.1 y9.2.2.2.1 y9.2.2.2.2.1 y9.2.2.2.2.2.1 y9.2.2.2.2.2.2.1 y9.2.2.2.2.2.2.2.1 x_mi_pa x_mi_cr y9.2.2.2.2.2.2.2.2.1) ∧ F1 x_mi_cr = (eR x_mi_cr_e y9.2.2.2.2.2.2.2.2.2.1 y9.2.2.2.2.2.2.2.2.2.2.1) ∧ F1 x_mi_cr_e = (eI cI 12 y9.2.2.2.2.2.2.2.2.2.2.2.1) ∧ (∀ i, i < 12 → F1 (qm i) = (eP (y9.2.2.2.2.2.2.2.2.2.2.2.2.1 i) (y9.2.2.2.2.2.2.2.2.2.2.2.2.2.1 i) (y9.2.2.2.2.2.2.2.2.2.2.2.2.2.2.1 i) (y9.2.2.2.2.2.2.2.2.2.2.2.2.2.2.2 i))) ∧ wk (fun q : Nat => q ≠ x_mi ∧ q ≠ x_mi_cr ∧ q ≠ x_mi_cr_e ∧ (∀ i, i < 12 → q ≠ qm i) ∧ True) F1 F) := by
  refine wM.of (cc := cX5_ahead) (maxL := 8) (ret := (some .int)) (by decide) rfl (Nat.le_of_ble_eq_true rfl) ?_
  intro pZ eZ sZ mZ below meth cZ A ls C hl w
  obtain ⟨hx, hb, hr, hml, hts, hown, hlocks, hK, hA, hin⟩ := C
  have hown : sZ.vm.findClass RX5 = some mZ.cls := hown
  have hl : lv_has ls 8 [(0, .ref x), (1, .int d), (2, .int up), (3, .int down)] := hl
  have m_0 : ((.fieldLink RX5 19 "TwoThirds" "mind" "LTwoThirds$Game;") : Cond) ∈ wsX5_ahead := by decide +kernel
  have i_X5 : ∀ w ∈ wsX50, w ∈ wsX5_ahead := by decide +kernel
  have m_2 : ((.fieldLink RX5 10 "TwoThirds" "now" "LTwoThirds$Game;") : Cond) ∈ wsX5_ahead := by decide +kernel
  have m_3 : ((.fieldLink RX5 190 "TwoThirds$Game" "up" "I") : Cond) ∈ wsX5_ahead := by decide +kernel
  have i_X0 : ∀ w ∈ wsX00, w ∈ wsX5_ahead := by decide +kernel
  have m_5 : ((.fieldLink RX5 193 "TwoThirds$Game" "down" "I") : Cond) ∈ wsX5_ahead := by decide +kernel
  have m_6 : ((.fieldLink RX5 44 "TwoThirds$Shelf" "row" "LTwoThirds$Row;") : Cond) ∈ wsX5_ahead := by decide +kernel
  have i_X4 : ∀ w ∈ wsX40, w ∈ wsX5_ahead := by decide +kernel
  have m_8 : ((.fieldLink RX5 167 "TwoThirds$Row" "size" "I") : Cond) ∈ wsX5_ahead := by decide +kernel
  have i_X3 : ∀ w ∈ wsX30, w ∈ wsX5_ahead := by decide +kernel
  have hk : wk (fun q : Nat => q ≠ x_mi ∧ q ≠ x_mi_cr ∧ q ≠ x_mi_cr_e ∧ (∀ i, i < 12 → q ≠ qm i) ∧ True) F F := wk.rf
  have hq : f_X5_ahead d up down x_no_up x_no_down x_no_high x_no_prize x_no_z x_no_rounds x_no_people x_no_ls x_no_cr_so x_no_cr_sz x_no_cr_e_f x_mi_up x_mi_down x_mi_high x_mi_prize x_mi_z x_mi_rounds x_mi_people x_mi_ls x_mi_cr_so x_mi_cr_sz x_mi_cr_e_f pr_nu pr_ki pr_st pr_sl qm_nu qm_ki qm_st qm_sl sh_ho rw_sz el_f = f_X5_ahead d up down x_no_up x_no_down x_no_high x_no_prize x_no_z x_no_rounds x_no_people x_no_ls x_no_cr_so x_no_cr_sz x_no_cr_e_f x_mi_up x_mi_down x_mi_high x_mi_prize x_mi_z x_mi_rounds x_mi_people x_mi_ls x_mi_cr_so x_mi_cr_sz x_mi_cr_e_f pr_nu pr_ki pr_st pr_sl qm_nu qm_ki qm_st qm_sl sh_ho rw_sz el_f := rfl
  refine lv_aload_n hx hb dX5_ahead_0 rfl (lv_at hl 0 rfl) ?_
  refine lv_iload_n hx hb dX5_ahead_1 rfl (lv_at hl 1 rfl) ?_
  by_cases c1 : (¬ d < 0 ∧ ¬ (8 : Int32) ≤ d)
  · skip
    have hq := hq.trans (if_pos c1)
    have hlt_C : d.toNatClampNeg < 8 := w_okP (n := 8) c1 (by decide)
    refine w_finQ (v := .ref (sh (d.toNatClampNeg))) rfl (w_runV (rm := ({ frames := 0, cells := 0, slots := 0, locals := 0 } : Room)) (As := [.int d]) (rest := []) (n := 1) hx hb hml hts hown hK w (c_X5_shelfAt_some l D cI cP cS cL L _ x d x_no x_ke x_mi x_im x_sh x_co x_ot sh sh_ho rw sp h_x h_x_sh h_sh c1) gX5_ahead_X5_shelfAt rfl rfl rfl (by decide +kernel) ⟨(Nat.le_of_ble_eq_true rfl), (Nat.le_of_ble_eq_true rfl)⟩ h_x rfl rfl hl.1 rfl (Nat.le_of_ble_eq_true rfl) dX5_ahead_2 ⟨(Nat.le_of_ble_eq_true rfl), (Nat.le_of_ble_eq_true rfl)⟩) w hA (fun H locs w => ?_)
    refine lv_astore (lv' := [(4, .ref (sh (d.toNatClampNeg))), (0, .ref x), (1, .int d), (2, .int up), (3, .int down)]) hx hb dX5_ahead_5 hl (by decide) rfl (fun ls hl => ?_)
    refine lv_iconst (v := 0) hx hb dX5_ahead_7 (by decide) ?_
    refine lv_iload_n hx hb dX5_ahead_8 rfl (lv_at hl 3 rfl) ?_
    refine w_finI (w_runS (rm := ({ frames := 1, cells := 0, slots := 0, locals := 20 } : Room)) (As := [.int 0, .int up]) (rest := []) (n := 2) hx hb hml hts hown hK w (c_X0_canBe l D cI cP cS cL L _ 0 up ) gX5_ahead_X0_canBe rfl rfl rfl (by decide +kernel) ⟨(Nat.le_of_ble_eq_true rfl), (Nat.le_of_ble_eq_true rfl)⟩ rfl hl.1 rfl (Nat.le_of_ble_eq_true rfl) dX5_ahead_9 ⟨(Nat.le_of_ble_eq_true rfl), (Nat.le_of_ble_eq_true rfl)⟩) w hA (fun H locs w => ?_)
    refine lv_if_eq (tgt := 23) hx hb dX5_ahead_12 (by decide) (fun c2 => ?_) (fun c2 => ?_)
    · skip
      have hq := hq.trans (if_pos c2)
      refine lv_iconst (v := (-1)) hx hb dX5_ahead_23 (by decide) ?_
      exact w_iret hx hb hr hlocks w ⟨rfl, _, hq.symm, rfl, h_x_mi.2, h_x_mi_cr.2, h_x_mi_cr_e.2, (fun i hi => (h_qm i hi).2), hk⟩ (Nat.le_refl _) (Nat.le_refl _) dX5_ahead_24
    · skip
      have hq := hq.trans (if_neg c2)
      refine lv_iconst (v := 1) hx hb dX5_ahead_15 (by decide) ?_
      refine lv_iload_n hx hb dX5_ahead_16 rfl (lv_at hl 4 rfl) ?_
      refine w_finI (w_runS (rm := ({ frames := 1, cells := 0, slots := 0, locals := 20 } : Room)) (As := [.int 1, .int down]) (rest := []) (n := 2) hx hb hml hts hown hK w (c_X0_canBe l D cI cP cS cL L _ 1 down ) gX5_ahead_X0_canBe rfl rfl rfl (by decide +kernel) ⟨(Nat.le_of_ble_eq_true rfl), (Nat.le_of_ble_eq_true rfl)⟩ rfl hl.1 rfl (Nat.le_of_ble_eq_true rfl) dX5_ahead_17 ⟨(Nat.le_of_ble_eq_true rfl), (Nat.le_of_ble_eq_true rfl)⟩) w hA (fun H locs w => ?_)
      refine lv_if_ne (tgt := 25) hx hb dX5_ahead_20 (by decide) (fun c3 => ?_) (fun c3 => ?_)
      · skip
        have hq := hq.trans (if_neg c3)
        refine lv_aload_n hx hb dX5_ahead_25 rfl (lv_at hl 1 rfl) ?_
        refine lv_aload hx hb dX5_ahead_26 (lv_at hl 0 rfl) ?_
        refine w_finI (w_runV (rm := ({ frames := 2, cells := 0, slots := 0, locals := 43 } : Room)) (As := [.ref (sh (d.toNatClampNeg))]) (rest := []) (n := 1) hx hb hml hts hown hK w (c_X5_cardsRefusal l D cI cP cS cL L _ x (sh (d.toNatClampNeg)) x_no x_ke x_mi x_im x_sh x_co x_ot x_no_up x_no_down x_no_high x_no_prize x_no_z x_no_rounds x_no_people x_no_pa x_no_cr x_no_ls (sh_ho (d.toNatClampNeg)) (rw (d.toNatClampNeg)) (sp (d.toNatClampNeg)) (el (d.toNatClampNeg)) (rw_so (d.toNatClampNeg)) (rw_sz (d.toNatClampNeg)) 100 (el_f (d.toNatClampNeg)) h_x h_x_no (h_sh (d.toNatClampNeg) (by omega)) (h_rw (d.toNatClampNeg) (by omega)) (h_el (d.toNatClampNeg) (by omega)) (hzs (d.toNatClampNeg) (by omega))) gX5_ahead_X5_cardsRefusal rfl rfl rfl (by decide +kernel) ⟨(Nat.le_of_ble_eq_true rfl), (Nat.le_of_ble_eq_true rfl)⟩ h_x rfl rfl hl.1 rfl (Nat.le_of_ble_eq_true rfl) dX5_ahead_28 ⟨(Nat.le_of_ble_eq_true rfl), (Nat.le_of_ble_eq_true rfl)⟩) w hA (fun H locs w => ?_)
        refine lv_istore (lv' := [(5, .int (f_X5_cardsRefusal x_no_high (sh_ho (d.toNatClampNeg)) (rw_sz (d.toNatClampNeg)) (el_f (d.toNatClampNeg)))), (4, .ref (sh (d.toNatClampNeg))), (0, .ref x), (1, .int d), (2, .int up), (3, .int down)]) hx hb dX5_ahead_31 hl (by decide) rfl (fun ls hl => ?_)
        refine lv_iload hx hb dX5_ahead_33 (lv_at hl 0 rfl) ?_
        refine lv_if_eq (tgt := 41) hx hb dX5_ahead_35 (by decide) (fun c4 => ?_) (fun c4 => ?_)
        · skip
          have hq := hq.trans (if_pos c4)
          refine lv_aload_n hx hb dX5_ahead_41 rfl (lv_at hl 2 rfl) ?_
          refine w_get (v := .ref x_mi) hx hb hts i_X5 hown hK w h_x rfl 2 (by decide) (hts _ m_0) rfl dX5_ahead_42 ?_
          refine lv_aload_n hx hb dX5_ahead_45 rfl (lv_at hl 2 rfl) ?_
          refine w_get (v := .ref x_no) hx hb hts i_X5 hown hK w h_x rfl 0 (by decide) (hts _ m_2) rfl dX5_ahead_46 ?_
          refine w_finw (w_runV (rm := ({ frames := 3, cells := 0, slots := 0, locals := 67 } : Room)) (As := [.ref x_no]) (rest := []) (n := 1) hx hb hml hts hown hK w (c_X0_takeFrom l D cI cP cS cL L _ x_mi x_no x_mi_up x_mi_down x_mi_high x_mi_prize x_mi_z x_mi_rounds x_mi_people x_mi_pa x_mi_cr x_mi_ls x_mi_cr_e x_mi_cr_so x_mi_cr_sz 12 x_mi_cr_e_f x_no_up x_no_down x_no_high x_no_prize x_no_z x_no_rounds x_no_people x_no_pa x_no_cr x_no_ls x_no_cr_e x_no_cr_so x_no_cr_sz 12 x_no_cr_e_f qm qm_nu qm_ki qm_st qm_sl pr pr_nu pr_ki pr_st pr_sl h_x_mi h_x_mi_pa h_x_mi_cr h_x_mi_cr_e h_x_no h_x_no_pa h_x_no_cr h_x_no_cr_e h_qm h_pr (by decide) hzc ne_x_no_x_mi ne_pr_qm ne_x_no_cr_x_mi_cr ne_x_no_cr_e_x_mi_cr_e hinj_qm) gX5_ahead_X0_takeFrom rfl rfl rfl (by decide +kernel) ⟨(Nat.le_of_ble_eq_true rfl), (Nat.le_of_ble_eq_true rfl)⟩ h_x_mi rfl rfl hl.1 rfl (Nat.le_of_ble_eq_true rfl) dX5_ahead_49 ⟨(Nat.le_of_ble_eq_true rfl), (Nat.le_of_ble_eq_true rfl)⟩) w hA (fun F1 H locs hp w => ?_)
          obtain ⟨x49, hx49, hw0, hw1, hw2, hw3, hk9⟩ := hp
          have hq := hq.trans (w_bnd hx49)
          have h_x := h_x.keep hk9 ⟨(wi.ne h_x h_x_mi (by intro h; cases h)), (wi.ne h_x h_x_mi_cr (by intro h; cases h)), (wi.ne h_x h_x_mi_cr_e (by intro h; cases h)), (fun j hj => (wi.ne h_x (h_qm j hj) (by intro h; cases h))), trivial⟩
          have h_x_no := h_x_no.keep hk9 ⟨ne_x_no_x_mi, (wi.ne h_x_no h_x_mi_cr (by intro h; cases h)), (wi.ne h_x_no h_x_mi_cr_e (by intro h; cases h)), (fun j hj => (wi.ne h_x_no (h_qm j hj) (by intro h; cases h))), trivial⟩
          have h_x_no_pa := h_x_no_pa.keep hk9 ⟨(wi.ne h_x_no_pa h_x_mi (by intro h; cases h)), (wi.ne h_x_no_pa h_x_mi_cr (by intro h; cases h)), (wi.ne h_x_no_pa h_x_mi_cr_e (by intro h; cases h)), (fun j hj => (wi.ne h_x_no_pa (h_qm j hj) (by intro h; cases h))), trivial⟩
          have h_x_no_cr := h_x_no_cr.keep hk9 ⟨(wi.ne h_x_no_cr h_x_mi (by intro h; cases h)), ne_x_no_cr_x_mi_cr, (wi.ne h_x_no_cr h_x_mi_cr_e (by intro h; cases h)), (fun j hj => (wi.ne h_x_no_cr (h_qm j hj) (by intro h; cases h))), trivial⟩
          have h_x_no_cr_e := h_x_no_cr_e.keep hk9 ⟨(wi.ne h_x_no_cr_e h_x_mi (by intro h; cases h)), (wi.ne h_x_no_cr_e h_x_mi_cr (by intro h; cases h)), ne_x_no_cr_e_x_mi_cr_e, (fun j hj => (wi.ne h_x_no_cr_e (h_qm j hj) (by intro h; cases h))), trivial⟩
          have h_x_mi_pa := h_x_mi_pa.keep hk9 ⟨(wi.ne h_x_mi_pa h_x_mi (by intro h; cases h)), (wi.ne h_x_mi_pa h_x_mi_cr (by intro h; cases h)), (wi.ne h_x_mi_pa h_x_mi_cr_e (by intro h; cases h)), (fun j hj => (wi.ne h_x_mi_pa (h_qm j hj) (by intro h; cases h))), trivial⟩
          have h_x_sh := h_x_sh.keep hk9 ⟨(wi.ne h_x_sh h_x_mi (by intro h; cases h)), (wi.ne h_x_sh h_x_mi_cr (by intro h; cases h)), (wi.ne h_x_sh h_x_mi_cr_e (by intro h; cases h)), (fun j hj => (wi.ne h_x_sh (h_qm j hj) (by intro h; cases h))), trivial⟩
          have h_pr := fun i (hi : i < 12) => (h_pr i hi).keep hk9 ⟨(wi.ne (h_pr i hi) h_x_mi (by intro h; cases h)), (wi.ne (h_pr i hi) h_x_mi_cr (by intro h; cases h)), (wi.ne (h_pr i hi) h_x_mi_cr_e (by intro h; cases h)), (fun j hj => (ne_pr_qm i j hi hj)), trivial⟩
          have h_sh := fun i (hi : i < 8) => (h_sh i hi).keep hk9 ⟨(wi.ne (h_sh i hi) h_x_mi (by intro h; cases h)), (wi.ne (h_sh i hi) h_x_mi_cr (by intro h; cases h)), (wi.ne (h_sh i hi) h_x_mi_cr_e (by intro h; cases h)), (fun j hj => (wi.ne (h_sh i hi) (h_qm j hj) (by intro h; cases h))), trivial⟩
          have h_rw := fun i (hi : i < 8) => (h_rw i hi).keep hk9 ⟨(wi.ne (h_rw i hi) h_x_mi (by intro h; cases h)), (ne_rw_x_mi_cr i hi), (wi.ne (h_rw i hi) h_x_mi_cr_e (by intro h; cases h)), (fun j hj => (wi.ne (h_rw i hi) (h_qm j hj) (by intro h; cases h))), trivial⟩
          have h_el := fun i (hi : i < 8) => (h_el i hi).keep hk9 ⟨(wi.ne (h_el i hi) h_x_mi (by intro h; cases h)), (wi.ne (h_el i hi) h_x_mi_cr (by intro h; cases h)), (ne_el_x_mi_cr_e i hi), (fun j hj => (wi.ne (h_el i hi) (h_qm j hj) (by intro h; cases h))), trivial⟩
          have h_x_mi := h_x_mi.new hw0
          have h_x_mi_cr := h_x_mi_cr.new hw1
          have h_x_mi_cr_e := h_x_mi_cr_e.new hw2
          have h_qm := fun i (hi : i < 12) => (h_qm i hi).new (hw3 i hi)
          have hk := hk.call hk9 (fun q h => ⟨h.1, h.2.1, h.2.2.1, h.2.2.2.1, trivial⟩)
          refine lv_aload_n hx hb dX5_ahead_52 rfl (lv_at hl 2 rfl) ?_
          refine w_get (v := .ref x_mi) hx hb hts i_X5 hown hK w h_x rfl 2 (by decide) (hts _ m_0) rfl dX5_ahead_53 ?_
          refine lv_iload_n hx hb dX5_ahead_56 rfl (lv_at hl 4 rfl) ?_
          have ho5 := h_x_mi
          refine w_put (fs2 := [.int up, .int x49.2.1, .int x49.2.2.1, .int x49.2.2.2.1, .int x49.2.2.2.2.1, .int x49.2.2.2.2.2.1, .int x49.2.2.2.2.2.2.1, .ref x_mi_pa, .ref x_mi_cr, .int x49.2.2.2.2.2.2.2.1]) hx hb hts i_X0 tyX0 tyX0_ok nmX0 hown hK w h_x_mi rfl 0 (by decide) (hts _ m_3) rfl rfl rfl (Nat.le_of_ble_eq_true rfl) rfl dX5_ahead_57 (fun H locs w h_x_mi => ?_)
          have h_x := h_x.upw h_x_mi (wi.ne h_x ho5 (by intro h; cases h))
          have h_x_no := h_x_no.upw h_x_mi ne_x_no_x_mi
          have h_x_no_pa := h_x_no_pa.upw h_x_mi (wi.ne h_x_no_pa ho5 (by intro h; cases h))
          have h_x_no_cr := h_x_no_cr.upw h_x_mi (wi.ne h_x_no_cr ho5 (by intro h; cases h))
          have h_x_no_cr_e := h_x_no_cr_e.upw h_x_mi (wi.ne h_x_no_cr_e ho5 (by intro h; cases h))
          have h_x_mi_pa := h_x_mi_pa.upw h_x_mi (wi.ne h_x_mi_pa ho5 (by intro h; cases h))
          have h_x_mi_cr := h_x_mi_cr.upw h_x_mi (wi.ne h_x_mi_cr ho5 (by intro h; cases h))
          have h_x_mi_cr_e := h_x_mi_cr_e.upw h_x_mi (wi.ne h_x_mi_cr_e ho5 (by intro h; cases h))
          have h_x_sh := h_x_sh.upw h_x_mi (wi.ne h_x_sh ho5 (by intro h; cases h))
          have h_pr := fun i (hi : i < 12) => (h_pr i hi).upw h_x_mi (wi.ne (h_pr i hi) ho5 (by intro h; cases h))
          have h_qm := fun i (hi : i < 12) => (h_qm i hi).upw h_x_mi (wi.ne (h_qm i hi) ho5 (by intro h; cases h))
          have h_sh := fun i (hi : i < 8) => (h_sh i hi).upw h_x_mi (wi.ne (h_sh i hi) ho5 (by intro h; cases h))
          have h_rw := fun i (hi : i < 8) => (h_rw i hi).upw h_x_mi (wi.ne (h_rw i hi) ho5 (by intro h; cases h))
          have h_el := fun i (hi : i < 8) => (h_el i hi).upw h_x_mi (wi.ne (h_el i hi) ho5 (by intro h; cases h))
          have hk := hk.upw h_x_mi (fun q h => h.1)
          refine lv_aload_n hx hb dX5_ahead_60 rfl (lv_at hl 2 rfl) ?_
          refine w_get (v := .ref x_mi) hx hb hts i_X5 hown hK w h_x rfl 2 (by decide) (hts _ m_0) rfl dX5_ahead_61 ?_
          refine lv_iload_n hx hb dX5_ahead_64 rfl (lv_at hl 5 rfl) ?_
          have ho6 := h_x_mi
          refine w_put (fs2 := [.int up, .int down, .int x49.2.2.1, .int x49.2.2.2.1, .int x49.2.2.2.2.1, .int x49.2.2.2.2.2.1, .int x49.2.2.2.2.2.2.1, .ref x_mi_pa, .ref x_mi_cr, .int x49.2.2.2.2.2.2.2.1]) hx hb hts i_X0 tyX0 tyX0_ok nmX0 hown hK w h_x_mi rfl 1 (by decide) (hts _ m_5) rfl rfl rfl (Nat.le_of_ble_eq_true rfl) rfl dX5_ahead_65 (fun H locs w h_x_mi => ?_)
          have h_x := h_x.upw h_x_mi (wi.ne h_x ho6 (by intro h; cases h))
          have h_x_no := h_x_no.upw h_x_mi ne_x_no_x_mi
          have h_x_no_pa := h_x_no_pa.upw h_x_mi (wi.ne h_x_no_pa ho6 (by intro h; cases h))
          have h_x_no_cr := h_x_no_cr.upw h_x_mi (wi.ne h_x_no_cr ho6 (by intro h; cases h))
          have h_x_no_cr_e := h_x_no_cr_e.upw h_x_mi (wi.ne h_x_no_cr_e ho6 (by intro h; cases h))
          have h_x_mi_pa := h_x_mi_pa.upw h_x_mi (wi.ne h_x_mi_pa ho6 (by intro h; cases h))
          have h_x_mi_cr := h_x_mi_cr.upw h_x_mi (wi.ne h_x_mi_cr ho6 (by intro h; cases h))
          have h_x_mi_cr_e := h_x_mi_cr_e.upw h_x_mi (wi.ne h_x_mi_cr_e ho6 (by intro h; cases h))
          have h_x_sh := h_x_sh.upw h_x_mi (wi.ne h_x_sh ho6 (by intro h; cases h))
          have h_pr := fun i (hi : i < 12) => (h_pr i hi).upw h_x_mi (wi.ne (h_pr i hi) ho6 (by intro h; cases h))
          have h_qm := fun i (hi : i < 12) => (h_qm i hi).upw h_x_mi (wi.ne (h_qm i hi) ho6 (by intro h; cases h))
          have h_sh := fun i (hi : i < 8) => (h_sh i hi).upw h_x_mi (wi.ne (h_sh i hi) ho6 (by intro h; cases h))
          have h_rw := fun i (hi : i < 8) => (h_rw i hi).upw h_x_mi (wi.ne (h_rw i hi) ho6 (by intro h; cases h))
          have h_el := fun i (hi : i < 8) => (h_el i hi).upw h_x_mi (wi.ne (h_el i hi) ho6 (by intro h; cases h))
          have hk := hk.upw h_x_mi (fun q h => h.1)
          refine lv_iconst (v := 0) hx hb dX5_ahead_68 (by decide) ?_
          refine lv_istore (lv' := [(6, .int 0), (5, .int (f_X5_cardsRefusal x_no_high (sh_ho (d.toNatClampNeg)) (rw_sz (d.toNatClampNeg)) (el_f (d.toNatClampNeg)))), (4, .ref (sh (d.toNatClampNeg))), (0, .ref x), (1, .int d), (2, .int up), (3, .int down)]) hx hb dX5_ahead_69 hl (by decide) rfl (fun ls hl => ?_)
          refine lv_iconst (v := 0) hx hb dX5_ahead_71 (by decide) ?_
          refine lv_istore (lv' := [(7, .int 0), (6, .int 0), (5, .int (f_X5_cardsRefusal x_no_high (sh_ho (d.toNatClampNeg)) (rw_sz (d.toNatClampNeg)) (el_f (d.toNatClampNeg)))), (4, .ref (sh (d.toNatClampNeg))), (0, .ref x), (1, .int d), (2, .int up), (3, .int down)]) hx hb dX5_ahead_72 hl (by decide) rfl (fun ls hl => ?_)
          have hL74 : ∀ (n k : Nat) (v6 : Int32) (F1 : Nat → va_E) (H : Heap) (locs : List Loc) (ls : Array Slot), k ≤ (rw_sz (d.toNatClampNeg)).toNatClampNeg → (rw_sz (d.toNatClampNeg)).toNatClampNeg - k < n → f_X5_ahead d up down x_no_up x_no_down x_no_high x_no_prize x_no_z x_no_rounds x_no_people x_no_ls x_no_cr_so x_no_cr_sz x_no_cr_e_f x_mi_up x_mi_down x_mi_high x_mi_prize x_mi_z x_mi_rounds x_mi_people x_mi_ls x_mi_cr_so x_mi_cr_sz x_mi_cr_e_f pr_nu pr_ki pr_st pr_sl qm_nu qm_ki qm_st qm_sl sh_ho rw_sz el_f = f_X5_ahead_L74 d up down x_no_up x_no_down x_no_high rw_sz el_f x49 n k v6 → lv_has ls 8 [(0, .ref x), (1, .int d), (2, .int up), (3, .int down), (4, .ref (sh (d.toNatClampNeg))), (5, .int (f_X5_cardsRefusal x_no_high (sh_ho (d.toNatClampNeg)) (rw_sz (d.toNatClampNeg)) (el_f (d.toNatClampNeg)))), (6, .int v6), (7, .int (nI k))] → ww D A sZ.heap L F1 H locs → (wi L F1 x (eX x_no x_ke x_mi x_im x_sh x_co x_ot)) → (wi L F1 x_no (eG x_no_up x_no_down x_no_high x_no_prize x_no_z x_no_rounds x_no_people x_no_pa x_no_cr x_no_ls)) → (wi L F1 x_no_pa (eQ cP 12 (fun i => some (pr i)))) → (wi L F1 x_no_cr (eR x_no_cr_e x_no_cr_so x_no_cr_sz)) → (wi L F1 x_no_cr_e (eI cI 12 x_no_cr_e_f)) → (wi L F1 x_mi (eG up down x49.2.2.1 x49.2.2.2.1 x49.2.2.2.2.1 x49.2.2.2.2.2.1 x49.2.2.2.2.2.2.1 x_mi_pa x_mi_cr x49.2.2.2.2.2.2.2.1)) → (wi L F1 x_mi_pa (eQ cP 12 (fun i => some (qm i)))) → (wi L F1 x_mi_cr (eR x_mi_cr_e x49.2.2.2.2.2.2.2.2.1 x49.2.2.2.2.2.2.2.2.2.1)) → (wi L F1 x_mi_cr_e (eI cI 12 x49.2.2.2.2.2.2.2.2.2.2.1)) → (wi L F1 x_sh (eQ cS 8 (fun i => some (sh i)))) → (∀ i, i < 12 → wi L F1 (pr i) (eP (pr_nu i) (pr_ki i) (pr_st i) (pr_sl i))) → (∀ i, i < 12 → wi L F1 (qm i) (eP (x49.2.2.2.2.2.2.2.2.2.2.2.1 i) (x49.2.2.2.2.2.2.2.2.2.2.2.2.1 i) (x49.2.2.2.2.2.2.2.2.2.2.2.2.2.1 i) (x49.2.2.2.2.2.2.2.2.2.2.2.2.2.2 i))) → (∀ i, i < 8 → wi L F1 (sh i) (eS (sh_ho i) (rw i) (sp i))) → (∀ i, i < 8 → wi L F1 (rw i) (eR (el i) (rw_so i) (rw_sz i))) → (∀ i, i < 8 → wi L F1 (el i) (eI cI 100 (el_f i))) → wk (fun q : Nat => q ≠ x_mi ∧ q ≠ x_mi_cr ∧ q ≠ x_mi_cr_e ∧ (∀ i, i < 12 → q ≠ qm i) ∧ True) F1 F → W pZ l eZ ({ frames := 4, cells := 0, slots := 0, locals := 89 } : Room) sZ mZ [.ref x, .int d, .int up, .int down].toArray below meth cZ H locs 0 0 (MQ below (wQi D A (fun r1 L1 F1 => L1 = L ∧ ∃ y9 : Int32 × Int32 × Int32 × Int32 × Int32 × Int32 × Int32 × Int32 × Int32 × Int32 × Int32 × (Nat → Int32) × (Nat → Int32) × (Nat → Int32) × (Nat → Int32) × (Nat → Int32), y9 = (f_X5_ahead d up down x_no_up x_no_down x_no_high x_no_prize x_no_z x_no_rounds x_no_people x_no_ls x_no_cr_so x_no_cr_sz x_no_cr_e_f x_mi_up x_mi_down x_mi_high x_mi_prize x_mi_z x_mi_rounds x_mi_people x_mi_ls x_mi_cr_so x_mi_cr_sz x_mi_cr_e_f pr_nu pr_ki pr_st pr_sl qm_nu qm_ki qm_st qm_sl sh_ho rw_sz el_f) ∧ r1 = y9.1 ∧ F1 x_mi = (eG y9.2.1 y9.2.2.1 y9.2.2.2.1 y9.2.2.2.2.1 y9.2.2.2.2.2.1 y9.2.2.2.2.2.2.1 y9.2.2.2.2.2.2.2.1 x_mi_pa x_mi_cr y9.2.2.2.2.2.2.2.2.1) ∧ F1 x_mi_cr = (eR x_mi_cr_e y9.2.2.2.2.2.2.2.2.2.1 y9.2.2.2.2.2.2.2.2.2.2.1) ∧ F1 x_mi_cr_e = (eI cI 12 y9.2.2.2.2.2.2.2.2.2.2.2.1) ∧ (∀ i, i < 12 → F1 (qm i) = (eP (y9.2.2.2.2.2.2.2.2.2.2.2.2.1 i) (y9.2.2.2.2.2.2.2.2.2.2.2.2.2.1 i) (y9.2.2.2.2.2.2.2.2.2.2.2.2.2.2.1 i) (y9.2.2.2.2.2.2.2.2.2.2.2.2.2.2.2 i))) ∧ wk (fun q : Nat => q ≠ x_mi ∧ q ≠ x_mi_cr ∧ q ≠ x_mi_cr_e ∧ (∀ i, i < 12 → q ≠ qm i) ∧ True) F1 F)) [.ref x, .int d, .int up, .int down].toArray sZ 0 0 A) (F0 mZ 74 ls []) := by
            intro n; induction n with
            | zero => intro k v6 F1 H locs ls hkT hmeas; exact absurd hmeas (Nat.not_lt_zero _)
            | succ n ih =>
              intro k v6 F1 H locs ls hkT hmeas hq hl w h_x h_x_no h_x_no_pa h_x_no_cr h_x_no_cr_e h_x_mi h_x_mi_pa h_x_mi_cr h_x_mi_cr_e h_x_sh h_pr h_qm h_sh h_rw h_el hk
              have hk31 : k < 2147483648 := Nat.lt_of_le_of_lt hkT (w_clamp_lt _)
              have hq := hq.trans (f_X5_ahead_L74_s d up down x_no_up x_no_down x_no_high rw_sz el_f x49 n k v6)
              refine lv_iload hx hb dX5_ahead_74 (lv_at hl 7 rfl) ?_
              refine lv_aload hx hb dX5_ahead_76 (lv_at hl 4 rfl) ?_
              refine w_get (v := .ref (rw (d.toNatClampNeg))) hx hb hts i_X4 hown hK w (h_sh (d.toNatClampNeg) (by omega)) rfl 1 (by decide) (hts _ m_6) rfl dX5_ahead_78 ?_
              refine w_get (v := .int (rw_sz (d.toNatClampNeg))) hx hb hts i_X3 hown hK w (h_rw (d.toNatClampNeg) (by omega)) rfl 2 (by decide) (hts _ m_8) rfl dX5_ahead_81 ?_
              refine lv_icmp_ge (tgt := 122) hx hb dX5_ahead_84 (by decide) (fun c7 => ?_) (fun c7 => ?_)
              · skip
                have hq := hq.trans (if_pos c7)
                refine lv_iload hx hb dX5_ahead_122 (lv_at hl 6 rfl) ?_
                exact w_iret hx hb hr hlocks w ⟨rfl, _, hq.symm, rfl, h_x_mi.2, h_x_mi_cr.2, h_x_mi_cr_e.2, (fun i hi => (h_qm i hi).2), hk⟩ (Nat.le_refl _) (Nat.le_refl _) dX5_ahead_124
              · skip
                have hq := hq.trans (if_neg c7)
                have hlt84 : k < (rw_sz (d.toNatClampNeg)).toNatClampNeg := w_ltk hk31 c7
                refine lv_iload hx hb dX5_ahead_87 (lv_at hl 6 rfl) ?_
                refine lv_aload_n hx hb dX5_ahead_89 rfl (lv_at hl 0 rfl) ?_
                refine w_get (v := .ref x_mi) hx hb hts i_X5 hown hK w h_x rfl 2 (by decide) (hts _ m_0) rfl dX5_ahead_90 ?_
                refine lv_aload_n hx hb dX5_ahead_93 rfl (lv_at hl 0 rfl) ?_
                refine w_get (v := .ref x_no) hx hb hts i_X5 hown hK w h_x rfl 0 (by decide) (hts _ m_2) rfl dX5_ahead_94 ?_
                refine lv_aload hx hb dX5_ahead_97 (lv_at hl 4 rfl) ?_
                refine w_get (v := .ref (rw (d.toNatClampNeg))) hx hb hts i_X4 hown hK w (h_sh (d.toNatClampNeg) (by omega)) rfl 1 (by decide) (hts _ m_6) rfl dX5_ahead_99 ?_
                refine lv_iload hx hb dX5_ahead_102 (lv_at hl 7 rfl) ?_
                refine w_finI (w_runV (rm := ({ frames := 0, cells := 0, slots := 0, locals := 0 } : Room)) (As := [.int (nI k)]) (rest := [.ref x_no, .ref x_mi, .int v6]) (n := 1) hx hb hml hts hown hK w (c_X3_at l D cI cP cS cL L _ (rw (d.toNatClampNeg)) (nI k) (el (d.toNatClampNeg)) (rw_so (d.toNatClampNeg)) (rw_sz (d.toNatClampNeg)) 100 (el_f (d.toNatClampNeg)) (h_rw (d.toNatClampNeg) (by omega)) (h_el (d.toNatClampNeg) (by omega)) (hzs (d.toNatClampNeg) (by omega))) gX5_ahead_X3_at rfl rfl rfl (by decide +kernel) ⟨(Nat.le_of_ble_eq_true rfl), (Nat.le_of_ble_eq_true rfl)⟩ (h_rw (d.toNatClampNeg) (by omega)) rfl rfl hl.1 rfl (Nat.le_of_ble_eq_true rfl) dX5_ahead_104 ⟨(Nat.le_of_ble_eq_true rfl), (Nat.le_of_ble_eq_true rfl)⟩) w hA (fun H locs w => ?_)
                refine w_finI (w_runV (rm := ({ frames := 2, cells := 0, slots := 0, locals := 42 } : Room)) (As := [.int (f_X3_at (nI k) (rw_sz (d.toNatClampNeg)) (el_f (d.toNatClampNeg)))]) (rest := [.ref x_mi, .int v6]) (n := 1) hx hb hml hts hown hK w (c_X0_nearestSteps l D cI cP cS cL L _ x_no (f_X3_at (nI k) (rw_sz (d.toNatClampNeg)) (el_f (d.toNatClampNeg))) x_no_up x_no_down x_no_high x_no_prize x_no_z x_no_rounds x_no_people x_no_pa x_no_cr x_no_ls h_x_no) gX5_ahead_X0_nearestSteps rfl rfl rfl (by decide +kernel) ⟨(Nat.le_of_ble_eq_true rfl), (Nat.le_of_ble_eq_true rfl)⟩ h_x_no rfl rfl hl.1 rfl (Nat.le_of_ble_eq_true rfl) dX5_ahead_107 ⟨(Nat.le_of_ble_eq_true rfl), (Nat.le_of_ble_eq_true rfl)⟩) w hA (fun H locs w => ?_)
                refine w_finI (w_runV (rm := ({ frames := 3, cells := 0, slots := 0, locals := 66 } : Room)) (As := [.int (f_X0_nearestSteps (f_X3_at (nI k) (rw_sz (d.toNatClampNeg)) (el_f (d.toNatClampNeg))) x_no_up x_no_down x_no_high)]) (rest := [.int v6]) (n := 1) hx hb hml hts hown hK w (c_X0_stepped l D cI cP cS cL L _ x_mi (f_X0_nearestSteps (f_X3_at (nI k) (rw_sz (d.toNatClampNeg)) (el_f (d.toNatClampNeg))) x_no_up x_no_down x_no_high) up down x49.2.2.1 x49.2.2.2.1 x49.2.2.2.2.1 x49.2.2.2.2.2.1 x49.2.2.2.2.2.2.1 x_mi_pa x_mi_cr x49.2.2.2.2.2.2.2.1 h_x_mi) gX5_ahead_X0_stepped rfl rfl rfl (by decide +kernel) ⟨(Nat.le_of_ble_eq_true rfl), (Nat.le_of_ble_eq_true rfl)⟩ h_x_mi rfl rfl hl.1 rfl (Nat.le_of_ble_eq_true rfl) dX5_ahead_110 ⟨(Nat.le_of_ble_eq_true rfl), (Nat.le_of_ble_eq_true rfl)⟩) w hA (fun H locs w => ?_)
                refine lv_iadd hx hb dX5_ahead_113 ?_
                refine lv_istore (lv' := [(6, .int (v6 + (f_X0_stepped (f_X0_nearestSteps (f_X3_at (nI k) (rw_sz (d.toNatClampNeg)) (el_f (d.toNatClampNeg))) x_no_up x_no_down x_no_high) up down x49.2.2.1))), (0, .ref x), (1, .int d), (2, .int up), (3, .int down), (4, .ref (sh (d.toNatClampNeg))), (5, .int (f_X5_cardsRefusal x_no_high (sh_ho (d.toNatClampNeg)) (rw_sz (d.toNatClampNeg)) (el_f (d.toNatClampNeg)))), (7, .int (nI k))]) hx hb dX5_ahead_114 hl (by decide) rfl (fun ls hl => ?_)
                refine lv_iinc (v := (nI (k + 1))) (lv' := [(7, .int (nI (k + 1))), (6, .int (v6 + (f_X0_stepped (f_X0_nearestSteps (f_X3_at (nI k) (rw_sz (d.toNatClampNeg)) (el_f (d.toNatClampNeg))) x_no_up x_no_down x_no_high) up down x49.2.2.1))), (0, .ref x), (1, .int d), (2, .int up), (3, .int down), (4, .ref (sh (d.toNatClampNeg))), (5, .int (f_X5_cardsRefusal x_no_high (sh_ho (d.toNatClampNeg)) (rw_sz (d.toNatClampNeg)) (el_f (d.toNatClampNeg))))]) hx hb dX5_ahead_116 hl (k := 7) rfl (w_inc _) (by decide) rfl (fun ls hl => ?_)
                refine lv_goto (tgt := 74) hx hb dX5_ahead_119 (by decide) ?_
                exact ih ((k + 1)) (v6 + (f_X0_stepped (f_X0_nearestSteps (f_X3_at (nI k) (rw_sz (d.toNatClampNeg)) (el_f (d.toNatClampNeg))) x_no_up x_no_down x_no_high) up down x49.2.2.1)) _ _ _ _ (by omega) (by omega) hq (lv_sub hl [2, 3, 4, 5, 6, 7, 1, 0] rfl) w h_x h_x_no h_x_no_pa h_x_no_cr h_x_no_cr_e h_x_mi h_x_mi_pa h_x_mi_cr h_x_mi_cr_e h_x_sh h_pr h_qm h_sh h_rw h_el hk
          exact hL74 ((rw_sz (d.toNatClampNeg)).toNatClampNeg + 1) 0 0 _ _ _ _ (Nat.zero_le _) (by omega) hq (lv_sub hl [4, 5, 6, 7, 3, 2, 1, 0] rfl) w h_x h_x_no h_x_no_pa h_x_no_cr h_x_no_cr_e h_x_mi h_x_mi_pa h_x_mi_cr h_x_mi_cr_e h_x_sh h_pr h_qm h_sh h_rw h_el hk
        · skip
          have hq := hq.trans (if_neg c4)
          refine lv_iload hx hb dX5_ahead_38 (lv_at hl 0 rfl) ?_
          exact w_iret hx hb hr hlocks w ⟨rfl, _, hq.symm, rfl, h_x_mi.2, h_x_mi_cr.2, h_x_mi_cr_e.2, (fun i hi => (h_qm i hi).2), hk⟩ (Nat.le_refl _) (Nat.le_refl _) dX5_ahead_40
      · skip
        have hq := hq.trans (if_pos c3)
        refine lv_iconst (v := (-1)) hx hb dX5_ahead_23 (by decide) ?_
        exact w_iret hx hb hr hlocks w ⟨rfl, _, hq.symm, rfl, h_x_mi.2, h_x_mi_cr.2, h_x_mi_cr_e.2, (fun i hi => (h_qm i hi).2), hk⟩ (Nat.le_refl _) (Nat.le_refl _) dX5_ahead_24
  · skip
    have hq := hq.trans (if_neg c1)
    refine w_finQ (v := .null) (by unfold f_X5_shelfAt_none; first | rfl | (split <;> rfl)) (w_runV (rm := ({ frames := 0, cells := 0, slots := 0, locals := 0 } : Room)) (As := [.int d]) (rest := []) (n := 1) hx hb hml hts hown hK w (c_X5_shelfAt_none l D cI cP cS cL L _ x d x_no x_ke x_mi x_im x_sh x_co x_ot sh h_x h_x_sh c1) gX5_ahead_X5_shelfAt rfl rfl rfl (by decide +kernel) ⟨(Nat.le_of_ble_eq_true rfl), (Nat.le_of_ble_eq_true rfl)⟩ h_x rfl rfl hl.1 rfl (Nat.le_of_ble_eq_true rfl) dX5_ahead_2 ⟨(Nat.le_of_ble_eq_true rfl), (Nat.le_of_ble_eq_true rfl)⟩) w hA (fun H locs w => ?_)
    refine lv_astoreN (lv' := [(4, .null), (0, .ref x), (1, .int d), (2, .int up), (3, .int down)]) hx hb dX5_ahead_5 hl (by decide) rfl (fun ls hl => ?_)
    refine lv_iconst (v := 0) hx hb dX5_ahead_7 (by decide) ?_
    refine lv_iload_n hx hb dX5_ahead_8 rfl (lv_at hl 3 rfl) ?_
    refine w_finI (w_runS (rm := ({ frames := 1, cells := 0, slots := 0, locals := 20 } : Room)) (As := [.int 0, .int up]) (rest := []) (n := 2) hx hb hml hts hown hK w (c_X0_canBe l D cI cP cS cL L _ 0 up ) gX5_ahead_X0_canBe rfl rfl rfl (by decide +kernel) ⟨(Nat.le_of_ble_eq_true rfl), (Nat.le_of_ble_eq_true rfl)⟩ rfl hl.1 rfl (Nat.le_of_ble_eq_true rfl) dX5_ahead_9 ⟨(Nat.le_of_ble_eq_true rfl), (Nat.le_of_ble_eq_true rfl)⟩) w hA (fun H locs w => ?_)
    refine lv_if_eq (tgt := 23) hx hb dX5_ahead_12 (by decide) (fun c8 => ?_) (fun c8 => ?_)
    · skip
      have hq := hq.trans (if_pos c8)
      refine lv_iconst (v := (-1)) hx hb dX5_ahead_23 (by decide) ?_
      exact w_iret hx hb hr hlocks w ⟨rfl, _, hq.symm, rfl, h_x_mi.2, h_x_mi_cr.2, h_x_mi_cr_e.2, (fun i hi => (h_qm i hi).2), hk⟩ (Nat.le_refl _) (Nat.le_refl _) dX5_ahead_24
    · skip
      have hq := hq.trans (if_neg c8)
      refine lv_iconst (v := 1) hx hb dX5_ahead_15 (by decide) ?_
      refine lv_iload_n hx hb dX5_ahead_16 rfl (lv_at hl 4 rfl) ?_
      refine w_finI (w_runS (rm := ({ frames := 1, cells := 0, slots := 0, locals := 20 } : Room)) (As := [.int 1, .int down]) (rest := []) (n := 2) hx hb hml hts hown hK w (c_X0_canBe l D cI cP cS cL L _ 1 down ) gX5_ahead_X0_canBe rfl rfl rfl (by decide +kernel) ⟨(Nat.le_of_ble_eq_true rfl), (Nat.le_of_ble_eq_true rfl)⟩ rfl hl.1 rfl (Nat.le_of_ble_eq_true rfl) dX5_ahead_17 ⟨(Nat.le_of_ble_eq_true rfl), (Nat.le_of_ble_eq_true rfl)⟩) w hA (fun H locs w => ?_)
      refine lv_if_ne (tgt := 25) hx hb dX5_ahead_20 (by decide) (fun c9 => ?_) (fun c9 => ?_)
      · skip
        have hq := hq.trans (if_neg c9)
        refine lv_aload_n hx hb dX5_ahead_25 rfl (lv_at hl 1 rfl) ?_
        refine lv_aloadN hx hb dX5_ahead_26 (lv_at hl 0 rfl) ?_
        refine w_finI (r := (-1)) (w_runV (rm := ({ frames := 2, cells := 0, slots := 0, locals := 41 } : Room)) (As := [.null]) (rest := []) (n := 1) hx hb hml hts hown hK w (c_X5_cardsRefusal_n l D cI cP cS cL L _ x x_no x_ke x_mi x_im x_sh x_co x_ot h_x) gX5_ahead_X5_cardsRefusal rfl rfl rfl (by decide +kernel) ⟨(Nat.le_of_ble_eq_true rfl), (Nat.le_of_ble_eq_true rfl)⟩ h_x rfl rfl hl.1 rfl (Nat.le_of_ble_eq_true rfl) dX5_ahead_28 ⟨(Nat.le_of_ble_eq_true rfl), (Nat.le_of_ble_eq_true rfl)⟩) w hA (fun H locs w => ?_)
        refine lv_istore (lv' := [(5, .int (-1)), (4, .null), (0, .ref x), (1, .int d), (2, .int up), (3, .int down)]) hx hb dX5_ahead_31 hl (by decide) rfl (fun ls hl => ?_)
        refine lv_iload hx hb dX5_ahead_33 (lv_at hl 0 rfl) ?_
        refine lv_if_eq (tgt := 41) hx hb dX5_ahead_35 (by decide) (fun c => absurd c (by decide)) (fun _ => ?_)
        refine lv_iload hx hb dX5_ahead_38 (lv_at hl 0 rfl) ?_
        exact w_iret hx hb hr hlocks w ⟨rfl, _, hq.symm, rfl, h_x_mi.2, h_x_mi_cr.2, h_x_mi_cr_e.2, (fun i hi => (h_qm i hi).2), hk⟩ (Nat.le_refl _) (Nat.le_refl _) dX5_ahead_40
      · skip
        have hq := hq.trans (if_pos c9)
        refine lv_iconst (v := (-1)) hx hb dX5_ahead_23 (by decide) ?_
        exact w_iret hx hb hr hlocks w ⟨rfl, _, hq.symm, rfl, h_x_mi.2, h_x_mi_cr.2, h_x_mi_cr_e.2, (fun i hi => (h_qm i hi).2), hk⟩ (Nat.le_refl _) (Nat.le_refl _) dX5_ahead_24
def f_X5_parts_L83 (a : Int32) (b : Int32) (what : Int32) (pr_ki : Nat → Int32) (pr_st : Nat → Int32) (x71 : Int32 × Int32 × Int32 × Int32 × Int32 × Int32 × Int32 × Int32 × Int32 × Int32 × (Nat → Int32) × (Nat → Int32) × (Nat → Int32) × (Nat → Int32) × (Nat → Int32)) : Nat → Nat → Int32 → Int32 → (Int32) → (Int32) → Int32 × Int32 × Int32 × Int32 × Int32 × Int32 × Int32 × Int32 × Int32 × Int32 × Int32 × (Nat → Int32) × (Nat → Int32) × (Nat → Int32) × (Nat → Int32) × (Nat → Int32)
  | 0, _, _, _, _, _ => (0, 0, 0, 0, 0, 0, 0, 0, 0, 0, 0, (fun _ => 0), (fun _ => 0), (fun _ => 0), (fun _ => 0), (fun _ => 0))
  | n + 1, k, v6, v7, u_x_mi_up, u_x_mi_z => if (20 : Int32) < (nI k) then (if what = (0 : Int32) then (v7, u_x_mi_up, x71.2.1, x71.2.2.1, x71.2.2.2.1, u_x_mi_z, x71.2.2.2.2.2.1, x71.2.2.2.2.2.2.1, x71.2.2.2.2.2.2.2.1, x71.2.2.2.2.2.2.2.2.1, x71.2.2.2.2.2.2.2.2.2.1, x71.2.2.2.2.2.2.2.2.2.2.1, x71.2.2.2.2.2.2.2.2.2.2.2.1, x71.2.2.2.2.2.2.2.2.2.2.2.2.1, x71.2.2.2.2.2.2.2.2.2.2.2.2.2.1, x71.2.2.2.2.2.2.2.2.2.2.2.2.2.2) else (v6, u_x_mi_up, x71.2.1, x71.2.2.1, x71.2.2.2.1, u_x_mi_z, x71.2.2.2.2.2.1, x71.2.2.2.2.2.2.1, x71.2.2.2.2.2.2.2.1, x71.2.2.2.2.2.2.2.2.1, x71.2.2.2.2.2.2.2.2.2.1, x71.2.2.2.2.2.2.2.2.2.2.1, x71.2.2.2.2.2.2.2.2.2.2.2.1, x71.2.2.2.2.2.2.2.2.2.2.2.2.1, x71.2.2.2.2.2.2.2.2.2.2.2.2.2.1, x71.2.2.2.2.2.2.2.2.2.2.2.2.2.2)) else (bnd (f_X0_heldBy (nI k) x71.2.1 x71.2.2.1 u_x_mi_z x71.2.2.2.2.2.1 x71.2.2.2.2.2.2.1 x71.2.2.2.2.2.2.2.1 (pr_ki (a.toNatClampNeg)) (pr_st (a.toNatClampNeg))) (fun x105 : Int32 × Int32 => (bnd (f_X0_heldBy (nI k) x71.2.1 x71.2.2.1 x105.2 x71.2.2.2.2.2.1 x71.2.2.2.2.2.2.1 x71.2.2.2.2.2.2.2.1 (pr_ki (b.toNatClampNeg)) (pr_st (b.toNatClampNeg))) (fun x114 : Int32 × Int32 => if (if 0 ≤ (x105.1 - x114.1) then (x105.1 - x114.1) else 0 - (x105.1 - x114.1)) ≤ v6 then (f_X5_parts_L83 a b what pr_ki pr_st x71 n ((k + 1)) v6 v7 (nI k) x114.2) else (f_X5_parts_L83 a b what pr_ki pr_st x71 n ((k + 1)) (if 0 ≤ (x105.1 - x114.1) then (x105.1 - x114.1) else 0 - (x105.1 - x114.1)) (nI k) (nI k) x114.2)))))
theorem f_X5_parts_L83_s (a : Int32) (b : Int32) (what : Int32) (pr_ki : Nat → Int32) (pr_st : Nat → Int32) (x71 : Int32 × Int32 × Int32 × Int32 × Int32 × Int32 × Int32 × Int32 × Int32 × Int32 × (Nat → Int32) × (Nat → Int32) × (Nat → Int32) × (Nat → Int32) × (Nat → Int32)) (n k : Nat) (v6 : Int32) (v7 : Int32) (u_x_mi_up : Int32) (u_x_mi_z : Int32) : f_X5_parts_L83 a b what pr_ki pr_st x71 (n + 1) k v6 v7 u_x_mi_up u_x_mi_z = (if (20 : Int32) < (nI k) then (if what = (0 : Int32) then (v7, u_x_mi_up, x71.2.1, x71.2.2.1, x71.2.2.2.1, u_x_mi_z, x71.2.2.2.2.2.1, x71.2.2.2.2.2.2.1, x71.2.2.2.2.2.2.2.1, x71.2.2.2.2.2.2.2.2.1, x71.2.2.2.2.2.2.2.2.2.1, x71.2.2.2.2.2.2.2.2.2.2.1, x71.2.2.2.2.2.2.2.2.2.2.2.1, x71.2.2.2.2.2.2.2.2.2.2.2.2.1, x71.2.2.2.2.2.2.2.2.2.2.2.2.2.1, x71.2.2.2.2.2.2.2.2.2.2.2.2.2.2) else (v6, u_x_mi_up, x71.2.1, x71.2.2.1, x71.2.2.2.1, u_x_mi_z, x71.2.2.2.2.2.1, x71.2.2.2.2.2.2.1, x71.2.2.2.2.2.2.2.1, x71.2.2.2.2.2.2.2.2.1, x71.2.2.2.2.2.2.2.2.2.1, x71.2.2.2.2.2.2.2.2.2.2.1, x71.2.2.2.2.2.2.2.2.2.2.2.1, x71.2.2.2.2.2.2.2.2.2.2.2.2.1, x71.2.2.2.2.2.2.2.2.2.2.2.2.2.1, x71.2.2.2.2.2.2.2.2.2.2.2.2.2.2)) else (bnd (f_X0_heldBy (nI k) x71.2.1 x71.2.2.1 u_x_mi_z x71.2.2.2.2.2.1 x71.2.2.2.2.2.2.1 x71.2.2.2.2.2.2.2.1 (pr_ki (a.toNatClampNeg)) (pr_st (a.toNatClampNeg))) (fun x105 : Int32 × Int32 => (bnd (f_X0_heldBy (nI k) x71.2.1 x71.2.2.1 x105.2 x71.2.2.2.2.2.1 x71.2.2.2.2.2.2.1 x71.2.2.2.2.2.2.2.1 (pr_ki (b.toNatClampNeg)) (pr_st (b.toNatClampNeg))) (fun x114 : Int32 × Int32 => if (if 0 ≤ (x105.1 - x114.1) then (x105.1 - x114.1) else 0 - (x105.1 - x114.1)) ≤ v6 then (f_X5_parts_L83 a b what pr_ki pr_st x71 n ((k + 1)) v6 v7 (nI k) x114.2) else (f_X5_parts_L83 a b what pr_ki pr_st x71 n ((k + 1)) (if 0 ≤ (x105.1 - x114.1) then (x105.1 - x114.1) else 0 - (x105.1 - x114.1)) (nI k) (nI k) x114.2)))))) := rfl
def f_X5_parts (a : Int32) (b : Int32) (what : Int32) (x_no_up : Int32) (x_no_down : Int32) (x_no_high : Int32) (x_no_prize : Int32) (x_no_z : Int32) (x_no_rounds : Int32) (x_no_people : Int32) (x_no_ls : Int32) (x_no_cr_so : Int32) (x_no_cr_sz : Int32) (x_no_cr_e_f : Nat → Int32) (x_mi_up : Int32) (x_mi_down : Int32) (x_mi_high : Int32) (x_mi_prize : Int32) (x_mi_z : Int32) (x_mi_rounds : Int32) (x_mi_people : Int32) (x_mi_ls : Int32) (x_mi_cr_so : Int32) (x_mi_cr_sz : Int32) (x_mi_cr_e_f : Nat → Int32) (pr_nu : Nat → Int32) (pr_ki : Nat → Int32) (pr_st : Nat → Int32) (pr_sl : Nat → Int32) (qm_nu : Nat → Int32) (qm_ki : Nat → Int32) (qm_st : Nat → Int32) (qm_sl : Nat → Int32) : Int32 × Int32 × Int32 × Int32 × Int32 × Int32 × Int32 × Int32 × Int32 × Int32 × Int32 × (Nat → Int32) × (Nat → Int32) × (Nat → Int32) × (Nat → Int32) × (Nat → Int32) := if (¬ a < 0 ∧ ¬ x_no_people ≤ a) then (if (¬ b < 0 ∧ ¬ x_no_people ≤ b) then (if a = b then ((-1), x_mi_up, x_mi_down, x_mi_high, x_mi_prize, x_mi_z, x_mi_rounds, x_mi_people, x_mi_ls, x_mi_cr_so, x_mi_cr_sz, x_mi_cr_e_f, qm_nu, qm_ki, qm_st, qm_sl) else (if (f_X5_isOneOfTwo what) = (0 : Int32) then ((-1), x_mi_up, x_mi_down, x_mi_high, x_mi_prize, x_mi_z, x_mi_rounds, x_mi_people, x_mi_ls, x_mi_cr_so, x_mi_cr_sz, x_mi_cr_e_f, qm_nu, qm_ki, qm_st, qm_sl) else (if (f_X1_holdsByDraw (pr_ki (a.toNatClampNeg))) = (0 : Int32) then (if (f_X1_holdsByDraw (pr_ki (b.toNatClampNeg))) = (0 : Int32) then (bnd (f_X0_takeFrom 12 x_mi_cr_e_f x_no_up x_no_down x_no_high x_no_prize x_no_z x_no_rounds x_no_people x_no_ls x_no_cr_so x_no_cr_sz x_no_cr_e_f qm_nu qm_ki qm_st qm_sl pr_nu pr_ki pr_st pr_sl) (fun x71 : Int32 × Int32 × Int32 × Int32 × Int32 × Int32 × Int32 × Int32 × Int32 × Int32 × (Nat → Int32) × (Nat → Int32) × (Nat → Int32) × (Nat → Int32) × (Nat → Int32) => f_X5_parts_L83 a b what pr_ki pr_st x71 (21 + 1) 0 (-1) 0 x71.1 x71.2.2.2.2.1)) else ((-3), x_mi_up, x_mi_down, x_mi_high, x_mi_prize, x_mi_z, x_mi_rounds, x_mi_people, x_mi_ls, x_mi_cr_so, x_mi_cr_sz, x_mi_cr_e_f, qm_nu, qm_ki, qm_st, qm_sl)) else ((-3), x_mi_up, x_mi_down, x_mi_high, x_mi_prize, x_mi_z, x_mi_rounds, x_mi_people, x_mi_ls, x_mi_cr_so, x_mi_cr_sz, x_mi_cr_e_f, qm_nu, qm_ki, qm_st, qm_sl)))) else ((-1), x_mi_up, x_mi_down, x_mi_high, x_mi_prize, x_mi_z, x_mi_rounds, x_mi_people, x_mi_ls, x_mi_cr_so, x_mi_cr_sz, x_mi_cr_e_f, qm_nu, qm_ki, qm_st, qm_sl)) else (if (¬ b < 0 ∧ ¬ x_no_people ≤ b) then ((-1), x_mi_up, x_mi_down, x_mi_high, x_mi_prize, x_mi_z, x_mi_rounds, x_mi_people, x_mi_ls, x_mi_cr_so, x_mi_cr_sz, x_mi_cr_e_f, qm_nu, qm_ki, qm_st, qm_sl) else ((-1), x_mi_up, x_mi_down, x_mi_high, x_mi_prize, x_mi_z, x_mi_rounds, x_mi_people, x_mi_ls, x_mi_cr_so, x_mi_cr_sz, x_mi_cr_e_f, qm_nu, qm_ki, qm_st, qm_sl))
set_option maxHeartbeats 400000 in
set_option maxRecDepth 100000 in
theorem c_X5_parts (l : Launch) (D : va_G) (cI cP cS cL : ClassId) (L : List Nat) (F : Nat → va_E) (x : Nat) (a : Int32) (b : Int32) (what : Int32) (x_no : Nat) (x_ke : Nat) (x_mi : Nat) (x_im : Int32) (x_sh : Nat) (x_co : Nat) (x_ot : Nat) (x_no_up : Int32) (x_no_down : Int32) (x_no_high : Int32) (x_no_prize : Int32) (x_no_z : Int32) (x_no_rounds : Int32) (x_no_people : Int32) (x_no_pa : Nat) (x_no_cr : Nat) (x_no_ls : Int32) (x_no_cr_e : Nat) (x_no_cr_so : Int32) (x_no_cr_sz : Int32) (x_no_cr_e_f : Nat → Int32) (x_mi_up : Int32) (x_mi_down : Int32) (x_mi_high : Int32) (x_mi_prize : Int32) (x_mi_z : Int32) (x_mi_rounds : Int32) (x_mi_people : Int32) (x_mi_pa : Nat) (x_mi_cr : Nat) (x_mi_ls : Int32) (x_mi_cr_e : Nat) (x_mi_cr_so : Int32) (x_mi_cr_sz : Int32) (x_mi_cr_e_f : Nat → Int32) (pr : Nat → Nat) (pr_nu : Nat → Int32) (pr_ki : Nat → Int32) (pr_st : Nat → Int32) (pr_sl : Nat → Int32) (qm : Nat → Nat) (qm_nu : Nat → Int32) (qm_ki : Nat → Int32) (qm_st : Nat → Int32) (qm_sl : Nat → Int32) (h_x : wi L F x (eX x_no x_ke x_mi x_im x_sh x_co x_ot)) (h_x_no : wi L F x_no (eG x_no_up x_no_down x_no_high x_no_prize x_no_z x_no_rounds x_no_people x_no_pa x_no_cr x_no_ls)) (h_x_no_pa : wi L F x_no_pa (eQ cP 12 (fun i => some (pr i)))) (h_x_no_cr : wi L F x_no_cr (eR x_no_cr_e x_no_cr_so x_no_cr_sz)) (h_x_no_cr_e : wi L F x_no_cr_e (eI cI 12 x_no_cr_e_f)) (h_x_mi : wi L F x_mi (eG x_mi_up x_mi_down x_mi_high x_mi_prize x_mi_z x_mi_rounds x_mi_people x_mi_pa x_mi_cr x_mi_ls)) (h_x_mi_pa : wi L F x_mi_pa (eQ cP 12 (fun i => some (qm i)))) (h_x_mi_cr : wi L F x_mi_cr (eR x_mi_cr_e x_mi_cr_so x_mi_cr_sz)) (h_x_mi_cr_e : wi L F x_mi_cr_e (eI cI 12 x_mi_cr_e_f)) (h_pr : ∀ i, i < 12 → wi L F (pr i) (eP (pr_nu i) (pr_ki i) (pr_st i) (pr_sl i))) (h_qm : ∀ i, i < 12 → wi L F (qm i) (eP (qm_nu i) (qm_ki i) (qm_st i) (qm_sl i))) (hpp : x_no_people.toInt ≤ 12) (hzc : x_no_cr_sz.toInt ≤ 12) (hsts : ∀ i, i < 12 → (pr_st i).toInt ≤ 1000) (ne_x_no_x_mi : x_no ≠ x_mi) (ne_pr_qm : ∀ i j, i < 12 → j < 12 → pr i ≠ qm j) (ne_x_no_cr_x_mi_cr : x_no_cr ≠ x_mi_cr) (ne_x_no_cr_e_x_mi_cr_e : x_no_cr_e ≠ x_mi_cr_e) (hinj_qm : ∀ i k, i < 12 → k < 12 → qm i = qm k → i = k) : wMj l D cI cP cS cL yX5_parts wsX5_parts ({ frames := 5, cells := 0, slots := 0, locals := 108 } : Room) [.ref x, .int a, .int b, .int what] L F (fun r1 F1 => ∃ y9 : Int32 × Int32 × Int32 × Int32 × Int32 × Int32 × Int32 × Int32 × Int32 × Int32 × Int32 × (Nat → Int32) × (Nat → Int32) × (Nat → Int32) × (Nat → Int32) × (Nat → Int32), y9 = (f_X5_parts a b what x_no_up x_no_down x_no_high x_no_prize x_no_z x_no_rounds x_no_people x_no_ls x_no_cr_so x_no_cr_sz x_no_cr_e_f x_mi_up x_mi_down x_mi_high x_mi_prize x_mi_z x_mi_rounds x_mi_people x_mi_ls x_mi_cr_so x_mi_cr_sz x_mi_cr_e_f pr_nu pr_ki pr_st pr_sl qm_nu qm_ki qm_st qm_sl) ∧ r1 = y9.1 ∧ F1 x_mi = (eG y9.2.1 y9.2.2.1 y9.2.2.2.1 y9.2.2.2.2.1 y9.2.2.2.2.2.1 y9.2.2.2.2.2.2.1 y9.2.2.2.2.2.2.2.1 x_mi_pa x_mi_cr y9.2.2.2.2.2.2.2.2.1) ∧ F1 x_mi_cr = (eR x_mi_cr_e y9.2.2.2.2.2.2.2.2.2.1 y9.2.2.2.2.2.2.2.2.2.2.1) ∧ F1 x_mi_cr_e = (eI cI 12 y9.2.2.2.2.2.2.2.2.2.2.2.1) ∧ (∀ i, i < 12 → F1 (qm i) = (eP (y9.2.2.2.2.2.2.2.2.2.2.2.2.1 i) (y9.2.2.2.2.2.2.2.2.2.2.2.2.2.1 i) (y9.2.2.2.2.2.2.2.2.2.2.2.2.2.2.1 i) (y9.2.2.2.2.2.2.2.2.2.2.2.2.2.2.2 i))) ∧ wk (fun q : Nat => q ≠ x_mi ∧ q ≠ x_mi_cr ∧ q ≠ x_mi_cr_e ∧ (∀ i, i < 12 → q ≠ qm i) ∧ True) F1 F) := by
  refine wM.of (cc := cX5_parts) (maxL := 10) (ret := (some .int)) (by decide) rfl (Nat.le_of_ble_eq_true rfl) ?_
  intro pZ eZ sZ mZ below meth cZ A ls C hl w
  obtain ⟨hx, hb, hr, hml, hts, hown, hlocks, hK, hA, hin⟩ := C
  have hown : sZ.vm.findClass RX5 = some mZ.cls := hown
  have hl : lv_has ls 10 [(0, .ref x), (1, .int a), (2, .int b), (3, .int what)] := hl
  have m_0 : ((.fieldLink RX5 10 "TwoThirds" "now" "LTwoThirds$Game;") : Cond) ∈ wsX5_parts := by decide +kernel
  have i_X5 : ∀ w ∈ wsX50, w ∈ wsX5_parts := by decide +kernel
  have m_2 : ((.fieldLink RX5 19 "TwoThirds" "mind" "LTwoThirds$Game;") : Cond) ∈ wsX5_parts := by decide +kernel
  have m_3 : ((.fieldLink RX5 190 "TwoThirds$Game" "up" "I") : Cond) ∈ wsX5_parts := by decide +kernel
  have i_X0 : ∀ w ∈ wsX00, w ∈ wsX5_parts := by decide +kernel
  have m_5 : ((.methodLink RX5 200 Lib.Math.abs.name) : Cond) ∈ wsX5_parts := by decide +kernel
  have m_6 : ((.static Lib.Math.abs.name) : Cond) ∈ wsX5_parts := by decide +kernel
  have m_7 : ((.initialized "java/lang/Math") : Cond) ∈ wsX5_parts := by decide +kernel
  have m_8 : ((.code Lib.Math.abs.name Lib.Math.abs.code 1 (some .int)) : Cond) ∈ wsX5_parts := by decide +kernel
  have hk : wk (fun q : Nat => q ≠ x_mi ∧ q ≠ x_mi_cr ∧ q ≠ x_mi_cr_e ∧ (∀ i, i < 12 → q ≠ qm i) ∧ True) F F := wk.rf
  have hq : f_X5_parts a b what x_no_up x_no_down x_no_high x_no_prize x_no_z x_no_rounds x_no_people x_no_ls x_no_cr_so x_no_cr_sz x_no_cr_e_f x_mi_up x_mi_down x_mi_high x_mi_prize x_mi_z x_mi_rounds x_mi_people x_mi_ls x_mi_cr_so x_mi_cr_sz x_mi_cr_e_f pr_nu pr_ki pr_st pr_sl qm_nu qm_ki qm_st qm_sl = f_X5_parts a b what x_no_up x_no_down x_no_high x_no_prize x_no_z x_no_rounds x_no_people x_no_ls x_no_cr_so x_no_cr_sz x_no_cr_e_f x_mi_up x_mi_down x_mi_high x_mi_prize x_mi_z x_mi_rounds x_mi_people x_mi_ls x_mi_cr_so x_mi_cr_sz x_mi_cr_e_f pr_nu pr_ki pr_st pr_sl qm_nu qm_ki qm_st qm_sl := rfl
  refine lv_aload_n hx hb dX5_parts_0 rfl (lv_at hl 0 rfl) ?_
  refine w_get (v := .ref x_no) hx hb hts i_X5 hown hK w h_x rfl 0 (by decide) (hts _ m_0) rfl dX5_parts_1 ?_
  refine lv_iload_n hx hb dX5_parts_4 rfl (lv_at hl 1 rfl) ?_
  by_cases c1 : (¬ a < 0 ∧ ¬ x_no_people ≤ a)
  · skip
    have hq := hq.trans (if_pos c1)
    have hlt_C : a.toNatClampNeg < 12 := w_okP c1 hpp
    refine w_finQ (v := .ref (pr (a.toNatClampNeg))) rfl (w_runV (rm := ({ frames := 0, cells := 0, slots := 0, locals := 0 } : Room)) (As := [.int a]) (rest := []) (n := 1) hx hb hml hts hown hK w (c_X0_personAt_some l D cI cP cS cL L _ x_no a x_no_up x_no_down x_no_high x_no_prize x_no_z x_no_rounds x_no_people x_no_pa x_no_cr x_no_ls pr pr_nu pr_ki pr_st pr_sl h_x_no h_x_no_pa h_pr c1 hpp) gX5_parts_X0_personAt rfl rfl rfl (by decide +kernel) ⟨(Nat.le_of_ble_eq_true rfl), (Nat.le_of_ble_eq_true rfl)⟩ h_x_no rfl rfl hl.1 rfl (Nat.le_of_ble_eq_true rfl) dX5_parts_5 ⟨(Nat.le_of_ble_eq_true rfl), (Nat.le_of_ble_eq_true rfl)⟩) w hA (fun H locs w => ?_)
    refine lv_astore (lv' := [(4, .ref (pr (a.toNatClampNeg))), (0, .ref x), (1, .int a), (2, .int b), (3, .int what)]) hx hb dX5_parts_8 hl (by decide) rfl (fun ls hl => ?_)
    refine lv_aload_n hx hb dX5_parts_10 rfl (lv_at hl 1 rfl) ?_
    refine w_get (v := .ref x_no) hx hb hts i_X5 hown hK w h_x rfl 0 (by decide) (hts _ m_0) rfl dX5_parts_11 ?_
    refine lv_iload_n hx hb dX5_parts_14 rfl (lv_at hl 3 rfl) ?_
    by_cases c2 : (¬ b < 0 ∧ ¬ x_no_people ≤ b)
    · skip
      have hq := hq.trans (if_pos c2)
      have hlt_C : b.toNatClampNeg < 12 := w_okP c2 hpp
      refine w_finQ (v := .ref (pr (b.toNatClampNeg))) rfl (w_runV (rm := ({ frames := 0, cells := 0, slots := 0, locals := 0 } : Room)) (As := [.int b]) (rest := []) (n := 1) hx hb hml hts hown hK w (c_X0_personAt_some l D cI cP cS cL L _ x_no b x_no_up x_no_down x_no_high x_no_prize x_no_z x_no_rounds x_no_people x_no_pa x_no_cr x_no_ls pr pr_nu pr_ki pr_st pr_sl h_x_no h_x_no_pa h_pr c2 hpp) gX5_parts_X0_personAt rfl rfl rfl (by decide +kernel) ⟨(Nat.le_of_ble_eq_true rfl), (Nat.le_of_ble_eq_true rfl)⟩ h_x_no rfl rfl hl.1 rfl (Nat.le_of_ble_eq_true rfl) dX5_parts_15 ⟨(Nat.le_of_ble_eq_true rfl), (Nat.le_of_ble_eq_true rfl)⟩) w hA (fun H locs w => ?_)
      refine lv_astore (lv' := [(5, .ref (pr (b.toNatClampNeg))), (4, .ref (pr (a.toNatClampNeg))), (0, .ref x), (1, .int a), (2, .int b), (3, .int what)]) hx hb dX5_parts_18 hl (by decide) rfl (fun ls hl => ?_)
      refine lv_aload hx hb dX5_parts_20 (lv_at hl 1 rfl) ?_
      refine lv_ifnull hx hb dX5_parts_22 ?_
      refine lv_aload hx hb dX5_parts_25 (lv_at hl 0 rfl) ?_
      refine lv_ifnull hx hb dX5_parts_27 ?_
      refine lv_iload_n hx hb dX5_parts_30 rfl (lv_at hl 3 rfl) ?_
      refine lv_iload_n hx hb dX5_parts_31 rfl (lv_at hl 4 rfl) ?_
      refine lv_icmp_eq (tgt := 42) hx hb dX5_parts_32 (by decide) (fun c3 => ?_) (fun c3 => ?_)
      · skip
        have hq := hq.trans (if_pos c3)
        refine lv_iconst (v := (-1)) hx hb dX5_parts_42 (by decide) ?_
        exact w_iret hx hb hr hlocks w ⟨rfl, _, hq.symm, rfl, h_x_mi.2, h_x_mi_cr.2, h_x_mi_cr_e.2, (fun i hi => (h_qm i hi).2), hk⟩ (Nat.le_refl _) (Nat.le_refl _) dX5_parts_43
      · skip
        have hq := hq.trans (if_neg c3)
        refine lv_iload_n hx hb dX5_parts_35 rfl (lv_at hl 5 rfl) ?_
        refine w_finI (w_runS (rm := ({ frames := 0, cells := 0, slots := 0, locals := 0 } : Room)) (As := [.int what]) (rest := []) (n := 1) hx hb hml hts hown hK w (c_X5_isOneOfTwo l D cI cP cS cL L _ what ) gX5_parts_X5_isOneOfTwo rfl rfl rfl (by decide +kernel) ⟨(Nat.le_of_ble_eq_true rfl), (Nat.le_of_ble_eq_true rfl)⟩ rfl hl.1 rfl (Nat.le_of_ble_eq_true rfl) dX5_parts_36 ⟨(Nat.le_of_ble_eq_true rfl), (Nat.le_of_ble_eq_true rfl)⟩) w hA (fun H locs w => ?_)
        refine lv_if_ne (tgt := 44) hx hb dX5_parts_39 (by decide) (fun c4 => ?_) (fun c4 => ?_)
        · skip
          have hq := hq.trans (if_neg c4)
          refine lv_aload hx hb dX5_parts_44 (lv_at hl 1 rfl) ?_
          refine w_finI (w_runV (rm := ({ frames := 0, cells := 0, slots := 0, locals := 0 } : Room)) (As := []) (rest := []) (n := 0) hx hb hml hts hown hK w (c_X1_holdsByDraw l D cI cP cS cL L _ (pr (a.toNatClampNeg)) (pr_nu (a.toNatClampNeg)) (pr_ki (a.toNatClampNeg)) (pr_st (a.toNatClampNeg)) (pr_sl (a.toNatClampNeg)) (h_pr (a.toNatClampNeg) (by omega))) gX5_parts_X1_holdsByDraw rfl rfl rfl (by decide +kernel) ⟨(Nat.le_of_ble_eq_true rfl), (Nat.le_of_ble_eq_true rfl)⟩ (h_pr (a.toNatClampNeg) (by omega)) rfl rfl hl.1 rfl (Nat.le_of_ble_eq_true rfl) dX5_parts_46 ⟨(Nat.le_of_ble_eq_true rfl), (Nat.le_of_ble_eq_true rfl)⟩) w hA (fun H locs w => ?_)
          refine lv_if_ne (tgt := 60) hx hb dX5_parts_49 (by decide) (fun c5 => ?_) (fun c5 => ?_)
          · skip
            have hq := hq.trans (if_neg c5)
            refine lv_bipush (v := (-3)) hx hb dX5_parts_60 (by decide) ?_
            exact w_iret hx hb hr hlocks w ⟨rfl, _, hq.symm, rfl, h_x_mi.2, h_x_mi_cr.2, h_x_mi_cr_e.2, (fun i hi => (h_qm i hi).2), hk⟩ (Nat.le_refl _) (Nat.le_refl _) dX5_parts_62
          · skip
            have hq := hq.trans (if_pos c5)
            refine lv_aload hx hb dX5_parts_52 (lv_at hl 0 rfl) ?_
            refine w_finI (w_runV (rm := ({ frames := 0, cells := 0, slots := 0, locals := 0 } : Room)) (As := []) (rest := []) (n := 0) hx hb hml hts hown hK w (c_X1_holdsByDraw l D cI cP cS cL L _ (pr (b.toNatClampNeg)) (pr_nu (b.toNatClampNeg)) (pr_ki (b.toNatClampNeg)) (pr_st (b.toNatClampNeg)) (pr_sl (b.toNatClampNeg)) (h_pr (b.toNatClampNeg) (by omega))) gX5_parts_X1_holdsByDraw rfl rfl rfl (by decide +kernel) ⟨(Nat.le_of_ble_eq_true rfl), (Nat.le_of_ble_eq_true rfl)⟩ (h_pr (b.toNatClampNeg) (by omega)) rfl rfl hl.1 rfl (Nat.le_of_ble_eq_true rfl) dX5_parts_54 ⟨(Nat.le_of_ble_eq_true rfl), (Nat.le_of_ble_eq_true rfl)⟩) w hA (fun H locs w => ?_)
            refine lv_if_eq (tgt := 63) hx hb dX5_parts_57 (by decide) (fun c6 => ?_) (fun c6 => ?_)
            · skip
              have hq := hq.trans (if_pos c6)
              refine lv_aload_n hx hb dX5_parts_63 rfl (lv_at hl 2 rfl) ?_
              refine w_get (v := .ref x_mi) hx hb hts i_X5 hown hK w h_x rfl 2 (by decide) (hts _ m_2) rfl dX5_parts_64 ?_
              refine lv_aload_n hx hb dX5_parts_67 rfl (lv_at hl 2 rfl) ?_
              refine w_get (v := .ref x_no) hx hb hts i_X5 hown hK w h_x rfl 0 (by decide) (hts _ m_0) rfl dX5_parts_68 ?_
              refine w_finw (w_runV (rm := ({ frames := 3, cells := 0, slots := 0, locals := 67 } : Room)) (As := [.ref x_no]) (rest := []) (n := 1) hx hb hml hts hown hK w (c_X0_takeFrom l D cI cP cS cL L _ x_mi x_no x_mi_up x_mi_down x_mi_high x_mi_prize x_mi_z x_mi_rounds x_mi_people x_mi_pa x_mi_cr x_mi_ls x_mi_cr_e x_mi_cr_so x_mi_cr_sz 12 x_mi_cr_e_f x_no_up x_no_down x_no_high x_no_prize x_no_z x_no_rounds x_no_people x_no_pa x_no_cr x_no_ls x_no_cr_e x_no_cr_so x_no_cr_sz 12 x_no_cr_e_f qm qm_nu qm_ki qm_st qm_sl pr pr_nu pr_ki pr_st pr_sl h_x_mi h_x_mi_pa h_x_mi_cr h_x_mi_cr_e h_x_no h_x_no_pa h_x_no_cr h_x_no_cr_e h_qm h_pr (by decide) hzc ne_x_no_x_mi ne_pr_qm ne_x_no_cr_x_mi_cr ne_x_no_cr_e_x_mi_cr_e hinj_qm) gX5_parts_X0_takeFrom rfl rfl rfl (by decide +kernel) ⟨(Nat.le_of_ble_eq_true rfl), (Nat.le_of_ble_eq_true rfl)⟩ h_x_mi rfl rfl hl.1 rfl (Nat.le_of_ble_eq_true rfl) dX5_parts_71 ⟨(Nat.le_of_ble_eq_true rfl), (Nat.le_of_ble_eq_true rfl)⟩) w hA (fun F1 H locs hp w => ?_)
              obtain ⟨x71, hx71, hw0, hw1, hw2, hw3, hk9⟩ := hp
              have hq := hq.trans (w_bnd hx71)
              have h_x := h_x.keep hk9 ⟨(wi.ne h_x h_x_mi (by intro h; cases h)), (wi.ne h_x h_x_mi_cr (by intro h; cases h)), (wi.ne h_x h_x_mi_cr_e (by intro h; cases h)), (fun j hj => (wi.ne h_x (h_qm j hj) (by intro h; cases h))), trivial⟩
              have h_x_no := h_x_no.keep hk9 ⟨ne_x_no_x_mi, (wi.ne h_x_no h_x_mi_cr (by intro h; cases h)), (wi.ne h_x_no h_x_mi_cr_e (by intro h; cases h)), (fun j hj => (wi.ne h_x_no (h_qm j hj) (by intro h; cases h))), trivial⟩
              have h_x_no_pa := h_x_no_pa.keep hk9 ⟨(wi.ne h_x_no_pa h_x_mi (by intro h; cases h)), (wi.ne h_x_no_pa h_x_mi_cr (by intro h; cases h)), (wi.ne h_x_no_pa h_x_mi_cr_e (by intro h; cases h)), (fun j hj => (wi.ne h_x_no_pa (h_qm j hj) (by intro h; cases h))), trivial⟩
              have h_x_no_cr := h_x_no_cr.keep hk9 ⟨(wi.ne h_x_no_cr h_x_mi (by intro h; cases h)), ne_x_no_cr_x_mi_cr, (wi.ne h_x_no_cr h_x_mi_cr_e (by intro h; cases h)), (fun j hj => (wi.ne h_x_no_cr (h_qm j hj) (by intro h; cases h))), trivial⟩
              have h_x_no_cr_e := h_x_no_cr_e.keep hk9 ⟨(wi.ne h_x_no_cr_e h_x_mi (by intro h; cases h)), (wi.ne h_x_no_cr_e h_x_mi_cr (by intro h; cases h)), ne_x_no_cr_e_x_mi_cr_e, (fun j hj => (wi.ne h_x_no_cr_e (h_qm j hj) (by intro h; cases h))), trivial⟩
              have h_x_mi_pa := h_x_mi_pa.keep hk9 ⟨(wi.ne h_x_mi_pa h_x_mi (by intro h; cases h)), (wi.ne h_x_mi_pa h_x_mi_cr (by intro h; cases h)), (wi.ne h_x_mi_pa h_x_mi_cr_e (by intro h; cases h)), (fun j hj => (wi.ne h_x_mi_pa (h_qm j hj) (by intro h; cases h))), trivial⟩
              have h_pr := fun i (hi : i < 12) => (h_pr i hi).keep hk9 ⟨(wi.ne (h_pr i hi) h_x_mi (by intro h; cases h)), (wi.ne (h_pr i hi) h_x_mi_cr (by intro h; cases h)), (wi.ne (h_pr i hi) h_x_mi_cr_e (by intro h; cases h)), (fun j hj => (ne_pr_qm i j hi hj)), trivial⟩
              have h_x_mi := h_x_mi.new hw0
              have h_x_mi_cr := h_x_mi_cr.new hw1
              have h_x_mi_cr_e := h_x_mi_cr_e.new hw2
              have h_qm := fun i (hi : i < 12) => (h_qm i hi).new (hw3 i hi)
              have hk := hk.call hk9 (fun q h => ⟨h.1, h.2.1, h.2.2.1, h.2.2.2.1, trivial⟩)
              refine lv_iconst (v := (-1)) hx hb dX5_parts_74 (by decide) ?_
              refine lv_istore (lv' := [(6, .int (-1)), (5, .ref (pr (b.toNatClampNeg))), (4, .ref (pr (a.toNatClampNeg))), (0, .ref x), (1, .int a), (2, .int b), (3, .int what)]) hx hb dX5_parts_75 hl (by decide) rfl (fun ls hl => ?_)
              refine lv_iconst (v := 0) hx hb dX5_parts_77 (by decide) ?_
              refine lv_istore (lv' := [(7, .int 0), (6, .int (-1)), (5, .ref (pr (b.toNatClampNeg))), (4, .ref (pr (a.toNatClampNeg))), (0, .ref x), (1, .int a), (2, .int b), (3, .int what)]) hx hb dX5_parts_78 hl (by decide) rfl (fun ls hl => ?_)
              refine lv_iconst (v := 0) hx hb dX5_parts_80 (by decide) ?_
              refine lv_istore (lv' := [(8, .int 0), (7, .int 0), (6, .int (-1)), (5, .ref (pr (b.toNatClampNeg))), (4, .ref (pr (a.toNatClampNeg))), (0, .ref x), (1, .int a), (2, .int b), (3, .int what)]) hx hb dX5_parts_81 hl (by decide) rfl (fun ls hl => ?_)
              have hL83 : ∀ (n k : Nat) (v6 : Int32) (v7 : Int32) (u_x_mi_up : Int32) (u_x_mi_z : Int32) (F1 : Nat → va_E) (H : Heap) (locs : List Loc) (ls : Array Slot), k ≤ 21 → 21 - k < n → f_X5_parts a b what x_no_up x_no_down x_no_high x_no_prize x_no_z x_no_rounds x_no_people x_no_ls x_no_cr_so x_no_cr_sz x_no_cr_e_f x_mi_up x_mi_down x_mi_high x_mi_prize x_mi_z x_mi_rounds x_mi_people x_mi_ls x_mi_cr_so x_mi_cr_sz x_mi_cr_e_f pr_nu pr_ki pr_st pr_sl qm_nu qm_ki qm_st qm_sl = f_X5_parts_L83 a b what pr_ki pr_st x71 n k v6 v7 u_x_mi_up u_x_mi_z → lv_has ls 10 [(0, .ref x), (1, .int a), (2, .int b), (3, .int what), (4, .ref (pr (a.toNatClampNeg))), (5, .ref (pr (b.toNatClampNeg))), (6, .int v6), (7, .int v7), (8, .int (nI k))] → ww D A sZ.heap L F1 H locs → (wi L F1 x (eX x_no x_ke x_mi x_im x_sh x_co x_ot)) → (wi L F1 x_no (eG x_no_up x_no_down x_no_high x_no_prize x_no_z x_no_rounds x_no_people x_no_pa x_no_cr x_no_ls)) → (wi L F1 x_no_pa (eQ cP 12 (fun i => some (pr i)))) → (wi L F1 x_no_cr (eR x_no_cr_e x_no_cr_so x_no_cr_sz)) → (wi L F1 x_no_cr_e (eI cI 12 x_no_cr_e_f)) → (wi L F1 x_mi (eG u_x_mi_up x71.2.1 x71.2.2.1 x71.2.2.2.1 u_x_mi_z x71.2.2.2.2.2.1 x71.2.2.2.2.2.2.1 x_mi_pa x_mi_cr x71.2.2.2.2.2.2.2.1)) → (wi L F1 x_mi_pa (eQ cP 12 (fun i => some (qm i)))) → (wi L F1 x_mi_cr (eR x_mi_cr_e x71.2.2.2.2.2.2.2.2.1 x71.2.2.2.2.2.2.2.2.2.1)) → (wi L F1 x_mi_cr_e (eI cI 12 x71.2.2.2.2.2.2.2.2.2.2.1)) → (∀ i, i < 12 → wi L F1 (pr i) (eP (pr_nu i) (pr_ki i) (pr_st i) (pr_sl i))) → (∀ i, i < 12 → wi L F1 (qm i) (eP (x71.2.2.2.2.2.2.2.2.2.2.2.1 i) (x71.2.2.2.2.2.2.2.2.2.2.2.2.1 i) (x71.2.2.2.2.2.2.2.2.2.2.2.2.2.1 i) (x71.2.2.2.2.2.2.2.2.2.2.2.2.2.2 i))) → wk (fun q : Nat => q ≠ x_mi ∧ q ≠ x_mi_cr ∧ q ≠ x_mi_cr_e ∧ (∀ i, i < 12 → q ≠ qm i) ∧ True) F1 F → W pZ l eZ ({ frames := 5, cells := 0, slots := 0, locals := 108 } : Room) sZ mZ [.ref x, .int a, .int b, .int what].toArray below meth cZ H locs 0 0 (MQ below (wQi D A (fun r1 L1 F1 => L1 = L ∧ ∃ y9 : Int32 × Int32 × Int32 × Int32 × Int32 × Int32 × Int32 × Int32 × Int32 × Int32 × Int32 × (Nat → Int32) × (Nat → Int32) × (Nat → Int32) × (Nat → Int32) × (Nat → Int32), y9 = (f_X5_parts a b what x_no_up x_no_down x_no_high x_no_prize x_no_z x_no_rounds x_no_people x_no_ls x_no_cr_so x_no_cr_sz x_no_cr_e_f x_mi_up x_mi_down x_mi_high x_mi_prize x_mi_z x_mi_rounds x_mi_people x_mi_ls x_mi_cr_so x_mi_cr_sz x_mi_cr_e_f pr_nu pr_ki pr_st pr_sl qm_nu qm_ki qm_st qm_sl) ∧ r1 = y9.1 ∧ F1 x_mi = (eG y9.2.1 y9.2.2.1 y9.2.2.2.1 y9.2.2.2.2.1 y9.2.2.2.2.2.1 y9.2.2.2.2.2.2.1 y9.2.2.2.2.2.2.2.1 x_mi_pa x_mi_cr y9.2.2.2.2.2.2.2.2.1) ∧ F1 x_mi_cr = (eR x_mi_cr_e y9.2.2.2.2.2.2.2.2.2.1 y9.2.2.2.2.2.2.2.2.2.2.1) ∧ F1 x_mi_cr_e = (eI cI 12 y9.2.2.2.2.2.2.2.2.2.2.2.1) ∧ (∀ i, i < 12 → F1 (qm i) = (eP (y9.2.2.2.2.2.2.2.2.2.2.2.2.1 i) (y9.2.2.2.2.2.2.2.2.2.2.2.2.2.1 i) (y9.2.2.2.2.2.2.2.2.2.2.2.2.2.2.1 i) (y9.2.2.2.2.2.2.2.2.2.2.2.2.2.2.2 i))) ∧ wk (fun q : Nat => q ≠ x_mi ∧ q ≠ x_mi_cr ∧ q ≠ x_mi_cr_e ∧ (∀ i, i < 12 → q ≠ qm i) ∧ True) F1 F)) [.ref x, .int a, .int b, .int what].toArray sZ 0 0 A) (F0 mZ 83 ls []) := by
                intro n; induction n with
                | zero => intro k v6 v7 u_x_mi_up u_x_mi_z F1 H locs ls hkT hmeas; exact absurd hmeas (Nat.not_lt_zero _)
                | succ n ih =>
                  intro k v6 v7 u_x_mi_up u_x_mi_z F1 H locs ls hkT hmeas hq hl w h_x h_x_no h_x_no_pa h_x_no_cr h_x_no_cr_e h_x_mi h_x_mi_pa h_x_mi_cr h_x_mi_cr_e h_pr h_qm hk
                  have hk31 : k < 2147483648 := by omega
                  have hq := hq.trans (f_X5_parts_L83_s a b what pr_ki pr_st x71 n k v6 v7 u_x_mi_up u_x_mi_z)
                  refine lv_iload hx hb dX5_parts_83 (lv_at hl 8 rfl) ?_
                  refine lv_bipush (v := 20) hx hb dX5_parts_85 (by decide) ?_
                  refine lv_icmp_gt (tgt := 144) hx hb dX5_parts_87 (by decide) (fun c7 => ?_) (fun c7 => ?_)
                  · skip
                    have hq := hq.trans (if_pos c7)
                    refine lv_iload_n hx hb dX5_parts_144 rfl (lv_at hl 3 rfl) ?_
                    refine lv_if_ne (tgt := 153) hx hb dX5_parts_145 (by decide) (fun c8 => ?_) (fun c8 => ?_)
                    · skip
                      have hq := hq.trans (if_neg c8)
                      refine lv_iload hx hb dX5_parts_153 (lv_at hl 6 rfl) ?_
                      exact w_iret hx hb hr hlocks w ⟨rfl, _, hq.symm, rfl, h_x_mi.2, h_x_mi_cr.2, h_x_mi_cr_e.2, (fun i hi => (h_qm i hi).2), hk⟩ (Nat.le_refl _) (Nat.le_refl _) dX5_parts_155
                    · skip
                      have hq := hq.trans (if_pos c8)
                      refine lv_iload hx hb dX5_parts_148 (lv_at hl 7 rfl) ?_
                      refine lv_goto (tgt := 155) hx hb dX5_parts_150 (by decide) ?_
                      exact w_iret hx hb hr hlocks w ⟨rfl, _, hq.symm, rfl, h_x_mi.2, h_x_mi_cr.2, h_x_mi_cr_e.2, (fun i hi => (h_qm i hi).2), hk⟩ (Nat.le_refl _) (Nat.le_refl _) dX5_parts_155
                  · skip
                    have hq := hq.trans (if_neg c7)
                    have hlt87 : k < 20 + 1 := w_lek hk31 c7
                    refine lv_aload_n hx hb dX5_parts_90 rfl (lv_at hl 0 rfl) ?_
                    refine w_get (v := .ref x_mi) hx hb hts i_X5 hown hK w h_x rfl 2 (by decide) (hts _ m_2) rfl dX5_parts_91 ?_
                    refine lv_iload hx hb dX5_parts_94 (lv_at hl 8 rfl) ?_
                    have ho9 := h_x_mi
                    refine w_put (fs2 := [.int (nI k), .int x71.2.1, .int x71.2.2.1, .int x71.2.2.2.1, .int u_x_mi_z, .int x71.2.2.2.2.2.1, .int x71.2.2.2.2.2.2.1, .ref x_mi_pa, .ref x_mi_cr, .int x71.2.2.2.2.2.2.2.1]) hx hb hts i_X0 tyX0 tyX0_ok nmX0 hown hK w h_x_mi rfl 0 (by decide) (hts _ m_3) rfl rfl rfl (Nat.le_of_ble_eq_true rfl) rfl dX5_parts_96 (fun H locs w h_x_mi => ?_)
                    have h_x := h_x.upw h_x_mi (wi.ne h_x ho9 (by intro h; cases h))
                    have h_x_no := h_x_no.upw h_x_mi ne_x_no_x_mi
                    have h_x_no_pa := h_x_no_pa.upw h_x_mi (wi.ne h_x_no_pa ho9 (by intro h; cases h))
                    have h_x_no_cr := h_x_no_cr.upw h_x_mi (wi.ne h_x_no_cr ho9 (by intro h; cases h))
                    have h_x_no_cr_e := h_x_no_cr_e.upw h_x_mi (wi.ne h_x_no_cr_e ho9 (by intro h; cases h))
                    have h_x_mi_pa := h_x_mi_pa.upw h_x_mi (wi.ne h_x_mi_pa ho9 (by intro h; cases h))
                    have h_x_mi_cr := h_x_mi_cr.upw h_x_mi (wi.ne h_x_mi_cr ho9 (by intro h; cases h))
                    have h_x_mi_cr_e := h_x_mi_cr_e.upw h_x_mi (wi.ne h_x_mi_cr_e ho9 (by intro h; cases h))
                    have h_pr := fun i (hi : i < 12) => (h_pr i hi).upw h_x_mi (wi.ne (h_pr i hi) ho9 (by intro h; cases h))
                    have h_qm := fun i (hi : i < 12) => (h_qm i hi).upw h_x_mi (wi.ne (h_qm i hi) ho9 (by intro h; cases h))
                    have hk := hk.upw h_x_mi (fun q h => h.1)
                    refine lv_aload_n hx hb dX5_parts_99 rfl (lv_at hl 0 rfl) ?_
                    refine w_get (v := .ref x_mi) hx hb hts i_X5 hown hK w h_x rfl 2 (by decide) (hts _ m_2) rfl dX5_parts_100 ?_
                    refine lv_aload hx hb dX5_parts_103 (lv_at hl 4 rfl) ?_
                    refine w_finj (w_runV (rm := ({ frames := 4, cells := 0, slots := 0, locals := 87 } : Room)) (As := [.ref (pr (a.toNatClampNeg))]) (rest := []) (n := 1) hx hb hml hts hown hK w (c_X0_heldBy l D cI cP cS cL L _ x_mi (pr (a.toNatClampNeg)) (nI k) x71.2.1 x71.2.2.1 x71.2.2.2.1 u_x_mi_z x71.2.2.2.2.2.1 x71.2.2.2.2.2.2.1 x_mi_pa x_mi_cr x71.2.2.2.2.2.2.2.1 (pr_nu (a.toNatClampNeg)) (pr_ki (a.toNatClampNeg)) (pr_st (a.toNatClampNeg)) (pr_sl (a.toNatClampNeg)) h_x_mi (h_pr (a.toNatClampNeg) (by omega)) (hsts (a.toNatClampNeg) (by omega))) gX5_parts_X0_heldBy rfl rfl rfl (by decide +kernel) ⟨(Nat.le_of_ble_eq_true rfl), (Nat.le_of_ble_eq_true rfl)⟩ h_x_mi rfl rfl hl.1 rfl (Nat.le_of_ble_eq_true rfl) dX5_parts_105 ⟨(Nat.le_of_ble_eq_true rfl), (Nat.le_of_ble_eq_true rfl)⟩) w hA (fun r9 F1 H locs hp w => ?_)
                    obtain ⟨x105, hx105, hr9, hw0, hk9⟩ := hp
                    subst hr9
                    have hq := hq.trans (w_bnd hx105)
                    have h_x := h_x.keep hk9 ⟨(wi.ne h_x h_x_mi (by intro h; cases h)), trivial⟩
                    have h_x_no := h_x_no.keep hk9 ⟨ne_x_no_x_mi, trivial⟩
                    have h_x_no_pa := h_x_no_pa.keep hk9 ⟨(wi.ne h_x_no_pa h_x_mi (by intro h; cases h)), trivial⟩
                    have h_x_no_cr := h_x_no_cr.keep hk9 ⟨(wi.ne h_x_no_cr h_x_mi (by intro h; cases h)), trivial⟩
                    have h_x_no_cr_e := h_x_no_cr_e.keep hk9 ⟨(wi.ne h_x_no_cr_e h_x_mi (by intro h; cases h)), trivial⟩
                    have h_x_mi_pa := h_x_mi_pa.keep hk9 ⟨(wi.ne h_x_mi_pa h_x_mi (by intro h; cases h)), trivial⟩
                    have h_x_mi_cr := h_x_mi_cr.keep hk9 ⟨(wi.ne h_x_mi_cr h_x_mi (by intro h; cases h)), trivial⟩
                    have h_x_mi_cr_e := h_x_mi_cr_e.keep hk9 ⟨(wi.ne h_x_mi_cr_e h_x_mi (by intro h; cases h)), trivial⟩
                    have h_pr := fun i (hi : i < 12) => (h_pr i hi).keep hk9 ⟨(wi.ne (h_pr i hi) h_x_mi (by intro h; cases h)), trivial⟩
                    have h_qm := fun i (hi : i < 12) => (h_qm i hi).keep hk9 ⟨(wi.ne (h_qm i hi) h_x_mi (by intro h; cases h)), trivial⟩
                    have h_x_mi := h_x_mi.new hw0
                    have hk := hk.call hk9 (fun q h => ⟨h.1, trivial⟩)
                    refine lv_aload_n hx hb dX5_parts_108 rfl (lv_at hl 0 rfl) ?_
                    refine w_get (v := .ref x_mi) hx hb hts i_X5 hown hK w h_x rfl 2 (by decide) (hts _ m_2) rfl dX5_parts_109 ?_
                    refine lv_aload hx hb dX5_parts_112 (lv_at hl 5 rfl) ?_
                    refine w_finj (w_runV (rm := ({ frames := 4, cells := 0, slots := 0, locals := 87 } : Room)) (As := [.ref (pr (b.toNatClampNeg))]) (rest := [.int x105.1]) (n := 1) hx hb hml hts hown hK w (c_X0_heldBy l D cI cP cS cL L _ x_mi (pr (b.toNatClampNeg)) (nI k) x71.2.1 x71.2.2.1 x71.2.2.2.1 x105.2 x71.2.2.2.2.2.1 x71.2.2.2.2.2.2.1 x_mi_pa x_mi_cr x71.2.2.2.2.2.2.2.1 (pr_nu (b.toNatClampNeg)) (pr_ki (b.toNatClampNeg)) (pr_st (b.toNatClampNeg)) (pr_sl (b.toNatClampNeg)) h_x_mi (h_pr (b.toNatClampNeg) (by omega)) (hsts (b.toNatClampNeg) (by omega))) gX5_parts_X0_heldBy rfl rfl rfl (by decide +kernel) ⟨(Nat.le_of_ble_eq_true rfl), (Nat.le_of_ble_eq_true rfl)⟩ h_x_mi rfl rfl hl.1 rfl (Nat.le_of_ble_eq_true rfl) dX5_parts_114 ⟨(Nat.le_of_ble_eq_true rfl), (Nat.le_of_ble_eq_true rfl)⟩) w hA (fun r9 F1 H locs hp w => ?_)
                    obtain ⟨x114, hx114, hr9, hw0, hk9⟩ := hp
                    subst hr9
                    have hq := hq.trans (w_bnd hx114)
                    have h_x := h_x.keep hk9 ⟨(wi.ne h_x h_x_mi (by intro h; cases h)), trivial⟩
                    have h_x_no := h_x_no.keep hk9 ⟨ne_x_no_x_mi, trivial⟩
                    have h_x_no_pa := h_x_no_pa.keep hk9 ⟨(wi.ne h_x_no_pa h_x_mi (by intro h; cases h)), trivial⟩
                    have h_x_no_cr := h_x_no_cr.keep hk9 ⟨(wi.ne h_x_no_cr h_x_mi (by intro h; cases h)), trivial⟩
                    have h_x_no_cr_e := h_x_no_cr_e.keep hk9 ⟨(wi.ne h_x_no_cr_e h_x_mi (by intro h; cases h)), trivial⟩
                    have h_x_mi_pa := h_x_mi_pa.keep hk9 ⟨(wi.ne h_x_mi_pa h_x_mi (by intro h; cases h)), trivial⟩
                    have h_x_mi_cr := h_x_mi_cr.keep hk9 ⟨(wi.ne h_x_mi_cr h_x_mi (by intro h; cases h)), trivial⟩
                    have h_x_mi_cr_e := h_x_mi_cr_e.keep hk9 ⟨(wi.ne h_x_mi_cr_e h_x_mi (by intro h; cases h)), trivial⟩
                    have h_pr := fun i (hi : i < 12) => (h_pr i hi).keep hk9 ⟨(wi.ne (h_pr i hi) h_x_mi (by intro h; cases h)), trivial⟩
                    have h_qm := fun i (hi : i < 12) => (h_qm i hi).keep hk9 ⟨(wi.ne (h_qm i hi) h_x_mi (by intro h; cases h)), trivial⟩
                    have h_x_mi := h_x_mi.new hw0
                    have hk := hk.call hk9 (fun q h => ⟨h.1, trivial⟩)
                    refine lv_isub hx hb dX5_parts_117 ?_
                    refine va_mabs hx hb (hml.trans hl.1.symm) hown (hts _ m_5) (hts _ m_6) (hts _ m_7) (hts _ m_8) (Nat.le_of_ble_eq_true rfl) (Nat.le_of_ble_eq_true rfl) (Nat.zero_le _) (Nat.zero_le _) dX5_parts_118 ?_
                    refine lv_istore (lv' := [(9, .int (if 0 ≤ (x105.1 - x114.1) then (x105.1 - x114.1) else 0 - (x105.1 - x114.1))), (0, .ref x), (1, .int a), (2, .int b), (3, .int what), (4, .ref (pr (a.toNatClampNeg))), (5, .ref (pr (b.toNatClampNeg))), (6, .int v6), (7, .int v7), (8, .int (nI k))]) hx hb dX5_parts_121 hl (by decide) rfl (fun ls hl => ?_)
                    refine lv_iload hx hb dX5_parts_123 (lv_at hl 0 rfl) ?_
                    refine lv_iload hx hb dX5_parts_125 (lv_at hl 7 rfl) ?_
                    refine lv_icmp_le (tgt := 138) hx hb dX5_parts_127 (by decide) (fun c10 => ?_) (fun c10 => ?_)
                    · skip
                      have hq := hq.trans (if_pos c10)
                      refine lv_iinc (v := (nI (k + 1))) (lv' := [(8, .int (nI (k + 1))), (9, .int (if 0 ≤ (x105.1 - x114.1) then (x105.1 - x114.1) else 0 - (x105.1 - x114.1))), (0, .ref x), (1, .int a), (2, .int b), (3, .int what), (4, .ref (pr (a.toNatClampNeg))), (5, .ref (pr (b.toNatClampNeg))), (6, .int v6), (7, .int v7)]) hx hb dX5_parts_138 hl (k := 9) rfl (w_inc _) (by decide) rfl (fun ls hl => ?_)
                      refine lv_goto (tgt := 83) hx hb dX5_parts_141 (by decide) ?_
                      exact ih ((k + 1)) v6 v7 (nI k) x114.2 _ _ _ _ (by omega) (by omega) hq (lv_sub hl [2, 3, 4, 5, 6, 7, 8, 9, 0] rfl) w h_x h_x_no h_x_no_pa h_x_no_cr h_x_no_cr_e h_x_mi h_x_mi_pa h_x_mi_cr h_x_mi_cr_e h_pr h_qm hk
                    · skip
                      have hq := hq.trans (if_neg c10)
                      refine lv_iload hx hb dX5_parts_130 (lv_at hl 0 rfl) ?_
                      refine lv_istore (lv' := [(6, .int (if 0 ≤ (x105.1 - x114.1) then (x105.1 - x114.1) else 0 - (x105.1 - x114.1))), (9, .int (if 0 ≤ (x105.1 - x114.1) then (x105.1 - x114.1) else 0 - (x105.1 - x114.1))), (0, .ref x), (1, .int a), (2, .int b), (3, .int what), (4, .ref (pr (a.toNatClampNeg))), (5, .ref (pr (b.toNatClampNeg))), (7, .int v7), (8, .int (nI k))]) hx hb dX5_parts_132 hl (by decide) rfl (fun ls hl => ?_)
                      refine lv_iload hx hb dX5_parts_134 (lv_at hl 9 rfl) ?_
                      refine lv_istore (lv' := [(7, .int (nI k)), (6, .int (if 0 ≤ (x105.1 - x114.1) then (x105.1 - x114.1) else 0 - (x105.1 - x114.1))), (9, .int (if 0 ≤ (x105.1 - x114.1) then (x105.1 - x114.1) else 0 - (x105.1 - x114.1))), (0, .ref x), (1, .int a), (2, .int b), (3, .int what), (4, .ref (pr (a.toNatClampNeg))), (5, .ref (pr (b.toNatClampNeg))), (8, .int (nI k))]) hx hb dX5_parts_136 hl (by decide) rfl (fun ls hl => ?_)
                      refine lv_iinc (v := (nI (k + 1))) (lv' := [(8, .int (nI (k + 1))), (7, .int (nI k)), (6, .int (if 0 ≤ (x105.1 - x114.1) then (x105.1 - x114.1) else 0 - (x105.1 - x114.1))), (9, .int (if 0 ≤ (x105.1 - x114.1) then (x105.1 - x114.1) else 0 - (x105.1 - x114.1))), (0, .ref x), (1, .int a), (2, .int b), (3, .int what), (4, .ref (pr (a.toNatClampNeg))), (5, .ref (pr (b.toNatClampNeg)))]) hx hb dX5_parts_138 hl (k := 9) rfl (w_inc _) (by decide) rfl (fun ls hl => ?_)
                      refine lv_goto (tgt := 83) hx hb dX5_parts_141 (by decide) ?_
                      exact ih ((k + 1)) (if 0 ≤ (x105.1 - x114.1) then (x105.1 - x114.1) else 0 - (x105.1 - x114.1)) (nI k) (nI k) x114.2 _ _ _ _ (by omega) (by omega) hq (lv_sub hl [4, 5, 6, 7, 8, 9, 2, 1, 0] rfl) w h_x h_x_no h_x_no_pa h_x_no_cr h_x_no_cr_e h_x_mi h_x_mi_pa h_x_mi_cr h_x_mi_cr_e h_pr h_qm hk
              exact hL83 (21 + 1) 0 (-1) 0 x71.1 x71.2.2.2.2.1 _ _ _ _ (Nat.zero_le _) (by omega) hq (lv_sub hl [5, 6, 7, 8, 4, 3, 2, 1, 0] rfl) w h_x h_x_no h_x_no_pa h_x_no_cr h_x_no_cr_e h_x_mi h_x_mi_pa h_x_mi_cr h_x_mi_cr_e h_pr h_qm hk
            · skip
              have hq := hq.trans (if_neg c6)
              refine lv_bipush (v := (-3)) hx hb dX5_parts_60 (by decide) ?_
              exact w_iret hx hb hr hlocks w ⟨rfl, _, hq.symm, rfl, h_x_mi.2, h_x_mi_cr.2, h_x_mi_cr_e.2, (fun i hi => (h_qm i hi).2), hk⟩ (Nat.le_refl _) (Nat.le_refl _) dX5_parts_62
        · skip
          have hq := hq.trans (if_pos c4)
          refine lv_iconst (v := (-1)) hx hb dX5_parts_42 (by decide) ?_
          exact w_iret hx hb hr hlocks w ⟨rfl, _, hq.symm, rfl, h_x_mi.2, h_x_mi_cr.2, h_x_mi_cr_e.2, (fun i hi => (h_qm i hi).2), hk⟩ (Nat.le_refl _) (Nat.le_refl _) dX5_parts_43
    · skip
      have hq := hq.trans (if_neg c2)
      refine w_finQ (v := .null) (by unfold f_X0_personAt_none; first | rfl | (split <;> rfl)) (w_runV (rm := ({ frames := 0, cells := 0, slots := 0, locals := 0 } : Room)) (As := [.int b]) (rest := []) (n := 1) hx hb hml hts hown hK w (c_X0_personAt_none l D cI cP cS cL L _ x_no b x_no_up x_no_down x_no_high x_no_prize x_no_z x_no_rounds x_no_people x_no_pa x_no_cr x_no_ls pr h_x_no h_x_no_pa c2) gX5_parts_X0_personAt rfl rfl rfl (by decide +kernel) ⟨(Nat.le_of_ble_eq_true rfl), (Nat.le_of_ble_eq_true rfl)⟩ h_x_no rfl rfl hl.1 rfl (Nat.le_of_ble_eq_true rfl) dX5_parts_15 ⟨(Nat.le_of_ble_eq_true rfl), (Nat.le_of_ble_eq_true rfl)⟩) w hA (fun H locs w => ?_)
      refine lv_astoreN (lv' := [(5, .null), (4, .ref (pr (a.toNatClampNeg))), (0, .ref x), (1, .int a), (2, .int b), (3, .int what)]) hx hb dX5_parts_18 hl (by decide) rfl (fun ls hl => ?_)
      refine lv_aload hx hb dX5_parts_20 (lv_at hl 1 rfl) ?_
      refine lv_ifnull hx hb dX5_parts_22 ?_
      refine lv_aloadN hx hb dX5_parts_25 (lv_at hl 0 rfl) ?_
      refine lv_ifnullN (tgt := 42) hx hb dX5_parts_27 (by decide) ?_
      refine lv_iconst (v := (-1)) hx hb dX5_parts_42 (by decide) ?_
      exact w_iret hx hb hr hlocks w ⟨rfl, _, hq.symm, rfl, h_x_mi.2, h_x_mi_cr.2, h_x_mi_cr_e.2, (fun i hi => (h_qm i hi).2), hk⟩ (Nat.le_refl _) (Nat.le_refl _) dX5_parts_43
  · skip
    have hq := hq.trans (if_neg c1)
    refine w_finQ (v := .null) (by unfold f_X0_personAt_none; first | rfl | (split <;> rfl)) (w_runV (rm := ({ frames := 0, cells := 0, slots := 0, locals := 0 } : Room)) (As := [.int a]) (rest := []) (n := 1) hx hb hml hts hown hK w (c_X0_personAt_none l D cI cP cS cL L _ x_no a x_no_up x_no_down x_no_high x_no_prize x_no_z x_no_rounds x_no_people x_no_pa x_no_cr x_no_ls pr h_x_no h_x_no_pa c1) gX5_parts_X0_personAt rfl rfl rfl (by decide +kernel) ⟨(Nat.le_of_ble_eq_true rfl), (Nat.le_of_ble_eq_true rfl)⟩ h_x_no rfl rfl hl.1 rfl (Nat.le_of_ble_eq_true rfl) dX5_parts_5 ⟨(Nat.le_of_ble_eq_true rfl), (Nat.le_of_ble_eq_true rfl)⟩) w hA (fun H locs w => ?_)
    refine lv_astoreN (lv' := [(4, .null), (0, .ref x), (1, .int a), (2, .int b), (3, .int what)]) hx hb dX5_parts_8 hl (by decide) rfl (fun ls hl => ?_)
    refine lv_aload_n hx hb dX5_parts_10 rfl (lv_at hl 1 rfl) ?_
    refine w_get (v := .ref x_no) hx hb hts i_X5 hown hK w h_x rfl 0 (by decide) (hts _ m_0) rfl dX5_parts_11 ?_
    refine lv_iload_n hx hb dX5_parts_14 rfl (lv_at hl 3 rfl) ?_
    by_cases c11 : (¬ b < 0 ∧ ¬ x_no_people ≤ b)
    · skip
      have hq := hq.trans (if_pos c11)
      have hlt_C : b.toNatClampNeg < 12 := w_okP c11 hpp
      refine w_finQ (v := .ref (pr (b.toNatClampNeg))) rfl (w_runV (rm := ({ frames := 0, cells := 0, slots := 0, locals := 0 } : Room)) (As := [.int b]) (rest := []) (n := 1) hx hb hml hts hown hK w (c_X0_personAt_some l D cI cP cS cL L _ x_no b x_no_up x_no_down x_no_high x_no_prize x_no_z x_no_rounds x_no_people x_no_pa x_no_cr x_no_ls pr pr_nu pr_ki pr_st pr_sl h_x_no h_x_no_pa h_pr c11 hpp) gX5_parts_X0_personAt rfl rfl rfl (by decide +kernel) ⟨(Nat.le_of_ble_eq_true rfl), (Nat.le_of_ble_eq_true rfl)⟩ h_x_no rfl rfl hl.1 rfl (Nat.le_of_ble_eq_true rfl) dX5_parts_15 ⟨(Nat.le_of_ble_eq_true rfl), (Nat.le_of_ble_eq_true rfl)⟩) w hA (fun H locs w => ?_)
      refine lv_astore (lv' := [(5, .ref (pr (b.toNatClampNeg))), (4, .null), (0, .ref x), (1, .int a), (2, .int b), (3, .int what)]) hx hb dX5_parts_18 hl (by decide) rfl (fun ls hl => ?_)
      refine lv_aloadN hx hb dX5_parts_20 (lv_at hl 1 rfl) ?_
      refine lv_ifnullN (tgt := 42) hx hb dX5_parts_22 (by decide) ?_
      refine lv_iconst (v := (-1)) hx hb dX5_parts_42 (by decide) ?_
      exact w_iret hx hb hr hlocks w ⟨rfl, _, hq.symm, rfl, h_x_mi.2, h_x_mi_cr.2, h_x_mi_cr_e.2, (fun i hi => (h_qm i hi).2), hk⟩ (Nat.le_refl _) (Nat.le_refl _) dX5_parts_43
    · skip
      have hq := hq.trans (if_neg c11)
      refine w_finQ (v := .null) (by unfold f_X0_personAt_none; first | rfl | (split <;> rfl)) (w_runV (rm := ({ frames := 0, cells := 0, slots := 0, locals := 0 } : Room)) (As := [.int b]) (rest := []) (n := 1) hx hb hml hts hown hK w (c_X0_personAt_none l D cI cP cS cL L _ x_no b x_no_up x_no_down x_no_high x_no_prize x_no_z x_no_rounds x_no_people x_no_pa x_no_cr x_no_ls pr h_x_no h_x_no_pa c11) gX5_parts_X0_personAt rfl rfl rfl (by decide +kernel) ⟨(Nat.le_of_ble_eq_true rfl), (Nat.le_of_ble_eq_true rfl)⟩ h_x_no rfl rfl hl.1 rfl (Nat.le_of_ble_eq_true rfl) dX5_parts_15 ⟨(Nat.le_of_ble_eq_true rfl), (Nat.le_of_ble_eq_true rfl)⟩) w hA (fun H locs w => ?_)
      refine lv_astoreN (lv' := [(5, .null), (4, .null), (0, .ref x), (1, .int a), (2, .int b), (3, .int what)]) hx hb dX5_parts_18 hl (by decide) rfl (fun ls hl => ?_)
      refine lv_aloadN hx hb dX5_parts_20 (lv_at hl 1 rfl) ?_
      refine lv_ifnullN (tgt := 42) hx hb dX5_parts_22 (by decide) ?_
      refine lv_iconst (v := (-1)) hx hb dX5_parts_42 (by decide) ?_
      exact w_iret hx hb hr hlocks w ⟨rfl, _, hq.symm, rfl, h_x_mi.2, h_x_mi_cr.2, h_x_mi_cr_e.2, (fun i hi => (h_qm i hi).2), hk⟩ (Nat.le_refl _) (Nat.le_refl _) dX5_parts_43
def f_X5_image (x_no_up : Int32) (x_no_down : Int32) (x_no_high : Int32) (x_no_prize : Int32) (x_no_z : Int32) (x_no_rounds : Int32) (x_no_people : Int32) (x_no_ls : Int32) (x_no_cr_so : Int32) (x_no_cr_sz : Int32) (x_no_cr_e_f : Nat → Int32) (x_ke_cr_e_f : Nat → Int32) (pr_nu : Nat → Int32) (pr_ki : Nat → Int32) (pr_st : Nat → Int32) (pr_sl : Nat → Int32) (qk_nu : Nat → Int32) (qk_ki : Nat → Int32) (qk_st : Nat → Int32) (qk_sl : Nat → Int32) : Int32 × Int32 × Int32 × Int32 × Int32 × Int32 × Int32 × Int32 × Int32 × Int32 × Int32 × Int32 × (Nat → Int32) × (Nat → Int32) × (Nat → Int32) × (Nat → Int32) × (Nat → Int32) := (bnd (f_X0_takeFrom 12 x_ke_cr_e_f x_no_up x_no_down x_no_high x_no_prize x_no_z x_no_rounds x_no_people x_no_ls x_no_cr_so x_no_cr_sz x_no_cr_e_f qk_nu qk_ki qk_st qk_sl pr_nu pr_ki pr_st pr_sl) (fun x8 : Int32 × Int32 × Int32 × Int32 × Int32 × Int32 × Int32 × Int32 × Int32 × Int32 × (Nat → Int32) × (Nat → Int32) × (Nat → Int32) × (Nat → Int32) × (Nat → Int32) => (x_no_people, 1, x8.1, x8.2.1, x8.2.2.1, x8.2.2.2.1, x8.2.2.2.2.1, x8.2.2.2.2.2.1, x8.2.2.2.2.2.2.1, x8.2.2.2.2.2.2.2.1, x8.2.2.2.2.2.2.2.2.1, x8.2.2.2.2.2.2.2.2.2.1, x8.2.2.2.2.2.2.2.2.2.2.1, x8.2.2.2.2.2.2.2.2.2.2.2.1, x8.2.2.2.2.2.2.2.2.2.2.2.2.1, x8.2.2.2.2.2.2.2.2.2.2.2.2.2.1, x8.2.2.2.2.2.2.2.2.2.2.2.2.2.2)))
set_option maxHeartbeats 400000 in
set_option maxRecDepth 100000 in
theorem c_X5_image (l : Launch) (D : va_G) (cI cP cS cL : ClassId) (L : List Nat) (F : Nat → va_E) (x : Nat) (x_no : Nat) (x_ke : Nat) (x_mi : Nat) (x_im : Int32) (x_sh : Nat) (x_co : Nat) (x_ot : Nat) (x_no_up : Int32) (x_no_down : Int32) (x_no_high : Int32) (x_no_prize : Int32) (x_no_z : Int32) (x_no_rounds : Int32) (x_no_people : Int32) (x_no_pa : Nat) (x_no_cr : Nat) (x_no_ls : Int32) (x_no_cr_e : Nat) (x_no_cr_so : Int32) (x_no_cr_sz : Int32) (x_no_cr_e_f : Nat → Int32) (x_ke_up : Int32) (x_ke_down : Int32) (x_ke_high : Int32) (x_ke_prize : Int32) (x_ke_z : Int32) (x_ke_rounds : Int32) (x_ke_people : Int32) (x_ke_pa : Nat) (x_ke_cr : Nat) (x_ke_ls : Int32) (x_ke_cr_e : Nat) (x_ke_cr_so : Int32) (x_ke_cr_sz : Int32) (x_ke_cr_e_f : Nat → Int32) (pr : Nat → Nat) (pr_nu : Nat → Int32) (pr_ki : Nat → Int32) (pr_st : Nat → Int32) (pr_sl : Nat → Int32) (qk : Nat → Nat) (qk_nu : Nat → Int32) (qk_ki : Nat → Int32) (qk_st : Nat → Int32) (qk_sl : Nat → Int32) (h_x : wi L F x (eX x_no x_ke x_mi x_im x_sh x_co x_ot)) (h_x_no : wi L F x_no (eG x_no_up x_no_down x_no_high x_no_prize x_no_z x_no_rounds x_no_people x_no_pa x_no_cr x_no_ls)) (h_x_no_pa : wi L F x_no_pa (eQ cP 12 (fun i => some (pr i)))) (h_x_no_cr : wi L F x_no_cr (eR x_no_cr_e x_no_cr_so x_no_cr_sz)) (h_x_no_cr_e : wi L F x_no_cr_e (eI cI 12 x_no_cr_e_f)) (h_x_ke : wi L F x_ke (eG x_ke_up x_ke_down x_ke_high x_ke_prize x_ke_z x_ke_rounds x_ke_people x_ke_pa x_ke_cr x_ke_ls)) (h_x_ke_pa : wi L F x_ke_pa (eQ cP 12 (fun i => some (qk i)))) (h_x_ke_cr : wi L F x_ke_cr (eR x_ke_cr_e x_ke_cr_so x_ke_cr_sz)) (h_x_ke_cr_e : wi L F x_ke_cr_e (eI cI 12 x_ke_cr_e_f)) (h_pr : ∀ i, i < 12 → wi L F (pr i) (eP (pr_nu i) (pr_ki i) (pr_st i) (pr_sl i))) (h_qk : ∀ i, i < 12 → wi L F (qk i) (eP (qk_nu i) (qk_ki i) (qk_st i) (qk_sl i))) (hzc : x_no_cr_sz.toInt ≤ 12) (ne_x_no_x_ke : x_no ≠ x_ke) (ne_pr_qk : ∀ i j, i < 12 → j < 12 → pr i ≠ qk j) (ne_x_no_cr_x_ke_cr : x_no_cr ≠ x_ke_cr) (ne_x_no_cr_e_x_ke_cr_e : x_no_cr_e ≠ x_ke_cr_e) (hinj_qk : ∀ i k, i < 12 → k < 12 → qk i = qk k → i = k) : wMj l D cI cP cS cL yX5_image wsX5_image ({ frames := 4, cells := 0, slots := 0, locals := 89 } : Room) [.ref x] L F (fun r1 F1 => ∃ y9 : Int32 × Int32 × Int32 × Int32 × Int32 × Int32 × Int32 × Int32 × Int32 × Int32 × Int32 × Int32 × (Nat → Int32) × (Nat → Int32) × (Nat → Int32) × (Nat → Int32) × (Nat → Int32), y9 = (f_X5_image x_no_up x_no_down x_no_high x_no_prize x_no_z x_no_rounds x_no_people x_no_ls x_no_cr_so x_no_cr_sz x_no_cr_e_f x_ke_cr_e_f pr_nu pr_ki pr_st pr_sl qk_nu qk_ki qk_st qk_sl) ∧ r1 = y9.1 ∧ F1 x = (eX x_no x_ke x_mi y9.2.1 x_sh x_co x_ot) ∧ F1 x_ke = (eG y9.2.2.1 y9.2.2.2.1 y9.2.2.2.2.1 y9.2.2.2.2.2.1 y9.2.2.2.2.2.2.1 y9.2.2.2.2.2.2.2.1 y9.2.2.2.2.2.2.2.2.1 x_ke_pa x_ke_cr y9.2.2.2.2.2.2.2.2.2.1) ∧ F1 x_ke_cr = (eR x_ke_cr_e y9.2.2.2.2.2.2.2.2.2.2.1 y9.2.2.2.2.2.2.2.2.2.2.2.1) ∧ F1 x_ke_cr_e = (eI cI 12 y9.2.2.2.2.2.2.2.2.2.2.2.2.1) ∧ (∀ i, i < 12 → F1 (qk i) = (eP (y9.2.2.2.2.2.2.2.2.2.2.2.2.2.1 i) (y9.2.2.2.2.2.2.2.2.2.2.2.2.2.2.1 i) (y9.2.2.2.2.2.2.2.2.2.2.2.2.2.2.2.1 i) (y9.2.2.2.2.2.2.2.2.2.2.2.2.2.2.2.2 i))) ∧ wk (fun q : Nat => q ≠ x ∧ q ≠ x_ke ∧ q ≠ x_ke_cr ∧ q ≠ x_ke_cr_e ∧ (∀ i, i < 12 → q ≠ qk i) ∧ True) F1 F) := by
  refine wM.of (cc := cX5_image) (maxL := 1) (ret := (some .int)) (by decide) rfl (Nat.le_of_ble_eq_true rfl) ?_
  intro pZ eZ sZ mZ below meth cZ A ls C hl w
  obtain ⟨hx, hb, hr, hml, hts, hown, hlocks, hK, hA, hin⟩ := C
  have hown : sZ.vm.findClass RX5 = some mZ.cls := hown
  have hl : lv_has ls 1 [(0, .ref x)] := hl
  have m_0 : ((.fieldLink RX5 16 "TwoThirds" "kept" "LTwoThirds$Game;") : Cond) ∈ wsX5_image := by decide +kernel
  have i_X5 : ∀ w ∈ wsX50, w ∈ wsX5_image := by decide +kernel
  have m_2 : ((.fieldLink RX5 10 "TwoThirds" "now" "LTwoThirds$Game;") : Cond) ∈ wsX5_image := by decide +kernel
  have m_3 : ((.fieldLink RX5 224 "TwoThirds" "imageTaken" "Z") : Cond) ∈ wsX5_image := by decide +kernel
  have m_4 : ((.fieldLink RX5 125 "TwoThirds$Game" "people" "I") : Cond) ∈ wsX5_image := by decide +kernel
  have i_X0 : ∀ w ∈ wsX00, w ∈ wsX5_image := by decide +kernel
  have hk : wk (fun q : Nat => q ≠ x ∧ q ≠ x_ke ∧ q ≠ x_ke_cr ∧ q ≠ x_ke_cr_e ∧ (∀ i, i < 12 → q ≠ qk i) ∧ True) F F := wk.rf
  have hq : f_X5_image x_no_up x_no_down x_no_high x_no_prize x_no_z x_no_rounds x_no_people x_no_ls x_no_cr_so x_no_cr_sz x_no_cr_e_f x_ke_cr_e_f pr_nu pr_ki pr_st pr_sl qk_nu qk_ki qk_st qk_sl = f_X5_image x_no_up x_no_down x_no_high x_no_prize x_no_z x_no_rounds x_no_people x_no_ls x_no_cr_so x_no_cr_sz x_no_cr_e_f x_ke_cr_e_f pr_nu pr_ki pr_st pr_sl qk_nu qk_ki qk_st qk_sl := rfl
  refine lv_aload_n hx hb dX5_image_0 rfl (lv_at hl 0 rfl) ?_
  refine w_get (v := .ref x_ke) hx hb hts i_X5 hown hK w h_x rfl 1 (by decide) (hts _ m_0) rfl dX5_image_1 ?_
  refine lv_aload_n hx hb dX5_image_4 rfl (lv_at hl 0 rfl) ?_
  refine w_get (v := .ref x_no) hx hb hts i_X5 hown hK w h_x rfl 0 (by decide) (hts _ m_2) rfl dX5_image_5 ?_
  refine w_finw (w_runV (rm := ({ frames := 3, cells := 0, slots := 0, locals := 67 } : Room)) (As := [.ref x_no]) (rest := []) (n := 1) hx hb hml hts hown hK w (c_X0_takeFrom l D cI cP cS cL L _ x_ke x_no x_ke_up x_ke_down x_ke_high x_ke_prize x_ke_z x_ke_rounds x_ke_people x_ke_pa x_ke_cr x_ke_ls x_ke_cr_e x_ke_cr_so x_ke_cr_sz 12 x_ke_cr_e_f x_no_up x_no_down x_no_high x_no_prize x_no_z x_no_rounds x_no_people x_no_pa x_no_cr x_no_ls x_no_cr_e x_no_cr_so x_no_cr_sz 12 x_no_cr_e_f qk qk_nu qk_ki qk_st qk_sl pr pr_nu pr_ki pr_st pr_sl h_x_ke h_x_ke_pa h_x_ke_cr h_x_ke_cr_e h_x_no h_x_no_pa h_x_no_cr h_x_no_cr_e h_qk h_pr (by decide) hzc ne_x_no_x_ke ne_pr_qk ne_x_no_cr_x_ke_cr ne_x_no_cr_e_x_ke_cr_e hinj_qk) gX5_image_X0_takeFrom rfl rfl rfl (by decide +kernel) ⟨(Nat.le_of_ble_eq_true rfl), (Nat.le_of_ble_eq_true rfl)⟩ h_x_ke rfl rfl hl.1 rfl (Nat.le_of_ble_eq_true rfl) dX5_image_8 ⟨(Nat.le_of_ble_eq_true rfl), (Nat.le_of_ble_eq_true rfl)⟩) w hA (fun F1 H locs hp w => ?_)
  obtain ⟨x8, hx8, hw0, hw1, hw2, hw3, hk9⟩ := hp
  have hq := hq.trans (w_bnd hx8)
  have h_x := h_x.keep hk9 ⟨(wi.ne h_x h_x_ke (by intro h; cases h)), (wi.ne h_x h_x_ke_cr (by intro h; cases h)), (wi.ne h_x h_x_ke_cr_e (by intro h; cases h)), (fun j hj => (wi.ne h_x (h_qk j hj) (by intro h; cases h))), trivial⟩
  have h_x_no := h_x_no.keep hk9 ⟨ne_x_no_x_ke, (wi.ne h_x_no h_x_ke_cr (by intro h; cases h)), (wi.ne h_x_no h_x_ke_cr_e (by intro h; cases h)), (fun j hj => (wi.ne h_x_no (h_qk j hj) (by intro h; cases h))), trivial⟩
  have h_x_no_pa := h_x_no_pa.keep hk9 ⟨(wi.ne h_x_no_pa h_x_ke (by intro h; cases h)), (wi.ne h_x_no_pa h_x_ke_cr (by intro h; cases h)), (wi.ne h_x_no_pa h_x_ke_cr_e (by intro h; cases h)), (fun j hj => (wi.ne h_x_no_pa (h_qk j hj) (by intro h; cases h))), trivial⟩
  have h_x_no_cr := h_x_no_cr.keep hk9 ⟨(wi.ne h_x_no_cr h_x_ke (by intro h; cases h)), ne_x_no_cr_x_ke_cr, (wi.ne h_x_no_cr h_x_ke_cr_e (by intro h; cases h)), (fun j hj => (wi.ne h_x_no_cr (h_qk j hj) (by intro h; cases h))), trivial⟩
  have h_x_no_cr_e := h_x_no_cr_e.keep hk9 ⟨(wi.ne h_x_no_cr_e h_x_ke (by intro h; cases h)), (wi.ne h_x_no_cr_e h_x_ke_cr (by intro h; cases h)), ne_x_no_cr_e_x_ke_cr_e, (fun j hj => (wi.ne h_x_no_cr_e (h_qk j hj) (by intro h; cases h))), trivial⟩
  have h_x_ke_pa := h_x_ke_pa.keep hk9 ⟨(wi.ne h_x_ke_pa h_x_ke (by intro h; cases h)), (wi.ne h_x_ke_pa h_x_ke_cr (by intro h; cases h)), (wi.ne h_x_ke_pa h_x_ke_cr_e (by intro h; cases h)), (fun j hj => (wi.ne h_x_ke_pa (h_qk j hj) (by intro h; cases h))), trivial⟩
  have h_pr := fun i (hi : i < 12) => (h_pr i hi).keep hk9 ⟨(wi.ne (h_pr i hi) h_x_ke (by intro h; cases h)), (wi.ne (h_pr i hi) h_x_ke_cr (by intro h; cases h)), (wi.ne (h_pr i hi) h_x_ke_cr_e (by intro h; cases h)), (fun j hj => (ne_pr_qk i j hi hj)), trivial⟩
  have h_x_ke := h_x_ke.new hw0
  have h_x_ke_cr := h_x_ke_cr.new hw1
  have h_x_ke_cr_e := h_x_ke_cr_e.new hw2
  have h_qk := fun i (hi : i < 12) => (h_qk i hi).new (hw3 i hi)
  have hk := hk.call hk9 (fun q h => ⟨h.2.1, h.2.2.1, h.2.2.2.1, h.2.2.2.2.1, trivial⟩)
  refine lv_aload_n hx hb dX5_image_11 rfl (lv_at hl 0 rfl) ?_
  refine lv_iconst (v := 1) hx hb dX5_image_12 (by decide) ?_
  have ho1 := h_x
  refine w_put (fs2 := [.ref x_no, .ref x_ke, .ref x_mi, .int 1, .ref x_sh, .ref x_co, .ref x_ot]) hx hb hts i_X5 tyX5 tyX5_ok nmX5 hown hK w h_x rfl 3 (by decide) (hts _ m_3) rfl rfl rfl (Nat.le_of_ble_eq_true rfl) rfl dX5_image_13 (fun H locs w h_x => ?_)
  have h_x_no := h_x_no.upw h_x (wi.ne h_x_no ho1 (by intro h; cases h))
  have h_x_no_pa := h_x_no_pa.upw h_x (wi.ne h_x_no_pa ho1 (by intro h; cases h))
  have h_x_no_cr := h_x_no_cr.upw h_x (wi.ne h_x_no_cr ho1 (by intro h; cases h))
  have h_x_no_cr_e := h_x_no_cr_e.upw h_x (wi.ne h_x_no_cr_e ho1 (by intro h; cases h))
  have h_x_ke := h_x_ke.upw h_x (wi.ne h_x_ke ho1 (by intro h; cases h))
  have h_x_ke_pa := h_x_ke_pa.upw h_x (wi.ne h_x_ke_pa ho1 (by intro h; cases h))
  have h_x_ke_cr := h_x_ke_cr.upw h_x (wi.ne h_x_ke_cr ho1 (by intro h; cases h))
  have h_x_ke_cr_e := h_x_ke_cr_e.upw h_x (wi.ne h_x_ke_cr_e ho1 (by intro h; cases h))
  have h_pr := fun i (hi : i < 12) => (h_pr i hi).upw h_x (wi.ne (h_pr i hi) ho1 (by intro h; cases h))
  have h_qk := fun i (hi : i < 12) => (h_qk i hi).upw h_x (wi.ne (h_qk i hi) ho1 (by intro h; cases h))
  have hk := hk.upw h_x (fun q h => h.1)
  refine lv_aload_n hx hb dX5_image_16 rfl (lv_at hl 0 rfl) ?_
  refine w_get (v := .ref x_no) hx hb hts i_X5 hown hK w h_x rfl 0 (by decide) (hts _ m_2) rfl dX5_image_17 ?_
  refine w_get (v := .int x_no_people) hx hb hts i_X0 hown hK w h_x_no rfl 6 (by decide) (hts _ m_4) rfl dX5_image_20 ?_
  exact w_iret hx hb hr hlocks w ⟨rfl, _, hq.symm, rfl, h_x.2, h_x_ke.2, h_x_ke_cr.2, h_x_ke_cr_e.2, (fun i hi => (h_qk i hi).2), hk⟩ (Nat.le_refl _) (Nat.le_refl _) dX5_image_23
def f_X5_restore (x_im : Int32) (x_no_up : Int32) (x_no_down : Int32) (x_no_high : Int32) (x_no_prize : Int32) (x_no_z : Int32) (x_no_rounds : Int32) (x_no_people : Int32) (x_no_ls : Int32) (x_no_cr_so : Int32) (x_no_cr_sz : Int32) (x_no_cr_e_f : Nat → Int32) (x_ke_up : Int32) (x_ke_down : Int32) (x_ke_high : Int32) (x_ke_prize : Int32) (x_ke_z : Int32) (x_ke_rounds : Int32) (x_ke_people : Int32) (x_ke_ls : Int32) (x_ke_cr_so : Int32) (x_ke_cr_sz : Int32) (x_ke_cr_e_f : Nat → Int32) (pr_nu : Nat → Int32) (pr_ki : Nat → Int32) (pr_st : Nat → Int32) (pr_sl : Nat → Int32) (qk_nu : Nat → Int32) (qk_ki : Nat → Int32) (qk_st : Nat → Int32) (qk_sl : Nat → Int32) : Int32 × Int32 × Int32 × Int32 × Int32 × Int32 × Int32 × Int32 × Int32 × Int32 × Int32 × (Nat → Int32) × (Nat → Int32) × (Nat → Int32) × (Nat → Int32) × (Nat → Int32) := if x_im = (0 : Int32) then ((-3), x_no_up, x_no_down, x_no_high, x_no_prize, x_no_z, x_no_rounds, x_no_people, x_no_ls, x_no_cr_so, x_no_cr_sz, x_no_cr_e_f, pr_nu, pr_ki, pr_st, pr_sl) else (bnd (f_X0_takeFrom 12 x_no_cr_e_f x_ke_up x_ke_down x_ke_high x_ke_prize x_ke_z x_ke_rounds x_ke_people x_ke_ls x_ke_cr_so x_ke_cr_sz x_ke_cr_e_f pr_nu pr_ki pr_st pr_sl qk_nu qk_ki qk_st qk_sl) (fun x18 : Int32 × Int32 × Int32 × Int32 × Int32 × Int32 × Int32 × Int32 × Int32 × Int32 × (Nat → Int32) × (Nat → Int32) × (Nat → Int32) × (Nat → Int32) × (Nat → Int32) => (x18.2.2.2.2.2.2.1, x18.1, x18.2.1, x18.2.2.1, x18.2.2.2.1, x18.2.2.2.2.1, x18.2.2.2.2.2.1, x18.2.2.2.2.2.2.1, x18.2.2.2.2.2.2.2.1, x18.2.2.2.2.2.2.2.2.1, x18.2.2.2.2.2.2.2.2.2.1, x18.2.2.2.2.2.2.2.2.2.2.1, x18.2.2.2.2.2.2.2.2.2.2.2.1, x18.2.2.2.2.2.2.2.2.2.2.2.2.1, x18.2.2.2.2.2.2.2.2.2.2.2.2.2.1, x18.2.2.2.2.2.2.2.2.2.2.2.2.2.2)))
set_option maxHeartbeats 400000 in
set_option maxRecDepth 100000 in
theorem c_X5_restore (l : Launch) (D : va_G) (cI cP cS cL : ClassId) (L : List Nat) (F : Nat → va_E) (x : Nat) (x_no : Nat) (x_ke : Nat) (x_mi : Nat) (x_im : Int32) (x_sh : Nat) (x_co : Nat) (x_ot : Nat) (x_no_up : Int32) (x_no_down : Int32) (x_no_high : Int32) (x_no_prize : Int32) (x_no_z : Int32) (x_no_rounds : Int32) (x_no_people : Int32) (x_no_pa : Nat) (x_no_cr : Nat) (x_no_ls : Int32) (x_no_cr_e : Nat) (x_no_cr_so : Int32) (x_no_cr_sz : Int32) (x_no_cr_e_f : Nat → Int32) (x_ke_up : Int32) (x_ke_down : Int32) (x_ke_high : Int32) (x_ke_prize : Int32) (x_ke_z : Int32) (x_ke_rounds : Int32) (x_ke_people : Int32) (x_ke_pa : Nat) (x_ke_cr : Nat) (x_ke_ls : Int32) (x_ke_cr_e : Nat) (x_ke_cr_so : Int32) (x_ke_cr_sz : Int32) (x_ke_cr_e_f : Nat → Int32) (pr : Nat → Nat) (pr_nu : Nat → Int32) (pr_ki : Nat → Int32) (pr_st : Nat → Int32) (pr_sl : Nat → Int32) (qk : Nat → Nat) (qk_nu : Nat → Int32) (qk_ki : Nat → Int32) (qk_st : Nat → Int32) (qk_sl : Nat → Int32) (h_x : wi L F x (eX x_no x_ke x_mi x_im x_sh x_co x_ot)) (h_x_no : wi L F x_no (eG x_no_up x_no_down x_no_high x_no_prize x_no_z x_no_rounds x_no_people x_no_pa x_no_cr x_no_ls)) (h_x_no_pa : wi L F x_no_pa (eQ cP 12 (fun i => some (pr i)))) (h_x_no_cr : wi L F x_no_cr (eR x_no_cr_e x_no_cr_so x_no_cr_sz)) (h_x_no_cr_e : wi L F x_no_cr_e (eI cI 12 x_no_cr_e_f)) (h_x_ke : wi L F x_ke (eG x_ke_up x_ke_down x_ke_high x_ke_prize x_ke_z x_ke_rounds x_ke_people x_ke_pa x_ke_cr x_ke_ls)) (h_x_ke_pa : wi L F x_ke_pa (eQ cP 12 (fun i => some (qk i)))) (h_x_ke_cr : wi L F x_ke_cr (eR x_ke_cr_e x_ke_cr_so x_ke_cr_sz)) (h_x_ke_cr_e : wi L F x_ke_cr_e (eI cI 12 x_ke_cr_e_f)) (h_pr : ∀ i, i < 12 → wi L F (pr i) (eP (pr_nu i) (pr_ki i) (pr_st i) (pr_sl i))) (h_qk : ∀ i, i < 12 → wi L F (qk i) (eP (qk_nu i) (qk_ki i) (qk_st i) (qk_sl i))) (hzk : x_ke_cr_sz.toInt ≤ 12) (ne_x_ke_x_no : x_ke ≠ x_no) (ne_qk_pr : ∀ i j, i < 12 → j < 12 → qk i ≠ pr j) (ne_x_ke_cr_x_no_cr : x_ke_cr ≠ x_no_cr) (ne_x_ke_cr_e_x_no_cr_e : x_ke_cr_e ≠ x_no_cr_e) (hinj_pr : ∀ i k, i < 12 → k < 12 → pr i = pr k → i = k) : wMj l D cI cP cS cL yX5_restore wsX5_restore ({ frames := 4, cells := 0, slots := 0, locals := 89 } : Room) [.ref x] L F (fun r1 F1 => ∃ y9 : Int32 × Int32 × Int32 × Int32 × Int32 × Int32 × Int32 × Int32 × Int32 × Int32 × Int32 × (Nat → Int32) × (Nat → Int32) × (Nat → Int32) × (Nat → Int32) × (Nat → Int32), y9 = (f_X5_restore x_im x_no_up x_no_down x_no_high x_no_prize x_no_z x_no_rounds x_no_people x_no_ls x_no_cr_so x_no_cr_sz x_no_cr_e_f x_ke_up x_ke_down x_ke_high x_ke_prize x_ke_z x_ke_rounds x_ke_people x_ke_ls x_ke_cr_so x_ke_cr_sz x_ke_cr_e_f pr_nu pr_ki pr_st pr_sl qk_nu qk_ki qk_st qk_sl) ∧ r1 = y9.1 ∧ F1 x_no = (eG y9.2.1 y9.2.2.1 y9.2.2.2.1 y9.2.2.2.2.1 y9.2.2.2.2.2.1 y9.2.2.2.2.2.2.1 y9.2.2.2.2.2.2.2.1 x_no_pa x_no_cr y9.2.2.2.2.2.2.2.2.1) ∧ F1 x_no_cr = (eR x_no_cr_e y9.2.2.2.2.2.2.2.2.2.1 y9.2.2.2.2.2.2.2.2.2.2.1) ∧ F1 x_no_cr_e = (eI cI 12 y9.2.2.2.2.2.2.2.2.2.2.2.1) ∧ (∀ i, i < 12 → F1 (pr i) = (eP (y9.2.2.2.2.2.2.2.2.2.2.2.2.1 i) (y9.2.2.2.2.2.2.2.2.2.2.2.2.2.1 i) (y9.2.2.2.2.2.2.2.2.2.2.2.2.2.2.1 i) (y9.2.2.2.2.2.2.2.2.2.2.2.2.2.2.2 i))) ∧ wk (fun q : Nat => q ≠ x_no ∧ q ≠ x_no_cr ∧ q ≠ x_no_cr_e ∧ (∀ i, i < 12 → q ≠ pr i) ∧ True) F1 F) := by
  refine wM.of (cc := cX5_restore) (maxL := 1) (ret := (some .int)) (by decide) rfl (Nat.le_of_ble_eq_true rfl) ?_
  intro pZ eZ sZ mZ below meth cZ A ls C hl w
  obtain ⟨hx, hb, hr, hml, hts, hown, hlocks, hK, hA, hin⟩ := C
  have hown : sZ.vm.findClass RX5 = some mZ.cls := hown
  have hl : lv_has ls 1 [(0, .ref x)] := hl
  have m_0 : ((.fieldLink RX5 224 "TwoThirds" "imageTaken" "Z") : Cond) ∈ wsX5_restore := by decide +kernel
  have i_X5 : ∀ w ∈ wsX50, w ∈ wsX5_restore := by decide +kernel
  have m_2 : ((.fieldLink RX5 10 "TwoThirds" "now" "LTwoThirds$Game;") : Cond) ∈ wsX5_restore := by decide +kernel
  have m_3 : ((.fieldLink RX5 16 "TwoThirds" "kept" "LTwoThirds$Game;") : Cond) ∈ wsX5_restore := by decide +kernel
  have m_4 : ((.fieldLink RX5 125 "TwoThirds$Game" "people" "I") : Cond) ∈ wsX5_restore := by decide +kernel
  have i_X0 : ∀ w ∈ wsX00, w ∈ wsX5_restore := by decide +kernel
  have hk : wk (fun q : Nat => q ≠ x_no ∧ q ≠ x_no_cr ∧ q ≠ x_no_cr_e ∧ (∀ i, i < 12 → q ≠ pr i) ∧ True) F F := wk.rf
  have hq : f_X5_restore x_im x_no_up x_no_down x_no_high x_no_prize x_no_z x_no_rounds x_no_people x_no_ls x_no_cr_so x_no_cr_sz x_no_cr_e_f x_ke_up x_ke_down x_ke_high x_ke_prize x_ke_z x_ke_rounds x_ke_people x_ke_ls x_ke_cr_so x_ke_cr_sz x_ke_cr_e_f pr_nu pr_ki pr_st pr_sl qk_nu qk_ki qk_st qk_sl = f_X5_restore x_im x_no_up x_no_down x_no_high x_no_prize x_no_z x_no_rounds x_no_people x_no_ls x_no_cr_so x_no_cr_sz x_no_cr_e_f x_ke_up x_ke_down x_ke_high x_ke_prize x_ke_z x_ke_rounds x_ke_people x_ke_ls x_ke_cr_so x_ke_cr_sz x_ke_cr_e_f pr_nu pr_ki pr_st pr_sl qk_nu qk_ki qk_st qk_sl := rfl
  refine lv_aload_n hx hb dX5_restore_0 rfl (lv_at hl 0 rfl) ?_
  refine w_get (v := .int x_im) hx hb hts i_X5 hown hK w h_x rfl 3 (by decide) (hts _ m_0) rfl dX5_restore_1 ?_
  refine lv_if_ne (tgt := 10) hx hb dX5_restore_4 (by decide) (fun c1 => ?_) (fun c1 => ?_)
  · skip
    have hq := hq.trans (if_neg c1)
    refine lv_aload_n hx hb dX5_restore_10 rfl (lv_at hl 0 rfl) ?_
    refine w_get (v := .ref x_no) hx hb hts i_X5 hown hK w h_x rfl 0 (by decide) (hts _ m_2) rfl dX5_restore_11 ?_
    refine lv_aload_n hx hb dX5_restore_14 rfl (lv_at hl 0 rfl) ?_
    refine w_get (v := .ref x_ke) hx hb hts i_X5 hown hK w h_x rfl 1 (by decide) (hts _ m_3) rfl dX5_restore_15 ?_
    refine w_finw (w_runV (rm := ({ frames := 3, cells := 0, slots := 0, locals := 67 } : Room)) (As := [.ref x_ke]) (rest := []) (n := 1) hx hb hml hts hown hK w (c_X0_takeFrom l D cI cP cS cL L _ x_no x_ke x_no_up x_no_down x_no_high x_no_prize x_no_z x_no_rounds x_no_people x_no_pa x_no_cr x_no_ls x_no_cr_e x_no_cr_so x_no_cr_sz 12 x_no_cr_e_f x_ke_up x_ke_down x_ke_high x_ke_prize x_ke_z x_ke_rounds x_ke_people x_ke_pa x_ke_cr x_ke_ls x_ke_cr_e x_ke_cr_so x_ke_cr_sz 12 x_ke_cr_e_f pr pr_nu pr_ki pr_st pr_sl qk qk_nu qk_ki qk_st qk_sl h_x_no h_x_no_pa h_x_no_cr h_x_no_cr_e h_x_ke h_x_ke_pa h_x_ke_cr h_x_ke_cr_e h_pr h_qk (by decide) hzk ne_x_ke_x_no ne_qk_pr ne_x_ke_cr_x_no_cr ne_x_ke_cr_e_x_no_cr_e hinj_pr) gX5_restore_X0_takeFrom rfl rfl rfl (by decide +kernel) ⟨(Nat.le_of_ble_eq_true rfl), (Nat.le_of_ble_eq_true rfl)⟩ h_x_no rfl rfl hl.1 rfl (Nat.le_of_ble_eq_true rfl) dX5_restore_18 ⟨(Nat.le_of_ble_eq_true rfl), (Nat.le_of_ble_eq_true rfl)⟩) w hA (fun F1 H locs hp w => ?_)
    obtain ⟨x18, hx18, hw0, hw1, hw2, hw3, hk9⟩ := hp
    have hq := hq.trans (w_bnd hx18)
    have h_x := h_x.keep hk9 ⟨(wi.ne h_x h_x_no (by intro h; cases h)), (wi.ne h_x h_x_no_cr (by intro h; cases h)), (wi.ne h_x h_x_no_cr_e (by intro h; cases h)), (fun j hj => (wi.ne h_x (h_pr j hj) (by intro h; cases h))), trivial⟩
    have h_x_no_pa := h_x_no_pa.keep hk9 ⟨(wi.ne h_x_no_pa h_x_no (by intro h; cases h)), (wi.ne h_x_no_pa h_x_no_cr (by intro h; cases h)), (wi.ne h_x_no_pa h_x_no_cr_e (by intro h; cases h)), (fun j hj => (wi.ne h_x_no_pa (h_pr j hj) (by intro h; cases h))), trivial⟩
    have h_x_ke := h_x_ke.keep hk9 ⟨ne_x_ke_x_no, (wi.ne h_x_ke h_x_no_cr (by intro h; cases h)), (wi.ne h_x_ke h_x_no_cr_e (by intro h; cases h)), (fun j hj => (wi.ne h_x_ke (h_pr j hj) (by intro h; cases h))), trivial⟩
    have h_x_ke_pa := h_x_ke_pa.keep hk9 ⟨(wi.ne h_x_ke_pa h_x_no (by intro h; cases h)), (wi.ne h_x_ke_pa h_x_no_cr (by intro h; cases h)), (wi.ne h_x_ke_pa h_x_no_cr_e (by intro h; cases h)), (fun j hj => (wi.ne h_x_ke_pa (h_pr j hj) (by intro h; cases h))), trivial⟩
    have h_x_ke_cr := h_x_ke_cr.keep hk9 ⟨(wi.ne h_x_ke_cr h_x_no (by intro h; cases h)), ne_x_ke_cr_x_no_cr, (wi.ne h_x_ke_cr h_x_no_cr_e (by intro h; cases h)), (fun j hj => (wi.ne h_x_ke_cr (h_pr j hj) (by intro h; cases h))), trivial⟩
    have h_x_ke_cr_e := h_x_ke_cr_e.keep hk9 ⟨(wi.ne h_x_ke_cr_e h_x_no (by intro h; cases h)), (wi.ne h_x_ke_cr_e h_x_no_cr (by intro h; cases h)), ne_x_ke_cr_e_x_no_cr_e, (fun j hj => (wi.ne h_x_ke_cr_e (h_pr j hj) (by intro h; cases h))), trivial⟩
    have h_qk := fun i (hi : i < 12) => (h_qk i hi).keep hk9 ⟨(wi.ne (h_qk i hi) h_x_no (by intro h; cases h)), (wi.ne (h_qk i hi) h_x_no_cr (by intro h; cases h)), (wi.ne (h_qk i hi) h_x_no_cr_e (by intro h; cases h)), (fun j hj => (ne_qk_pr i j hi hj)), trivial⟩
    have h_x_no := h_x_no.new hw0
    have h_x_no_cr := h_x_no_cr.new hw1
    have h_x_no_cr_e := h_x_no_cr_e.new hw2
    have h_pr := fun i (hi : i < 12) => (h_pr i hi).new (hw3 i hi)
    have hk := hk.call hk9 (fun q h => ⟨h.1, h.2.1, h.2.2.1, h.2.2.2.1, trivial⟩)
    refine lv_aload_n hx hb dX5_restore_21 rfl (lv_at hl 0 rfl) ?_
    refine w_get (v := .ref x_no) hx hb hts i_X5 hown hK w h_x rfl 0 (by decide) (hts _ m_2) rfl dX5_restore_22 ?_
    refine w_get (v := .int x18.2.2.2.2.2.2.1) hx hb hts i_X0 hown hK w h_x_no rfl 6 (by decide) (hts _ m_4) rfl dX5_restore_25 ?_
    exact w_iret hx hb hr hlocks w ⟨rfl, _, hq.symm, rfl, h_x_no.2, h_x_no_cr.2, h_x_no_cr_e.2, (fun i hi => (h_pr i hi).2), hk⟩ (Nat.le_refl _) (Nat.le_refl _) dX5_restore_28
  · skip
    have hq := hq.trans (if_pos c1)
    refine lv_bipush (v := (-3)) hx hb dX5_restore_7 (by decide) ?_
    exact w_iret hx hb hr hlocks w ⟨rfl, _, hq.symm, rfl, h_x_no.2, h_x_no_cr.2, h_x_no_cr_e.2, (fun i hi => (h_pr i hi).2), hk⟩ (Nat.le_refl _) (Nat.le_refl _) dX5_restore_9
def f_X5_count (what : Int32) (x_no_up : Int32) (x_no_down : Int32) (x_no_high : Int32) (x_no_rounds : Int32) (x_no_people : Int32) (pr_st : Nat → Int32) : Int32 := if what = (0 : Int32) then x_no_people else (if what = (1 : Int32) then x_no_rounds else (if what = (2 : Int32) then x_no_up else (if what = (3 : Int32) then x_no_down else (if what = (4 : Int32) then x_no_high else (if what = (5 : Int32) then (f_X0_allSteps x_no_people pr_st) else (-1))))))
set_option maxHeartbeats 400000 in
set_option maxRecDepth 100000 in
theorem c_X5_count (l : Launch) (D : va_G) (cI cP cS cL : ClassId) (L : List Nat) (F : Nat → va_E) (x : Nat) (what : Int32) (x_no : Nat) (x_ke : Nat) (x_mi : Nat) (x_im : Int32) (x_sh : Nat) (x_co : Nat) (x_ot : Nat) (x_no_up : Int32) (x_no_down : Int32) (x_no_high : Int32) (x_no_prize : Int32) (x_no_z : Int32) (x_no_rounds : Int32) (x_no_people : Int32) (x_no_pa : Nat) (x_no_cr : Nat) (x_no_ls : Int32) (pr : Nat → Nat) (pr_nu : Nat → Int32) (pr_ki : Nat → Int32) (pr_st : Nat → Int32) (pr_sl : Nat → Int32) (h_x : wi L F x (eX x_no x_ke x_mi x_im x_sh x_co x_ot)) (h_x_no : wi L F x_no (eG x_no_up x_no_down x_no_high x_no_prize x_no_z x_no_rounds x_no_people x_no_pa x_no_cr x_no_ls)) (h_x_no_pa : wi L F x_no_pa (eQ cP 12 (fun i => some (pr i)))) (h_pr : ∀ i, i < 12 → wi L F (pr i) (eP (pr_nu i) (pr_ki i) (pr_st i) (pr_sl i))) : wMI l D cI cP cS cL yX5_count wsX5_count ({ frames := 1, cells := 0, slots := 0, locals := 22 } : Room) [.ref x, .int what] L F (f_X5_count what x_no_up x_no_down x_no_high x_no_rounds x_no_people pr_st) F := by
  refine wM.of (cc := cX5_count) (maxL := 2) (ret := (some .int)) (by decide) rfl (Nat.le_of_ble_eq_true rfl) ?_
  intro pZ eZ sZ mZ below meth cZ A ls C hl w
  obtain ⟨hx, hb, hr, hml, hts, hown, hlocks, hK, hA, hin⟩ := C
  have hown : sZ.vm.findClass RX5 = some mZ.cls := hown
  have hl : lv_has ls 2 [(0, .ref x), (1, .int what)] := hl
  have m_0 : ((.fieldLink RX5 10 "TwoThirds" "now" "LTwoThirds$Game;") : Cond) ∈ wsX5_count := by decide +kernel
  have i_X5 : ∀ w ∈ wsX50, w ∈ wsX5_count := by decide +kernel
  have m_2 : ((.fieldLink RX5 125 "TwoThirds$Game" "people" "I") : Cond) ∈ wsX5_count := by decide +kernel
  have i_X0 : ∀ w ∈ wsX00, w ∈ wsX5_count := by decide +kernel
  have m_4 : ((.fieldLink RX5 93 "TwoThirds$Game" "rounds" "I") : Cond) ∈ wsX5_count := by decide +kernel
  have m_5 : ((.fieldLink RX5 190 "TwoThirds$Game" "up" "I") : Cond) ∈ wsX5_count := by decide +kernel
  have m_6 : ((.fieldLink RX5 193 "TwoThirds$Game" "down" "I") : Cond) ∈ wsX5_count := by decide +kernel
  have m_7 : ((.fieldLink RX5 205 "TwoThirds$Game" "high" "I") : Cond) ∈ wsX5_count := by decide +kernel
  have hq : f_X5_count what x_no_up x_no_down x_no_high x_no_rounds x_no_people pr_st = f_X5_count what x_no_up x_no_down x_no_high x_no_rounds x_no_people pr_st := rfl
  refine lv_iload_n hx hb dX5_count_0 rfl (lv_at hl 1 rfl) ?_
  by_cases c1 : what = (0 : Int32)
  · skip
    have hq := hq.trans (if_pos c1)
    refine w_ts (v := 0) (off := 39) (tgt := 40) hx hb dX5_count_1 c1 (by decide) (by decide) rfl (by decide) ?_
    refine lv_aload_n hx hb dX5_count_40 rfl (lv_at hl 0 rfl) ?_
    refine w_get (v := .ref x_no) hx hb hts i_X5 hown hK w h_x rfl 0 (by decide) (hts _ m_0) rfl dX5_count_41 ?_
    refine w_get (v := .int x_no_people) hx hb hts i_X0 hown hK w h_x_no rfl 6 (by decide) (hts _ m_2) rfl dX5_count_44 ?_
    exact w_iret hx hb hr hlocks w ⟨hq.symm, rfl, rfl⟩ (Nat.le_refl _) (Nat.le_refl _) dX5_count_47
  · skip
    have hq := hq.trans (if_neg c1)
    by_cases c2 : what = (1 : Int32)
    · skip
      have hq := hq.trans (if_pos c2)
      refine w_ts (v := 1) (off := 47) (tgt := 48) hx hb dX5_count_1 c2 (by decide) (by decide) rfl (by decide) ?_
      refine lv_aload_n hx hb dX5_count_48 rfl (lv_at hl 0 rfl) ?_
      refine w_get (v := .ref x_no) hx hb hts i_X5 hown hK w h_x rfl 0 (by decide) (hts _ m_0) rfl dX5_count_49 ?_
      refine w_get (v := .int x_no_rounds) hx hb hts i_X0 hown hK w h_x_no rfl 5 (by decide) (hts _ m_4) rfl dX5_count_52 ?_
      exact w_iret hx hb hr hlocks w ⟨hq.symm, rfl, rfl⟩ (Nat.le_refl _) (Nat.le_refl _) dX5_count_55
    · skip
      have hq := hq.trans (if_neg c2)
      by_cases c3 : what = (2 : Int32)
      · skip
        have hq := hq.trans (if_pos c3)
        refine w_ts (v := 2) (off := 55) (tgt := 56) hx hb dX5_count_1 c3 (by decide) (by decide) rfl (by decide) ?_
        refine lv_aload_n hx hb dX5_count_56 rfl (lv_at hl 0 rfl) ?_
        refine w_get (v := .ref x_no) hx hb hts i_X5 hown hK w h_x rfl 0 (by decide) (hts _ m_0) rfl dX5_count_57 ?_
        refine w_get (v := .int x_no_up) hx hb hts i_X0 hown hK w h_x_no rfl 0 (by decide) (hts _ m_5) rfl dX5_count_60 ?_
        exact w_iret hx hb hr hlocks w ⟨hq.symm, rfl, rfl⟩ (Nat.le_refl _) (Nat.le_refl _) dX5_count_63
      · skip
        have hq := hq.trans (if_neg c3)
        by_cases c4 : what = (3 : Int32)
        · skip
          have hq := hq.trans (if_pos c4)
          refine w_ts (v := 3) (off := 63) (tgt := 64) hx hb dX5_count_1 c4 (by decide) (by decide) rfl (by decide) ?_
          refine lv_aload_n hx hb dX5_count_64 rfl (lv_at hl 0 rfl) ?_
          refine w_get (v := .ref x_no) hx hb hts i_X5 hown hK w h_x rfl 0 (by decide) (hts _ m_0) rfl dX5_count_65 ?_
          refine w_get (v := .int x_no_down) hx hb hts i_X0 hown hK w h_x_no rfl 1 (by decide) (hts _ m_6) rfl dX5_count_68 ?_
          exact w_iret hx hb hr hlocks w ⟨hq.symm, rfl, rfl⟩ (Nat.le_refl _) (Nat.le_refl _) dX5_count_71
        · skip
          have hq := hq.trans (if_neg c4)
          by_cases c5 : what = (4 : Int32)
          · skip
            have hq := hq.trans (if_pos c5)
            refine w_ts (v := 4) (off := 71) (tgt := 72) hx hb dX5_count_1 c5 (by decide) (by decide) rfl (by decide) ?_
            refine lv_aload_n hx hb dX5_count_72 rfl (lv_at hl 0 rfl) ?_
            refine w_get (v := .ref x_no) hx hb hts i_X5 hown hK w h_x rfl 0 (by decide) (hts _ m_0) rfl dX5_count_73 ?_
            refine w_get (v := .int x_no_high) hx hb hts i_X0 hown hK w h_x_no rfl 2 (by decide) (hts _ m_7) rfl dX5_count_76 ?_
            exact w_iret hx hb hr hlocks w ⟨hq.symm, rfl, rfl⟩ (Nat.le_refl _) (Nat.le_refl _) dX5_count_79
          · skip
            have hq := hq.trans (if_neg c5)
            by_cases c6 : what = (5 : Int32)
            · skip
              have hq := hq.trans (if_pos c6)
              refine w_ts (v := 5) (off := 79) (tgt := 80) hx hb dX5_count_1 c6 (by decide) (by decide) rfl (by decide) ?_
              refine lv_aload_n hx hb dX5_count_80 rfl (lv_at hl 0 rfl) ?_
              refine w_get (v := .ref x_no) hx hb hts i_X5 hown hK w h_x rfl 0 (by decide) (hts _ m_0) rfl dX5_count_81 ?_
              refine w_finI (w_runV (rm := ({ frames := 0, cells := 0, slots := 0, locals := 0 } : Room)) (As := []) (rest := []) (n := 0) hx hb hml hts hown hK w (c_X0_allSteps l D cI cP cS cL L _ x_no x_no_up x_no_down x_no_high x_no_prize x_no_z x_no_rounds x_no_people x_no_pa x_no_cr x_no_ls pr pr_nu pr_ki pr_st pr_sl h_x_no h_x_no_pa h_pr) gX5_count_X0_allSteps rfl rfl rfl (by decide +kernel) ⟨(Nat.le_of_ble_eq_true rfl), (Nat.le_of_ble_eq_true rfl)⟩ h_x_no rfl rfl hl.1 rfl (Nat.le_of_ble_eq_true rfl) dX5_count_84 ⟨(Nat.le_of_ble_eq_true rfl), (Nat.le_of_ble_eq_true rfl)⟩) w hA (fun H locs w => ?_)
              exact w_iret hx hb hr hlocks w ⟨hq.symm, rfl, rfl⟩ (Nat.le_refl _) (Nat.le_refl _) dX5_count_87
            · skip
              have hq := hq.trans (if_neg c6)
              refine lv_tableOut (tgt := 88) hx hb dX5_count_1 (by have q0 : ¬ what.toInt = 0 := w_ne c1 rfl; have q1 : ¬ what.toInt = 1 := w_ne c2 rfl; have q2 : ¬ what.toInt = 2 := w_ne c3 rfl; have q3 : ¬ what.toInt = 3 := w_ne c4 rfl; have q4 : ¬ what.toInt = 4 := w_ne c5 rfl; have q5 : ¬ what.toInt = 5 := w_ne c6 rfl; omega) (by decide) ?_
              refine lv_iconst (v := (-1)) hx hb dX5_count_88 (by decide) ?_
              exact w_iret hx hb hr hlocks w ⟨hq.symm, rfl, rfl⟩ (Nat.le_refl _) (Nat.le_refl _) dX5_count_89
def f_X5_keep (d : Int32) (what : Int32) (k0 : Int32) (x_no_people : Int32) (pr_nu : Nat → Int32) (pr_ki : Nat → Int32) (pr_st : Nat → Int32) (pr_sl : Nat → Int32) (sh_ho : Nat → Int32) (sp_nu : Nat → Int32) (sp_ki : Nat → Int32) (sp_st : Nat → Int32) (sp_sl : Nat → Int32) : Int32 × (Nat → Int32) × (Nat → Int32) × (Nat → Int32) × (Nat → Int32) × (Nat → Int32) := if (¬ d < 0 ∧ ¬ (8 : Int32) ≤ d) then (if (f_X5_isOneOfTwo what) = (0 : Int32) then ((-1), sh_ho, sp_nu, sp_ki, sp_st, sp_sl) else (if what = (0 : Int32) then (0, (upd sh_ho (d.toNatClampNeg) 0), sp_nu, sp_ki, sp_st, sp_sl) else (if (¬ k0 < 0 ∧ ¬ x_no_people ≤ k0) then (bnd (f_X1_takeFrom (pr_nu (k0.toNatClampNeg)) (pr_ki (k0.toNatClampNeg)) (pr_st (k0.toNatClampNeg)) (pr_sl (k0.toNatClampNeg))) (fun x63 : Int32 × Int32 × Int32 × Int32 => (0, (upd sh_ho (d.toNatClampNeg) 1), (upd sp_nu (d.toNatClampNeg) x63.1), (upd sp_ki (d.toNatClampNeg) x63.2.1), (upd sp_st (d.toNatClampNeg) x63.2.2.1), (upd sp_sl (d.toNatClampNeg) x63.2.2.2)))) else ((-1), sh_ho, sp_nu, sp_ki, sp_st, sp_sl)))) else ((-1), sh_ho, sp_nu, sp_ki, sp_st, sp_sl)
set_option maxHeartbeats 400000 in
set_option maxRecDepth 100000 in
theorem c_X5_keep (l : Launch) (D : va_G) (cI cP cS cL : ClassId) (L : List Nat) (F : Nat → va_E) (x : Nat) (d : Int32) (what : Int32) (k0 : Int32) (x_no : Nat) (x_ke : Nat) (x_mi : Nat) (x_im : Int32) (x_sh : Nat) (x_co : Nat) (x_ot : Nat) (x_no_up : Int32) (x_no_down : Int32) (x_no_high : Int32) (x_no_prize : Int32) (x_no_z : Int32) (x_no_rounds : Int32) (x_no_people : Int32) (x_no_pa : Nat) (x_no_cr : Nat) (x_no_ls : Int32) (pr : Nat → Nat) (pr_nu : Nat → Int32) (pr_ki : Nat → Int32) (pr_st : Nat → Int32) (pr_sl : Nat → Int32) (sh : Nat → Nat) (sh_ho : Nat → Int32) (rw : Nat → Nat) (sp : Nat → Nat) (sp_nu : Nat → Int32) (sp_ki : Nat → Int32) (sp_st : Nat → Int32) (sp_sl : Nat → Int32) (h_x : wi L F x (eX x_no x_ke x_mi x_im x_sh x_co x_ot)) (h_x_no : wi L F x_no (eG x_no_up x_no_down x_no_high x_no_prize x_no_z x_no_rounds x_no_people x_no_pa x_no_cr x_no_ls)) (h_x_no_pa : wi L F x_no_pa (eQ cP 12 (fun i => some (pr i)))) (h_x_sh : wi L F x_sh (eQ cS 8 (fun i => some (sh i)))) (h_pr : ∀ i, i < 12 → wi L F (pr i) (eP (pr_nu i) (pr_ki i) (pr_st i) (pr_sl i))) (h_sh : ∀ i, i < 8 → wi L F (sh i) (eS (sh_ho i) (rw i) (sp i))) (h_sp : ∀ i, i < 8 → wi L F (sp i) (eP (sp_nu i) (sp_ki i) (sp_st i) (sp_sl i))) (hpp : x_no_people.toInt ≤ 12) (hinj_sh : ∀ i k, i < 8 → k < 8 → sh i = sh k → i = k) (ne_pr_sp : ∀ i j, i < 12 → j < 8 → pr i ≠ sp j) (hinj_sp : ∀ i k, i < 8 → k < 8 → sp i = sp k → i = k) : wMj l D cI cP cS cL yX5_keep wsX5_keep ({ frames := 2, cells := 0, slots := 0, locals := 45 } : Room) [.ref x, .int d, .int what, .int k0] L F (fun r1 F1 => ∃ y9 : Int32 × (Nat → Int32) × (Nat → Int32) × (Nat → Int32) × (Nat → Int32) × (Nat → Int32), y9 = (f_X5_keep d what k0 x_no_people pr_nu pr_ki pr_st pr_sl sh_ho sp_nu sp_ki sp_st sp_sl) ∧ r1 = y9.1 ∧ (∀ i, i < 8 → F1 (sh i) = (eS (y9.2.1 i) (rw i) (sp i))) ∧ (∀ i, i < 8 → F1 (sp i) = (eP (y9.2.2.1 i) (y9.2.2.2.1 i) (y9.2.2.2.2.1 i) (y9.2.2.2.2.2 i))) ∧ wk (fun q : Nat => (∀ i, i < 8 → q ≠ sh i) ∧ (∀ i, i < 8 → q ≠ sp i) ∧ True) F1 F) := by
  refine wM.of (cc := cX5_keep) (maxL := 6) (ret := (some .int)) (by decide) rfl (Nat.le_of_ble_eq_true rfl) ?_
  intro pZ eZ sZ mZ below meth cZ A ls C hl w
  obtain ⟨hx, hb, hr, hml, hts, hown, hlocks, hK, hA, hin⟩ := C
  have hown : sZ.vm.findClass RX5 = some mZ.cls := hown
  have hl : lv_has ls 6 [(0, .ref x), (1, .int d), (2, .int what), (3, .int k0)] := hl
  have m_0 : ((.fieldLink RX5 10 "TwoThirds" "now" "LTwoThirds$Game;") : Cond) ∈ wsX5_keep := by decide +kernel
  have i_X5 : ∀ w ∈ wsX50, w ∈ wsX5_keep := by decide +kernel
  have m_2 : ((.fieldLink RX5 231 "TwoThirds$Shelf" "holding" "I") : Cond) ∈ wsX5_keep := by decide +kernel
  have i_X4 : ∀ w ∈ wsX40, w ∈ wsX5_keep := by decide +kernel
  have m_4 : ((.fieldLink RX5 234 "TwoThirds$Shelf" "person" "LTwoThirds$Person;") : Cond) ∈ wsX5_keep := by decide +kernel
  have hk : wk (fun q : Nat => (∀ i, i < 8 → q ≠ sh i) ∧ (∀ i, i < 8 → q ≠ sp i) ∧ True) F F := wk.rf
  have hq : f_X5_keep d what k0 x_no_people pr_nu pr_ki pr_st pr_sl sh_ho sp_nu sp_ki sp_st sp_sl = f_X5_keep d what k0 x_no_people pr_nu pr_ki pr_st pr_sl sh_ho sp_nu sp_ki sp_st sp_sl := rfl
  refine lv_aload_n hx hb dX5_keep_0 rfl (lv_at hl 0 rfl) ?_
  refine lv_iload_n hx hb dX5_keep_1 rfl (lv_at hl 1 rfl) ?_
  by_cases c1 : (¬ d < 0 ∧ ¬ (8 : Int32) ≤ d)
  · skip
    have hq := hq.trans (if_pos c1)
    have hlt_C : d.toNatClampNeg < 8 := w_okP (n := 8) c1 (by decide)
    refine w_finQ (v := .ref (sh (d.toNatClampNeg))) rfl (w_runV (rm := ({ frames := 0, cells := 0, slots := 0, locals := 0 } : Room)) (As := [.int d]) (rest := []) (n := 1) hx hb hml hts hown hK w (c_X5_shelfAt_some l D cI cP cS cL L _ x d x_no x_ke x_mi x_im x_sh x_co x_ot sh sh_ho rw sp h_x h_x_sh h_sh c1) gX5_keep_X5_shelfAt rfl rfl rfl (by decide +kernel) ⟨(Nat.le_of_ble_eq_true rfl), (Nat.le_of_ble_eq_true rfl)⟩ h_x rfl rfl hl.1 rfl (Nat.le_of_ble_eq_true rfl) dX5_keep_2 ⟨(Nat.le_of_ble_eq_true rfl), (Nat.le_of_ble_eq_true rfl)⟩) w hA (fun H locs w => ?_)
    refine lv_astore (lv' := [(4, .ref (sh (d.toNatClampNeg))), (0, .ref x), (1, .int d), (2, .int what), (3, .int k0)]) hx hb dX5_keep_5 hl (by decide) rfl (fun ls hl => ?_)
    refine lv_aload hx hb dX5_keep_7 (lv_at hl 0 rfl) ?_
    refine lv_ifnull hx hb dX5_keep_9 ?_
    refine lv_iload_n hx hb dX5_keep_12 rfl (lv_at hl 3 rfl) ?_
    refine w_finI (w_runS (rm := ({ frames := 0, cells := 0, slots := 0, locals := 0 } : Room)) (As := [.int what]) (rest := []) (n := 1) hx hb hml hts hown hK w (c_X5_isOneOfTwo l D cI cP cS cL L _ what ) gX5_keep_X5_isOneOfTwo rfl rfl rfl (by decide +kernel) ⟨(Nat.le_of_ble_eq_true rfl), (Nat.le_of_ble_eq_true rfl)⟩ rfl hl.1 rfl (Nat.le_of_ble_eq_true rfl) dX5_keep_13 ⟨(Nat.le_of_ble_eq_true rfl), (Nat.le_of_ble_eq_true rfl)⟩) w hA (fun H locs w => ?_)
    refine lv_if_ne (tgt := 21) hx hb dX5_keep_16 (by decide) (fun c2 => ?_) (fun c2 => ?_)
    · skip
      have hq := hq.trans (if_neg c2)
      refine lv_iload_n hx hb dX5_keep_21 rfl (lv_at hl 3 rfl) ?_
      refine lv_if_ne (tgt := 33) hx hb dX5_keep_22 (by decide) (fun c3 => ?_) (fun c3 => ?_)
      · skip
        have hq := hq.trans (if_neg c3)
        refine lv_aload_n hx hb dX5_keep_33 rfl (lv_at hl 1 rfl) ?_
        refine w_get (v := .ref x_no) hx hb hts i_X5 hown hK w h_x rfl 0 (by decide) (hts _ m_0) rfl dX5_keep_34 ?_
        refine lv_iload_n hx hb dX5_keep_37 rfl (lv_at hl 4 rfl) ?_
        by_cases c4 : (¬ k0 < 0 ∧ ¬ x_no_people ≤ k0)
        · skip
          have hq := hq.trans (if_pos c4)
          have hlt_C : k0.toNatClampNeg < 12 := w_okP c4 hpp
          refine w_finQ (v := .ref (pr (k0.toNatClampNeg))) rfl (w_runV (rm := ({ frames := 0, cells := 0, slots := 0, locals := 0 } : Room)) (As := [.int k0]) (rest := []) (n := 1) hx hb hml hts hown hK w (c_X0_personAt_some l D cI cP cS cL L _ x_no k0 x_no_up x_no_down x_no_high x_no_prize x_no_z x_no_rounds x_no_people x_no_pa x_no_cr x_no_ls pr pr_nu pr_ki pr_st pr_sl h_x_no h_x_no_pa h_pr c4 hpp) gX5_keep_X0_personAt rfl rfl rfl (by decide +kernel) ⟨(Nat.le_of_ble_eq_true rfl), (Nat.le_of_ble_eq_true rfl)⟩ h_x_no rfl rfl hl.1 rfl (Nat.le_of_ble_eq_true rfl) dX5_keep_38 ⟨(Nat.le_of_ble_eq_true rfl), (Nat.le_of_ble_eq_true rfl)⟩) w hA (fun H locs w => ?_)
          refine lv_astore (lv' := [(5, .ref (pr (k0.toNatClampNeg))), (4, .ref (sh (d.toNatClampNeg))), (0, .ref x), (1, .int d), (2, .int what), (3, .int k0)]) hx hb dX5_keep_41 hl (by decide) rfl (fun ls hl => ?_)
          refine lv_aload hx hb dX5_keep_43 (lv_at hl 0 rfl) ?_
          refine lv_ifnonnull (tgt := 50) hx hb dX5_keep_45 (by decide) ?_
          refine lv_aload hx hb dX5_keep_50 (lv_at hl 1 rfl) ?_
          refine lv_iconst (v := 1) hx hb dX5_keep_52 (by decide) ?_
          have ho5 := (h_sh (d.toNatClampNeg) (by omega))
          refine w_put (fs2 := [.int 1, .ref (rw (d.toNatClampNeg)), .ref (sp (d.toNatClampNeg))]) hx hb hts i_X4 tyX4 tyX4_ok nmX4 hown hK w (h_sh (d.toNatClampNeg) (by omega)) rfl 0 (by decide) (hts _ m_2) rfl rfl rfl (Nat.le_of_ble_eq_true rfl) rfl dX5_keep_53 (fun H locs w h__sh__d_toNatClampNeg__ => ?_)
          have hf6 := fam_up (E := (fun i => (eS (sh_ho i) (rw i) (sp i)))) (E2 := (fun i => (eS ((upd sh_ho (d.toNatClampNeg) 1) i) (rw i) (sp i)))) h_sh (by omega) hinj_sh (e2 := (eS 1 (rw (d.toNatClampNeg)) (sp (d.toNatClampNeg)))) (by simp [upd, va_up]) (fun i hi => by simp [upd, va_up, hi])
          have h_x := h_x.upw h__sh__d_toNatClampNeg__ (wi.ne h_x ho5 (by intro h; cases h))
          have h_x_no := h_x_no.upw h__sh__d_toNatClampNeg__ (wi.ne h_x_no ho5 (by intro h; cases h))
          have h_x_no_pa := h_x_no_pa.upw h__sh__d_toNatClampNeg__ (wi.ne h_x_no_pa ho5 (by intro h; cases h))
          have h_x_sh := h_x_sh.upw h__sh__d_toNatClampNeg__ (wi.ne h_x_sh ho5 (by intro h; cases h))
          have h_pr := fun i (hi : i < 12) => (h_pr i hi).upw h__sh__d_toNatClampNeg__ (wi.ne (h_pr i hi) ho5 (by intro h; cases h))
          have h_sp := fun i (hi : i < 8) => (h_sp i hi).upw h__sh__d_toNatClampNeg__ (wi.ne (h_sp i hi) ho5 (by intro h; cases h))
          have hk := hk.upw h__sh__d_toNatClampNeg__ (fun q h => h.1 (d.toNatClampNeg) (by omega))
          have h_sh := hf6
          refine lv_aload hx hb dX5_keep_56 (lv_at hl 1 rfl) ?_
          refine w_get (v := .ref (sp (d.toNatClampNeg))) hx hb hts i_X4 hown hK w (h_sh (d.toNatClampNeg) (by omega)) rfl 2 (by decide) (hts _ m_4) rfl dX5_keep_58 ?_
          refine lv_aload hx hb dX5_keep_61 (lv_at hl 0 rfl) ?_
          refine w_finw (w_runV (rm := ({ frames := 1, cells := 0, slots := 0, locals := 24 } : Room)) (As := [.ref (pr (k0.toNatClampNeg))]) (rest := []) (n := 1) hx hb hml hts hown hK w (c_X1_takeFrom l D cI cP cS cL L _ (sp (d.toNatClampNeg)) (pr (k0.toNatClampNeg)) (sp_nu (d.toNatClampNeg)) (sp_ki (d.toNatClampNeg)) (sp_st (d.toNatClampNeg)) (sp_sl (d.toNatClampNeg)) (pr_nu (k0.toNatClampNeg)) (pr_ki (k0.toNatClampNeg)) (pr_st (k0.toNatClampNeg)) (pr_sl (k0.toNatClampNeg)) (h_sp (d.toNatClampNeg) (by omega)) (h_pr (k0.toNatClampNeg) (by omega)) (ne_pr_sp (k0.toNatClampNeg) (d.toNatClampNeg) (by omega) (by omega))) gX5_keep_X1_takeFrom rfl rfl rfl (by decide +kernel) ⟨(Nat.le_of_ble_eq_true rfl), (Nat.le_of_ble_eq_true rfl)⟩ (h_sp (d.toNatClampNeg) (by omega)) rfl rfl hl.1 rfl (Nat.le_of_ble_eq_true rfl) dX5_keep_63 ⟨(Nat.le_of_ble_eq_true rfl), (Nat.le_of_ble_eq_true rfl)⟩) w hA (fun F1 H locs hp w => ?_)
          obtain ⟨x63, hx63, hw0, hk9⟩ := hp
          have hq := hq.trans (w_bnd hx63)
          have hf7 := fam_new (E := (fun i => (eP (sp_nu i) (sp_ki i) (sp_st i) (sp_sl i)))) (E2 := (fun i => (eP ((upd sp_nu (d.toNatClampNeg) x63.1) i) ((upd sp_ki (d.toNatClampNeg) x63.2.1) i) ((upd sp_st (d.toNatClampNeg) x63.2.2.1) i) ((upd sp_sl (d.toNatClampNeg) x63.2.2.2) i)))) h_sp (by omega) hw0 hk9 (fun i hi hne => ⟨(fun q => hne (hinj_sp i (d.toNatClampNeg) hi (by omega) q)), trivial⟩) (by simp [upd, va_up]) (fun i hi => by simp [upd, va_up, hi])
          have h_x := h_x.keep hk9 ⟨(wi.ne h_x (h_sp (d.toNatClampNeg) (by omega)) (by intro h; cases h)), trivial⟩
          have h_x_no := h_x_no.keep hk9 ⟨(wi.ne h_x_no (h_sp (d.toNatClampNeg) (by omega)) (by intro h; cases h)), trivial⟩
          have h_x_no_pa := h_x_no_pa.keep hk9 ⟨(wi.ne h_x_no_pa (h_sp (d.toNatClampNeg) (by omega)) (by intro h; cases h)), trivial⟩
          have h_x_sh := h_x_sh.keep hk9 ⟨(wi.ne h_x_sh (h_sp (d.toNatClampNeg) (by omega)) (by intro h; cases h)), trivial⟩
          have h_pr := fun i (hi : i < 12) => (h_pr i hi).keep hk9 ⟨(ne_pr_sp i (d.toNatClampNeg) hi (by omega)), trivial⟩
          have h_sh := fun i (hi : i < 8) => (h_sh i hi).keep hk9 ⟨(wi.ne (h_sh i hi) (h_sp (d.toNatClampNeg) (by omega)) (by intro h; cases h)), trivial⟩
          have h_sp := hf7
          have hk := hk.call hk9 (fun q h => ⟨(h.2.1 (d.toNatClampNeg) (by omega)), trivial⟩)
          refine lv_iconst (v := 0) hx hb dX5_keep_66 (by decide) ?_
          exact w_iret hx hb hr hlocks w ⟨rfl, _, hq.symm, rfl, (fun i hi => (h_sh i hi).2), (fun i hi => (h_sp i hi).2), hk⟩ (Nat.le_refl _) (Nat.le_refl _) dX5_keep_67
        · skip
          have hq := hq.trans (if_neg c4)
          refine w_finQ (v := .null) (by unfold f_X0_personAt_none; first | rfl | (split <;> rfl)) (w_runV (rm := ({ frames := 0, cells := 0, slots := 0, locals := 0 } : Room)) (As := [.int k0]) (rest := []) (n := 1) hx hb hml hts hown hK w (c_X0_personAt_none l D cI cP cS cL L _ x_no k0 x_no_up x_no_down x_no_high x_no_prize x_no_z x_no_rounds x_no_people x_no_pa x_no_cr x_no_ls pr h_x_no h_x_no_pa c4) gX5_keep_X0_personAt rfl rfl rfl (by decide +kernel) ⟨(Nat.le_of_ble_eq_true rfl), (Nat.le_of_ble_eq_true rfl)⟩ h_x_no rfl rfl hl.1 rfl (Nat.le_of_ble_eq_true rfl) dX5_keep_38 ⟨(Nat.le_of_ble_eq_true rfl), (Nat.le_of_ble_eq_true rfl)⟩) w hA (fun H locs w => ?_)
          refine lv_astoreN (lv' := [(5, .null), (4, .ref (sh (d.toNatClampNeg))), (0, .ref x), (1, .int d), (2, .int what), (3, .int k0)]) hx hb dX5_keep_41 hl (by decide) rfl (fun ls hl => ?_)
          refine lv_aloadN hx hb dX5_keep_43 (lv_at hl 0 rfl) ?_
          refine lv_ifnonnullN hx hb dX5_keep_45 ?_
          refine lv_iconst (v := (-1)) hx hb dX5_keep_48 (by decide) ?_
          exact w_iret hx hb hr hlocks w ⟨rfl, _, hq.symm, rfl, (fun i hi => (h_sh i hi).2), (fun i hi => (h_sp i hi).2), hk⟩ (Nat.le_refl _) (Nat.le_refl _) dX5_keep_49
      · skip
        have hq := hq.trans (if_pos c3)
        refine lv_aload hx hb dX5_keep_25 (lv_at hl 0 rfl) ?_
        refine lv_iconst (v := 0) hx hb dX5_keep_27 (by decide) ?_
        have ho8 := (h_sh (d.toNatClampNeg) (by omega))
        refine w_put (fs2 := [.int 0, .ref (rw (d.toNatClampNeg)), .ref (sp (d.toNatClampNeg))]) hx hb hts i_X4 tyX4 tyX4_ok nmX4 hown hK w (h_sh (d.toNatClampNeg) (by omega)) rfl 0 (by decide) (hts _ m_2) rfl rfl rfl (Nat.le_of_ble_eq_true rfl) rfl dX5_keep_28 (fun H locs w h__sh__d_toNatClampNeg__ => ?_)
        have hf9 := fam_up (E := (fun i => (eS (sh_ho i) (rw i) (sp i)))) (E2 := (fun i => (eS ((upd sh_ho (d.toNatClampNeg) 0) i) (rw i) (sp i)))) h_sh (by omega) hinj_sh (e2 := (eS 0 (rw (d.toNatClampNeg)) (sp (d.toNatClampNeg)))) (by simp [upd, va_up]) (fun i hi => by simp [upd, va_up, hi])
        have h_x := h_x.upw h__sh__d_toNatClampNeg__ (wi.ne h_x ho8 (by intro h; cases h))
        have h_x_no := h_x_no.upw h__sh__d_toNatClampNeg__ (wi.ne h_x_no ho8 (by intro h; cases h))
        have h_x_no_pa := h_x_no_pa.upw h__sh__d_toNatClampNeg__ (wi.ne h_x_no_pa ho8 (by intro h; cases h))
        have h_x_sh := h_x_sh.upw h__sh__d_toNatClampNeg__ (wi.ne h_x_sh ho8 (by intro h; cases h))
        have h_pr := fun i (hi : i < 12) => (h_pr i hi).upw h__sh__d_toNatClampNeg__ (wi.ne (h_pr i hi) ho8 (by intro h; cases h))
        have h_sp := fun i (hi : i < 8) => (h_sp i hi).upw h__sh__d_toNatClampNeg__ (wi.ne (h_sp i hi) ho8 (by intro h; cases h))
        have hk := hk.upw h__sh__d_toNatClampNeg__ (fun q h => h.1 (d.toNatClampNeg) (by omega))
        have h_sh := hf9
        refine lv_iconst (v := 0) hx hb dX5_keep_31 (by decide) ?_
        exact w_iret hx hb hr hlocks w ⟨rfl, _, hq.symm, rfl, (fun i hi => (h_sh i hi).2), (fun i hi => (h_sp i hi).2), hk⟩ (Nat.le_refl _) (Nat.le_refl _) dX5_keep_32
    · skip
      have hq := hq.trans (if_pos c2)
      refine lv_iconst (v := (-1)) hx hb dX5_keep_19 (by decide) ?_
      exact w_iret hx hb hr hlocks w ⟨rfl, _, hq.symm, rfl, (fun i hi => (h_sh i hi).2), (fun i hi => (h_sp i hi).2), hk⟩ (Nat.le_refl _) (Nat.le_refl _) dX5_keep_20
  · skip
    have hq := hq.trans (if_neg c1)
    refine w_finQ (v := .null) (by unfold f_X5_shelfAt_none; first | rfl | (split <;> rfl)) (w_runV (rm := ({ frames := 0, cells := 0, slots := 0, locals := 0 } : Room)) (As := [.int d]) (rest := []) (n := 1) hx hb hml hts hown hK w (c_X5_shelfAt_none l D cI cP cS cL L _ x d x_no x_ke x_mi x_im x_sh x_co x_ot sh h_x h_x_sh c1) gX5_keep_X5_shelfAt rfl rfl rfl (by decide +kernel) ⟨(Nat.le_of_ble_eq_true rfl), (Nat.le_of_ble_eq_true rfl)⟩ h_x rfl rfl hl.1 rfl (Nat.le_of_ble_eq_true rfl) dX5_keep_2 ⟨(Nat.le_of_ble_eq_true rfl), (Nat.le_of_ble_eq_true rfl)⟩) w hA (fun H locs w => ?_)
    refine lv_astoreN (lv' := [(4, .null), (0, .ref x), (1, .int d), (2, .int what), (3, .int k0)]) hx hb dX5_keep_5 hl (by decide) rfl (fun ls hl => ?_)
    refine lv_aloadN hx hb dX5_keep_7 (lv_at hl 0 rfl) ?_
    refine lv_ifnullN (tgt := 19) hx hb dX5_keep_9 (by decide) ?_
    refine lv_iconst (v := (-1)) hx hb dX5_keep_19 (by decide) ?_
    exact w_iret hx hb hr hlocks w ⟨rfl, _, hq.symm, rfl, (fun i hi => (h_sh i hi).2), (fun i hi => (h_sp i hi).2), hk⟩ (Nat.le_refl _) (Nat.le_refl _) dX5_keep_20
def f_X5_row (d : Int32) (sort : Int32) (n0 : Int32) (sh_ho : Nat → Int32) (rw_so : Nat → Int32) (rw_sz : Nat → Int32) (el_f : Nat → Nat → Int32) : Int32 × (Nat → Int32) × (Nat → Int32) × (Nat → Int32) × (Nat → Nat → Int32) := if (¬ d < 0 ∧ ¬ (8 : Int32) ≤ d) then (if sort < (0 : Int32) then ((-1), sh_ho, rw_so, rw_sz, el_f) else (if (2 : Int32) < sort then ((-1), sh_ho, rw_so, rw_sz, el_f) else (if n0 ≤ (100 : Int32) then (if (0 : Int32) ≤ n0 then (bnd (f_X3_begin sort n0 100 (el_f (d.toNatClampNeg))) (fun x49 : Int32 × Int32 × (Nat → Int32) => (0, (upd sh_ho (d.toNatClampNeg) 2), (upd rw_so (d.toNatClampNeg) x49.1), (upd rw_sz (d.toNatClampNeg) x49.2.1), (va_up el_f (d.toNatClampNeg) x49.2.2)))) else ((-14), sh_ho, rw_so, rw_sz, el_f)) else ((-1), sh_ho, rw_so, rw_sz, el_f)))) else ((-1), sh_ho, rw_so, rw_sz, el_f)
set_option maxHeartbeats 400000 in
set_option maxRecDepth 100000 in
theorem c_X5_row (l : Launch) (D : va_G) (cI cP cS cL : ClassId) (L : List Nat) (F : Nat → va_E) (x : Nat) (d : Int32) (sort : Int32) (n0 : Int32) (x_no : Nat) (x_ke : Nat) (x_mi : Nat) (x_im : Int32) (x_sh : Nat) (x_co : Nat) (x_ot : Nat) (sh : Nat → Nat) (sh_ho : Nat → Int32) (rw : Nat → Nat) (sp : Nat → Nat) (el : Nat → Nat) (rw_so : Nat → Int32) (rw_sz : Nat → Int32) (el_f : Nat → Nat → Int32) (h_x : wi L F x (eX x_no x_ke x_mi x_im x_sh x_co x_ot)) (h_x_sh : wi L F x_sh (eQ cS 8 (fun i => some (sh i)))) (h_sh : ∀ i, i < 8 → wi L F (sh i) (eS (sh_ho i) (rw i) (sp i))) (h_rw : ∀ i, i < 8 → wi L F (rw i) (eR (el i) (rw_so i) (rw_sz i))) (h_el : ∀ i, i < 8 → wi L F (el i) (eI cI 100 (el_f i))) (hinj_sh : ∀ i k, i < 8 → k < 8 → sh i = sh k → i = k) (hinj_rw : ∀ i k, i < 8 → k < 8 → rw i = rw k → i = k) (hinj_el : ∀ i k, i < 8 → k < 8 → el i = el k → i = k) : wMj l D cI cP cS cL yX5_row wsX5_row ({ frames := 2, cells := 0, slots := 0, locals := 45 } : Room) [.ref x, .int d, .int sort, .int n0] L F (fun r1 F1 => ∃ y9 : Int32 × (Nat → Int32) × (Nat → Int32) × (Nat → Int32) × (Nat → Nat → Int32), y9 = (f_X5_row d sort n0 sh_ho rw_so rw_sz el_f) ∧ r1 = y9.1 ∧ (∀ i, i < 8 → F1 (sh i) = (eS (y9.2.1 i) (rw i) (sp i))) ∧ (∀ i, i < 8 → F1 (rw i) = (eR (el i) (y9.2.2.1 i) (y9.2.2.2.1 i))) ∧ (∀ i, i < 8 → F1 (el i) = (eI cI 100 (y9.2.2.2.2 i))) ∧ wk (fun q : Nat => (∀ i, i < 8 → q ≠ sh i) ∧ (∀ i, i < 8 → q ≠ rw i) ∧ (∀ i, i < 8 → q ≠ el i) ∧ True) F1 F) := by
  refine wM.of (cc := cX5_row) (maxL := 5) (ret := (some .int)) (by decide) rfl (Nat.le_of_ble_eq_true rfl) ?_
  intro pZ eZ sZ mZ below meth cZ A ls C hl w
  obtain ⟨hx, hb, hr, hml, hts, hown, hlocks, hK, hA, hin⟩ := C
  have hown : sZ.vm.findClass RX5 = some mZ.cls := hown
  have hl : lv_has ls 5 [(0, .ref x), (1, .int d), (2, .int sort), (3, .int n0)] := hl
  have m_0 : ((.fieldLink RX5 231 "TwoThirds$Shelf" "holding" "I") : Cond) ∈ wsX5_row := by decide +kernel
  have i_X4 : ∀ w ∈ wsX40, w ∈ wsX5_row := by decide +kernel
  have m_2 : ((.fieldLink RX5 44 "TwoThirds$Shelf" "row" "LTwoThirds$Row;") : Cond) ∈ wsX5_row := by decide +kernel
  have hk : wk (fun q : Nat => (∀ i, i < 8 → q ≠ sh i) ∧ (∀ i, i < 8 → q ≠ rw i) ∧ (∀ i, i < 8 → q ≠ el i) ∧ True) F F := wk.rf
  have hq : f_X5_row d sort n0 sh_ho rw_so rw_sz el_f = f_X5_row d sort n0 sh_ho rw_so rw_sz el_f := rfl
  refine lv_aload_n hx hb dX5_row_0 rfl (lv_at hl 0 rfl) ?_
  refine lv_iload_n hx hb dX5_row_1 rfl (lv_at hl 1 rfl) ?_
  by_cases c1 : (¬ d < 0 ∧ ¬ (8 : Int32) ≤ d)
  · skip
    have hq := hq.trans (if_pos c1)
    have hlt_C : d.toNatClampNeg < 8 := w_okP (n := 8) c1 (by decide)
    refine w_finQ (v := .ref (sh (d.toNatClampNeg))) rfl (w_runV (rm := ({ frames := 0, cells := 0, slots := 0, locals := 0 } : Room)) (As := [.int d]) (rest := []) (n := 1) hx hb hml hts hown hK w (c_X5_shelfAt_some l D cI cP cS cL L _ x d x_no x_ke x_mi x_im x_sh x_co x_ot sh sh_ho rw sp h_x h_x_sh h_sh c1) gX5_row_X5_shelfAt rfl rfl rfl (by decide +kernel) ⟨(Nat.le_of_ble_eq_true rfl), (Nat.le_of_ble_eq_true rfl)⟩ h_x rfl rfl hl.1 rfl (Nat.le_of_ble_eq_true rfl) dX5_row_2 ⟨(Nat.le_of_ble_eq_true rfl), (Nat.le_of_ble_eq_true rfl)⟩) w hA (fun H locs w => ?_)
    refine lv_astore (lv' := [(4, .ref (sh (d.toNatClampNeg))), (0, .ref x), (1, .int d), (2, .int sort), (3, .int n0)]) hx hb dX5_row_5 hl (by decide) rfl (fun ls hl => ?_)
    refine lv_aload hx hb dX5_row_7 (lv_at hl 0 rfl) ?_
    refine lv_ifnull hx hb dX5_row_9 ?_
    refine lv_iload_n hx hb dX5_row_12 rfl (lv_at hl 3 rfl) ?_
    refine lv_if_lt (tgt := 27) hx hb dX5_row_13 (by decide) (fun c2 => ?_) (fun c2 => ?_)
    · skip
      have hq := hq.trans (if_pos c2)
      refine lv_iconst (v := (-1)) hx hb dX5_row_27 (by decide) ?_
      exact w_iret hx hb hr hlocks w ⟨rfl, _, hq.symm, rfl, (fun i hi => (h_sh i hi).2), (fun i hi => (h_rw i hi).2), (fun i hi => (h_el i hi).2), hk⟩ (Nat.le_refl _) (Nat.le_refl _) dX5_row_28
    · skip
      have hq := hq.trans (if_neg c2)
      refine lv_iload_n hx hb dX5_row_16 rfl (lv_at hl 3 rfl) ?_
      refine lv_iconst (v := 2) hx hb dX5_row_17 (by decide) ?_
      refine lv_icmp_gt (tgt := 27) hx hb dX5_row_18 (by decide) (fun c3 => ?_) (fun c3 => ?_)
      · skip
        have hq := hq.trans (if_pos c3)
        refine lv_iconst (v := (-1)) hx hb dX5_row_27 (by decide) ?_
        exact w_iret hx hb hr hlocks w ⟨rfl, _, hq.symm, rfl, (fun i hi => (h_sh i hi).2), (fun i hi => (h_rw i hi).2), (fun i hi => (h_el i hi).2), hk⟩ (Nat.le_refl _) (Nat.le_refl _) dX5_row_28
      · skip
        have hq := hq.trans (if_neg c3)
        refine lv_iload_n hx hb dX5_row_21 rfl (lv_at hl 4 rfl) ?_
        refine lv_bipush (v := 100) hx hb dX5_row_22 (by decide) ?_
        refine lv_icmp_le (tgt := 29) hx hb dX5_row_24 (by decide) (fun c4 => ?_) (fun c4 => ?_)
        · skip
          have hq := hq.trans (if_pos c4)
          refine lv_iload_n hx hb dX5_row_29 rfl (lv_at hl 4 rfl) ?_
          refine lv_if_ge (tgt := 36) hx hb dX5_row_30 (by decide) (fun c5 => ?_) (fun c5 => ?_)
          · skip
            have hq := hq.trans (if_pos c5)
            refine lv_aload hx hb dX5_row_36 (lv_at hl 0 rfl) ?_
            refine lv_iconst (v := 2) hx hb dX5_row_38 (by decide) ?_
            have ho6 := (h_sh (d.toNatClampNeg) (by omega))
            refine w_put (fs2 := [.int 2, .ref (rw (d.toNatClampNeg)), .ref (sp (d.toNatClampNeg))]) hx hb hts i_X4 tyX4 tyX4_ok nmX4 hown hK w (h_sh (d.toNatClampNeg) (by omega)) rfl 0 (by decide) (hts _ m_0) rfl rfl rfl (Nat.le_of_ble_eq_true rfl) rfl dX5_row_39 (fun H locs w h__sh__d_toNatClampNeg__ => ?_)
            have hf7 := fam_up (E := (fun i => (eS (sh_ho i) (rw i) (sp i)))) (E2 := (fun i => (eS ((upd sh_ho (d.toNatClampNeg) 2) i) (rw i) (sp i)))) h_sh (by omega) hinj_sh (e2 := (eS 2 (rw (d.toNatClampNeg)) (sp (d.toNatClampNeg)))) (by simp [upd, va_up]) (fun i hi => by simp [upd, va_up, hi])
            have h_x := h_x.upw h__sh__d_toNatClampNeg__ (wi.ne h_x ho6 (by intro h; cases h))
            have h_x_sh := h_x_sh.upw h__sh__d_toNatClampNeg__ (wi.ne h_x_sh ho6 (by intro h; cases h))
            have h_rw := fun i (hi : i < 8) => (h_rw i hi).upw h__sh__d_toNatClampNeg__ (wi.ne (h_rw i hi) ho6 (by intro h; cases h))
            have h_el := fun i (hi : i < 8) => (h_el i hi).upw h__sh__d_toNatClampNeg__ (wi.ne (h_el i hi) ho6 (by intro h; cases h))
            have hk := hk.upw h__sh__d_toNatClampNeg__ (fun q h => h.1 (d.toNatClampNeg) (by omega))
            have h_sh := hf7
            refine lv_aload hx hb dX5_row_42 (lv_at hl 0 rfl) ?_
            refine w_get (v := .ref (rw (d.toNatClampNeg))) hx hb hts i_X4 hown hK w (h_sh (d.toNatClampNeg) (by omega)) rfl 1 (by decide) (hts _ m_2) rfl dX5_row_44 ?_
            refine lv_iload_n hx hb dX5_row_47 rfl (lv_at hl 3 rfl) ?_
            refine lv_iload_n hx hb dX5_row_48 rfl (lv_at hl 4 rfl) ?_
            refine w_finw (w_runV (rm := ({ frames := 1, cells := 0, slots := 0, locals := 23 } : Room)) (As := [.int sort, .int n0]) (rest := []) (n := 2) hx hb hml hts hown hK w (c_X3_begin l D cI cP cS cL L _ (rw (d.toNatClampNeg)) sort n0 (el (d.toNatClampNeg)) (rw_so (d.toNatClampNeg)) (rw_sz (d.toNatClampNeg)) 100 (el_f (d.toNatClampNeg)) (h_rw (d.toNatClampNeg) (by omega)) (h_el (d.toNatClampNeg) (by omega)) (by decide)) gX5_row_X3_begin rfl rfl rfl (by decide +kernel) ⟨(Nat.le_of_ble_eq_true rfl), (Nat.le_of_ble_eq_true rfl)⟩ (h_rw (d.toNatClampNeg) (by omega)) rfl rfl hl.1 rfl (Nat.le_of_ble_eq_true rfl) dX5_row_49 ⟨(Nat.le_of_ble_eq_true rfl), (Nat.le_of_ble_eq_true rfl)⟩) w hA (fun F1 H locs hp w => ?_)
            obtain ⟨x49, hx49, hw0, hw1, hk9⟩ := hp
            have hq := hq.trans (w_bnd hx49)
            have hf8 := fam_new (E := (fun i => (eR (el i) (rw_so i) (rw_sz i)))) (E2 := (fun i => (eR (el i) ((upd rw_so (d.toNatClampNeg) x49.1) i) ((upd rw_sz (d.toNatClampNeg) x49.2.1) i)))) h_rw (by omega) hw0 hk9 (fun i hi hne => ⟨(fun q => hne (hinj_rw i (d.toNatClampNeg) hi (by omega) q)), (wi.ne (h_rw i hi) (h_el (d.toNatClampNeg) (by omega)) (by intro h; cases h)), trivial⟩) (by simp [upd, va_up]) (fun i hi => by simp [upd, va_up, hi])
            have hf9 := fam_new (E := (fun i => (eI cI 100 (el_f i)))) (E2 := (fun i => (eI cI 100 ((va_up el_f (d.toNatClampNeg) x49.2.2) i)))) h_el (by omega) hw1 hk9 (fun i hi hne => ⟨(wi.ne (h_el i hi) (h_rw (d.toNatClampNeg) (by omega)) (by intro h; cases h)), (fun q => hne (hinj_el i (d.toNatClampNeg) hi (by omega) q)), trivial⟩) (by simp [upd, va_up]) (fun i hi => by simp [upd, va_up, hi])
            have h_x := h_x.keep hk9 ⟨(wi.ne h_x (h_rw (d.toNatClampNeg) (by omega)) (by intro h; cases h)), (wi.ne h_x (h_el (d.toNatClampNeg) (by omega)) (by intro h; cases h)), trivial⟩
            have h_x_sh := h_x_sh.keep hk9 ⟨(wi.ne h_x_sh (h_rw (d.toNatClampNeg) (by omega)) (by intro h; cases h)), (wi.ne h_x_sh (h_el (d.toNatClampNeg) (by omega)) (by intro h; cases h)), trivial⟩
            have h_sh := fun i (hi : i < 8) => (h_sh i hi).keep hk9 ⟨(wi.ne (h_sh i hi) (h_rw (d.toNatClampNeg) (by omega)) (by intro h; cases h)), (wi.ne (h_sh i hi) (h_el (d.toNatClampNeg) (by omega)) (by intro h; cases h)), trivial⟩
            have h_rw := hf8
            have h_el := hf9
            have hk := hk.call hk9 (fun q h => ⟨(h.2.1 (d.toNatClampNeg) (by omega)), (h.2.2.1 (d.toNatClampNeg) (by omega)), trivial⟩)
            refine lv_iconst (v := 0) hx hb dX5_row_52 (by decide) ?_
            exact w_iret hx hb hr hlocks w ⟨rfl, _, hq.symm, rfl, (fun i hi => (h_sh i hi).2), (fun i hi => (h_rw i hi).2), (fun i hi => (h_el i hi).2), hk⟩ (Nat.le_refl _) (Nat.le_refl _) dX5_row_53
          · skip
            have hq := hq.trans (if_neg c5)
            refine lv_bipush (v := (-14)) hx hb dX5_row_33 (by decide) ?_
            exact w_iret hx hb hr hlocks w ⟨rfl, _, hq.symm, rfl, (fun i hi => (h_sh i hi).2), (fun i hi => (h_rw i hi).2), (fun i hi => (h_el i hi).2), hk⟩ (Nat.le_refl _) (Nat.le_refl _) dX5_row_35
        · skip
          have hq := hq.trans (if_neg c4)
          refine lv_iconst (v := (-1)) hx hb dX5_row_27 (by decide) ?_
          exact w_iret hx hb hr hlocks w ⟨rfl, _, hq.symm, rfl, (fun i hi => (h_sh i hi).2), (fun i hi => (h_rw i hi).2), (fun i hi => (h_el i hi).2), hk⟩ (Nat.le_refl _) (Nat.le_refl _) dX5_row_28
  · skip
    have hq := hq.trans (if_neg c1)
    refine w_finQ (v := .null) (by unfold f_X5_shelfAt_none; first | rfl | (split <;> rfl)) (w_runV (rm := ({ frames := 0, cells := 0, slots := 0, locals := 0 } : Room)) (As := [.int d]) (rest := []) (n := 1) hx hb hml hts hown hK w (c_X5_shelfAt_none l D cI cP cS cL L _ x d x_no x_ke x_mi x_im x_sh x_co x_ot sh h_x h_x_sh c1) gX5_row_X5_shelfAt rfl rfl rfl (by decide +kernel) ⟨(Nat.le_of_ble_eq_true rfl), (Nat.le_of_ble_eq_true rfl)⟩ h_x rfl rfl hl.1 rfl (Nat.le_of_ble_eq_true rfl) dX5_row_2 ⟨(Nat.le_of_ble_eq_true rfl), (Nat.le_of_ble_eq_true rfl)⟩) w hA (fun H locs w => ?_)
    refine lv_astoreN (lv' := [(4, .null), (0, .ref x), (1, .int d), (2, .int sort), (3, .int n0)]) hx hb dX5_row_5 hl (by decide) rfl (fun ls hl => ?_)
    refine lv_aloadN hx hb dX5_row_7 (lv_at hl 0 rfl) ?_
    refine lv_ifnullN (tgt := 27) hx hb dX5_row_9 (by decide) ?_
    refine lv_iconst (v := (-1)) hx hb dX5_row_27 (by decide) ?_
    exact w_iret hx hb hr hlocks w ⟨rfl, _, hq.symm, rfl, (fun i hi => (h_sh i hi).2), (fun i hi => (h_rw i hi).2), (fun i hi => (h_el i hi).2), hk⟩ (Nat.le_refl _) (Nat.le_refl _) dX5_row_28
def f_X5_put (d : Int32) (i0 : Int32) (v : Int32) (sh_ho : Nat → Int32) (rw_so : Nat → Int32) (rw_sz : Nat → Int32) (el_f : Nat → Nat → Int32) : Int32 × (Nat → Nat → Int32) := if (¬ d < 0 ∧ ¬ (8 : Int32) ≤ d) then (if (f_X5_rowRefusal (sh_ho (d.toNatClampNeg))) = (0 : Int32) then (if (f_X3_hasPlace i0 (rw_sz (d.toNatClampNeg))) = (0 : Int32) then ((-13), el_f) else (bnd (f_X3_write i0 v (rw_so (d.toNatClampNeg)) (rw_sz (d.toNatClampNeg)) (el_f (d.toNatClampNeg))) (fun x44 : (Nat → Int32) => (0, (va_up el_f (d.toNatClampNeg) x44))))) else ((f_X5_rowRefusal (sh_ho (d.toNatClampNeg))), el_f)) else ((-1), el_f)
set_option maxHeartbeats 400000 in
set_option maxRecDepth 100000 in
theorem c_X5_put (l : Launch) (D : va_G) (cI cP cS cL : ClassId) (L : List Nat) (F : Nat → va_E) (x : Nat) (d : Int32) (i0 : Int32) (v : Int32) (x_no : Nat) (x_ke : Nat) (x_mi : Nat) (x_im : Int32) (x_sh : Nat) (x_co : Nat) (x_ot : Nat) (sh : Nat → Nat) (sh_ho : Nat → Int32) (rw : Nat → Nat) (sp : Nat → Nat) (el : Nat → Nat) (rw_so : Nat → Int32) (rw_sz : Nat → Int32) (el_f : Nat → Nat → Int32) (h_x : wi L F x (eX x_no x_ke x_mi x_im x_sh x_co x_ot)) (h_x_sh : wi L F x_sh (eQ cS 8 (fun i => some (sh i)))) (h_sh : ∀ i, i < 8 → wi L F (sh i) (eS (sh_ho i) (rw i) (sp i))) (h_rw : ∀ i, i < 8 → wi L F (rw i) (eR (el i) (rw_so i) (rw_sz i))) (h_el : ∀ i, i < 8 → wi L F (el i) (eI cI 100 (el_f i))) (hzs : ∀ i, i < 8 → (rw_sz i).toInt ≤ 100) (hinj_el : ∀ i k, i < 8 → k < 8 → el i = el k → i = k) : wMj l D cI cP cS cL yX5_put wsX5_put ({ frames := 2, cells := 0, slots := 0, locals := 43 } : Room) [.ref x, .int d, .int i0, .int v] L F (fun r1 F1 => ∃ y9 : Int32 × (Nat → Nat → Int32), y9 = (f_X5_put d i0 v sh_ho rw_so rw_sz el_f) ∧ r1 = y9.1 ∧ (∀ i, i < 8 → F1 (el i) = (eI cI 100 (y9.2 i))) ∧ wk (fun q : Nat => (∀ i, i < 8 → q ≠ el i) ∧ True) F1 F) := by
  refine wM.of (cc := cX5_put) (maxL := 6) (ret := (some .int)) (by decide) rfl (Nat.le_of_ble_eq_true rfl) ?_
  intro pZ eZ sZ mZ below meth cZ A ls C hl w
  obtain ⟨hx, hb, hr, hml, hts, hown, hlocks, hK, hA, hin⟩ := C
  have hown : sZ.vm.findClass RX5 = some mZ.cls := hown
  have hl : lv_has ls 6 [(0, .ref x), (1, .int d), (2, .int i0), (3, .int v)] := hl
  have m_0 : ((.fieldLink RX5 44 "TwoThirds$Shelf" "row" "LTwoThirds$Row;") : Cond) ∈ wsX5_put := by decide +kernel
  have i_X4 : ∀ w ∈ wsX40, w ∈ wsX5_put := by decide +kernel
  have hk : wk (fun q : Nat => (∀ i, i < 8 → q ≠ el i) ∧ True) F F := wk.rf
  have hq : f_X5_put d i0 v sh_ho rw_so rw_sz el_f = f_X5_put d i0 v sh_ho rw_so rw_sz el_f := rfl
  refine lv_aload_n hx hb dX5_put_0 rfl (lv_at hl 0 rfl) ?_
  refine lv_iload_n hx hb dX5_put_1 rfl (lv_at hl 1 rfl) ?_
  by_cases c1 : (¬ d < 0 ∧ ¬ (8 : Int32) ≤ d)
  · skip
    have hq := hq.trans (if_pos c1)
    have hlt_C : d.toNatClampNeg < 8 := w_okP (n := 8) c1 (by decide)
    refine w_finQ (v := .ref (sh (d.toNatClampNeg))) rfl (w_runV (rm := ({ frames := 0, cells := 0, slots := 0, locals := 0 } : Room)) (As := [.int d]) (rest := []) (n := 1) hx hb hml hts hown hK w (c_X5_shelfAt_some l D cI cP cS cL L _ x d x_no x_ke x_mi x_im x_sh x_co x_ot sh sh_ho rw sp h_x h_x_sh h_sh c1) gX5_put_X5_shelfAt rfl rfl rfl (by decide +kernel) ⟨(Nat.le_of_ble_eq_true rfl), (Nat.le_of_ble_eq_true rfl)⟩ h_x rfl rfl hl.1 rfl (Nat.le_of_ble_eq_true rfl) dX5_put_2 ⟨(Nat.le_of_ble_eq_true rfl), (Nat.le_of_ble_eq_true rfl)⟩) w hA (fun H locs w => ?_)
    refine lv_astore (lv' := [(4, .ref (sh (d.toNatClampNeg))), (0, .ref x), (1, .int d), (2, .int i0), (3, .int v)]) hx hb dX5_put_5 hl (by decide) rfl (fun ls hl => ?_)
    refine lv_aload hx hb dX5_put_7 (lv_at hl 0 rfl) ?_
    refine w_finI (w_runS (rm := ({ frames := 1, cells := 0, slots := 0, locals := 21 } : Room)) (As := [.ref (sh (d.toNatClampNeg))]) (rest := []) (n := 1) hx hb hml hts hown hK w (c_X5_rowRefusal l D cI cP cS cL L _ (sh (d.toNatClampNeg)) (sh_ho (d.toNatClampNeg)) (rw (d.toNatClampNeg)) (sp (d.toNatClampNeg)) (h_sh (d.toNatClampNeg) (by omega))) gX5_put_X5_rowRefusal rfl rfl rfl (by decide +kernel) ⟨(Nat.le_of_ble_eq_true rfl), (Nat.le_of_ble_eq_true rfl)⟩ rfl hl.1 rfl (Nat.le_of_ble_eq_true rfl) dX5_put_9 ⟨(Nat.le_of_ble_eq_true rfl), (Nat.le_of_ble_eq_true rfl)⟩) w hA (fun H locs w => ?_)
    refine lv_istore (lv' := [(5, .int (f_X5_rowRefusal (sh_ho (d.toNatClampNeg)))), (4, .ref (sh (d.toNatClampNeg))), (0, .ref x), (1, .int d), (2, .int i0), (3, .int v)]) hx hb dX5_put_12 hl (by decide) rfl (fun ls hl => ?_)
    refine lv_iload hx hb dX5_put_14 (lv_at hl 0 rfl) ?_
    refine lv_if_eq (tgt := 22) hx hb dX5_put_16 (by decide) (fun c2 => ?_) (fun c2 => ?_)
    · skip
      have hq := hq.trans (if_pos c2)
      refine lv_aload hx hb dX5_put_22 (lv_at hl 1 rfl) ?_
      refine w_get (v := .ref (rw (d.toNatClampNeg))) hx hb hts i_X4 hown hK w (h_sh (d.toNatClampNeg) (by omega)) rfl 1 (by decide) (hts _ m_0) rfl dX5_put_24 ?_
      refine lv_iload_n hx hb dX5_put_27 rfl (lv_at hl 4 rfl) ?_
      refine w_finI (w_runV (rm := ({ frames := 0, cells := 0, slots := 0, locals := 0 } : Room)) (As := [.int i0]) (rest := []) (n := 1) hx hb hml hts hown hK w (c_X3_hasPlace l D cI cP cS cL L _ (rw (d.toNatClampNeg)) i0 (el (d.toNatClampNeg)) (rw_so (d.toNatClampNeg)) (rw_sz (d.toNatClampNeg)) (h_rw (d.toNatClampNeg) (by omega))) gX5_put_X3_hasPlace rfl rfl rfl (by decide +kernel) ⟨(Nat.le_of_ble_eq_true rfl), (Nat.le_of_ble_eq_true rfl)⟩ (h_rw (d.toNatClampNeg) (by omega)) rfl rfl hl.1 rfl (Nat.le_of_ble_eq_true rfl) dX5_put_28 ⟨(Nat.le_of_ble_eq_true rfl), (Nat.le_of_ble_eq_true rfl)⟩) w hA (fun H locs w => ?_)
      refine lv_if_ne (tgt := 37) hx hb dX5_put_31 (by decide) (fun c3 => ?_) (fun c3 => ?_)
      · skip
        have hq := hq.trans (if_neg c3)
        refine lv_aload hx hb dX5_put_37 (lv_at hl 1 rfl) ?_
        refine w_get (v := .ref (rw (d.toNatClampNeg))) hx hb hts i_X4 hown hK w (h_sh (d.toNatClampNeg) (by omega)) rfl 1 (by decide) (hts _ m_0) rfl dX5_put_39 ?_
        refine lv_iload_n hx hb dX5_put_42 rfl (lv_at hl 4 rfl) ?_
        refine lv_iload_n hx hb dX5_put_43 rfl (lv_at hl 5 rfl) ?_
        refine w_finw (w_runV (rm := ({ frames := 1, cells := 0, slots := 0, locals := 21 } : Room)) (As := [.int i0, .int v]) (rest := []) (n := 2) hx hb hml hts hown hK w (c_X3_write l D cI cP cS cL L _ (rw (d.toNatClampNeg)) i0 v (el (d.toNatClampNeg)) (rw_so (d.toNatClampNeg)) (rw_sz (d.toNatClampNeg)) 100 (el_f (d.toNatClampNeg)) (h_rw (d.toNatClampNeg) (by omega)) (h_el (d.toNatClampNeg) (by omega)) (hzs (d.toNatClampNeg) (by omega))) gX5_put_X3_write rfl rfl rfl (by decide +kernel) ⟨(Nat.le_of_ble_eq_true rfl), (Nat.le_of_ble_eq_true rfl)⟩ (h_rw (d.toNatClampNeg) (by omega)) rfl rfl hl.1 rfl (Nat.le_of_ble_eq_true rfl) dX5_put_44 ⟨(Nat.le_of_ble_eq_true rfl), (Nat.le_of_ble_eq_true rfl)⟩) w hA (fun F1 H locs hp w => ?_)
        obtain ⟨x44, hx44, hw0, hk9⟩ := hp
        have hq := hq.trans (w_bnd hx44)
        have hf4 := fam_new (E := (fun i => (eI cI 100 (el_f i)))) (E2 := (fun i => (eI cI 100 ((va_up el_f (d.toNatClampNeg) x44) i)))) h_el (by omega) hw0 hk9 (fun i hi hne => ⟨(fun q => hne (hinj_el i (d.toNatClampNeg) hi (by omega) q)), trivial⟩) (by simp [upd, va_up]) (fun i hi => by simp [upd, va_up, hi])
        have h_x := h_x.keep hk9 ⟨(wi.ne h_x (h_el (d.toNatClampNeg) (by omega)) (by intro h; cases h)), trivial⟩
        have h_x_sh := h_x_sh.keep hk9 ⟨(wi.ne h_x_sh (h_el (d.toNatClampNeg) (by omega)) (by intro h; cases h)), trivial⟩
        have h_sh := fun i (hi : i < 8) => (h_sh i hi).keep hk9 ⟨(wi.ne (h_sh i hi) (h_el (d.toNatClampNeg) (by omega)) (by intro h; cases h)), trivial⟩
        have h_rw := fun i (hi : i < 8) => (h_rw i hi).keep hk9 ⟨(wi.ne (h_rw i hi) (h_el (d.toNatClampNeg) (by omega)) (by intro h; cases h)), trivial⟩
        have h_el := hf4
        have hk := hk.call hk9 (fun q h => ⟨(h.1 (d.toNatClampNeg) (by omega)), trivial⟩)
        refine lv_iconst (v := 0) hx hb dX5_put_47 (by decide) ?_
        exact w_iret hx hb hr hlocks w ⟨rfl, _, hq.symm, rfl, (fun i hi => (h_el i hi).2), hk⟩ (Nat.le_refl _) (Nat.le_refl _) dX5_put_48
      · skip
        have hq := hq.trans (if_pos c3)
        refine lv_bipush (v := (-13)) hx hb dX5_put_34 (by decide) ?_
        exact w_iret hx hb hr hlocks w ⟨rfl, _, hq.symm, rfl, (fun i hi => (h_el i hi).2), hk⟩ (Nat.le_refl _) (Nat.le_refl _) dX5_put_36
    · skip
      have hq := hq.trans (if_neg c2)
      refine lv_iload hx hb dX5_put_19 (lv_at hl 0 rfl) ?_
      exact w_iret hx hb hr hlocks w ⟨rfl, _, hq.symm, rfl, (fun i hi => (h_el i hi).2), hk⟩ (Nat.le_refl _) (Nat.le_refl _) dX5_put_21
  · skip
    have hq := hq.trans (if_neg c1)
    refine w_finQ (v := .null) (by unfold f_X5_shelfAt_none; first | rfl | (split <;> rfl)) (w_runV (rm := ({ frames := 0, cells := 0, slots := 0, locals := 0 } : Room)) (As := [.int d]) (rest := []) (n := 1) hx hb hml hts hown hK w (c_X5_shelfAt_none l D cI cP cS cL L _ x d x_no x_ke x_mi x_im x_sh x_co x_ot sh h_x h_x_sh c1) gX5_put_X5_shelfAt rfl rfl rfl (by decide +kernel) ⟨(Nat.le_of_ble_eq_true rfl), (Nat.le_of_ble_eq_true rfl)⟩ h_x rfl rfl hl.1 rfl (Nat.le_of_ble_eq_true rfl) dX5_put_2 ⟨(Nat.le_of_ble_eq_true rfl), (Nat.le_of_ble_eq_true rfl)⟩) w hA (fun H locs w => ?_)
    refine lv_astoreN (lv' := [(4, .null), (0, .ref x), (1, .int d), (2, .int i0), (3, .int v)]) hx hb dX5_put_5 hl (by decide) rfl (fun ls hl => ?_)
    refine lv_aloadN hx hb dX5_put_7 (lv_at hl 0 rfl) ?_
    refine w_finI (r := (-1)) (w_runS (rm := ({ frames := 1, cells := 0, slots := 0, locals := 21 } : Room)) (As := [.null]) (rest := []) (n := 1) hx hb hml hts hown hK w (c_X5_rowRefusal_n l D cI cP cS cL L _  ) gX5_put_X5_rowRefusal rfl rfl rfl (by decide +kernel) ⟨(Nat.le_of_ble_eq_true rfl), (Nat.le_of_ble_eq_true rfl)⟩ rfl hl.1 rfl (Nat.le_of_ble_eq_true rfl) dX5_put_9 ⟨(Nat.le_of_ble_eq_true rfl), (Nat.le_of_ble_eq_true rfl)⟩) w hA (fun H locs w => ?_)
    refine lv_istore (lv' := [(5, .int (-1)), (4, .null), (0, .ref x), (1, .int d), (2, .int i0), (3, .int v)]) hx hb dX5_put_12 hl (by decide) rfl (fun ls hl => ?_)
    refine lv_iload hx hb dX5_put_14 (lv_at hl 0 rfl) ?_
    refine lv_if_eq (tgt := 22) hx hb dX5_put_16 (by decide) (fun c => absurd c (by decide)) (fun _ => ?_)
    refine lv_iload hx hb dX5_put_19 (lv_at hl 0 rfl) ?_
    exact w_iret hx hb hr hlocks w ⟨rfl, _, hq.symm, rfl, (fun i hi => (h_el i hi).2), hk⟩ (Nat.le_refl _) (Nat.le_refl _) dX5_put_21
def f_X5_copy (d : Int32) (i0 : Int32) (e0 : Int32) (j0 : Int32) (n0 : Int32) (sh_ho : Nat → Int32) (rw_so : Nat → Int32) (rw_sz : Nat → Int32) (el_f : Nat → Nat → Int32) : Int32 × (Nat → Nat → Int32) := if (¬ d < 0 ∧ ¬ (8 : Int32) ≤ d) then (if (¬ e0 < 0 ∧ ¬ (8 : Int32) ≤ e0) then (if (f_X5_twoRowsRefusal (sh_ho (d.toNatClampNeg)) (sh_ho (e0.toNatClampNeg))) = (0 : Int32) then (if (rw_so (d.toNatClampNeg)) = (rw_so (e0.toNatClampNeg)) then (if (f_X3_hasPlaces i0 n0 (rw_sz (d.toNatClampNeg))) = (0 : Int32) then ((-13), el_f) else (if (f_X3_hasPlaces j0 n0 (rw_sz (e0.toNatClampNeg))) = (0 : Int32) then ((-13), el_f) else (n0, (va_up el_f (e0.toNatClampNeg) (va_cpy (el_f (d.toNatClampNeg)) (el_f (e0.toNatClampNeg)) (i0.toNatClampNeg) (j0.toNatClampNeg) (n0.toNatClampNeg)))))) else ((-12), el_f)) else ((f_X5_twoRowsRefusal (sh_ho (d.toNatClampNeg)) (sh_ho (e0.toNatClampNeg))), el_f)) else ((-1), el_f)) else (if (¬ e0 < 0 ∧ ¬ (8 : Int32) ≤ e0) then ((-1), el_f) else ((-1), el_f))
set_option maxHeartbeats 400000 in
set_option maxRecDepth 100000 in
theorem c_X5_copy (l : Launch) (D : va_G) (cI cP cS cL : ClassId) (L : List Nat) (F : Nat → va_E) (x : Nat) (d : Int32) (i0 : Int32) (e0 : Int32) (j0 : Int32) (n0 : Int32) (x_no : Nat) (x_ke : Nat) (x_mi : Nat) (x_im : Int32) (x_sh : Nat) (x_co : Nat) (x_ot : Nat) (sh : Nat → Nat) (sh_ho : Nat → Int32) (rw : Nat → Nat) (sp : Nat → Nat) (el : Nat → Nat) (rw_so : Nat → Int32) (rw_sz : Nat → Int32) (el_f : Nat → Nat → Int32) (h_x : wi L F x (eX x_no x_ke x_mi x_im x_sh x_co x_ot)) (h_x_sh : wi L F x_sh (eQ cS 8 (fun i => some (sh i)))) (h_sh : ∀ i, i < 8 → wi L F (sh i) (eS (sh_ho i) (rw i) (sp i))) (h_rw : ∀ i, i < 8 → wi L F (rw i) (eR (el i) (rw_so i) (rw_sz i))) (h_el : ∀ i, i < 8 → wi L F (el i) (eI cI 100 (el_f i))) (hzs : ∀ i, i < 8 → (rw_sz i).toInt ≤ 100) (hinj_el : ∀ i k, i < 8 → k < 8 → el i = el k → i = k) : wMj l D cI cP cS cL yX5_copy wsX5_copy ({ frames := 1, cells := 0, slots := 0, locals := 31 } : Room) [.ref x, .int d, .int i0, .int e0, .int j0, .int n0] L F (fun r1 F1 => ∃ y9 : Int32 × (Nat → Nat → Int32), y9 = (f_X5_copy d i0 e0 j0 n0 sh_ho rw_so rw_sz el_f) ∧ r1 = y9.1 ∧ (∀ i, i < 8 → F1 (el i) = (eI cI 100 (y9.2 i))) ∧ wk (fun q : Nat => (∀ i, i < 8 → q ≠ el i) ∧ True) F1 F) := by
  refine wM.of (cc := cX5_copy) (maxL := 9) (ret := (some .int)) (by decide) rfl (Nat.le_of_ble_eq_true rfl) ?_
  intro pZ eZ sZ mZ below meth cZ A ls C hl w
  obtain ⟨hx, hb, hr, hml, hts, hown, hlocks, hK, hA, hin⟩ := C
  have hown : sZ.vm.findClass RX5 = some mZ.cls := hown
  have hl : lv_has ls 9 [(0, .ref x), (1, .int d), (2, .int i0), (3, .int e0), (4, .int j0), (5, .int n0)] := hl
  have m_0 : ((.fieldLink RX5 44 "TwoThirds$Shelf" "row" "LTwoThirds$Row;") : Cond) ∈ wsX5_copy := by decide +kernel
  have i_X4 : ∀ w ∈ wsX40, w ∈ wsX5_copy := by decide +kernel
  have m_2 : ((.fieldLink RX5 48 "TwoThirds$Row" "sort" "I") : Cond) ∈ wsX5_copy := by decide +kernel
  have i_X3 : ∀ w ∈ wsX30, w ∈ wsX5_copy := by decide +kernel
  have m_4 : ((.fieldLink RX5 267 "TwoThirds$Row" "elements" "[I") : Cond) ∈ wsX5_copy := by decide +kernel
  have m_5 : ((.methodLink RX5 270 arraycopyName) : Cond) ∈ wsX5_copy := by decide +kernel
  have m_6 : ((.native arraycopyName) : Cond) ∈ wsX5_copy := by decide +kernel
  have m_7 : ((.static arraycopyName) : Cond) ∈ wsX5_copy := by decide +kernel
  have m_8 : ((.initialized "java/lang/System") : Cond) ∈ wsX5_copy := by decide +kernel
  have hk : wk (fun q : Nat => (∀ i, i < 8 → q ≠ el i) ∧ True) F F := wk.rf
  have hq : f_X5_copy d i0 e0 j0 n0 sh_ho rw_so rw_sz el_f = f_X5_copy d i0 e0 j0 n0 sh_ho rw_so rw_sz el_f := rfl
  refine lv_aload_n hx hb dX5_copy_0 rfl (lv_at hl 0 rfl) ?_
  refine lv_iload_n hx hb dX5_copy_1 rfl (lv_at hl 1 rfl) ?_
  by_cases c1 : (¬ d < 0 ∧ ¬ (8 : Int32) ≤ d)
  · skip
    have hq := hq.trans (if_pos c1)
    have hlt_C : d.toNatClampNeg < 8 := w_okP (n := 8) c1 (by decide)
    refine w_finQ (v := .ref (sh (d.toNatClampNeg))) rfl (w_runV (rm := ({ frames := 0, cells := 0, slots := 0, locals := 0 } : Room)) (As := [.int d]) (rest := []) (n := 1) hx hb hml hts hown hK w (c_X5_shelfAt_some l D cI cP cS cL L _ x d x_no x_ke x_mi x_im x_sh x_co x_ot sh sh_ho rw sp h_x h_x_sh h_sh c1) gX5_copy_X5_shelfAt rfl rfl rfl (by decide +kernel) ⟨(Nat.le_of_ble_eq_true rfl), (Nat.le_of_ble_eq_true rfl)⟩ h_x rfl rfl hl.1 rfl (Nat.le_of_ble_eq_true rfl) dX5_copy_2 ⟨(Nat.le_of_ble_eq_true rfl), (Nat.le_of_ble_eq_true rfl)⟩) w hA (fun H locs w => ?_)
    refine lv_astore (lv' := [(6, .ref (sh (d.toNatClampNeg))), (0, .ref x), (1, .int d), (2, .int i0), (3, .int e0), (4, .int j0), (5, .int n0)]) hx hb dX5_copy_5 hl (by decide) rfl (fun ls hl => ?_)
    refine lv_aload_n hx hb dX5_copy_7 rfl (lv_at hl 1 rfl) ?_
    refine lv_iload_n hx hb dX5_copy_8 rfl (lv_at hl 4 rfl) ?_
    by_cases c2 : (¬ e0 < 0 ∧ ¬ (8 : Int32) ≤ e0)
    · skip
      have hq := hq.trans (if_pos c2)
      have hlt_C : e0.toNatClampNeg < 8 := w_okP (n := 8) c2 (by decide)
      refine w_finQ (v := .ref (sh (e0.toNatClampNeg))) rfl (w_runV (rm := ({ frames := 0, cells := 0, slots := 0, locals := 0 } : Room)) (As := [.int e0]) (rest := []) (n := 1) hx hb hml hts hown hK w (c_X5_shelfAt_some l D cI cP cS cL L _ x e0 x_no x_ke x_mi x_im x_sh x_co x_ot sh sh_ho rw sp h_x h_x_sh h_sh c2) gX5_copy_X5_shelfAt rfl rfl rfl (by decide +kernel) ⟨(Nat.le_of_ble_eq_true rfl), (Nat.le_of_ble_eq_true rfl)⟩ h_x rfl rfl hl.1 rfl (Nat.le_of_ble_eq_true rfl) dX5_copy_9 ⟨(Nat.le_of_ble_eq_true rfl), (Nat.le_of_ble_eq_true rfl)⟩) w hA (fun H locs w => ?_)
      refine lv_astore (lv' := [(7, .ref (sh (e0.toNatClampNeg))), (6, .ref (sh (d.toNatClampNeg))), (0, .ref x), (1, .int d), (2, .int i0), (3, .int e0), (4, .int j0), (5, .int n0)]) hx hb dX5_copy_12 hl (by decide) rfl (fun ls hl => ?_)
      refine lv_aload hx hb dX5_copy_14 (lv_at hl 1 rfl) ?_
      refine lv_aload hx hb dX5_copy_16 (lv_at hl 0 rfl) ?_
      refine w_finI (w_runS (rm := ({ frames := 0, cells := 0, slots := 0, locals := 0 } : Room)) (As := [.ref (sh (d.toNatClampNeg)), .ref (sh (e0.toNatClampNeg))]) (rest := []) (n := 2) hx hb hml hts hown hK w (c_X5_twoRowsRefusal l D cI cP cS cL L _ (sh (d.toNatClampNeg)) (sh (e0.toNatClampNeg)) (sh_ho (d.toNatClampNeg)) (rw (d.toNatClampNeg)) (sp (d.toNatClampNeg)) (sh_ho (e0.toNatClampNeg)) (rw (e0.toNatClampNeg)) (sp (e0.toNatClampNeg)) (h_sh (d.toNatClampNeg) (by omega)) (h_sh (e0.toNatClampNeg) (by omega))) gX5_copy_X5_twoRowsRefusal rfl rfl rfl (by decide +kernel) ⟨(Nat.le_of_ble_eq_true rfl), (Nat.le_of_ble_eq_true rfl)⟩ rfl hl.1 rfl (Nat.le_of_ble_eq_true rfl) dX5_copy_18 ⟨(Nat.le_of_ble_eq_true rfl), (Nat.le_of_ble_eq_true rfl)⟩) w hA (fun H locs w => ?_)
      refine lv_istore (lv' := [(8, .int (f_X5_twoRowsRefusal (sh_ho (d.toNatClampNeg)) (sh_ho (e0.toNatClampNeg)))), (7, .ref (sh (e0.toNatClampNeg))), (6, .ref (sh (d.toNatClampNeg))), (0, .ref x), (1, .int d), (2, .int i0), (3, .int e0), (4, .int j0), (5, .int n0)]) hx hb dX5_copy_21 hl (by decide) rfl (fun ls hl => ?_)
      refine lv_iload hx hb dX5_copy_23 (lv_at hl 0 rfl) ?_
      refine lv_if_eq (tgt := 31) hx hb dX5_copy_25 (by decide) (fun c3 => ?_) (fun c3 => ?_)
      · skip
        have hq := hq.trans (if_pos c3)
        refine lv_aload hx hb dX5_copy_31 (lv_at hl 2 rfl) ?_
        refine w_get (v := .ref (rw (d.toNatClampNeg))) hx hb hts i_X4 hown hK w (h_sh (d.toNatClampNeg) (by omega)) rfl 1 (by decide) (hts _ m_0) rfl dX5_copy_33 ?_
        refine w_get (v := .int (rw_so (d.toNatClampNeg))) hx hb hts i_X3 hown hK w (h_rw (d.toNatClampNeg) (by omega)) rfl 1 (by decide) (hts _ m_2) rfl dX5_copy_36 ?_
        refine lv_aload hx hb dX5_copy_39 (lv_at hl 1 rfl) ?_
        refine w_get (v := .ref (rw (e0.toNatClampNeg))) hx hb hts i_X4 hown hK w (h_sh (e0.toNatClampNeg) (by omega)) rfl 1 (by decide) (hts _ m_0) rfl dX5_copy_41 ?_
        refine w_get (v := .int (rw_so (e0.toNatClampNeg))) hx hb hts i_X3 hown hK w (h_rw (e0.toNatClampNeg) (by omega)) rfl 1 (by decide) (hts _ m_2) rfl dX5_copy_44 ?_
        refine lv_icmp_eq (tgt := 53) hx hb dX5_copy_47 (by decide) (fun c4 => ?_) (fun c4 => ?_)
        · skip
          have hq := hq.trans (if_pos c4)
          refine lv_aload hx hb dX5_copy_53 (lv_at hl 2 rfl) ?_
          refine w_get (v := .ref (rw (d.toNatClampNeg))) hx hb hts i_X4 hown hK w (h_sh (d.toNatClampNeg) (by omega)) rfl 1 (by decide) (hts _ m_0) rfl dX5_copy_55 ?_
          refine lv_iload_n hx hb dX5_copy_58 rfl (lv_at hl 5 rfl) ?_
          refine lv_iload hx hb dX5_copy_59 (lv_at hl 8 rfl) ?_
          refine w_finI (w_runV (rm := ({ frames := 0, cells := 0, slots := 0, locals := 0 } : Room)) (As := [.int i0, .int n0]) (rest := []) (n := 2) hx hb hml hts hown hK w (c_X3_hasPlaces l D cI cP cS cL L _ (rw (d.toNatClampNeg)) i0 n0 (el (d.toNatClampNeg)) (rw_so (d.toNatClampNeg)) (rw_sz (d.toNatClampNeg)) (h_rw (d.toNatClampNeg) (by omega))) gX5_copy_X3_hasPlaces rfl rfl rfl (by decide +kernel) ⟨(Nat.le_of_ble_eq_true rfl), (Nat.le_of_ble_eq_true rfl)⟩ (h_rw (d.toNatClampNeg) (by omega)) rfl rfl hl.1 rfl (Nat.le_of_ble_eq_true rfl) dX5_copy_61 ⟨(Nat.le_of_ble_eq_true rfl), (Nat.le_of_ble_eq_true rfl)⟩) w hA (fun H locs w => ?_)
          refine lv_if_eq (tgt := 82) hx hb dX5_copy_64 (by decide) (fun c5 => ?_) (fun c5 => ?_)
          · skip
            have hq := hq.trans (if_pos c5)
            refine lv_bipush (v := (-13)) hx hb dX5_copy_82 (by decide) ?_
            exact w_iret hx hb hr hlocks w ⟨rfl, _, hq.symm, rfl, (fun i hi => (h_el i hi).2), hk⟩ (Nat.le_refl _) (Nat.le_refl _) dX5_copy_84
          · skip
            have hq := hq.trans (if_neg c5)
            refine lv_aload hx hb dX5_copy_67 (lv_at hl 1 rfl) ?_
            refine w_get (v := .ref (rw (e0.toNatClampNeg))) hx hb hts i_X4 hown hK w (h_sh (e0.toNatClampNeg) (by omega)) rfl 1 (by decide) (hts _ m_0) rfl dX5_copy_69 ?_
            refine lv_iload hx hb dX5_copy_72 (lv_at hl 7 rfl) ?_
            refine lv_iload hx hb dX5_copy_74 (lv_at hl 8 rfl) ?_
            refine w_finI (w_runV (rm := ({ frames := 0, cells := 0, slots := 0, locals := 0 } : Room)) (As := [.int j0, .int n0]) (rest := []) (n := 2) hx hb hml hts hown hK w (c_X3_hasPlaces l D cI cP cS cL L _ (rw (e0.toNatClampNeg)) j0 n0 (el (e0.toNatClampNeg)) (rw_so (e0.toNatClampNeg)) (rw_sz (e0.toNatClampNeg)) (h_rw (e0.toNatClampNeg) (by omega))) gX5_copy_X3_hasPlaces rfl rfl rfl (by decide +kernel) ⟨(Nat.le_of_ble_eq_true rfl), (Nat.le_of_ble_eq_true rfl)⟩ (h_rw (e0.toNatClampNeg) (by omega)) rfl rfl hl.1 rfl (Nat.le_of_ble_eq_true rfl) dX5_copy_76 ⟨(Nat.le_of_ble_eq_true rfl), (Nat.le_of_ble_eq_true rfl)⟩) w hA (fun H locs w => ?_)
            refine lv_if_ne (tgt := 85) hx hb dX5_copy_79 (by decide) (fun c6 => ?_) (fun c6 => ?_)
            · skip
              have hq := hq.trans (if_neg c6)
              refine lv_aload hx hb dX5_copy_85 (lv_at hl 2 rfl) ?_
              refine w_get (v := .ref (rw (d.toNatClampNeg))) hx hb hts i_X4 hown hK w (h_sh (d.toNatClampNeg) (by omega)) rfl 1 (by decide) (hts _ m_0) rfl dX5_copy_87 ?_
              refine w_get (v := .ref (el (d.toNatClampNeg))) hx hb hts i_X3 hown hK w (h_rw (d.toNatClampNeg) (by omega)) rfl 0 (by decide) (hts _ m_4) rfl dX5_copy_90 ?_
              refine lv_iload_n hx hb dX5_copy_93 rfl (lv_at hl 5 rfl) ?_
              refine lv_aload hx hb dX5_copy_94 (lv_at hl 1 rfl) ?_
              refine w_get (v := .ref (rw (e0.toNatClampNeg))) hx hb hts i_X4 hown hK w (h_sh (e0.toNatClampNeg) (by omega)) rfl 1 (by decide) (hts _ m_0) rfl dX5_copy_96 ?_
              refine w_get (v := .ref (el (e0.toNatClampNeg))) hx hb hts i_X3 hown hK w (h_rw (e0.toNatClampNeg) (by omega)) rfl 0 (by decide) (hts _ m_4) rfl dX5_copy_99 ?_
              refine lv_iload hx hb dX5_copy_102 (lv_at hl 7 rfl) ?_
              refine lv_iload hx hb dX5_copy_104 (lv_at hl 8 rfl) ?_
              have q1 : ¬ i0 < 0 ∧ ¬ n0 < 0 ∧ i0.toNatClampNeg + n0.toNatClampNeg ≤ 100 := hp_ok (z := rw_sz (d.toNatClampNeg)) (by assumption) (hzs _ (by omega))
              have q2 : ¬ j0 < 0 ∧ ¬ n0 < 0 ∧ j0.toNatClampNeg + n0.toNatClampNeg ≤ 100 := hp_ok (z := rw_sz (e0.toNatClampNeg)) (by assumption) (hzs _ (by omega))
              have ho7 := (h_el (e0.toNatClampNeg) (by omega))
              refine w_acopy hx hb (hml.trans hl.1.symm) hown (hts _ m_5) (hts _ m_6) (hts _ m_7) (hts _ m_8) hK w (h_el (d.toNatClampNeg) (by omega)) (h_el (e0.toNatClampNeg) (by omega)) q1.1 q2.1 q1.2.1 q1.2.2 q2.2.2 (Nat.le_of_ble_eq_true rfl) (Nat.le_of_ble_eq_true rfl) dX5_copy_106 (fun H locs w h__el__e0_toNatClampNeg__ => ?_)
              have hf8 := fam_up (E := (fun i => (eI cI 100 (el_f i)))) (E2 := (fun i => (eI cI 100 ((va_up el_f (e0.toNatClampNeg) (va_cpy (el_f (d.toNatClampNeg)) (el_f (e0.toNatClampNeg)) (i0.toNatClampNeg) (j0.toNatClampNeg) (n0.toNatClampNeg))) i)))) h_el (by omega) hinj_el (e2 := (eI cI 100 (va_cpy (el_f (d.toNatClampNeg)) (el_f (e0.toNatClampNeg)) (i0.toNatClampNeg) (j0.toNatClampNeg) (n0.toNatClampNeg)))) (by simp [upd, va_up]) (fun i hi => by simp [upd, va_up, hi])
              have h_x := h_x.upw h__el__e0_toNatClampNeg__ (wi.ne h_x ho7 (by intro h; cases h))
              have h_x_sh := h_x_sh.upw h__el__e0_toNatClampNeg__ (wi.ne h_x_sh ho7 (by intro h; cases h))
              have h_sh := fun i (hi : i < 8) => (h_sh i hi).upw h__el__e0_toNatClampNeg__ (wi.ne (h_sh i hi) ho7 (by intro h; cases h))
              have h_rw := fun i (hi : i < 8) => (h_rw i hi).upw h__el__e0_toNatClampNeg__ (wi.ne (h_rw i hi) ho7 (by intro h; cases h))
              have hk := hk.upw h__el__e0_toNatClampNeg__ (fun q h => h.1 (e0.toNatClampNeg) (by omega))
              have h_el := hf8
              refine lv_iload hx hb dX5_copy_109 (lv_at hl 8 rfl) ?_
              exact w_iret hx hb hr hlocks w ⟨rfl, _, hq.symm, rfl, (fun i hi => (h_el i hi).2), hk⟩ (Nat.le_refl _) (Nat.le_refl _) dX5_copy_111
            · skip
              have hq := hq.trans (if_pos c6)
              refine lv_bipush (v := (-13)) hx hb dX5_copy_82 (by decide) ?_
              exact w_iret hx hb hr hlocks w ⟨rfl, _, hq.symm, rfl, (fun i hi => (h_el i hi).2), hk⟩ (Nat.le_refl _) (Nat.le_refl _) dX5_copy_84
        · skip
          have hq := hq.trans (if_neg c4)
          refine lv_bipush (v := (-12)) hx hb dX5_copy_50 (by decide) ?_
          exact w_iret hx hb hr hlocks w ⟨rfl, _, hq.symm, rfl, (fun i hi => (h_el i hi).2), hk⟩ (Nat.le_refl _) (Nat.le_refl _) dX5_copy_52
      · skip
        have hq := hq.trans (if_neg c3)
        refine lv_iload hx hb dX5_copy_28 (lv_at hl 0 rfl) ?_
        exact w_iret hx hb hr hlocks w ⟨rfl, _, hq.symm, rfl, (fun i hi => (h_el i hi).2), hk⟩ (Nat.le_refl _) (Nat.le_refl _) dX5_copy_30
    · skip
      have hq := hq.trans (if_neg c2)
      refine w_finQ (v := .null) (by unfold f_X5_shelfAt_none; first | rfl | (split <;> rfl)) (w_runV (rm := ({ frames := 0, cells := 0, slots := 0, locals := 0 } : Room)) (As := [.int e0]) (rest := []) (n := 1) hx hb hml hts hown hK w (c_X5_shelfAt_none l D cI cP cS cL L _ x e0 x_no x_ke x_mi x_im x_sh x_co x_ot sh h_x h_x_sh c2) gX5_copy_X5_shelfAt rfl rfl rfl (by decide +kernel) ⟨(Nat.le_of_ble_eq_true rfl), (Nat.le_of_ble_eq_true rfl)⟩ h_x rfl rfl hl.1 rfl (Nat.le_of_ble_eq_true rfl) dX5_copy_9 ⟨(Nat.le_of_ble_eq_true rfl), (Nat.le_of_ble_eq_true rfl)⟩) w hA (fun H locs w => ?_)
      refine lv_astoreN (lv' := [(7, .null), (6, .ref (sh (d.toNatClampNeg))), (0, .ref x), (1, .int d), (2, .int i0), (3, .int e0), (4, .int j0), (5, .int n0)]) hx hb dX5_copy_12 hl (by decide) rfl (fun ls hl => ?_)
      refine lv_aload hx hb dX5_copy_14 (lv_at hl 1 rfl) ?_
      refine lv_aloadN hx hb dX5_copy_16 (lv_at hl 0 rfl) ?_
      refine w_finI (r := (-1)) (w_runS (rm := ({ frames := 0, cells := 0, slots := 0, locals := 0 } : Room)) (As := [.ref (sh (d.toNatClampNeg)), .null]) (rest := []) (n := 2) hx hb hml hts hown hK w (c_X5_twoRowsRefusal_rn l D cI cP cS cL L _ (sh (d.toNatClampNeg)) (sh_ho (d.toNatClampNeg)) (rw (d.toNatClampNeg)) (sp (d.toNatClampNeg)) (h_sh (d.toNatClampNeg) (by omega))) gX5_copy_X5_twoRowsRefusal rfl rfl rfl (by decide +kernel) ⟨(Nat.le_of_ble_eq_true rfl), (Nat.le_of_ble_eq_true rfl)⟩ rfl hl.1 rfl (Nat.le_of_ble_eq_true rfl) dX5_copy_18 ⟨(Nat.le_of_ble_eq_true rfl), (Nat.le_of_ble_eq_true rfl)⟩) w hA (fun H locs w => ?_)
      refine lv_istore (lv' := [(8, .int (-1)), (7, .null), (6, .ref (sh (d.toNatClampNeg))), (0, .ref x), (1, .int d), (2, .int i0), (3, .int e0), (4, .int j0), (5, .int n0)]) hx hb dX5_copy_21 hl (by decide) rfl (fun ls hl => ?_)
      refine lv_iload hx hb dX5_copy_23 (lv_at hl 0 rfl) ?_
      refine lv_if_eq (tgt := 31) hx hb dX5_copy_25 (by decide) (fun c => absurd c (by decide)) (fun _ => ?_)
      refine lv_iload hx hb dX5_copy_28 (lv_at hl 0 rfl) ?_
      exact w_iret hx hb hr hlocks w ⟨rfl, _, hq.symm, rfl, (fun i hi => (h_el i hi).2), hk⟩ (Nat.le_refl _) (Nat.le_refl _) dX5_copy_30
  · skip
    have hq := hq.trans (if_neg c1)
    refine w_finQ (v := .null) (by unfold f_X5_shelfAt_none; first | rfl | (split <;> rfl)) (w_runV (rm := ({ frames := 0, cells := 0, slots := 0, locals := 0 } : Room)) (As := [.int d]) (rest := []) (n := 1) hx hb hml hts hown hK w (c_X5_shelfAt_none l D cI cP cS cL L _ x d x_no x_ke x_mi x_im x_sh x_co x_ot sh h_x h_x_sh c1) gX5_copy_X5_shelfAt rfl rfl rfl (by decide +kernel) ⟨(Nat.le_of_ble_eq_true rfl), (Nat.le_of_ble_eq_true rfl)⟩ h_x rfl rfl hl.1 rfl (Nat.le_of_ble_eq_true rfl) dX5_copy_2 ⟨(Nat.le_of_ble_eq_true rfl), (Nat.le_of_ble_eq_true rfl)⟩) w hA (fun H locs w => ?_)
    refine lv_astoreN (lv' := [(6, .null), (0, .ref x), (1, .int d), (2, .int i0), (3, .int e0), (4, .int j0), (5, .int n0)]) hx hb dX5_copy_5 hl (by decide) rfl (fun ls hl => ?_)
    refine lv_aload_n hx hb dX5_copy_7 rfl (lv_at hl 1 rfl) ?_
    refine lv_iload_n hx hb dX5_copy_8 rfl (lv_at hl 4 rfl) ?_
    by_cases c9 : (¬ e0 < 0 ∧ ¬ (8 : Int32) ≤ e0)
    · skip
      have hq := hq.trans (if_pos c9)
      have hlt_C : e0.toNatClampNeg < 8 := w_okP (n := 8) c9 (by decide)
      refine w_finQ (v := .ref (sh (e0.toNatClampNeg))) rfl (w_runV (rm := ({ frames := 0, cells := 0, slots := 0, locals := 0 } : Room)) (As := [.int e0]) (rest := []) (n := 1) hx hb hml hts hown hK w (c_X5_shelfAt_some l D cI cP cS cL L _ x e0 x_no x_ke x_mi x_im x_sh x_co x_ot sh sh_ho rw sp h_x h_x_sh h_sh c9) gX5_copy_X5_shelfAt rfl rfl rfl (by decide +kernel) ⟨(Nat.le_of_ble_eq_true rfl), (Nat.le_of_ble_eq_true rfl)⟩ h_x rfl rfl hl.1 rfl (Nat.le_of_ble_eq_true rfl) dX5_copy_9 ⟨(Nat.le_of_ble_eq_true rfl), (Nat.le_of_ble_eq_true rfl)⟩) w hA (fun H locs w => ?_)
      refine lv_astore (lv' := [(7, .ref (sh (e0.toNatClampNeg))), (6, .null), (0, .ref x), (1, .int d), (2, .int i0), (3, .int e0), (4, .int j0), (5, .int n0)]) hx hb dX5_copy_12 hl (by decide) rfl (fun ls hl => ?_)
      refine lv_aloadN hx hb dX5_copy_14 (lv_at hl 1 rfl) ?_
      refine lv_aload hx hb dX5_copy_16 (lv_at hl 0 rfl) ?_
      refine w_finI (r := (-1)) (w_runS (rm := ({ frames := 0, cells := 0, slots := 0, locals := 0 } : Room)) (As := [.null, .ref (sh (e0.toNatClampNeg))]) (rest := []) (n := 2) hx hb hml hts hown hK w (c_X5_twoRowsRefusal_nr l D cI cP cS cL L _ (sh (e0.toNatClampNeg)) (sh_ho (e0.toNatClampNeg)) (rw (e0.toNatClampNeg)) (sp (e0.toNatClampNeg)) (h_sh (e0.toNatClampNeg) (by omega))) gX5_copy_X5_twoRowsRefusal rfl rfl rfl (by decide +kernel) ⟨(Nat.le_of_ble_eq_true rfl), (Nat.le_of_ble_eq_true rfl)⟩ rfl hl.1 rfl (Nat.le_of_ble_eq_true rfl) dX5_copy_18 ⟨(Nat.le_of_ble_eq_true rfl), (Nat.le_of_ble_eq_true rfl)⟩) w hA (fun H locs w => ?_)
      refine lv_istore (lv' := [(8, .int (-1)), (7, .ref (sh (e0.toNatClampNeg))), (6, .null), (0, .ref x), (1, .int d), (2, .int i0), (3, .int e0), (4, .int j0), (5, .int n0)]) hx hb dX5_copy_21 hl (by decide) rfl (fun ls hl => ?_)
      refine lv_iload hx hb dX5_copy_23 (lv_at hl 0 rfl) ?_
      refine lv_if_eq (tgt := 31) hx hb dX5_copy_25 (by decide) (fun c => absurd c (by decide)) (fun _ => ?_)
      refine lv_iload hx hb dX5_copy_28 (lv_at hl 0 rfl) ?_
      exact w_iret hx hb hr hlocks w ⟨rfl, _, hq.symm, rfl, (fun i hi => (h_el i hi).2), hk⟩ (Nat.le_refl _) (Nat.le_refl _) dX5_copy_30
    · skip
      have hq := hq.trans (if_neg c9)
      refine w_finQ (v := .null) (by unfold f_X5_shelfAt_none; first | rfl | (split <;> rfl)) (w_runV (rm := ({ frames := 0, cells := 0, slots := 0, locals := 0 } : Room)) (As := [.int e0]) (rest := []) (n := 1) hx hb hml hts hown hK w (c_X5_shelfAt_none l D cI cP cS cL L _ x e0 x_no x_ke x_mi x_im x_sh x_co x_ot sh h_x h_x_sh c9) gX5_copy_X5_shelfAt rfl rfl rfl (by decide +kernel) ⟨(Nat.le_of_ble_eq_true rfl), (Nat.le_of_ble_eq_true rfl)⟩ h_x rfl rfl hl.1 rfl (Nat.le_of_ble_eq_true rfl) dX5_copy_9 ⟨(Nat.le_of_ble_eq_true rfl), (Nat.le_of_ble_eq_true rfl)⟩) w hA (fun H locs w => ?_)
      refine lv_astoreN (lv' := [(7, .null), (6, .null), (0, .ref x), (1, .int d), (2, .int i0), (3, .int e0), (4, .int j0), (5, .int n0)]) hx hb dX5_copy_12 hl (by decide) rfl (fun ls hl => ?_)
      refine lv_aloadN hx hb dX5_copy_14 (lv_at hl 1 rfl) ?_
      refine lv_aloadN hx hb dX5_copy_16 (lv_at hl 0 rfl) ?_
      refine w_finI (r := (-1)) (w_runS (rm := ({ frames := 0, cells := 0, slots := 0, locals := 0 } : Room)) (As := [.null, .null]) (rest := []) (n := 2) hx hb hml hts hown hK w (c_X5_twoRowsRefusal_nn l D cI cP cS cL L _  ) gX5_copy_X5_twoRowsRefusal rfl rfl rfl (by decide +kernel) ⟨(Nat.le_of_ble_eq_true rfl), (Nat.le_of_ble_eq_true rfl)⟩ rfl hl.1 rfl (Nat.le_of_ble_eq_true rfl) dX5_copy_18 ⟨(Nat.le_of_ble_eq_true rfl), (Nat.le_of_ble_eq_true rfl)⟩) w hA (fun H locs w => ?_)
      refine lv_istore (lv' := [(8, .int (-1)), (7, .null), (6, .null), (0, .ref x), (1, .int d), (2, .int i0), (3, .int e0), (4, .int j0), (5, .int n0)]) hx hb dX5_copy_21 hl (by decide) rfl (fun ls hl => ?_)
      refine lv_iload hx hb dX5_copy_23 (lv_at hl 0 rfl) ?_
      refine lv_if_eq (tgt := 31) hx hb dX5_copy_25 (by decide) (fun c => absurd c (by decide)) (fun _ => ?_)
      refine lv_iload hx hb dX5_copy_28 (lv_at hl 0 rfl) ?_
      exact w_iret hx hb hr hlocks w ⟨rfl, _, hq.symm, rfl, (fun i hi => (h_el i hi).2), hk⟩ (Nat.le_refl _) (Nat.le_refl _) dX5_copy_30
def f_X5_depth (d : Int32) (sh_ho : Nat → Int32) (sp_ki : Nat → Int32) (sp_st : Nat → Int32) (sp_sl : Nat → Int32) : Int32 := if (¬ d < 0 ∧ ¬ (8 : Int32) ≤ d) then (if (f_X5_personRefusal (sh_ho (d.toNatClampNeg))) = (0 : Int32) then (f_X1_depthOfKind (sp_ki (d.toNatClampNeg)) (sp_st (d.toNatClampNeg)) (sp_sl (d.toNatClampNeg))) else ((-1000000000) + (f_X5_personRefusal (sh_ho (d.toNatClampNeg))))) else ((-1000000000) + (-1))
set_option maxHeartbeats 400000 in
set_option maxRecDepth 100000 in
theorem c_X5_depth (l : Launch) (D : va_G) (cI cP cS cL : ClassId) (L : List Nat) (F : Nat → va_E) (x : Nat) (d : Int32) (x_no : Nat) (x_ke : Nat) (x_mi : Nat) (x_im : Int32) (x_sh : Nat) (x_co : Nat) (x_ot : Nat) (sh : Nat → Nat) (sh_ho : Nat → Int32) (rw : Nat → Nat) (sp : Nat → Nat) (sp_nu : Nat → Int32) (sp_ki : Nat → Int32) (sp_st : Nat → Int32) (sp_sl : Nat → Int32) (h_x : wi L F x (eX x_no x_ke x_mi x_im x_sh x_co x_ot)) (h_x_sh : wi L F x_sh (eQ cS 8 (fun i => some (sh i)))) (h_sh : ∀ i, i < 8 → wi L F (sh i) (eS (sh_ho i) (rw i) (sp i))) (h_sp : ∀ i, i < 8 → wi L F (sp i) (eP (sp_nu i) (sp_ki i) (sp_st i) (sp_sl i))) : wMI l D cI cP cS cL yX5_depth wsX5_depth ({ frames := 2, cells := 0, slots := 0, locals := 41 } : Room) [.ref x, .int d] L F (f_X5_depth d sh_ho sp_ki sp_st sp_sl) F := by
  refine wM.of (cc := cX5_depth) (maxL := 4) (ret := (some .int)) (by decide) rfl (Nat.le_of_ble_eq_true rfl) ?_
  intro pZ eZ sZ mZ below meth cZ A ls C hl w
  obtain ⟨hx, hb, hr, hml, hts, hown, hlocks, hK, hA, hin⟩ := C
  have hown : sZ.vm.findClass RX5 = some mZ.cls := hown
  have hl : lv_has ls 4 [(0, .ref x), (1, .int d)] := hl
  have m_0 : ((.fieldLink RX5 234 "TwoThirds$Shelf" "person" "LTwoThirds$Person;") : Cond) ∈ wsX5_depth := by decide +kernel
  have i_X4 : ∀ w ∈ wsX40, w ∈ wsX5_depth := by decide +kernel
  have m_2 : ((.constant RX5 279 (-1000000000)) : Cond) ∈ wsX5_depth := by decide +kernel
  have hq : f_X5_depth d sh_ho sp_ki sp_st sp_sl = f_X5_depth d sh_ho sp_ki sp_st sp_sl := rfl
  refine lv_aload_n hx hb dX5_depth_0 rfl (lv_at hl 0 rfl) ?_
  refine lv_iload_n hx hb dX5_depth_1 rfl (lv_at hl 1 rfl) ?_
  by_cases c1 : (¬ d < 0 ∧ ¬ (8 : Int32) ≤ d)
  · skip
    have hq := hq.trans (if_pos c1)
    have hlt_C : d.toNatClampNeg < 8 := w_okP (n := 8) c1 (by decide)
    refine w_finQ (v := .ref (sh (d.toNatClampNeg))) rfl (w_runV (rm := ({ frames := 0, cells := 0, slots := 0, locals := 0 } : Room)) (As := [.int d]) (rest := []) (n := 1) hx hb hml hts hown hK w (c_X5_shelfAt_some l D cI cP cS cL L _ x d x_no x_ke x_mi x_im x_sh x_co x_ot sh sh_ho rw sp h_x h_x_sh h_sh c1) gX5_depth_X5_shelfAt rfl rfl rfl (by decide +kernel) ⟨(Nat.le_of_ble_eq_true rfl), (Nat.le_of_ble_eq_true rfl)⟩ h_x rfl rfl hl.1 rfl (Nat.le_of_ble_eq_true rfl) dX5_depth_2 ⟨(Nat.le_of_ble_eq_true rfl), (Nat.le_of_ble_eq_true rfl)⟩) w hA (fun H locs w => ?_)
    refine lv_astore_n (lv' := [(2, .ref (sh (d.toNatClampNeg))), (0, .ref x), (1, .int d)]) hx hb dX5_depth_5 rfl hl (by decide) rfl (fun ls hl => ?_)
    refine lv_aload_n hx hb dX5_depth_6 rfl (lv_at hl 0 rfl) ?_
    refine w_finI (w_runS (rm := ({ frames := 1, cells := 0, slots := 0, locals := 21 } : Room)) (As := [.ref (sh (d.toNatClampNeg))]) (rest := []) (n := 1) hx hb hml hts hown hK w (c_X5_personRefusal l D cI cP cS cL L _ (sh (d.toNatClampNeg)) (sh_ho (d.toNatClampNeg)) (rw (d.toNatClampNeg)) (sp (d.toNatClampNeg)) (h_sh (d.toNatClampNeg) (by omega))) gX5_depth_X5_personRefusal rfl rfl rfl (by decide +kernel) ⟨(Nat.le_of_ble_eq_true rfl), (Nat.le_of_ble_eq_true rfl)⟩ rfl hl.1 rfl (Nat.le_of_ble_eq_true rfl) dX5_depth_7 ⟨(Nat.le_of_ble_eq_true rfl), (Nat.le_of_ble_eq_true rfl)⟩) w hA (fun H locs w => ?_)
    refine lv_istore_n (lv' := [(3, .int (f_X5_personRefusal (sh_ho (d.toNatClampNeg)))), (2, .ref (sh (d.toNatClampNeg))), (0, .ref x), (1, .int d)]) hx hb dX5_depth_10 rfl hl (by decide) rfl (fun ls hl => ?_)
    refine lv_iload_n hx hb dX5_depth_11 rfl (lv_at hl 0 rfl) ?_
    refine lv_if_eq (tgt := 23) hx hb dX5_depth_12 (by decide) (fun c2 => ?_) (fun c2 => ?_)
    · skip
      have hq := hq.trans (if_pos c2)
      refine lv_aload_n hx hb dX5_depth_23 rfl (lv_at hl 1 rfl) ?_
      refine w_get (v := .ref (sp (d.toNatClampNeg))) hx hb hts i_X4 hown hK w (h_sh (d.toNatClampNeg) (by omega)) rfl 2 (by decide) (hts _ m_0) rfl dX5_depth_24 ?_
      refine w_finI (w_runV (rm := ({ frames := 0, cells := 0, slots := 0, locals := 0 } : Room)) (As := []) (rest := []) (n := 0) hx hb hml hts hown hK w (c_X1_depthOfKind l D cI cP cS cL L _ (sp (d.toNatClampNeg)) (sp_nu (d.toNatClampNeg)) (sp_ki (d.toNatClampNeg)) (sp_st (d.toNatClampNeg)) (sp_sl (d.toNatClampNeg)) (h_sp (d.toNatClampNeg) (by omega))) gX5_depth_X1_depthOfKind rfl rfl rfl (by decide +kernel) ⟨(Nat.le_of_ble_eq_true rfl), (Nat.le_of_ble_eq_true rfl)⟩ (h_sp (d.toNatClampNeg) (by omega)) rfl rfl hl.1 rfl (Nat.le_of_ble_eq_true rfl) dX5_depth_27 ⟨(Nat.le_of_ble_eq_true rfl), (Nat.le_of_ble_eq_true rfl)⟩) w hA (fun H locs w => ?_)
      exact w_iret hx hb hr hlocks w ⟨hq.symm, rfl, rfl⟩ (Nat.le_refl _) (Nat.le_refl _) dX5_depth_30
    · skip
      have hq := hq.trans (if_neg c2)
      refine lv_ldcw (v := (-1000000000)) hx hb hown (hts _ m_2) dX5_depth_15 ?_
      refine lv_iload_n hx hb dX5_depth_18 rfl (lv_at hl 0 rfl) ?_
      refine lv_iadd hx hb dX5_depth_19 ?_
      refine lv_goto (tgt := 30) hx hb dX5_depth_20 (by decide) ?_
      exact w_iret hx hb hr hlocks w ⟨hq.symm, rfl, rfl⟩ (Nat.le_refl _) (Nat.le_refl _) dX5_depth_30
  · skip
    have hq := hq.trans (if_neg c1)
    refine w_finQ (v := .null) (by unfold f_X5_shelfAt_none; first | rfl | (split <;> rfl)) (w_runV (rm := ({ frames := 0, cells := 0, slots := 0, locals := 0 } : Room)) (As := [.int d]) (rest := []) (n := 1) hx hb hml hts hown hK w (c_X5_shelfAt_none l D cI cP cS cL L _ x d x_no x_ke x_mi x_im x_sh x_co x_ot sh h_x h_x_sh c1) gX5_depth_X5_shelfAt rfl rfl rfl (by decide +kernel) ⟨(Nat.le_of_ble_eq_true rfl), (Nat.le_of_ble_eq_true rfl)⟩ h_x rfl rfl hl.1 rfl (Nat.le_of_ble_eq_true rfl) dX5_depth_2 ⟨(Nat.le_of_ble_eq_true rfl), (Nat.le_of_ble_eq_true rfl)⟩) w hA (fun H locs w => ?_)
    refine lv_astore_nN (lv' := [(2, .null), (0, .ref x), (1, .int d)]) hx hb dX5_depth_5 rfl hl (by decide) rfl (fun ls hl => ?_)
    refine lv_aload_nN hx hb dX5_depth_6 rfl (lv_at hl 0 rfl) ?_
    refine w_finI (r := (-1)) (w_runS (rm := ({ frames := 1, cells := 0, slots := 0, locals := 21 } : Room)) (As := [.null]) (rest := []) (n := 1) hx hb hml hts hown hK w (c_X5_personRefusal_n l D cI cP cS cL L _  ) gX5_depth_X5_personRefusal rfl rfl rfl (by decide +kernel) ⟨(Nat.le_of_ble_eq_true rfl), (Nat.le_of_ble_eq_true rfl)⟩ rfl hl.1 rfl (Nat.le_of_ble_eq_true rfl) dX5_depth_7 ⟨(Nat.le_of_ble_eq_true rfl), (Nat.le_of_ble_eq_true rfl)⟩) w hA (fun H locs w => ?_)
    refine lv_istore_n (lv' := [(3, .int (-1)), (2, .null), (0, .ref x), (1, .int d)]) hx hb dX5_depth_10 rfl hl (by decide) rfl (fun ls hl => ?_)
    refine lv_iload_n hx hb dX5_depth_11 rfl (lv_at hl 0 rfl) ?_
    refine lv_if_eq (tgt := 23) hx hb dX5_depth_12 (by decide) (fun c => absurd c (by decide)) (fun _ => ?_)
    refine lv_ldcw (v := (-1000000000)) hx hb hown (hts _ m_2) dX5_depth_15 ?_
    refine lv_iload_n hx hb dX5_depth_18 rfl (lv_at hl 0 rfl) ?_
    refine lv_iadd hx hb dX5_depth_19 ?_
    refine lv_goto (tgt := 30) hx hb dX5_depth_20 (by decide) ?_
    exact w_iret hx hb hr hlocks w ⟨hq.symm, rfl, rfl⟩ (Nat.le_refl _) (Nat.le_refl _) dX5_depth_30
