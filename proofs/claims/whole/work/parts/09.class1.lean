def f_X5_shelfAt_some (i0 : Int32) (sh : Nat → Nat) : Option Nat := (some (sh (i0.toNatClampNeg)))
set_option maxHeartbeats 400000 in
set_option maxRecDepth 100000 in
theorem c_X5_shelfAt_some (l : Launch) (D : va_G) (cI cP cS cL : ClassId) (L : List Nat) (F : Nat → va_E) (x : Nat) (i0 : Int32) (x_no : Nat) (x_ke : Nat) (x_mi : Nat) (x_im : Int32) (x_sh : Nat) (x_co : Nat) (x_ot : Nat) (sh : Nat → Nat) (sh_ho : Nat → Int32) (rw : Nat → Nat) (sp : Nat → Nat) (h_x : wi L F x (eX x_no x_ke x_mi x_im x_sh x_co x_ot)) (h_x_sh : wi L F x_sh (eQ cS 8 (fun i => some (sh i)))) (h_sh : ∀ i, i < 8 → wi L F (sh i) (eS (sh_ho i) (rw i) (sp i))) (hc : ¬ i0 < 0 ∧ ¬ (8 : Int32) ≤ i0) : wMQ l D cI cP cS cL yX5_shelfAt wsX5_shelfAt ({ frames := 0, cells := 0, slots := 0, locals := 0 } : Room) [.ref x, .int i0] L F (f_X5_shelfAt_some i0 sh) F := by
  refine wM.of (cc := cX5_shelfAt) (maxL := 2) (ret := (some (.object "TwoThirds$Shelf"))) (by decide) rfl (Nat.le_of_ble_eq_true rfl) ?_
  intro pZ eZ sZ mZ below meth cZ A ls C hl w
  obtain ⟨hx, hb, hr, hml, hts, hown, hlocks, hK, hA, hin⟩ := C
  have hown : sZ.vm.findClass RX5 = some mZ.cls := hown
  have hl : lv_has ls 2 [(0, .ref x), (1, .int i0)] := hl
  have m_0 : ((.fieldLink RX5 24 "TwoThirds" "shelves" "[LTwoThirds$Shelf;") : Cond) ∈ wsX5_shelfAt := by decide +kernel
  have i_X5 : ∀ w ∈ wsX50, w ∈ wsX5_shelfAt := by decide +kernel
  have hq : f_X5_shelfAt_some i0 sh = f_X5_shelfAt_some i0 sh := rfl
  refine lv_iload_n hx hb dX5_shelfAt_0 rfl (lv_at hl 1 rfl) ?_
  refine lv_if_lt (tgt := 22) hx hb dX5_shelfAt_1 (by decide) (fun c => absurd c hc.1) (fun _ => ?_)
  refine lv_iload_n hx hb dX5_shelfAt_4 rfl (lv_at hl 1 rfl) ?_
  refine lv_aload_n hx hb dX5_shelfAt_5 rfl (lv_at hl 0 rfl) ?_
  refine w_get (v := .ref x_sh) hx hb hts i_X5 hown hK w h_x rfl 4 (by decide) (hts _ m_0) rfl dX5_shelfAt_6 ?_
  refine w_len (v := 8) hx hb hK w h_x_sh 2 rfl rfl dX5_shelfAt_9 ?_
  refine lv_icmp_ge (tgt := 22) hx hb dX5_shelfAt_10 (by decide) (fun c => absurd c hc.2) (fun _ => ?_)
  refine lv_aload_n hx hb dX5_shelfAt_13 rfl (lv_at hl 0 rfl) ?_
  refine w_get (v := .ref x_sh) hx hb hts i_X5 hown hK w h_x rfl 4 (by decide) (hts _ m_0) rfl dX5_shelfAt_14 ?_
  refine lv_iload_n hx hb dX5_shelfAt_17 rfl (lv_at hl 1 rfl) ?_
  refine w_qldS (v := .ref (sh (i0.toNatClampNeg))) hx hb hK w h_x_sh (w_incP hc (by decide)) rfl dX5_shelfAt_18 ?_
  refine lv_goto (tgt := 23) hx hb dX5_shelfAt_19 (by decide) ?_
  exact w_qret hx hb hr hlocks w (r := (some (sh (i0.toNatClampNeg)))) rfl ⟨hq.symm, rfl, rfl⟩ (Nat.le_refl _) (Nat.le_refl _) dX5_shelfAt_23
def f_X5_shelfAt_none (i0 : Int32) : Option Nat := if i0 < (0 : Int32) then none else none
set_option maxHeartbeats 400000 in
set_option maxRecDepth 100000 in
theorem c_X5_shelfAt_none (l : Launch) (D : va_G) (cI cP cS cL : ClassId) (L : List Nat) (F : Nat → va_E) (x : Nat) (i0 : Int32) (x_no : Nat) (x_ke : Nat) (x_mi : Nat) (x_im : Int32) (x_sh : Nat) (x_co : Nat) (x_ot : Nat) (sh : Nat → Nat) (h_x : wi L F x (eX x_no x_ke x_mi x_im x_sh x_co x_ot)) (h_x_sh : wi L F x_sh (eQ cS 8 (fun i => some (sh i)))) (hc : ¬ (¬ i0 < 0 ∧ ¬ (8 : Int32) ≤ i0)) : wMQ l D cI cP cS cL yX5_shelfAt wsX5_shelfAt ({ frames := 0, cells := 0, slots := 0, locals := 0 } : Room) [.ref x, .int i0] L F (f_X5_shelfAt_none i0) F := by
  refine wM.of (cc := cX5_shelfAt) (maxL := 2) (ret := (some (.object "TwoThirds$Shelf"))) (by decide) rfl (Nat.le_of_ble_eq_true rfl) ?_
  intro pZ eZ sZ mZ below meth cZ A ls C hl w
  obtain ⟨hx, hb, hr, hml, hts, hown, hlocks, hK, hA, hin⟩ := C
  have hown : sZ.vm.findClass RX5 = some mZ.cls := hown
  have hl : lv_has ls 2 [(0, .ref x), (1, .int i0)] := hl
  have m_0 : ((.fieldLink RX5 24 "TwoThirds" "shelves" "[LTwoThirds$Shelf;") : Cond) ∈ wsX5_shelfAt := by decide +kernel
  have i_X5 : ∀ w ∈ wsX50, w ∈ wsX5_shelfAt := by decide +kernel
  have hq : f_X5_shelfAt_none i0 = f_X5_shelfAt_none i0 := rfl
  refine lv_iload_n hx hb dX5_shelfAt_0 rfl (lv_at hl 1 rfl) ?_
  refine lv_if_lt (tgt := 22) hx hb dX5_shelfAt_1 (by decide) (fun c1 => ?_) (fun c1 => ?_)
  · skip
    have hq := hq.trans (if_pos c1)
    refine lv_null hx hb dX5_shelfAt_22 ?_
    exact w_qret hx hb hr hlocks w (r := none) rfl ⟨hq.symm, rfl, rfl⟩ (Nat.le_refl _) (Nat.le_refl _) dX5_shelfAt_23
  · skip
    have hq := hq.trans (if_neg c1)
    refine lv_iload_n hx hb dX5_shelfAt_4 rfl (lv_at hl 1 rfl) ?_
    refine lv_aload_n hx hb dX5_shelfAt_5 rfl (lv_at hl 0 rfl) ?_
    refine w_get (v := .ref x_sh) hx hb hts i_X5 hown hK w h_x rfl 4 (by decide) (hts _ m_0) rfl dX5_shelfAt_6 ?_
    refine w_len (v := 8) hx hb hK w h_x_sh 2 rfl rfl dX5_shelfAt_9 ?_
    refine lv_icmp_ge (tgt := 22) hx hb dX5_shelfAt_10 (by decide) (fun _ => ?_) (fun c => absurd (Classical.byContradiction fun q => hc ⟨by assumption, q⟩) c)
    refine lv_null hx hb dX5_shelfAt_22 ?_
    exact w_qret hx hb hr hlocks w (r := none) rfl ⟨hq.symm, rfl, rfl⟩ (Nat.le_refl _) (Nat.le_refl _) dX5_shelfAt_23
def f_X5_refusalUnless_n  : Int32 := (-1)
set_option maxHeartbeats 400000 in
set_option maxRecDepth 100000 in
theorem c_X5_refusalUnless_n (l : Launch) (D : va_G) (cI cP cS cL : ClassId) (L : List Nat) (F : Nat → va_E) (holding : Int32)  : wMI l D cI cP cS cL yX5_refusalUnless wsX5_refusalUnless ({ frames := 0, cells := 0, slots := 0, locals := 0 } : Room) [.null, .int holding] L F f_X5_refusalUnless_n F := by
  refine wM.of (cc := cX5_refusalUnless) (maxL := 2) (ret := (some .int)) (by decide) rfl (Nat.le_of_ble_eq_true rfl) ?_
  intro pZ eZ sZ mZ below meth cZ A ls C hl w
  obtain ⟨hx, hb, hr, hml, hts, hown, hlocks, hK, hA, hin⟩ := C
  have hown : sZ.vm.findClass RX5 = some mZ.cls := hown
  have hl : lv_has ls 2 [(0, .null), (1, .int holding)] := hl
  have hq : f_X5_refusalUnless_n = f_X5_refusalUnless_n := rfl
  refine lv_aload_nN hx hb dX5_refusalUnless_0 rfl (lv_at hl 0 rfl) ?_
  refine lv_ifnonnullN hx hb dX5_refusalUnless_1 ?_
  refine lv_iconst (v := (-1)) hx hb dX5_refusalUnless_4 (by decide) ?_
  exact w_iret hx hb hr hlocks w ⟨hq.symm, rfl, rfl⟩ (Nat.le_refl _) (Nat.le_refl _) dX5_refusalUnless_5
def f_X5_refusalUnless (holding : Int32) (s0_ho : Int32) : Int32 := if s0_ho = (0 : Int32) then (-11) else (if s0_ho = holding then 0 else (-12))
set_option maxHeartbeats 400000 in
set_option maxRecDepth 100000 in
theorem c_X5_refusalUnless (l : Launch) (D : va_G) (cI cP cS cL : ClassId) (L : List Nat) (F : Nat → va_E) (s0 : Nat) (holding : Int32) (s0_ho : Int32) (s0_ro : Nat) (s0_pe : Nat) (h_s0 : wi L F s0 (eS s0_ho s0_ro s0_pe)) : wMI l D cI cP cS cL yX5_refusalUnless wsX5_refusalUnless ({ frames := 0, cells := 0, slots := 0, locals := 0 } : Room) [.ref s0, .int holding] L F (f_X5_refusalUnless holding s0_ho) F := by
  refine wM.of (cc := cX5_refusalUnless) (maxL := 2) (ret := (some .int)) (by decide) rfl (Nat.le_of_ble_eq_true rfl) ?_
  intro pZ eZ sZ mZ below meth cZ A ls C hl w
  obtain ⟨hx, hb, hr, hml, hts, hown, hlocks, hK, hA, hin⟩ := C
  have hown : sZ.vm.findClass RX5 = some mZ.cls := hown
  have hl : lv_has ls 2 [(0, .ref s0), (1, .int holding)] := hl
  have m_0 : ((.fieldLink RX5 231 "TwoThirds$Shelf" "holding" "I") : Cond) ∈ wsX5_refusalUnless := by decide +kernel
  have i_X4 : ∀ w ∈ wsX40, w ∈ wsX5_refusalUnless := by decide +kernel
  have hq : f_X5_refusalUnless holding s0_ho = f_X5_refusalUnless holding s0_ho := rfl
  refine lv_aload_n hx hb dX5_refusalUnless_0 rfl (lv_at hl 0 rfl) ?_
  refine lv_ifnonnull (tgt := 6) hx hb dX5_refusalUnless_1 (by decide) ?_
  refine lv_aload_n hx hb dX5_refusalUnless_6 rfl (lv_at hl 0 rfl) ?_
  refine w_get (v := .int s0_ho) hx hb hts i_X4 hown hK w h_s0 rfl 0 (by decide) (hts _ m_0) rfl dX5_refusalUnless_7 ?_
  refine lv_if_ne (tgt := 16) hx hb dX5_refusalUnless_10 (by decide) (fun c1 => ?_) (fun c1 => ?_)
  · skip
    have hq := hq.trans (if_neg c1)
    refine lv_aload_n hx hb dX5_refusalUnless_16 rfl (lv_at hl 0 rfl) ?_
    refine w_get (v := .int s0_ho) hx hb hts i_X4 hown hK w h_s0 rfl 0 (by decide) (hts _ m_0) rfl dX5_refusalUnless_17 ?_
    refine lv_iload_n hx hb dX5_refusalUnless_20 rfl (lv_at hl 1 rfl) ?_
    refine lv_icmp_ne (tgt := 28) hx hb dX5_refusalUnless_21 (by decide) (fun c2 => ?_) (fun c2 => ?_)
    · skip
      have hq := hq.trans (if_neg c2)
      refine lv_bipush (v := (-12)) hx hb dX5_refusalUnless_28 (by decide) ?_
      exact w_iret hx hb hr hlocks w ⟨hq.symm, rfl, rfl⟩ (Nat.le_refl _) (Nat.le_refl _) dX5_refusalUnless_30
    · skip
      have hq := hq.trans (if_pos c2)
      refine lv_iconst (v := 0) hx hb dX5_refusalUnless_24 (by decide) ?_
      refine lv_goto (tgt := 30) hx hb dX5_refusalUnless_25 (by decide) ?_
      exact w_iret hx hb hr hlocks w ⟨hq.symm, rfl, rfl⟩ (Nat.le_refl _) (Nat.le_refl _) dX5_refusalUnless_30
  · skip
    have hq := hq.trans (if_pos c1)
    refine lv_bipush (v := (-11)) hx hb dX5_refusalUnless_13 (by decide) ?_
    exact w_iret hx hb hr hlocks w ⟨hq.symm, rfl, rfl⟩ (Nat.le_refl _) (Nat.le_refl _) dX5_refusalUnless_15
def f_X5_rowRefusal_n  : Int32 := (-1)
set_option maxHeartbeats 400000 in
set_option maxRecDepth 100000 in
theorem c_X5_rowRefusal_n (l : Launch) (D : va_G) (cI cP cS cL : ClassId) (L : List Nat) (F : Nat → va_E)   : wMI l D cI cP cS cL yX5_rowRefusal wsX5_rowRefusal ({ frames := 1, cells := 0, slots := 0, locals := 21 } : Room) [.null] L F f_X5_rowRefusal_n F := by
  refine wM.of (cc := cX5_rowRefusal) (maxL := 1) (ret := (some .int)) (by decide) rfl (Nat.le_of_ble_eq_true rfl) ?_
  intro pZ eZ sZ mZ below meth cZ A ls C hl w
  obtain ⟨hx, hb, hr, hml, hts, hown, hlocks, hK, hA, hin⟩ := C
  have hown : sZ.vm.findClass RX5 = some mZ.cls := hown
  have hl : lv_has ls 1 [(0, .null)] := hl
  have hq : f_X5_rowRefusal_n = f_X5_rowRefusal_n := rfl
  refine lv_aload_nN hx hb dX5_rowRefusal_0 rfl (lv_at hl 0 rfl) ?_
  refine lv_iconst (v := 2) hx hb dX5_rowRefusal_1 (by decide) ?_
  refine w_finI (r := (-1)) (w_runS (rm := ({ frames := 0, cells := 0, slots := 0, locals := 0 } : Room)) (As := [.null, .int 2]) (rest := []) (n := 2) hx hb hml hts hown hK w (c_X5_refusalUnless_n l D cI cP cS cL L _ 2 ) gX5_rowRefusal_X5_refusalUnless rfl rfl rfl (by decide +kernel) ⟨(Nat.le_of_ble_eq_true rfl), (Nat.le_of_ble_eq_true rfl)⟩ rfl hl.1 rfl (Nat.le_of_ble_eq_true rfl) dX5_rowRefusal_2 ⟨(Nat.le_of_ble_eq_true rfl), (Nat.le_of_ble_eq_true rfl)⟩) w hA (fun H locs w => ?_)
  exact w_iret hx hb hr hlocks w ⟨hq.symm, rfl, rfl⟩ (Nat.le_refl _) (Nat.le_refl _) dX5_rowRefusal_5
def f_X5_rowRefusal (s0_ho : Int32) : Int32 := (f_X5_refusalUnless 2 s0_ho)
set_option maxHeartbeats 400000 in
set_option maxRecDepth 100000 in
theorem c_X5_rowRefusal (l : Launch) (D : va_G) (cI cP cS cL : ClassId) (L : List Nat) (F : Nat → va_E) (s0 : Nat) (s0_ho : Int32) (s0_ro : Nat) (s0_pe : Nat) (h_s0 : wi L F s0 (eS s0_ho s0_ro s0_pe)) : wMI l D cI cP cS cL yX5_rowRefusal wsX5_rowRefusal ({ frames := 1, cells := 0, slots := 0, locals := 21 } : Room) [.ref s0] L F (f_X5_rowRefusal s0_ho) F := by
  refine wM.of (cc := cX5_rowRefusal) (maxL := 1) (ret := (some .int)) (by decide) rfl (Nat.le_of_ble_eq_true rfl) ?_
  intro pZ eZ sZ mZ below meth cZ A ls C hl w
  obtain ⟨hx, hb, hr, hml, hts, hown, hlocks, hK, hA, hin⟩ := C
  have hown : sZ.vm.findClass RX5 = some mZ.cls := hown
  have hl : lv_has ls 1 [(0, .ref s0)] := hl
  have hq : f_X5_rowRefusal s0_ho = f_X5_rowRefusal s0_ho := rfl
  refine lv_aload_n hx hb dX5_rowRefusal_0 rfl (lv_at hl 0 rfl) ?_
  refine lv_iconst (v := 2) hx hb dX5_rowRefusal_1 (by decide) ?_
  refine w_finI (w_runS (rm := ({ frames := 0, cells := 0, slots := 0, locals := 0 } : Room)) (As := [.ref s0, .int 2]) (rest := []) (n := 2) hx hb hml hts hown hK w (c_X5_refusalUnless l D cI cP cS cL L _ s0 2 s0_ho s0_ro s0_pe h_s0) gX5_rowRefusal_X5_refusalUnless rfl rfl rfl (by decide +kernel) ⟨(Nat.le_of_ble_eq_true rfl), (Nat.le_of_ble_eq_true rfl)⟩ rfl hl.1 rfl (Nat.le_of_ble_eq_true rfl) dX5_rowRefusal_2 ⟨(Nat.le_of_ble_eq_true rfl), (Nat.le_of_ble_eq_true rfl)⟩) w hA (fun H locs w => ?_)
  exact w_iret hx hb hr hlocks w ⟨hq.symm, rfl, rfl⟩ (Nat.le_refl _) (Nat.le_refl _) dX5_rowRefusal_5
def f_X5_personRefusal_n  : Int32 := (-1)
set_option maxHeartbeats 400000 in
set_option maxRecDepth 100000 in
theorem c_X5_personRefusal_n (l : Launch) (D : va_G) (cI cP cS cL : ClassId) (L : List Nat) (F : Nat → va_E)   : wMI l D cI cP cS cL yX5_personRefusal wsX5_personRefusal ({ frames := 1, cells := 0, slots := 0, locals := 21 } : Room) [.null] L F f_X5_personRefusal_n F := by
  refine wM.of (cc := cX5_personRefusal) (maxL := 1) (ret := (some .int)) (by decide) rfl (Nat.le_of_ble_eq_true rfl) ?_
  intro pZ eZ sZ mZ below meth cZ A ls C hl w
  obtain ⟨hx, hb, hr, hml, hts, hown, hlocks, hK, hA, hin⟩ := C
  have hown : sZ.vm.findClass RX5 = some mZ.cls := hown
  have hl : lv_has ls 1 [(0, .null)] := hl
  have hq : f_X5_personRefusal_n = f_X5_personRefusal_n := rfl
  refine lv_aload_nN hx hb dX5_personRefusal_0 rfl (lv_at hl 0 rfl) ?_
  refine lv_iconst (v := 1) hx hb dX5_personRefusal_1 (by decide) ?_
  refine w_finI (r := (-1)) (w_runS (rm := ({ frames := 0, cells := 0, slots := 0, locals := 0 } : Room)) (As := [.null, .int 1]) (rest := []) (n := 2) hx hb hml hts hown hK w (c_X5_refusalUnless_n l D cI cP cS cL L _ 1 ) gX5_personRefusal_X5_refusalUnless rfl rfl rfl (by decide +kernel) ⟨(Nat.le_of_ble_eq_true rfl), (Nat.le_of_ble_eq_true rfl)⟩ rfl hl.1 rfl (Nat.le_of_ble_eq_true rfl) dX5_personRefusal_2 ⟨(Nat.le_of_ble_eq_true rfl), (Nat.le_of_ble_eq_true rfl)⟩) w hA (fun H locs w => ?_)
  exact w_iret hx hb hr hlocks w ⟨hq.symm, rfl, rfl⟩ (Nat.le_refl _) (Nat.le_refl _) dX5_personRefusal_5
def f_X5_personRefusal (s0_ho : Int32) : Int32 := (f_X5_refusalUnless 1 s0_ho)
set_option maxHeartbeats 400000 in
set_option maxRecDepth 100000 in
theorem c_X5_personRefusal (l : Launch) (D : va_G) (cI cP cS cL : ClassId) (L : List Nat) (F : Nat → va_E) (s0 : Nat) (s0_ho : Int32) (s0_ro : Nat) (s0_pe : Nat) (h_s0 : wi L F s0 (eS s0_ho s0_ro s0_pe)) : wMI l D cI cP cS cL yX5_personRefusal wsX5_personRefusal ({ frames := 1, cells := 0, slots := 0, locals := 21 } : Room) [.ref s0] L F (f_X5_personRefusal s0_ho) F := by
  refine wM.of (cc := cX5_personRefusal) (maxL := 1) (ret := (some .int)) (by decide) rfl (Nat.le_of_ble_eq_true rfl) ?_
  intro pZ eZ sZ mZ below meth cZ A ls C hl w
  obtain ⟨hx, hb, hr, hml, hts, hown, hlocks, hK, hA, hin⟩ := C
  have hown : sZ.vm.findClass RX5 = some mZ.cls := hown
  have hl : lv_has ls 1 [(0, .ref s0)] := hl
  have hq : f_X5_personRefusal s0_ho = f_X5_personRefusal s0_ho := rfl
  refine lv_aload_n hx hb dX5_personRefusal_0 rfl (lv_at hl 0 rfl) ?_
  refine lv_iconst (v := 1) hx hb dX5_personRefusal_1 (by decide) ?_
  refine w_finI (w_runS (rm := ({ frames := 0, cells := 0, slots := 0, locals := 0 } : Room)) (As := [.ref s0, .int 1]) (rest := []) (n := 2) hx hb hml hts hown hK w (c_X5_refusalUnless l D cI cP cS cL L _ s0 1 s0_ho s0_ro s0_pe h_s0) gX5_personRefusal_X5_refusalUnless rfl rfl rfl (by decide +kernel) ⟨(Nat.le_of_ble_eq_true rfl), (Nat.le_of_ble_eq_true rfl)⟩ rfl hl.1 rfl (Nat.le_of_ble_eq_true rfl) dX5_personRefusal_2 ⟨(Nat.le_of_ble_eq_true rfl), (Nat.le_of_ble_eq_true rfl)⟩) w hA (fun H locs w => ?_)
  exact w_iret hx hb hr hlocks w ⟨hq.symm, rfl, rfl⟩ (Nat.le_refl _) (Nat.le_refl _) dX5_personRefusal_5
def f_X5_twoRowsRefusal_nn  : Int32 := (-1)
set_option maxHeartbeats 400000 in
set_option maxRecDepth 100000 in
theorem c_X5_twoRowsRefusal_nn (l : Launch) (D : va_G) (cI cP cS cL : ClassId) (L : List Nat) (F : Nat → va_E)   : wMI l D cI cP cS cL yX5_twoRowsRefusal wsX5_twoRowsRefusal ({ frames := 0, cells := 0, slots := 0, locals := 0 } : Room) [.null, .null] L F f_X5_twoRowsRefusal_nn F := by
  refine wM.of (cc := cX5_twoRowsRefusal) (maxL := 2) (ret := (some .int)) (by decide) rfl (Nat.le_of_ble_eq_true rfl) ?_
  intro pZ eZ sZ mZ below meth cZ A ls C hl w
  obtain ⟨hx, hb, hr, hml, hts, hown, hlocks, hK, hA, hin⟩ := C
  have hown : sZ.vm.findClass RX5 = some mZ.cls := hown
  have hl : lv_has ls 2 [(0, .null), (1, .null)] := hl
  have hq : f_X5_twoRowsRefusal_nn = f_X5_twoRowsRefusal_nn := rfl
  refine lv_aload_nN hx hb dX5_twoRowsRefusal_0 rfl (lv_at hl 0 rfl) ?_
  refine lv_ifnullN (tgt := 8) hx hb dX5_twoRowsRefusal_1 (by decide) ?_
  refine lv_iconst (v := (-1)) hx hb dX5_twoRowsRefusal_8 (by decide) ?_
  exact w_iret hx hb hr hlocks w ⟨hq.symm, rfl, rfl⟩ (Nat.le_refl _) (Nat.le_refl _) dX5_twoRowsRefusal_9
def f_X5_twoRowsRefusal_nr  : Int32 := (-1)
set_option maxHeartbeats 400000 in
set_option maxRecDepth 100000 in
theorem c_X5_twoRowsRefusal_nr (l : Launch) (D : va_G) (cI cP cS cL : ClassId) (L : List Nat) (F : Nat → va_E) (s1 : Nat) (s1_ho : Int32) (s1_ro : Nat) (s1_pe : Nat) (h_s1 : wi L F s1 (eS s1_ho s1_ro s1_pe)) : wMI l D cI cP cS cL yX5_twoRowsRefusal wsX5_twoRowsRefusal ({ frames := 0, cells := 0, slots := 0, locals := 0 } : Room) [.null, .ref s1] L F f_X5_twoRowsRefusal_nr F := by
  refine wM.of (cc := cX5_twoRowsRefusal) (maxL := 2) (ret := (some .int)) (by decide) rfl (Nat.le_of_ble_eq_true rfl) ?_
  intro pZ eZ sZ mZ below meth cZ A ls C hl w
  obtain ⟨hx, hb, hr, hml, hts, hown, hlocks, hK, hA, hin⟩ := C
  have hown : sZ.vm.findClass RX5 = some mZ.cls := hown
  have hl : lv_has ls 2 [(0, .null), (1, .ref s1)] := hl
  have hq : f_X5_twoRowsRefusal_nr = f_X5_twoRowsRefusal_nr := rfl
  refine lv_aload_nN hx hb dX5_twoRowsRefusal_0 rfl (lv_at hl 0 rfl) ?_
  refine lv_ifnullN (tgt := 8) hx hb dX5_twoRowsRefusal_1 (by decide) ?_
  refine lv_iconst (v := (-1)) hx hb dX5_twoRowsRefusal_8 (by decide) ?_
  exact w_iret hx hb hr hlocks w ⟨hq.symm, rfl, rfl⟩ (Nat.le_refl _) (Nat.le_refl _) dX5_twoRowsRefusal_9
def f_X5_twoRowsRefusal_rn  : Int32 := (-1)
set_option maxHeartbeats 400000 in
set_option maxRecDepth 100000 in
theorem c_X5_twoRowsRefusal_rn (l : Launch) (D : va_G) (cI cP cS cL : ClassId) (L : List Nat) (F : Nat → va_E) (s0 : Nat) (s0_ho : Int32) (s0_ro : Nat) (s0_pe : Nat) (h_s0 : wi L F s0 (eS s0_ho s0_ro s0_pe)) : wMI l D cI cP cS cL yX5_twoRowsRefusal wsX5_twoRowsRefusal ({ frames := 0, cells := 0, slots := 0, locals := 0 } : Room) [.ref s0, .null] L F f_X5_twoRowsRefusal_rn F := by
  refine wM.of (cc := cX5_twoRowsRefusal) (maxL := 2) (ret := (some .int)) (by decide) rfl (Nat.le_of_ble_eq_true rfl) ?_
  intro pZ eZ sZ mZ below meth cZ A ls C hl w
  obtain ⟨hx, hb, hr, hml, hts, hown, hlocks, hK, hA, hin⟩ := C
  have hown : sZ.vm.findClass RX5 = some mZ.cls := hown
  have hl : lv_has ls 2 [(0, .ref s0), (1, .null)] := hl
  have hq : f_X5_twoRowsRefusal_rn = f_X5_twoRowsRefusal_rn := rfl
  refine lv_aload_n hx hb dX5_twoRowsRefusal_0 rfl (lv_at hl 0 rfl) ?_
  refine lv_ifnull hx hb dX5_twoRowsRefusal_1 ?_
  refine lv_aload_nN hx hb dX5_twoRowsRefusal_4 rfl (lv_at hl 1 rfl) ?_
  refine lv_ifnonnullN hx hb dX5_twoRowsRefusal_5 ?_
  refine lv_iconst (v := (-1)) hx hb dX5_twoRowsRefusal_8 (by decide) ?_
  exact w_iret hx hb hr hlocks w ⟨hq.symm, rfl, rfl⟩ (Nat.le_refl _) (Nat.le_refl _) dX5_twoRowsRefusal_9
def f_X5_twoRowsRefusal (s0_ho : Int32) (s1_ho : Int32) : Int32 := if s0_ho = (0 : Int32) then (-11) else (if s1_ho = (0 : Int32) then (-11) else (if s0_ho = (2 : Int32) then (if s1_ho = (2 : Int32) then 0 else (-12)) else (-12)))
set_option maxHeartbeats 400000 in
set_option maxRecDepth 100000 in
theorem c_X5_twoRowsRefusal (l : Launch) (D : va_G) (cI cP cS cL : ClassId) (L : List Nat) (F : Nat → va_E) (s0 : Nat) (s1 : Nat) (s0_ho : Int32) (s0_ro : Nat) (s0_pe : Nat) (s1_ho : Int32) (s1_ro : Nat) (s1_pe : Nat) (h_s0 : wi L F s0 (eS s0_ho s0_ro s0_pe)) (h_s1 : wi L F s1 (eS s1_ho s1_ro s1_pe)) : wMI l D cI cP cS cL yX5_twoRowsRefusal wsX5_twoRowsRefusal ({ frames := 0, cells := 0, slots := 0, locals := 0 } : Room) [.ref s0, .ref s1] L F (f_X5_twoRowsRefusal s0_ho s1_ho) F := by
  refine wM.of (cc := cX5_twoRowsRefusal) (maxL := 2) (ret := (some .int)) (by decide) rfl (Nat.le_of_ble_eq_true rfl) ?_
  intro pZ eZ sZ mZ below meth cZ A ls C hl w
  obtain ⟨hx, hb, hr, hml, hts, hown, hlocks, hK, hA, hin⟩ := C
  have hown : sZ.vm.findClass RX5 = some mZ.cls := hown
  have hl : lv_has ls 2 [(0, .ref s0), (1, .ref s1)] := hl
  have m_0 : ((.fieldLink RX5 231 "TwoThirds$Shelf" "holding" "I") : Cond) ∈ wsX5_twoRowsRefusal := by decide +kernel
  have i_X4 : ∀ w ∈ wsX40, w ∈ wsX5_twoRowsRefusal := by decide +kernel
  have hq : f_X5_twoRowsRefusal s0_ho s1_ho = f_X5_twoRowsRefusal s0_ho s1_ho := rfl
  refine lv_aload_n hx hb dX5_twoRowsRefusal_0 rfl (lv_at hl 0 rfl) ?_
  refine lv_ifnull hx hb dX5_twoRowsRefusal_1 ?_
  refine lv_aload_n hx hb dX5_twoRowsRefusal_4 rfl (lv_at hl 1 rfl) ?_
  refine lv_ifnonnull (tgt := 10) hx hb dX5_twoRowsRefusal_5 (by decide) ?_
  refine lv_aload_n hx hb dX5_twoRowsRefusal_10 rfl (lv_at hl 0 rfl) ?_
  refine w_get (v := .int s0_ho) hx hb hts i_X4 hown hK w h_s0 rfl 0 (by decide) (hts _ m_0) rfl dX5_twoRowsRefusal_11 ?_
  refine lv_if_eq (tgt := 24) hx hb dX5_twoRowsRefusal_14 (by decide) (fun c1 => ?_) (fun c1 => ?_)
  · skip
    have hq := hq.trans (if_pos c1)
    refine lv_bipush (v := (-11)) hx hb dX5_twoRowsRefusal_24 (by decide) ?_
    exact w_iret hx hb hr hlocks w ⟨hq.symm, rfl, rfl⟩ (Nat.le_refl _) (Nat.le_refl _) dX5_twoRowsRefusal_26
  · skip
    have hq := hq.trans (if_neg c1)
    refine lv_aload_n hx hb dX5_twoRowsRefusal_17 rfl (lv_at hl 1 rfl) ?_
    refine w_get (v := .int s1_ho) hx hb hts i_X4 hown hK w h_s1 rfl 0 (by decide) (hts _ m_0) rfl dX5_twoRowsRefusal_18 ?_
    refine lv_if_ne (tgt := 27) hx hb dX5_twoRowsRefusal_21 (by decide) (fun c2 => ?_) (fun c2 => ?_)
    · skip
      have hq := hq.trans (if_neg c2)
      refine lv_aload_n hx hb dX5_twoRowsRefusal_27 rfl (lv_at hl 0 rfl) ?_
      refine w_get (v := .int s0_ho) hx hb hts i_X4 hown hK w h_s0 rfl 0 (by decide) (hts _ m_0) rfl dX5_twoRowsRefusal_28 ?_
      refine lv_iconst (v := 2) hx hb dX5_twoRowsRefusal_31 (by decide) ?_
      refine lv_icmp_ne (tgt := 47) hx hb dX5_twoRowsRefusal_32 (by decide) (fun c3 => ?_) (fun c3 => ?_)
      · skip
        have hq := hq.trans (if_neg c3)
        refine lv_bipush (v := (-12)) hx hb dX5_twoRowsRefusal_47 (by decide) ?_
        exact w_iret hx hb hr hlocks w ⟨hq.symm, rfl, rfl⟩ (Nat.le_refl _) (Nat.le_refl _) dX5_twoRowsRefusal_49
      · skip
        have hq := hq.trans (if_pos c3)
        refine lv_aload_n hx hb dX5_twoRowsRefusal_35 rfl (lv_at hl 1 rfl) ?_
        refine w_get (v := .int s1_ho) hx hb hts i_X4 hown hK w h_s1 rfl 0 (by decide) (hts _ m_0) rfl dX5_twoRowsRefusal_36 ?_
        refine lv_iconst (v := 2) hx hb dX5_twoRowsRefusal_39 (by decide) ?_
        refine lv_icmp_ne (tgt := 47) hx hb dX5_twoRowsRefusal_40 (by decide) (fun c4 => ?_) (fun c4 => ?_)
        · skip
          have hq := hq.trans (if_neg c4)
          refine lv_bipush (v := (-12)) hx hb dX5_twoRowsRefusal_47 (by decide) ?_
          exact w_iret hx hb hr hlocks w ⟨hq.symm, rfl, rfl⟩ (Nat.le_refl _) (Nat.le_refl _) dX5_twoRowsRefusal_49
        · skip
          have hq := hq.trans (if_pos c4)
          refine lv_iconst (v := 0) hx hb dX5_twoRowsRefusal_43 (by decide) ?_
          refine lv_goto (tgt := 49) hx hb dX5_twoRowsRefusal_44 (by decide) ?_
          exact w_iret hx hb hr hlocks w ⟨hq.symm, rfl, rfl⟩ (Nat.le_refl _) (Nat.le_refl _) dX5_twoRowsRefusal_49
    · skip
      have hq := hq.trans (if_pos c2)
      refine lv_bipush (v := (-11)) hx hb dX5_twoRowsRefusal_24 (by decide) ?_
      exact w_iret hx hb hr hlocks w ⟨hq.symm, rfl, rfl⟩ (Nat.le_refl _) (Nat.le_refl _) dX5_twoRowsRefusal_26
def f_X5_cardsRefusal_n  : Int32 := (-1)
set_option maxHeartbeats 400000 in
set_option maxRecDepth 100000 in
theorem c_X5_cardsRefusal_n (l : Launch) (D : va_G) (cI cP cS cL : ClassId) (L : List Nat) (F : Nat → va_E) (x : Nat) (x_no : Nat) (x_ke : Nat) (x_mi : Nat) (x_im : Int32) (x_sh : Nat) (x_co : Nat) (x_ot : Nat) (h_x : wi L F x (eX x_no x_ke x_mi x_im x_sh x_co x_ot)) : wMI l D cI cP cS cL yX5_cardsRefusal wsX5_cardsRefusal ({ frames := 2, cells := 0, slots := 0, locals := 41 } : Room) [.ref x, .null] L F f_X5_cardsRefusal_n F := by
  refine wM.of (cc := cX5_cardsRefusal) (maxL := 3) (ret := (some .int)) (by decide) rfl (Nat.le_of_ble_eq_true rfl) ?_
  intro pZ eZ sZ mZ below meth cZ A ls C hl w
  obtain ⟨hx, hb, hr, hml, hts, hown, hlocks, hK, hA, hin⟩ := C
  have hown : sZ.vm.findClass RX5 = some mZ.cls := hown
  have hl : lv_has ls 3 [(0, .ref x), (1, .null)] := hl
  have hq : f_X5_cardsRefusal_n = f_X5_cardsRefusal_n := rfl
  refine lv_aload_nN hx hb dX5_cardsRefusal_0 rfl (lv_at hl 1 rfl) ?_
  refine w_finI (r := (-1)) (w_runS (rm := ({ frames := 1, cells := 0, slots := 0, locals := 21 } : Room)) (As := [.null]) (rest := []) (n := 1) hx hb hml hts hown hK w (c_X5_rowRefusal_n l D cI cP cS cL L _  ) gX5_cardsRefusal_X5_rowRefusal rfl rfl rfl (by decide +kernel) ⟨(Nat.le_of_ble_eq_true rfl), (Nat.le_of_ble_eq_true rfl)⟩ rfl hl.1 rfl (Nat.le_of_ble_eq_true rfl) dX5_cardsRefusal_1 ⟨(Nat.le_of_ble_eq_true rfl), (Nat.le_of_ble_eq_true rfl)⟩) w hA (fun H locs w => ?_)
  refine lv_istore_n (lv' := [(2, .int (-1)), (0, .ref x), (1, .null)]) hx hb dX5_cardsRefusal_4 rfl hl (by decide) rfl (fun ls hl => ?_)
  refine lv_iload_n hx hb dX5_cardsRefusal_5 rfl (lv_at hl 0 rfl) ?_
  refine lv_if_eq (tgt := 11) hx hb dX5_cardsRefusal_6 (by decide) (fun c => absurd c (by decide)) (fun _ => ?_)
  refine lv_iload_n hx hb dX5_cardsRefusal_9 rfl (lv_at hl 0 rfl) ?_
  exact w_iret hx hb hr hlocks w ⟨hq.symm, rfl, rfl⟩ (Nat.le_refl _) (Nat.le_refl _) dX5_cardsRefusal_10
def f_X5_cardsRefusal (x_no_high : Int32) (s0_ho : Int32) (s0_ro_sz : Int32) (s0_ro_e_f : Nat → Int32) : Int32 := if (f_X5_rowRefusal s0_ho) = (0 : Int32) then (if (f_X0_areCards x_no_high s0_ro_sz s0_ro_e_f) = (0 : Int32) then (-13) else 0) else (f_X5_rowRefusal s0_ho)
set_option maxHeartbeats 400000 in
set_option maxRecDepth 100000 in
theorem c_X5_cardsRefusal (l : Launch) (D : va_G) (cI cP cS cL : ClassId) (L : List Nat) (F : Nat → va_E) (x : Nat) (s0 : Nat) (x_no : Nat) (x_ke : Nat) (x_mi : Nat) (x_im : Int32) (x_sh : Nat) (x_co : Nat) (x_ot : Nat) (x_no_up : Int32) (x_no_down : Int32) (x_no_high : Int32) (x_no_prize : Int32) (x_no_z : Int32) (x_no_rounds : Int32) (x_no_people : Int32) (x_no_pa : Nat) (x_no_cr : Nat) (x_no_ls : Int32) (s0_ho : Int32) (s0_ro : Nat) (s0_pe : Nat) (s0_ro_e : Nat) (s0_ro_so : Int32) (s0_ro_sz : Int32) (s0_ro_e_n : Nat) (s0_ro_e_f : Nat → Int32) (h_x : wi L F x (eX x_no x_ke x_mi x_im x_sh x_co x_ot)) (h_x_no : wi L F x_no (eG x_no_up x_no_down x_no_high x_no_prize x_no_z x_no_rounds x_no_people x_no_pa x_no_cr x_no_ls)) (h_s0 : wi L F s0 (eS s0_ho s0_ro s0_pe)) (h_s0_ro : wi L F s0_ro (eR s0_ro_e s0_ro_so s0_ro_sz)) (h_s0_ro_e : wi L F s0_ro_e (eI cI s0_ro_e_n s0_ro_e_f)) (hz : s0_ro_sz.toInt ≤ s0_ro_e_n) : wMI l D cI cP cS cL yX5_cardsRefusal wsX5_cardsRefusal ({ frames := 3, cells := 0, slots := 0, locals := 64 } : Room) [.ref x, .ref s0] L F (f_X5_cardsRefusal x_no_high s0_ho s0_ro_sz s0_ro_e_f) F := by
  refine wM.of (cc := cX5_cardsRefusal) (maxL := 3) (ret := (some .int)) (by decide) rfl (Nat.le_of_ble_eq_true rfl) ?_
  intro pZ eZ sZ mZ below meth cZ A ls C hl w
  obtain ⟨hx, hb, hr, hml, hts, hown, hlocks, hK, hA, hin⟩ := C
  have hown : sZ.vm.findClass RX5 = some mZ.cls := hown
  have hl : lv_has ls 3 [(0, .ref x), (1, .ref s0)] := hl
  have m_0 : ((.fieldLink RX5 10 "TwoThirds" "now" "LTwoThirds$Game;") : Cond) ∈ wsX5_cardsRefusal := by decide +kernel
  have i_X5 : ∀ w ∈ wsX50, w ∈ wsX5_cardsRefusal := by decide +kernel
  have m_2 : ((.fieldLink RX5 44 "TwoThirds$Shelf" "row" "LTwoThirds$Row;") : Cond) ∈ wsX5_cardsRefusal := by decide +kernel
  have i_X4 : ∀ w ∈ wsX40, w ∈ wsX5_cardsRefusal := by decide +kernel
  have hq : f_X5_cardsRefusal x_no_high s0_ho s0_ro_sz s0_ro_e_f = f_X5_cardsRefusal x_no_high s0_ho s0_ro_sz s0_ro_e_f := rfl
  refine lv_aload_n hx hb dX5_cardsRefusal_0 rfl (lv_at hl 1 rfl) ?_
  refine w_finI (w_runS (rm := ({ frames := 1, cells := 0, slots := 0, locals := 21 } : Room)) (As := [.ref s0]) (rest := []) (n := 1) hx hb hml hts hown hK w (c_X5_rowRefusal l D cI cP cS cL L _ s0 s0_ho s0_ro s0_pe h_s0) gX5_cardsRefusal_X5_rowRefusal rfl rfl rfl (by decide +kernel) ⟨(Nat.le_of_ble_eq_true rfl), (Nat.le_of_ble_eq_true rfl)⟩ rfl hl.1 rfl (Nat.le_of_ble_eq_true rfl) dX5_cardsRefusal_1 ⟨(Nat.le_of_ble_eq_true rfl), (Nat.le_of_ble_eq_true rfl)⟩) w hA (fun H locs w => ?_)
  refine lv_istore_n (lv' := [(2, .int (f_X5_rowRefusal s0_ho)), (0, .ref x), (1, .ref s0)]) hx hb dX5_cardsRefusal_4 rfl hl (by decide) rfl (fun ls hl => ?_)
  refine lv_iload_n hx hb dX5_cardsRefusal_5 rfl (lv_at hl 0 rfl) ?_
  refine lv_if_eq (tgt := 11) hx hb dX5_cardsRefusal_6 (by decide) (fun c1 => ?_) (fun c1 => ?_)
  · skip
    have hq := hq.trans (if_pos c1)
    refine lv_aload_n hx hb dX5_cardsRefusal_11 rfl (lv_at hl 1 rfl) ?_
    refine w_get (v := .ref x_no) hx hb hts i_X5 hown hK w h_x rfl 0 (by decide) (hts _ m_0) rfl dX5_cardsRefusal_12 ?_
    refine lv_aload_n hx hb dX5_cardsRefusal_15 rfl (lv_at hl 2 rfl) ?_
    refine w_get (v := .ref s0_ro) hx hb hts i_X4 hown hK w h_s0 rfl 1 (by decide) (hts _ m_2) rfl dX5_cardsRefusal_16 ?_
    refine w_finI (w_runV (rm := ({ frames := 2, cells := 0, slots := 0, locals := 42 } : Room)) (As := [.ref s0_ro]) (rest := []) (n := 1) hx hb hml hts hown hK w (c_X0_areCards l D cI cP cS cL L _ x_no s0_ro x_no_up x_no_down x_no_high x_no_prize x_no_z x_no_rounds x_no_people x_no_pa x_no_cr x_no_ls s0_ro_e s0_ro_so s0_ro_sz s0_ro_e_n s0_ro_e_f h_x_no h_s0_ro h_s0_ro_e hz) gX5_cardsRefusal_X0_areCards rfl rfl rfl (by decide +kernel) ⟨(Nat.le_of_ble_eq_true rfl), (Nat.le_of_ble_eq_true rfl)⟩ h_x_no rfl rfl hl.1 rfl (Nat.le_of_ble_eq_true rfl) dX5_cardsRefusal_19 ⟨(Nat.le_of_ble_eq_true rfl), (Nat.le_of_ble_eq_true rfl)⟩) w hA (fun H locs w => ?_)
    refine lv_if_eq (tgt := 29) hx hb dX5_cardsRefusal_22 (by decide) (fun c2 => ?_) (fun c2 => ?_)
    · skip
      have hq := hq.trans (if_pos c2)
      refine lv_bipush (v := (-13)) hx hb dX5_cardsRefusal_29 (by decide) ?_
      exact w_iret hx hb hr hlocks w ⟨hq.symm, rfl, rfl⟩ (Nat.le_refl _) (Nat.le_refl _) dX5_cardsRefusal_31
    · skip
      have hq := hq.trans (if_neg c2)
      refine lv_iconst (v := 0) hx hb dX5_cardsRefusal_25 (by decide) ?_
      refine lv_goto (tgt := 31) hx hb dX5_cardsRefusal_26 (by decide) ?_
      exact w_iret hx hb hr hlocks w ⟨hq.symm, rfl, rfl⟩ (Nat.le_refl _) (Nat.le_refl _) dX5_cardsRefusal_31
  · skip
    have hq := hq.trans (if_neg c1)
    refine lv_iload_n hx hb dX5_cardsRefusal_9 rfl (lv_at hl 0 rfl) ?_
    exact w_iret hx hb hr hlocks w ⟨hq.symm, rfl, rfl⟩ (Nat.le_refl _) (Nat.le_refl _) dX5_cardsRefusal_10
def f_X5_of (person : Int32) (what : Int32) (x_no_rounds : Int32) (x_no_people : Int32) (x_no_cr_sz : Int32) (x_no_cr_e_f : Nat → Int32) (pr_ki : Nat → Int32) (pr_st : Nat → Int32) (pr_sl : Nat → Int32) : Int32 := if (¬ person < 0 ∧ ¬ x_no_people ≤ person) then (if what = (0 : Int32) then (pr_ki (person.toNatClampNeg)) else (if what = (1 : Int32) then (pr_st (person.toNatClampNeg)) else (if what = (2 : Int32) then (pr_sl (person.toNatClampNeg)) else (if what = (3 : Int32) then (if x_no_rounds = (0 : Int32) then (-4) else (f_X3_at person x_no_cr_sz x_no_cr_e_f)) else (-1))))) else (-1)
set_option maxHeartbeats 400000 in
set_option maxRecDepth 100000 in
theorem c_X5_of (l : Launch) (D : va_G) (cI cP cS cL : ClassId) (L : List Nat) (F : Nat → va_E) (x : Nat) (person : Int32) (what : Int32) (x_no : Nat) (x_ke : Nat) (x_mi : Nat) (x_im : Int32) (x_sh : Nat) (x_co : Nat) (x_ot : Nat) (x_no_up : Int32) (x_no_down : Int32) (x_no_high : Int32) (x_no_prize : Int32) (x_no_z : Int32) (x_no_rounds : Int32) (x_no_people : Int32) (x_no_pa : Nat) (x_no_cr : Nat) (x_no_ls : Int32) (x_no_cr_e : Nat) (x_no_cr_so : Int32) (x_no_cr_sz : Int32) (x_no_cr_e_f : Nat → Int32) (pr : Nat → Nat) (pr_nu : Nat → Int32) (pr_ki : Nat → Int32) (pr_st : Nat → Int32) (pr_sl : Nat → Int32) (h_x : wi L F x (eX x_no x_ke x_mi x_im x_sh x_co x_ot)) (h_x_no : wi L F x_no (eG x_no_up x_no_down x_no_high x_no_prize x_no_z x_no_rounds x_no_people x_no_pa x_no_cr x_no_ls)) (h_x_no_pa : wi L F x_no_pa (eQ cP 12 (fun i => some (pr i)))) (h_x_no_cr : wi L F x_no_cr (eR x_no_cr_e x_no_cr_so x_no_cr_sz)) (h_x_no_cr_e : wi L F x_no_cr_e (eI cI 12 x_no_cr_e_f)) (h_pr : ∀ i, i < 12 → wi L F (pr i) (eP (pr_nu i) (pr_ki i) (pr_st i) (pr_sl i))) (hpp : x_no_people.toInt ≤ 12) (hzc : x_no_cr_sz.toInt ≤ 12) : wMI l D cI cP cS cL yX5_of wsX5_of ({ frames := 2, cells := 0, slots := 0, locals := 42 } : Room) [.ref x, .int person, .int what] L F (f_X5_of person what x_no_rounds x_no_people x_no_cr_sz x_no_cr_e_f pr_ki pr_st pr_sl) F := by
  refine wM.of (cc := cX5_of) (maxL := 4) (ret := (some .int)) (by decide) rfl (Nat.le_of_ble_eq_true rfl) ?_
  intro pZ eZ sZ mZ below meth cZ A ls C hl w
  obtain ⟨hx, hb, hr, hml, hts, hown, hlocks, hK, hA, hin⟩ := C
  have hown : sZ.vm.findClass RX5 = some mZ.cls := hown
  have hl : lv_has ls 4 [(0, .ref x), (1, .int person), (2, .int what)] := hl
  have m_0 : ((.fieldLink RX5 10 "TwoThirds" "now" "LTwoThirds$Game;") : Cond) ∈ wsX5_of := by decide +kernel
  have i_X5 : ∀ w ∈ wsX50, w ∈ wsX5_of := by decide +kernel
  have m_2 : ((.fieldLink RX5 82 "TwoThirds$Person" "kind" "I") : Cond) ∈ wsX5_of := by decide +kernel
  have i_X1 : ∀ w ∈ wsX10, w ∈ wsX5_of := by decide +kernel
  have m_4 : ((.fieldLink RX5 87 "TwoThirds$Person" "stepCount" "I") : Cond) ∈ wsX5_of := by decide +kernel
  have m_5 : ((.fieldLink RX5 90 "TwoThirds$Person" "slip" "I") : Cond) ∈ wsX5_of := by decide +kernel
  have m_6 : ((.fieldLink RX5 93 "TwoThirds$Game" "rounds" "I") : Cond) ∈ wsX5_of := by decide +kernel
  have i_X0 : ∀ w ∈ wsX00, w ∈ wsX5_of := by decide +kernel
  have m_8 : ((.fieldLink RX5 96 "TwoThirds$Game" "cards" "LTwoThirds$Row;") : Cond) ∈ wsX5_of := by decide +kernel
  have hq : f_X5_of person what x_no_rounds x_no_people x_no_cr_sz x_no_cr_e_f pr_ki pr_st pr_sl = f_X5_of person what x_no_rounds x_no_people x_no_cr_sz x_no_cr_e_f pr_ki pr_st pr_sl := rfl
  refine lv_aload_n hx hb dX5_of_0 rfl (lv_at hl 0 rfl) ?_
  refine w_get (v := .ref x_no) hx hb hts i_X5 hown hK w h_x rfl 0 (by decide) (hts _ m_0) rfl dX5_of_1 ?_
  refine lv_iload_n hx hb dX5_of_4 rfl (lv_at hl 1 rfl) ?_
  by_cases c1 : (¬ person < 0 ∧ ¬ x_no_people ≤ person)
  · skip
    have hq := hq.trans (if_pos c1)
    have hlt_C : person.toNatClampNeg < 12 := w_okP c1 hpp
    refine w_finQ (v := .ref (pr (person.toNatClampNeg))) rfl (w_runV (rm := ({ frames := 0, cells := 0, slots := 0, locals := 0 } : Room)) (As := [.int person]) (rest := []) (n := 1) hx hb hml hts hown hK w (c_X0_personAt_some l D cI cP cS cL L _ x_no person x_no_up x_no_down x_no_high x_no_prize x_no_z x_no_rounds x_no_people x_no_pa x_no_cr x_no_ls pr pr_nu pr_ki pr_st pr_sl h_x_no h_x_no_pa h_pr c1 hpp) gX5_of_X0_personAt rfl rfl rfl (by decide +kernel) ⟨(Nat.le_of_ble_eq_true rfl), (Nat.le_of_ble_eq_true rfl)⟩ h_x_no rfl rfl hl.1 rfl (Nat.le_of_ble_eq_true rfl) dX5_of_5 ⟨(Nat.le_of_ble_eq_true rfl), (Nat.le_of_ble_eq_true rfl)⟩) w hA (fun H locs w => ?_)
    refine lv_astore_n (lv' := [(3, .ref (pr (person.toNatClampNeg))), (0, .ref x), (1, .int person), (2, .int what)]) hx hb dX5_of_8 rfl hl (by decide) rfl (fun ls hl => ?_)
    refine lv_aload_n hx hb dX5_of_9 rfl (lv_at hl 0 rfl) ?_
    refine lv_ifnonnull (tgt := 15) hx hb dX5_of_10 (by decide) ?_
    refine lv_iload_n hx hb dX5_of_15 rfl (lv_at hl 3 rfl) ?_
    by_cases c2 : what = (0 : Int32)
    · skip
      have hq := hq.trans (if_pos c2)
      refine w_ts (v := 0) (off := 32) (tgt := 48) hx hb dX5_of_16 c2 (by decide) (by decide) rfl (by decide) ?_
      refine lv_aload_n hx hb dX5_of_48 rfl (lv_at hl 0 rfl) ?_
      refine w_get (v := .int (pr_ki (person.toNatClampNeg))) hx hb hts i_X1 hown hK w (h_pr (person.toNatClampNeg) (by omega)) rfl 1 (by decide) (hts _ m_2) rfl dX5_of_49 ?_
      exact w_iret hx hb hr hlocks w ⟨hq.symm, rfl, rfl⟩ (Nat.le_refl _) (Nat.le_refl _) dX5_of_52
    · skip
      have hq := hq.trans (if_neg c2)
      by_cases c3 : what = (1 : Int32)
      · skip
        have hq := hq.trans (if_pos c3)
        refine w_ts (v := 1) (off := 37) (tgt := 53) hx hb dX5_of_16 c3 (by decide) (by decide) rfl (by decide) ?_
        refine lv_aload_n hx hb dX5_of_53 rfl (lv_at hl 0 rfl) ?_
        refine w_get (v := .int (pr_st (person.toNatClampNeg))) hx hb hts i_X1 hown hK w (h_pr (person.toNatClampNeg) (by omega)) rfl 2 (by decide) (hts _ m_4) rfl dX5_of_54 ?_
        exact w_iret hx hb hr hlocks w ⟨hq.symm, rfl, rfl⟩ (Nat.le_refl _) (Nat.le_refl _) dX5_of_57
      · skip
        have hq := hq.trans (if_neg c3)
        by_cases c4 : what = (2 : Int32)
        · skip
          have hq := hq.trans (if_pos c4)
          refine w_ts (v := 2) (off := 42) (tgt := 58) hx hb dX5_of_16 c4 (by decide) (by decide) rfl (by decide) ?_
          refine lv_aload_n hx hb dX5_of_58 rfl (lv_at hl 0 rfl) ?_
          refine w_get (v := .int (pr_sl (person.toNatClampNeg))) hx hb hts i_X1 hown hK w (h_pr (person.toNatClampNeg) (by omega)) rfl 3 (by decide) (hts _ m_5) rfl dX5_of_59 ?_
          exact w_iret hx hb hr hlocks w ⟨hq.symm, rfl, rfl⟩ (Nat.le_refl _) (Nat.le_refl _) dX5_of_62
        · skip
          have hq := hq.trans (if_neg c4)
          by_cases c5 : what = (3 : Int32)
          · skip
            have hq := hq.trans (if_pos c5)
            refine w_ts (v := 3) (off := 47) (tgt := 63) hx hb dX5_of_16 c5 (by decide) (by decide) rfl (by decide) ?_
            refine lv_aload_n hx hb dX5_of_63 rfl (lv_at hl 1 rfl) ?_
            refine w_get (v := .ref x_no) hx hb hts i_X5 hown hK w h_x rfl 0 (by decide) (hts _ m_0) rfl dX5_of_64 ?_
            refine w_get (v := .int x_no_rounds) hx hb hts i_X0 hown hK w h_x_no rfl 5 (by decide) (hts _ m_6) rfl dX5_of_67 ?_
            refine lv_if_ne (tgt := 78) hx hb dX5_of_70 (by decide) (fun c6 => ?_) (fun c6 => ?_)
            · skip
              have hq := hq.trans (if_neg c6)
              refine lv_aload_n hx hb dX5_of_78 rfl (lv_at hl 1 rfl) ?_
              refine w_get (v := .ref x_no) hx hb hts i_X5 hown hK w h_x rfl 0 (by decide) (hts _ m_0) rfl dX5_of_79 ?_
              refine w_get (v := .ref x_no_cr) hx hb hts i_X0 hown hK w h_x_no rfl 8 (by decide) (hts _ m_8) rfl dX5_of_82 ?_
              refine lv_iload_n hx hb dX5_of_85 rfl (lv_at hl 2 rfl) ?_
              refine w_finI (w_runV (rm := ({ frames := 1, cells := 0, slots := 0, locals := 21 } : Room)) (As := [.int person]) (rest := []) (n := 1) hx hb hml hts hown hK w (c_X3_at l D cI cP cS cL L _ x_no_cr person x_no_cr_e x_no_cr_so x_no_cr_sz 12 x_no_cr_e_f h_x_no_cr h_x_no_cr_e hzc) gX5_of_X3_at rfl rfl rfl (by decide +kernel) ⟨(Nat.le_of_ble_eq_true rfl), (Nat.le_of_ble_eq_true rfl)⟩ h_x_no_cr rfl rfl hl.1 rfl (Nat.le_of_ble_eq_true rfl) dX5_of_86 ⟨(Nat.le_of_ble_eq_true rfl), (Nat.le_of_ble_eq_true rfl)⟩) w hA (fun H locs w => ?_)
              exact w_iret hx hb hr hlocks w ⟨hq.symm, rfl, rfl⟩ (Nat.le_refl _) (Nat.le_refl _) dX5_of_89
            · skip
              have hq := hq.trans (if_pos c6)
              refine lv_bipush (v := (-4)) hx hb dX5_of_73 (by decide) ?_
              refine lv_goto (tgt := 89) hx hb dX5_of_75 (by decide) ?_
              exact w_iret hx hb hr hlocks w ⟨hq.symm, rfl, rfl⟩ (Nat.le_refl _) (Nat.le_refl _) dX5_of_89
          · skip
            have hq := hq.trans (if_neg c5)
            refine lv_tableOut (tgt := 90) hx hb dX5_of_16 (by have q0 : ¬ what.toInt = 0 := w_ne c2 rfl; have q1 : ¬ what.toInt = 1 := w_ne c3 rfl; have q2 : ¬ what.toInt = 2 := w_ne c4 rfl; have q3 : ¬ what.toInt = 3 := w_ne c5 rfl; omega) (by decide) ?_
            refine lv_iconst (v := (-1)) hx hb dX5_of_90 (by decide) ?_
            exact w_iret hx hb hr hlocks w ⟨hq.symm, rfl, rfl⟩ (Nat.le_refl _) (Nat.le_refl _) dX5_of_91
  · skip
    have hq := hq.trans (if_neg c1)
    refine w_finQ (v := .null) rfl (w_runV (rm := ({ frames := 0, cells := 0, slots := 0, locals := 0 } : Room)) (As := [.int person]) (rest := []) (n := 1) hx hb hml hts hown hK w (c_X0_personAt_none l D cI cP cS cL L _ x_no person x_no_up x_no_down x_no_high x_no_prize x_no_z x_no_rounds x_no_people x_no_pa x_no_cr x_no_ls pr h_x_no h_x_no_pa c1) gX5_of_X0_personAt rfl rfl rfl (by decide +kernel) ⟨(Nat.le_of_ble_eq_true rfl), (Nat.le_of_ble_eq_true rfl)⟩ h_x_no rfl rfl hl.1 rfl (Nat.le_of_ble_eq_true rfl) dX5_of_5 ⟨(Nat.le_of_ble_eq_true rfl), (Nat.le_of_ble_eq_true rfl)⟩) w hA (fun H locs w => ?_)
    refine lv_astore_nN (lv' := [(3, .null), (0, .ref x), (1, .int person), (2, .int what)]) hx hb dX5_of_8 rfl hl (by decide) rfl (fun ls hl => ?_)
    refine lv_aload_nN hx hb dX5_of_9 rfl (lv_at hl 0 rfl) ?_
    refine lv_ifnonnullN hx hb dX5_of_10 ?_
    refine lv_iconst (v := (-1)) hx hb dX5_of_13 (by decide) ?_
    exact w_iret hx hb hr hlocks w ⟨hq.symm, rfl, rfl⟩ (Nat.le_refl _) (Nat.le_refl _) dX5_of_14
def f_X5_set (what : Int32) (n0 : Int32) (x_no_up : Int32) (x_no_down : Int32) (x_no_high : Int32) (x_no_prize : Int32) (x_no_z : Int32) (x_no_rounds : Int32) : Int32 × Int32 × Int32 × Int32 × Int32 × Int32 := if (f_X0_canBe what n0) = (0 : Int32) then ((-1), x_no_up, x_no_down, x_no_high, x_no_prize, x_no_z) else (if what = (4 : Int32) then (bnd (f_X0_change what n0 x_no_up x_no_down x_no_high x_no_prize x_no_z) (fun x43 : Int32 × Int32 × Int32 × Int32 × Int32 => ((f_X0_setting what x_no_up x_no_down x_no_high x_no_prize x_no_z), x43.1, x43.2.1, x43.2.2.1, x43.2.2.2.1, x43.2.2.2.2))) else (if x_no_rounds ≤ (0 : Int32) then (bnd (f_X0_change what n0 x_no_up x_no_down x_no_high x_no_prize x_no_z) (fun x43 : Int32 × Int32 × Int32 × Int32 × Int32 => ((f_X0_setting what x_no_up x_no_down x_no_high x_no_prize x_no_z), x43.1, x43.2.1, x43.2.2.1, x43.2.2.2.1, x43.2.2.2.2))) else ((-3), x_no_up, x_no_down, x_no_high, x_no_prize, x_no_z)))
set_option maxHeartbeats 400000 in
set_option maxRecDepth 100000 in
theorem c_X5_set (l : Launch) (D : va_G) (cI cP cS cL : ClassId) (L : List Nat) (F : Nat → va_E) (x : Nat) (what : Int32) (n0 : Int32) (x_no : Nat) (x_ke : Nat) (x_mi : Nat) (x_im : Int32) (x_sh : Nat) (x_co : Nat) (x_ot : Nat) (x_no_up : Int32) (x_no_down : Int32) (x_no_high : Int32) (x_no_prize : Int32) (x_no_z : Int32) (x_no_rounds : Int32) (x_no_people : Int32) (x_no_pa : Nat) (x_no_cr : Nat) (x_no_ls : Int32) (h_x : wi L F x (eX x_no x_ke x_mi x_im x_sh x_co x_ot)) (h_x_no : wi L F x_no (eG x_no_up x_no_down x_no_high x_no_prize x_no_z x_no_rounds x_no_people x_no_pa x_no_cr x_no_ls)) : wMj l D cI cP cS cL yX5_set wsX5_set ({ frames := 2, cells := 0, slots := 0, locals := 41 } : Room) [.ref x, .int what, .int n0] L F (fun r1 F1 => ∃ x : Int32 × Int32 × Int32 × Int32 × Int32 × Int32, x = (f_X5_set what n0 x_no_up x_no_down x_no_high x_no_prize x_no_z x_no_rounds) ∧ r1 = x.1 ∧ F1 x_no = (eG x.2.1 x.2.2.1 x.2.2.2.1 x.2.2.2.2.1 x.2.2.2.2.2 x_no_rounds x_no_people x_no_pa x_no_cr x_no_ls) ∧ wk (fun q : Nat => q ≠ x_no ∧ True) F1 F) := by
  refine wM.of (cc := cX5_set) (maxL := 4) (ret := (some .int)) (by decide) rfl (Nat.le_of_ble_eq_true rfl) ?_
  intro pZ eZ sZ mZ below meth cZ A ls C hl w
  obtain ⟨hx, hb, hr, hml, hts, hown, hlocks, hK, hA, hin⟩ := C
  have hown : sZ.vm.findClass RX5 = some mZ.cls := hown
  have hl : lv_has ls 4 [(0, .ref x), (1, .int what), (2, .int n0)] := hl
  have m_0 : ((.fieldLink RX5 10 "TwoThirds" "now" "LTwoThirds$Game;") : Cond) ∈ wsX5_set := by decide +kernel
  have i_X5 : ∀ w ∈ wsX50, w ∈ wsX5_set := by decide +kernel
  have m_2 : ((.fieldLink RX5 93 "TwoThirds$Game" "rounds" "I") : Cond) ∈ wsX5_set := by decide +kernel
  have i_X0 : ∀ w ∈ wsX00, w ∈ wsX5_set := by decide +kernel
  have hk : wk (fun q : Nat => q ≠ x_no ∧ True) F F := wk.rf
  have hq : f_X5_set what n0 x_no_up x_no_down x_no_high x_no_prize x_no_z x_no_rounds = f_X5_set what n0 x_no_up x_no_down x_no_high x_no_prize x_no_z x_no_rounds := rfl
  refine lv_iload_n hx hb dX5_set_0 rfl (lv_at hl 1 rfl) ?_
  refine lv_iload_n hx hb dX5_set_1 rfl (lv_at hl 2 rfl) ?_
  refine w_finI (w_runS (rm := ({ frames := 1, cells := 0, slots := 0, locals := 20 } : Room)) (As := [.int what, .int n0]) (rest := []) (n := 2) hx hb hml hts hown hK w (c_X0_canBe l D cI cP cS cL L _ what n0 ) gX5_set_X0_canBe rfl rfl rfl (by decide +kernel) ⟨(Nat.le_of_ble_eq_true rfl), (Nat.le_of_ble_eq_true rfl)⟩ rfl hl.1 rfl (Nat.le_of_ble_eq_true rfl) dX5_set_2 ⟨(Nat.le_of_ble_eq_true rfl), (Nat.le_of_ble_eq_true rfl)⟩) w hA (fun H locs w => ?_)
  refine lv_if_ne (tgt := 10) hx hb dX5_set_5 (by decide) (fun c1 => ?_) (fun c1 => ?_)
  · skip
    have hq := hq.trans (if_neg c1)
    refine lv_iload_n hx hb dX5_set_10 rfl (lv_at hl 1 rfl) ?_
    refine lv_iconst (v := 4) hx hb dX5_set_11 (by decide) ?_
    refine lv_icmp_eq (tgt := 28) hx hb dX5_set_12 (by decide) (fun c2 => ?_) (fun c2 => ?_)
    · skip
      have hq := hq.trans (if_pos c2)
      refine lv_aload_n hx hb dX5_set_28 rfl (lv_at hl 0 rfl) ?_
      refine w_get (v := .ref x_no) hx hb hts i_X5 hown hK w h_x rfl 0 (by decide) (hts _ m_0) rfl dX5_set_29 ?_
      refine lv_iload_n hx hb dX5_set_32 rfl (lv_at hl 1 rfl) ?_
      refine w_finI (w_runV (rm := ({ frames := 0, cells := 0, slots := 0, locals := 0 } : Room)) (As := [.int what]) (rest := []) (n := 1) hx hb hml hts hown hK w (c_X0_setting l D cI cP cS cL L _ x_no what x_no_up x_no_down x_no_high x_no_prize x_no_z x_no_rounds x_no_people x_no_pa x_no_cr x_no_ls h_x_no) gX5_set_X0_setting rfl rfl rfl (by decide +kernel) ⟨(Nat.le_of_ble_eq_true rfl), (Nat.le_of_ble_eq_true rfl)⟩ h_x_no rfl rfl hl.1 rfl (Nat.le_of_ble_eq_true rfl) dX5_set_33 ⟨(Nat.le_of_ble_eq_true rfl), (Nat.le_of_ble_eq_true rfl)⟩) w hA (fun H locs w => ?_)
      refine lv_istore_n (lv' := [(3, .int (f_X0_setting what x_no_up x_no_down x_no_high x_no_prize x_no_z)), (0, .ref x), (1, .int what), (2, .int n0)]) hx hb dX5_set_36 rfl hl (by decide) rfl (fun ls hl => ?_)
      refine lv_aload_n hx hb dX5_set_37 rfl (lv_at hl 1 rfl) ?_
      refine w_get (v := .ref x_no) hx hb hts i_X5 hown hK w h_x rfl 0 (by decide) (hts _ m_0) rfl dX5_set_38 ?_
      refine lv_iload_n hx hb dX5_set_41 rfl (lv_at hl 2 rfl) ?_
      refine lv_iload_n hx hb dX5_set_42 rfl (lv_at hl 3 rfl) ?_
      refine w_finw (w_runV (rm := ({ frames := 0, cells := 0, slots := 0, locals := 0 } : Room)) (As := [.int what, .int n0]) (rest := []) (n := 2) hx hb hml hts hown hK w (c_X0_change l D cI cP cS cL L _ x_no what n0 x_no_up x_no_down x_no_high x_no_prize x_no_z x_no_rounds x_no_people x_no_pa x_no_cr x_no_ls h_x_no) gX5_set_X0_change rfl rfl rfl (by decide +kernel) ⟨(Nat.le_of_ble_eq_true rfl), (Nat.le_of_ble_eq_true rfl)⟩ h_x_no rfl rfl hl.1 rfl (Nat.le_of_ble_eq_true rfl) dX5_set_43 ⟨(Nat.le_of_ble_eq_true rfl), (Nat.le_of_ble_eq_true rfl)⟩) w hA (fun F1 H locs hp w => ?_)
      obtain ⟨x43, hx43, hw0, hk9⟩ := hp
      have hq := hq.trans (w_bnd hx43)
      have h_x := h_x.keep hk9 ⟨(wi.ne h_x h_x_no (by intro h; cases h)), trivial⟩
      have h_x_no := h_x_no.new hw0
      have hk := hk.call hk9 (fun q h => ⟨h.1, trivial⟩)
      refine lv_iload_n hx hb dX5_set_46 rfl (lv_at hl 0 rfl) ?_
      exact w_iret hx hb hr hlocks w ⟨rfl, _, hq.symm, rfl, h_x_no.2, hk⟩ (Nat.le_refl _) (Nat.le_refl _) dX5_set_47
    · skip
      have hq := hq.trans (if_neg c2)
      refine lv_aload_n hx hb dX5_set_15 rfl (lv_at hl 0 rfl) ?_
      refine w_get (v := .ref x_no) hx hb hts i_X5 hown hK w h_x rfl 0 (by decide) (hts _ m_0) rfl dX5_set_16 ?_
      refine w_get (v := .int x_no_rounds) hx hb hts i_X0 hown hK w h_x_no rfl 5 (by decide) (hts _ m_2) rfl dX5_set_19 ?_
      refine lv_if_le (tgt := 28) hx hb dX5_set_22 (by decide) (fun c3 => ?_) (fun c3 => ?_)
      · skip
        have hq := hq.trans (if_pos c3)
        refine lv_aload_n hx hb dX5_set_28 rfl (lv_at hl 0 rfl) ?_
        refine w_get (v := .ref x_no) hx hb hts i_X5 hown hK w h_x rfl 0 (by decide) (hts _ m_0) rfl dX5_set_29 ?_
        refine lv_iload_n hx hb dX5_set_32 rfl (lv_at hl 1 rfl) ?_
        refine w_finI (w_runV (rm := ({ frames := 0, cells := 0, slots := 0, locals := 0 } : Room)) (As := [.int what]) (rest := []) (n := 1) hx hb hml hts hown hK w (c_X0_setting l D cI cP cS cL L _ x_no what x_no_up x_no_down x_no_high x_no_prize x_no_z x_no_rounds x_no_people x_no_pa x_no_cr x_no_ls h_x_no) gX5_set_X0_setting rfl rfl rfl (by decide +kernel) ⟨(Nat.le_of_ble_eq_true rfl), (Nat.le_of_ble_eq_true rfl)⟩ h_x_no rfl rfl hl.1 rfl (Nat.le_of_ble_eq_true rfl) dX5_set_33 ⟨(Nat.le_of_ble_eq_true rfl), (Nat.le_of_ble_eq_true rfl)⟩) w hA (fun H locs w => ?_)
        refine lv_istore_n (lv' := [(3, .int (f_X0_setting what x_no_up x_no_down x_no_high x_no_prize x_no_z)), (0, .ref x), (1, .int what), (2, .int n0)]) hx hb dX5_set_36 rfl hl (by decide) rfl (fun ls hl => ?_)
        refine lv_aload_n hx hb dX5_set_37 rfl (lv_at hl 1 rfl) ?_
        refine w_get (v := .ref x_no) hx hb hts i_X5 hown hK w h_x rfl 0 (by decide) (hts _ m_0) rfl dX5_set_38 ?_
        refine lv_iload_n hx hb dX5_set_41 rfl (lv_at hl 2 rfl) ?_
        refine lv_iload_n hx hb dX5_set_42 rfl (lv_at hl 3 rfl) ?_
        refine w_finw (w_runV (rm := ({ frames := 0, cells := 0, slots := 0, locals := 0 } : Room)) (As := [.int what, .int n0]) (rest := []) (n := 2) hx hb hml hts hown hK w (c_X0_change l D cI cP cS cL L _ x_no what n0 x_no_up x_no_down x_no_high x_no_prize x_no_z x_no_rounds x_no_people x_no_pa x_no_cr x_no_ls h_x_no) gX5_set_X0_change rfl rfl rfl (by decide +kernel) ⟨(Nat.le_of_ble_eq_true rfl), (Nat.le_of_ble_eq_true rfl)⟩ h_x_no rfl rfl hl.1 rfl (Nat.le_of_ble_eq_true rfl) dX5_set_43 ⟨(Nat.le_of_ble_eq_true rfl), (Nat.le_of_ble_eq_true rfl)⟩) w hA (fun F1 H locs hp w => ?_)
        obtain ⟨x43, hx43, hw0, hk9⟩ := hp
        have hq := hq.trans (w_bnd hx43)
        have h_x := h_x.keep hk9 ⟨(wi.ne h_x h_x_no (by intro h; cases h)), trivial⟩
        have h_x_no := h_x_no.new hw0
        have hk := hk.call hk9 (fun q h => ⟨h.1, trivial⟩)
        refine lv_iload_n hx hb dX5_set_46 rfl (lv_at hl 0 rfl) ?_
        exact w_iret hx hb hr hlocks w ⟨rfl, _, hq.symm, rfl, h_x_no.2, hk⟩ (Nat.le_refl _) (Nat.le_refl _) dX5_set_47
      · skip
        have hq := hq.trans (if_neg c3)
        refine lv_bipush (v := (-3)) hx hb dX5_set_25 (by decide) ?_
        exact w_iret hx hb hr hlocks w ⟨rfl, _, hq.symm, rfl, h_x_no.2, hk⟩ (Nat.le_refl _) (Nat.le_refl _) dX5_set_27
  · skip
    have hq := hq.trans (if_pos c1)
    refine lv_iconst (v := (-1)) hx hb dX5_set_8 (by decide) ?_
    exact w_iret hx hb hr hlocks w ⟨rfl, _, hq.symm, rfl, h_x_no.2, hk⟩ (Nat.le_refl _) (Nat.le_refl _) dX5_set_9
def f_X5_steps (person : Int32) (n0 : Int32) (x_no_people : Int32) (pr_st : Nat → Int32) : Int32 × (Nat → Int32) := if (¬ person < 0 ∧ ¬ x_no_people ≤ person) then (if (f_X5_isStepCount n0) = (0 : Int32) then ((-1), pr_st) else ((pr_st (person.toNatClampNeg)), (upd pr_st (person.toNatClampNeg) n0))) else ((-1), pr_st)
set_option maxHeartbeats 400000 in
set_option maxRecDepth 100000 in
theorem c_X5_steps (l : Launch) (D : va_G) (cI cP cS cL : ClassId) (L : List Nat) (F : Nat → va_E) (x : Nat) (person : Int32) (n0 : Int32) (x_no : Nat) (x_ke : Nat) (x_mi : Nat) (x_im : Int32) (x_sh : Nat) (x_co : Nat) (x_ot : Nat) (x_no_up : Int32) (x_no_down : Int32) (x_no_high : Int32) (x_no_prize : Int32) (x_no_z : Int32) (x_no_rounds : Int32) (x_no_people : Int32) (x_no_pa : Nat) (x_no_cr : Nat) (x_no_ls : Int32) (pr : Nat → Nat) (pr_nu : Nat → Int32) (pr_ki : Nat → Int32) (pr_st : Nat → Int32) (pr_sl : Nat → Int32) (h_x : wi L F x (eX x_no x_ke x_mi x_im x_sh x_co x_ot)) (h_x_no : wi L F x_no (eG x_no_up x_no_down x_no_high x_no_prize x_no_z x_no_rounds x_no_people x_no_pa x_no_cr x_no_ls)) (h_x_no_pa : wi L F x_no_pa (eQ cP 12 (fun i => some (pr i)))) (h_pr : ∀ i, i < 12 → wi L F (pr i) (eP (pr_nu i) (pr_ki i) (pr_st i) (pr_sl i))) (hpp : x_no_people.toInt ≤ 12) (hinj_pr : ∀ i k, i < 12 → k < 12 → pr i = pr k → i = k) : wMj l D cI cP cS cL yX5_steps wsX5_steps ({ frames := 1, cells := 0, slots := 0, locals := 21 } : Room) [.ref x, .int person, .int n0] L F (fun r1 F1 => ∃ x : Int32 × (Nat → Int32), x = (f_X5_steps person n0 x_no_people pr_st) ∧ r1 = x.1 ∧ (∀ i, i < 12 → F1 (pr i) = (eP (pr_nu i) (pr_ki i) (x.2 i) (pr_sl i))) ∧ wk (fun q : Nat => (∀ i, i < 12 → q ≠ pr i) ∧ True) F1 F) := by
  refine wM.of (cc := cX5_steps) (maxL := 5) (ret := (some .int)) (by decide) rfl (Nat.le_of_ble_eq_true rfl) ?_
  intro pZ eZ sZ mZ below meth cZ A ls C hl w
  obtain ⟨hx, hb, hr, hml, hts, hown, hlocks, hK, hA, hin⟩ := C
  have hown : sZ.vm.findClass RX5 = some mZ.cls := hown
  have hl : lv_has ls 5 [(0, .ref x), (1, .int person), (2, .int n0)] := hl
  have m_0 : ((.fieldLink RX5 10 "TwoThirds" "now" "LTwoThirds$Game;") : Cond) ∈ wsX5_steps := by decide +kernel
  have i_X5 : ∀ w ∈ wsX50, w ∈ wsX5_steps := by decide +kernel
  have m_2 : ((.fieldLink RX5 87 "TwoThirds$Person" "stepCount" "I") : Cond) ∈ wsX5_steps := by decide +kernel
  have i_X1 : ∀ w ∈ wsX10, w ∈ wsX5_steps := by decide +kernel
  have hk : wk (fun q : Nat => (∀ i, i < 12 → q ≠ pr i) ∧ True) F F := wk.rf
  have hq : f_X5_steps person n0 x_no_people pr_st = f_X5_steps person n0 x_no_people pr_st := rfl
  refine lv_aload_n hx hb dX5_steps_0 rfl (lv_at hl 0 rfl) ?_
  refine w_get (v := .ref x_no) hx hb hts i_X5 hown hK w h_x rfl 0 (by decide) (hts _ m_0) rfl dX5_steps_1 ?_
  refine lv_iload_n hx hb dX5_steps_4 rfl (lv_at hl 1 rfl) ?_
  by_cases c1 : (¬ person < 0 ∧ ¬ x_no_people ≤ person)
  · skip
    have hq := hq.trans (if_pos c1)
    have hlt_C : person.toNatClampNeg < 12 := w_okP c1 hpp
    refine w_finQ (v := .ref (pr (person.toNatClampNeg))) rfl (w_runV (rm := ({ frames := 0, cells := 0, slots := 0, locals := 0 } : Room)) (As := [.int person]) (rest := []) (n := 1) hx hb hml hts hown hK w (c_X0_personAt_some l D cI cP cS cL L _ x_no person x_no_up x_no_down x_no_high x_no_prize x_no_z x_no_rounds x_no_people x_no_pa x_no_cr x_no_ls pr pr_nu pr_ki pr_st pr_sl h_x_no h_x_no_pa h_pr c1 hpp) gX5_steps_X0_personAt rfl rfl rfl (by decide +kernel) ⟨(Nat.le_of_ble_eq_true rfl), (Nat.le_of_ble_eq_true rfl)⟩ h_x_no rfl rfl hl.1 rfl (Nat.le_of_ble_eq_true rfl) dX5_steps_5 ⟨(Nat.le_of_ble_eq_true rfl), (Nat.le_of_ble_eq_true rfl)⟩) w hA (fun H locs w => ?_)
    refine lv_astore_n (lv' := [(3, .ref (pr (person.toNatClampNeg))), (0, .ref x), (1, .int person), (2, .int n0)]) hx hb dX5_steps_8 rfl hl (by decide) rfl (fun ls hl => ?_)
    refine lv_aload_n hx hb dX5_steps_9 rfl (lv_at hl 0 rfl) ?_
    refine lv_ifnull hx hb dX5_steps_10 ?_
    refine lv_iload_n hx hb dX5_steps_13 rfl (lv_at hl 3 rfl) ?_
    refine w_finI (w_runS (rm := ({ frames := 0, cells := 0, slots := 0, locals := 0 } : Room)) (As := [.int n0]) (rest := []) (n := 1) hx hb hml hts hown hK w (c_X5_isStepCount l D cI cP cS cL L _ n0 ) gX5_steps_X5_isStepCount rfl rfl rfl (by decide +kernel) ⟨(Nat.le_of_ble_eq_true rfl), (Nat.le_of_ble_eq_true rfl)⟩ rfl hl.1 rfl (Nat.le_of_ble_eq_true rfl) dX5_steps_14 ⟨(Nat.le_of_ble_eq_true rfl), (Nat.le_of_ble_eq_true rfl)⟩) w hA (fun H locs w => ?_)
    refine lv_if_ne (tgt := 22) hx hb dX5_steps_17 (by decide) (fun c2 => ?_) (fun c2 => ?_)
    · skip
      have hq := hq.trans (if_neg c2)
      refine lv_aload_n hx hb dX5_steps_22 rfl (lv_at hl 0 rfl) ?_
      refine w_get (v := .int (pr_st (person.toNatClampNeg))) hx hb hts i_X1 hown hK w (h_pr (person.toNatClampNeg) (by omega)) rfl 2 (by decide) (hts _ m_2) rfl dX5_steps_23 ?_
      refine lv_istore (lv' := [(4, .int (pr_st (person.toNatClampNeg))), (3, .ref (pr (person.toNatClampNeg))), (0, .ref x), (1, .int person), (2, .int n0)]) hx hb dX5_steps_26 hl (by decide) rfl (fun ls hl => ?_)
      refine lv_aload_n hx hb dX5_steps_28 rfl (lv_at hl 1 rfl) ?_
      refine lv_iload_n hx hb dX5_steps_29 rfl (lv_at hl 4 rfl) ?_
      have ho3 := (h_pr (person.toNatClampNeg) (by omega))
      refine w_put (fs2 := [.int (pr_nu (person.toNatClampNeg)), .int (pr_ki (person.toNatClampNeg)), .int n0, .int (pr_sl (person.toNatClampNeg))]) hx hb hts i_X1 tyX1 tyX1_ok nmX1 hown hK w (h_pr (person.toNatClampNeg) (by omega)) rfl 2 (by decide) (hts _ m_2) rfl rfl rfl (Nat.le_of_ble_eq_true rfl) rfl dX5_steps_30 (fun H locs w h__pr__person_toNatClampNeg__ => ?_)
      have hf4 := fam_up (E := (fun i => (eP (pr_nu i) (pr_ki i) (pr_st i) (pr_sl i)))) (E2 := (fun i => (eP (pr_nu i) (pr_ki i) ((upd pr_st (person.toNatClampNeg) n0) i) (pr_sl i)))) h_pr (by omega) hinj_pr (e2 := (eP (pr_nu (person.toNatClampNeg)) (pr_ki (person.toNatClampNeg)) n0 (pr_sl (person.toNatClampNeg)))) (by simp [upd, va_up]) (fun i hi => by simp [upd, va_up, hi])
      have h_x := h_x.upw h__pr__person_toNatClampNeg__ (wi.ne h_x ho3 (by intro h; cases h))
      have h_x_no := h_x_no.upw h__pr__person_toNatClampNeg__ (wi.ne h_x_no ho3 (by intro h; cases h))
      have h_x_no_pa := h_x_no_pa.upw h__pr__person_toNatClampNeg__ (wi.ne h_x_no_pa ho3 (by intro h; cases h))
      have hk := hk.upw h__pr__person_toNatClampNeg__ (fun q h => h.1 (person.toNatClampNeg) (by omega))
      have h_pr := hf4
      refine lv_iload hx hb dX5_steps_33 (lv_at hl 0 rfl) ?_
      exact w_iret hx hb hr hlocks w ⟨rfl, _, hq.symm, rfl, (fun i hi => (h_pr i hi).2), hk⟩ (Nat.le_refl _) (Nat.le_refl _) dX5_steps_35
    · skip
      have hq := hq.trans (if_pos c2)
      refine lv_iconst (v := (-1)) hx hb dX5_steps_20 (by decide) ?_
      exact w_iret hx hb hr hlocks w ⟨rfl, _, hq.symm, rfl, (fun i hi => (h_pr i hi).2), hk⟩ (Nat.le_refl _) (Nat.le_refl _) dX5_steps_21
  · skip
    have hq := hq.trans (if_neg c1)
    refine w_finQ (v := .null) rfl (w_runV (rm := ({ frames := 0, cells := 0, slots := 0, locals := 0 } : Room)) (As := [.int person]) (rest := []) (n := 1) hx hb hml hts hown hK w (c_X0_personAt_none l D cI cP cS cL L _ x_no person x_no_up x_no_down x_no_high x_no_prize x_no_z x_no_rounds x_no_people x_no_pa x_no_cr x_no_ls pr h_x_no h_x_no_pa c1) gX5_steps_X0_personAt rfl rfl rfl (by decide +kernel) ⟨(Nat.le_of_ble_eq_true rfl), (Nat.le_of_ble_eq_true rfl)⟩ h_x_no rfl rfl hl.1 rfl (Nat.le_of_ble_eq_true rfl) dX5_steps_5 ⟨(Nat.le_of_ble_eq_true rfl), (Nat.le_of_ble_eq_true rfl)⟩) w hA (fun H locs w => ?_)
    refine lv_astore_nN (lv' := [(3, .null), (0, .ref x), (1, .int person), (2, .int n0)]) hx hb dX5_steps_8 rfl hl (by decide) rfl (fun ls hl => ?_)
    refine lv_aload_nN hx hb dX5_steps_9 rfl (lv_at hl 0 rfl) ?_
    refine lv_ifnullN (tgt := 20) hx hb dX5_steps_10 (by decide) ?_
    refine lv_iconst (v := (-1)) hx hb dX5_steps_20 (by decide) ?_
    exact w_iret hx hb hr hlocks w ⟨rfl, _, hq.symm, rfl, (fun i hi => (h_pr i hi).2), hk⟩ (Nat.le_refl _) (Nat.le_refl _) dX5_steps_21
def f_X5_holds (person : Int32) (x_no_up : Int32) (x_no_down : Int32) (x_no_high : Int32) (x_no_z : Int32) (x_no_rounds : Int32) (x_no_people : Int32) (x_no_ls : Int32) (pr_ki : Nat → Int32) (pr_st : Nat → Int32) : Int32 × Int32 := if (¬ person < 0 ∧ ¬ x_no_people ≤ person) then (if (f_X1_holdsByDraw (pr_ki (person.toNatClampNeg))) = (0 : Int32) then (bnd (f_X0_heldBy x_no_up x_no_down x_no_high x_no_z x_no_rounds x_no_people x_no_ls (pr_ki (person.toNatClampNeg)) (pr_st (person.toNatClampNeg))) (fun x32 : Int32 × Int32 => (x32.1, x32.2))) else ((-3), x_no_z)) else ((-1), x_no_z)
set_option maxHeartbeats 400000 in
set_option maxRecDepth 100000 in
theorem c_X5_holds (l : Launch) (D : va_G) (cI cP cS cL : ClassId) (L : List Nat) (F : Nat → va_E) (x : Nat) (person : Int32) (x_no : Nat) (x_ke : Nat) (x_mi : Nat) (x_im : Int32) (x_sh : Nat) (x_co : Nat) (x_ot : Nat) (x_no_up : Int32) (x_no_down : Int32) (x_no_high : Int32) (x_no_prize : Int32) (x_no_z : Int32) (x_no_rounds : Int32) (x_no_people : Int32) (x_no_pa : Nat) (x_no_cr : Nat) (x_no_ls : Int32) (pr : Nat → Nat) (pr_nu : Nat → Int32) (pr_ki : Nat → Int32) (pr_st : Nat → Int32) (pr_sl : Nat → Int32) (h_x : wi L F x (eX x_no x_ke x_mi x_im x_sh x_co x_ot)) (h_x_no : wi L F x_no (eG x_no_up x_no_down x_no_high x_no_prize x_no_z x_no_rounds x_no_people x_no_pa x_no_cr x_no_ls)) (h_x_no_pa : wi L F x_no_pa (eQ cP 12 (fun i => some (pr i)))) (h_pr : ∀ i, i < 12 → wi L F (pr i) (eP (pr_nu i) (pr_ki i) (pr_st i) (pr_sl i))) (hpp : x_no_people.toInt ≤ 12) (hsts : ∀ i, i < 12 → (pr_st i).toInt ≤ 1000) : wMj l D cI cP cS cL yX5_holds wsX5_holds ({ frames := 7, cells := 0, slots := 0, locals := 143 } : Room) [.ref x, .int person] L F (fun r1 F1 => ∃ x : Int32 × Int32, x = (f_X5_holds person x_no_up x_no_down x_no_high x_no_z x_no_rounds x_no_people x_no_ls pr_ki pr_st) ∧ r1 = x.1 ∧ F1 x_no = (eG x_no_up x_no_down x_no_high x_no_prize x.2 x_no_rounds x_no_people x_no_pa x_no_cr x_no_ls) ∧ wk (fun q : Nat => q ≠ x_no ∧ True) F1 F) := by
  refine wM.of (cc := cX5_holds) (maxL := 3) (ret := (some .int)) (by decide) rfl (Nat.le_of_ble_eq_true rfl) ?_
  intro pZ eZ sZ mZ below meth cZ A ls C hl w
  obtain ⟨hx, hb, hr, hml, hts, hown, hlocks, hK, hA, hin⟩ := C
  have hown : sZ.vm.findClass RX5 = some mZ.cls := hown
  have hl : lv_has ls 3 [(0, .ref x), (1, .int person)] := hl
  have m_0 : ((.fieldLink RX5 10 "TwoThirds" "now" "LTwoThirds$Game;") : Cond) ∈ wsX5_holds := by decide +kernel
  have i_X5 : ∀ w ∈ wsX50, w ∈ wsX5_holds := by decide +kernel
  have hk : wk (fun q : Nat => q ≠ x_no ∧ True) F F := wk.rf
  have hq : f_X5_holds person x_no_up x_no_down x_no_high x_no_z x_no_rounds x_no_people x_no_ls pr_ki pr_st = f_X5_holds person x_no_up x_no_down x_no_high x_no_z x_no_rounds x_no_people x_no_ls pr_ki pr_st := rfl
  refine lv_aload_n hx hb dX5_holds_0 rfl (lv_at hl 0 rfl) ?_
  refine w_get (v := .ref x_no) hx hb hts i_X5 hown hK w h_x rfl 0 (by decide) (hts _ m_0) rfl dX5_holds_1 ?_
  refine lv_iload_n hx hb dX5_holds_4 rfl (lv_at hl 1 rfl) ?_
  by_cases c1 : (¬ person < 0 ∧ ¬ x_no_people ≤ person)
  · skip
    have hq := hq.trans (if_pos c1)
    have hlt_C : person.toNatClampNeg < 12 := w_okP c1 hpp
    refine w_finQ (v := .ref (pr (person.toNatClampNeg))) rfl (w_runV (rm := ({ frames := 0, cells := 0, slots := 0, locals := 0 } : Room)) (As := [.int person]) (rest := []) (n := 1) hx hb hml hts hown hK w (c_X0_personAt_some l D cI cP cS cL L _ x_no person x_no_up x_no_down x_no_high x_no_prize x_no_z x_no_rounds x_no_people x_no_pa x_no_cr x_no_ls pr pr_nu pr_ki pr_st pr_sl h_x_no h_x_no_pa h_pr c1 hpp) gX5_holds_X0_personAt rfl rfl rfl (by decide +kernel) ⟨(Nat.le_of_ble_eq_true rfl), (Nat.le_of_ble_eq_true rfl)⟩ h_x_no rfl rfl hl.1 rfl (Nat.le_of_ble_eq_true rfl) dX5_holds_5 ⟨(Nat.le_of_ble_eq_true rfl), (Nat.le_of_ble_eq_true rfl)⟩) w hA (fun H locs w => ?_)
    refine lv_astore_n (lv' := [(2, .ref (pr (person.toNatClampNeg))), (0, .ref x), (1, .int person)]) hx hb dX5_holds_8 rfl hl (by decide) rfl (fun ls hl => ?_)
    refine lv_aload_n hx hb dX5_holds_9 rfl (lv_at hl 0 rfl) ?_
    refine lv_ifnonnull (tgt := 15) hx hb dX5_holds_10 (by decide) ?_
    refine lv_aload_n hx hb dX5_holds_15 rfl (lv_at hl 0 rfl) ?_
    refine w_finI (w_runV (rm := ({ frames := 0, cells := 0, slots := 0, locals := 0 } : Room)) (As := []) (rest := []) (n := 0) hx hb hml hts hown hK w (c_X1_holdsByDraw l D cI cP cS cL L _ (pr (person.toNatClampNeg)) (pr_nu (person.toNatClampNeg)) (pr_ki (person.toNatClampNeg)) (pr_st (person.toNatClampNeg)) (pr_sl (person.toNatClampNeg)) (h_pr (person.toNatClampNeg) (by omega))) gX5_holds_X1_holdsByDraw rfl rfl rfl (by decide +kernel) ⟨(Nat.le_of_ble_eq_true rfl), (Nat.le_of_ble_eq_true rfl)⟩ (h_pr (person.toNatClampNeg) (by omega)) rfl rfl hl.1 rfl (Nat.le_of_ble_eq_true rfl) dX5_holds_16 ⟨(Nat.le_of_ble_eq_true rfl), (Nat.le_of_ble_eq_true rfl)⟩) w hA (fun H locs w => ?_)
    refine lv_if_eq (tgt := 27) hx hb dX5_holds_19 (by decide) (fun c2 => ?_) (fun c2 => ?_)
    · skip
      have hq := hq.trans (if_pos c2)
      refine lv_aload_n hx hb dX5_holds_27 rfl (lv_at hl 1 rfl) ?_
      refine w_get (v := .ref x_no) hx hb hts i_X5 hown hK w h_x rfl 0 (by decide) (hts _ m_0) rfl dX5_holds_28 ?_
      refine lv_aload_n hx hb dX5_holds_31 rfl (lv_at hl 0 rfl) ?_
      refine w_finj (w_runV (rm := ({ frames := 6, cells := 0, slots := 0, locals := 122 } : Room)) (As := [.ref (pr (person.toNatClampNeg))]) (rest := []) (n := 1) hx hb hml hts hown hK w (c_X0_heldBy l D cI cP cS cL L _ x_no (pr (person.toNatClampNeg)) x_no_up x_no_down x_no_high x_no_prize x_no_z x_no_rounds x_no_people x_no_pa x_no_cr x_no_ls (pr_nu (person.toNatClampNeg)) (pr_ki (person.toNatClampNeg)) (pr_st (person.toNatClampNeg)) (pr_sl (person.toNatClampNeg)) h_x_no (h_pr (person.toNatClampNeg) (by omega)) (hsts (person.toNatClampNeg) (by omega))) gX5_holds_X0_heldBy rfl rfl rfl (by decide +kernel) ⟨(Nat.le_of_ble_eq_true rfl), (Nat.le_of_ble_eq_true rfl)⟩ h_x_no rfl rfl hl.1 rfl (Nat.le_of_ble_eq_true rfl) dX5_holds_32 ⟨(Nat.le_of_ble_eq_true rfl), (Nat.le_of_ble_eq_true rfl)⟩) w hA (fun r9 F1 H locs hp w => ?_)
      obtain ⟨x32, hx32, hr9, hw0, hk9⟩ := hp
      subst hr9
      have hq := hq.trans (w_bnd hx32)
      have h_x := h_x.keep hk9 ⟨(wi.ne h_x h_x_no (by intro h; cases h)), trivial⟩
      have h_x_no_pa := h_x_no_pa.keep hk9 ⟨(wi.ne h_x_no_pa h_x_no (by intro h; cases h)), trivial⟩
      have h_pr := fun i (hi : i < 12) => (h_pr i hi).keep hk9 ⟨(wi.ne (h_pr i hi) h_x_no (by intro h; cases h)), trivial⟩
      have h_x_no := h_x_no.new hw0
      have hk := hk.call hk9 (fun q h => ⟨h.1, trivial⟩)
      exact w_iret hx hb hr hlocks w ⟨rfl, _, hq.symm, rfl, h_x_no.2, hk⟩ (Nat.le_refl _) (Nat.le_refl _) dX5_holds_35
    · skip
      have hq := hq.trans (if_neg c2)
      refine lv_bipush (v := (-3)) hx hb dX5_holds_22 (by decide) ?_
      refine lv_goto (tgt := 35) hx hb dX5_holds_24 (by decide) ?_
      exact w_iret hx hb hr hlocks w ⟨rfl, _, hq.symm, rfl, h_x_no.2, hk⟩ (Nat.le_refl _) (Nat.le_refl _) dX5_holds_35
  · skip
    have hq := hq.trans (if_neg c1)
    refine w_finQ (v := .null) rfl (w_runV (rm := ({ frames := 0, cells := 0, slots := 0, locals := 0 } : Room)) (As := [.int person]) (rest := []) (n := 1) hx hb hml hts hown hK w (c_X0_personAt_none l D cI cP cS cL L _ x_no person x_no_up x_no_down x_no_high x_no_prize x_no_z x_no_rounds x_no_people x_no_pa x_no_cr x_no_ls pr h_x_no h_x_no_pa c1) gX5_holds_X0_personAt rfl rfl rfl (by decide +kernel) ⟨(Nat.le_of_ble_eq_true rfl), (Nat.le_of_ble_eq_true rfl)⟩ h_x_no rfl rfl hl.1 rfl (Nat.le_of_ble_eq_true rfl) dX5_holds_5 ⟨(Nat.le_of_ble_eq_true rfl), (Nat.le_of_ble_eq_true rfl)⟩) w hA (fun H locs w => ?_)
    refine lv_astore_nN (lv' := [(2, .null), (0, .ref x), (1, .int person)]) hx hb dX5_holds_8 rfl hl (by decide) rfl (fun ls hl => ?_)
    refine lv_aload_nN hx hb dX5_holds_9 rfl (lv_at hl 0 rfl) ?_
    refine lv_ifnonnullN hx hb dX5_holds_10 ?_
    refine lv_iconst (v := (-1)) hx hb dX5_holds_13 (by decide) ?_
    exact w_iret hx hb hr hlocks w ⟨rfl, _, hq.symm, rfl, h_x_no.2, hk⟩ (Nat.le_refl _) (Nat.le_refl _) dX5_holds_14
def f_X5_round (x_no_up : Int32) (x_no_down : Int32) (x_no_high : Int32) (x_no_z : Int32) (x_no_rounds : Int32) (x_no_people : Int32) (x_no_ls : Int32) (x_no_cr_so : Int32) (x_no_cr_sz : Int32) (x_no_cr_e_f : Nat → Int32) (pr_ki : Nat → Int32) (pr_st : Nat → Int32) (pr_sl : Nat → Int32) : Int32 × Int32 × Int32 × Int32 × Int32 × Int32 × (Nat → Int32) := if x_no_rounds < (99 : Int32) then (if x_no_people = (0 : Int32) then ((-3), x_no_z, x_no_rounds, x_no_ls, x_no_cr_so, x_no_cr_sz, x_no_cr_e_f) else (bnd (f_X0_play x_no_up x_no_down x_no_high x_no_z x_no_rounds x_no_people x_no_ls 12 x_no_cr_e_f pr_ki pr_st pr_sl) (fun x32 : Int32 × Int32 × Int32 × Int32 × Int32 × (Nat → Int32) => (x32.2.1, x32.1, x32.2.1, x32.2.2.1, x32.2.2.2.1, x32.2.2.2.2.1, x32.2.2.2.2.2)))) else ((-2), x_no_z, x_no_rounds, x_no_ls, x_no_cr_so, x_no_cr_sz, x_no_cr_e_f)
set_option maxHeartbeats 400000 in
set_option maxRecDepth 100000 in
theorem c_X5_round (l : Launch) (D : va_G) (cI cP cS cL : ClassId) (L : List Nat) (F : Nat → va_E) (x : Nat) (x_no : Nat) (x_ke : Nat) (x_mi : Nat) (x_im : Int32) (x_sh : Nat) (x_co : Nat) (x_ot : Nat) (x_no_up : Int32) (x_no_down : Int32) (x_no_high : Int32) (x_no_prize : Int32) (x_no_z : Int32) (x_no_rounds : Int32) (x_no_people : Int32) (x_no_pa : Nat) (x_no_cr : Nat) (x_no_ls : Int32) (x_no_cr_e : Nat) (x_no_cr_so : Int32) (x_no_cr_sz : Int32) (x_no_cr_e_f : Nat → Int32) (pr : Nat → Nat) (pr_nu : Nat → Int32) (pr_ki : Nat → Int32) (pr_st : Nat → Int32) (pr_sl : Nat → Int32) (h_x : wi L F x (eX x_no x_ke x_mi x_im x_sh x_co x_ot)) (h_x_no : wi L F x_no (eG x_no_up x_no_down x_no_high x_no_prize x_no_z x_no_rounds x_no_people x_no_pa x_no_cr x_no_ls)) (h_x_no_pa : wi L F x_no_pa (eQ cP 12 (fun i => some (pr i)))) (h_x_no_cr : wi L F x_no_cr (eR x_no_cr_e x_no_cr_so x_no_cr_sz)) (h_x_no_cr_e : wi L F x_no_cr_e (eI cI 12 x_no_cr_e_f)) (h_pr : ∀ i, i < 12 → wi L F (pr i) (eP (pr_nu i) (pr_ki i) (pr_st i) (pr_sl i))) (hsts : ∀ i, i < 12 → (pr_st i).toInt ≤ 1000) : wMj l D cI cP cS cL yX5_round wsX5_round ({ frames := 9, cells := 0, slots := 0, locals := 186 } : Room) [.ref x] L F (fun r1 F1 => ∃ x : Int32 × Int32 × Int32 × Int32 × Int32 × Int32 × (Nat → Int32), x = (f_X5_round x_no_up x_no_down x_no_high x_no_z x_no_rounds x_no_people x_no_ls x_no_cr_so x_no_cr_sz x_no_cr_e_f pr_ki pr_st pr_sl) ∧ r1 = x.1 ∧ F1 x_no = (eG x_no_up x_no_down x_no_high x_no_prize x.2.1 x.2.2.1 x_no_people x_no_pa x_no_cr x.2.2.2.1) ∧ F1 x_no_cr = (eR x_no_cr_e x.2.2.2.2.1 x.2.2.2.2.2.1) ∧ F1 x_no_cr_e = (eI cI 12 x.2.2.2.2.2.2) ∧ wk (fun q : Nat => q ≠ x_no ∧ q ≠ x_no_cr ∧ q ≠ x_no_cr_e ∧ True) F1 F) := by
  refine wM.of (cc := cX5_round) (maxL := 1) (ret := (some .int)) (by decide) rfl (Nat.le_of_ble_eq_true rfl) ?_
  intro pZ eZ sZ mZ below meth cZ A ls C hl w
  obtain ⟨hx, hb, hr, hml, hts, hown, hlocks, hK, hA, hin⟩ := C
  have hown : sZ.vm.findClass RX5 = some mZ.cls := hown
  have hl : lv_has ls 1 [(0, .ref x)] := hl
  have m_0 : ((.fieldLink RX5 10 "TwoThirds" "now" "LTwoThirds$Game;") : Cond) ∈ wsX5_round := by decide +kernel
  have i_X5 : ∀ w ∈ wsX50, w ∈ wsX5_round := by decide +kernel
  have m_2 : ((.fieldLink RX5 93 "TwoThirds$Game" "rounds" "I") : Cond) ∈ wsX5_round := by decide +kernel
  have i_X0 : ∀ w ∈ wsX00, w ∈ wsX5_round := by decide +kernel
  have m_4 : ((.fieldLink RX5 125 "TwoThirds$Game" "people" "I") : Cond) ∈ wsX5_round := by decide +kernel
  have hk : wk (fun q : Nat => q ≠ x_no ∧ q ≠ x_no_cr ∧ q ≠ x_no_cr_e ∧ True) F F := wk.rf
  have hq : f_X5_round x_no_up x_no_down x_no_high x_no_z x_no_rounds x_no_people x_no_ls x_no_cr_so x_no_cr_sz x_no_cr_e_f pr_ki pr_st pr_sl = f_X5_round x_no_up x_no_down x_no_high x_no_z x_no_rounds x_no_people x_no_ls x_no_cr_so x_no_cr_sz x_no_cr_e_f pr_ki pr_st pr_sl := rfl
  refine lv_aload_n hx hb dX5_round_0 rfl (lv_at hl 0 rfl) ?_
  refine w_get (v := .ref x_no) hx hb hts i_X5 hown hK w h_x rfl 0 (by decide) (hts _ m_0) rfl dX5_round_1 ?_
  refine w_get (v := .int x_no_rounds) hx hb hts i_X0 hown hK w h_x_no rfl 5 (by decide) (hts _ m_2) rfl dX5_round_4 ?_
  refine lv_bipush (v := 99) hx hb dX5_round_7 (by decide) ?_
  refine lv_icmp_lt (tgt := 15) hx hb dX5_round_9 (by decide) (fun c1 => ?_) (fun c1 => ?_)
  · skip
    have hq := hq.trans (if_pos c1)
    refine lv_aload_n hx hb dX5_round_15 rfl (lv_at hl 0 rfl) ?_
    refine w_get (v := .ref x_no) hx hb hts i_X5 hown hK w h_x rfl 0 (by decide) (hts _ m_0) rfl dX5_round_16 ?_
    refine w_get (v := .int x_no_people) hx hb hts i_X0 hown hK w h_x_no rfl 6 (by decide) (hts _ m_4) rfl dX5_round_19 ?_
    refine lv_if_ne (tgt := 28) hx hb dX5_round_22 (by decide) (fun c2 => ?_) (fun c2 => ?_)
    · skip
      have hq := hq.trans (if_neg c2)
      refine lv_aload_n hx hb dX5_round_28 rfl (lv_at hl 0 rfl) ?_
      refine w_get (v := .ref x_no) hx hb hts i_X5 hown hK w h_x rfl 0 (by decide) (hts _ m_0) rfl dX5_round_29 ?_
      refine w_finw (w_runV (rm := ({ frames := 8, cells := 0, slots := 0, locals := 165 } : Room)) (As := []) (rest := []) (n := 0) hx hb hml hts hown hK w (c_X0_play l D cI cP cS cL L _ x_no x_no_up x_no_down x_no_high x_no_prize x_no_z x_no_rounds x_no_people x_no_pa x_no_cr x_no_ls x_no_cr_e x_no_cr_so x_no_cr_sz 12 x_no_cr_e_f pr pr_nu pr_ki pr_st pr_sl h_x_no h_x_no_pa h_x_no_cr h_x_no_cr_e h_pr (by decide) hsts) gX5_round_X0_play rfl rfl rfl (by decide +kernel) ⟨(Nat.le_of_ble_eq_true rfl), (Nat.le_of_ble_eq_true rfl)⟩ h_x_no rfl rfl hl.1 rfl (Nat.le_of_ble_eq_true rfl) dX5_round_32 ⟨(Nat.le_of_ble_eq_true rfl), (Nat.le_of_ble_eq_true rfl)⟩) w hA (fun F1 H locs hp w => ?_)
      obtain ⟨x32, hx32, hw0, hw1, hw2, hk9⟩ := hp
      have hq := hq.trans (w_bnd hx32)
      have h_x := h_x.keep hk9 ⟨(wi.ne h_x h_x_no (by intro h; cases h)), (wi.ne h_x h_x_no_cr (by intro h; cases h)), (wi.ne h_x h_x_no_cr_e (by intro h; cases h)), trivial⟩
      have h_x_no_pa := h_x_no_pa.keep hk9 ⟨(wi.ne h_x_no_pa h_x_no (by intro h; cases h)), (wi.ne h_x_no_pa h_x_no_cr (by intro h; cases h)), (wi.ne h_x_no_pa h_x_no_cr_e (by intro h; cases h)), trivial⟩
      have h_pr := fun i (hi : i < 12) => (h_pr i hi).keep hk9 ⟨(wi.ne (h_pr i hi) h_x_no (by intro h; cases h)), (wi.ne (h_pr i hi) h_x_no_cr (by intro h; cases h)), (wi.ne (h_pr i hi) h_x_no_cr_e (by intro h; cases h)), trivial⟩
      have h_x_no := h_x_no.new hw0
      have h_x_no_cr := h_x_no_cr.new hw1
      have h_x_no_cr_e := h_x_no_cr_e.new hw2
      have hk := hk.call hk9 (fun q h => ⟨h.1, h.2.1, h.2.2.1, trivial⟩)
      refine lv_aload_n hx hb dX5_round_35 rfl (lv_at hl 0 rfl) ?_
      refine w_get (v := .ref x_no) hx hb hts i_X5 hown hK w h_x rfl 0 (by decide) (hts _ m_0) rfl dX5_round_36 ?_
      refine w_get (v := .int x32.2.1) hx hb hts i_X0 hown hK w h_x_no rfl 5 (by decide) (hts _ m_2) rfl dX5_round_39 ?_
      exact w_iret hx hb hr hlocks w ⟨rfl, _, hq.symm, rfl, h_x_no.2, h_x_no_cr.2, h_x_no_cr_e.2, hk⟩ (Nat.le_refl _) (Nat.le_refl _) dX5_round_42
    · skip
      have hq := hq.trans (if_pos c2)
      refine lv_bipush (v := (-3)) hx hb dX5_round_25 (by decide) ?_
      exact w_iret hx hb hr hlocks w ⟨rfl, _, hq.symm, rfl, h_x_no.2, h_x_no_cr.2, h_x_no_cr_e.2, hk⟩ (Nat.le_refl _) (Nat.le_refl _) dX5_round_27
  · skip
    have hq := hq.trans (if_neg c1)
    refine lv_bipush (v := (-2)) hx hb dX5_round_12 (by decide) ?_
    exact w_iret hx hb hr hlocks w ⟨rfl, _, hq.symm, rfl, h_x_no.2, h_x_no_cr.2, h_x_no_cr_e.2, hk⟩ (Nat.le_refl _) (Nat.le_refl _) dX5_round_14
def f_X5_anew (x_no_people : Int32) (x_no_cr_e_f : Nat → Int32) : Int32 × Int32 × Int32 × Int32 × Int32 × (Nat → Int32) := (bnd (f_X0_forgetRounds 12 x_no_cr_e_f) (fun x4 : Int32 × Int32 × Int32 × Int32 × (Nat → Int32) => (x_no_people, x4.1, x4.2.1, x4.2.2.1, x4.2.2.2.1, x4.2.2.2.2)))
set_option maxHeartbeats 400000 in
set_option maxRecDepth 100000 in
theorem c_X5_anew (l : Launch) (D : va_G) (cI cP cS cL : ClassId) (L : List Nat) (F : Nat → va_E) (x : Nat) (x_no : Nat) (x_ke : Nat) (x_mi : Nat) (x_im : Int32) (x_sh : Nat) (x_co : Nat) (x_ot : Nat) (x_no_up : Int32) (x_no_down : Int32) (x_no_high : Int32) (x_no_prize : Int32) (x_no_z : Int32) (x_no_rounds : Int32) (x_no_people : Int32) (x_no_pa : Nat) (x_no_cr : Nat) (x_no_ls : Int32) (x_no_cr_e : Nat) (x_no_cr_so : Int32) (x_no_cr_sz : Int32) (x_no_cr_e_f : Nat → Int32) (h_x : wi L F x (eX x_no x_ke x_mi x_im x_sh x_co x_ot)) (h_x_no : wi L F x_no (eG x_no_up x_no_down x_no_high x_no_prize x_no_z x_no_rounds x_no_people x_no_pa x_no_cr x_no_ls)) (h_x_no_cr : wi L F x_no_cr (eR x_no_cr_e x_no_cr_so x_no_cr_sz)) (h_x_no_cr_e : wi L F x_no_cr_e (eI cI 12 x_no_cr_e_f)) : wMj l D cI cP cS cL yX5_anew wsX5_anew ({ frames := 3, cells := 0, slots := 0, locals := 65 } : Room) [.ref x] L F (fun r1 F1 => ∃ x : Int32 × Int32 × Int32 × Int32 × Int32 × (Nat → Int32), x = (f_X5_anew x_no_people x_no_cr_e_f) ∧ r1 = x.1 ∧ F1 x_no = (eG x_no_up x_no_down x_no_high x_no_prize x_no_z x.2.1 x_no_people x_no_pa x_no_cr x.2.2.1) ∧ F1 x_no_cr = (eR x_no_cr_e x.2.2.2.1 x.2.2.2.2.1) ∧ F1 x_no_cr_e = (eI cI 12 x.2.2.2.2.2) ∧ wk (fun q : Nat => q ≠ x_no ∧ q ≠ x_no_cr ∧ q ≠ x_no_cr_e ∧ True) F1 F) := by
  refine wM.of (cc := cX5_anew) (maxL := 1) (ret := (some .int)) (by decide) rfl (Nat.le_of_ble_eq_true rfl) ?_
  intro pZ eZ sZ mZ below meth cZ A ls C hl w
  obtain ⟨hx, hb, hr, hml, hts, hown, hlocks, hK, hA, hin⟩ := C
  have hown : sZ.vm.findClass RX5 = some mZ.cls := hown
  have hl : lv_has ls 1 [(0, .ref x)] := hl
  have m_0 : ((.fieldLink RX5 10 "TwoThirds" "now" "LTwoThirds$Game;") : Cond) ∈ wsX5_anew := by decide +kernel
  have i_X5 : ∀ w ∈ wsX50, w ∈ wsX5_anew := by decide +kernel
  have m_2 : ((.fieldLink RX5 125 "TwoThirds$Game" "people" "I") : Cond) ∈ wsX5_anew := by decide +kernel
  have i_X0 : ∀ w ∈ wsX00, w ∈ wsX5_anew := by decide +kernel
  have hk : wk (fun q : Nat => q ≠ x_no ∧ q ≠ x_no_cr ∧ q ≠ x_no_cr_e ∧ True) F F := wk.rf
  have hq : f_X5_anew x_no_people x_no_cr_e_f = f_X5_anew x_no_people x_no_cr_e_f := rfl
  refine lv_aload_n hx hb dX5_anew_0 rfl (lv_at hl 0 rfl) ?_
  refine w_get (v := .ref x_no) hx hb hts i_X5 hown hK w h_x rfl 0 (by decide) (hts _ m_0) rfl dX5_anew_1 ?_
  refine w_finw (w_runV (rm := ({ frames := 2, cells := 0, slots := 0, locals := 45 } : Room)) (As := []) (rest := []) (n := 0) hx hb hml hts hown hK w (c_X0_forgetRounds l D cI cP cS cL L _ x_no x_no_up x_no_down x_no_high x_no_prize x_no_z x_no_rounds x_no_people x_no_pa x_no_cr x_no_ls x_no_cr_e x_no_cr_so x_no_cr_sz 12 x_no_cr_e_f h_x_no h_x_no_cr h_x_no_cr_e (by decide)) gX5_anew_X0_forgetRounds rfl rfl rfl (by decide +kernel) ⟨(Nat.le_of_ble_eq_true rfl), (Nat.le_of_ble_eq_true rfl)⟩ h_x_no rfl rfl hl.1 rfl (Nat.le_of_ble_eq_true rfl) dX5_anew_4 ⟨(Nat.le_of_ble_eq_true rfl), (Nat.le_of_ble_eq_true rfl)⟩) w hA (fun F1 H locs hp w => ?_)
  obtain ⟨x4, hx4, hw0, hw1, hw2, hk9⟩ := hp
  have hq := hq.trans (w_bnd hx4)
  have h_x := h_x.keep hk9 ⟨(wi.ne h_x h_x_no (by intro h; cases h)), (wi.ne h_x h_x_no_cr (by intro h; cases h)), (wi.ne h_x h_x_no_cr_e (by intro h; cases h)), trivial⟩
  have h_x_no := h_x_no.new hw0
  have h_x_no_cr := h_x_no_cr.new hw1
  have h_x_no_cr_e := h_x_no_cr_e.new hw2
  have hk := hk.call hk9 (fun q h => ⟨h.1, h.2.1, h.2.2.1, trivial⟩)
  refine lv_aload_n hx hb dX5_anew_7 rfl (lv_at hl 0 rfl) ?_
  refine w_get (v := .ref x_no) hx hb hts i_X5 hown hK w h_x rfl 0 (by decide) (hts _ m_0) rfl dX5_anew_8 ?_
  refine w_get (v := .int x_no_people) hx hb hts i_X0 hown hK w h_x_no rfl 6 (by decide) (hts _ m_2) rfl dX5_anew_11 ?_
  exact w_iret hx hb hr hlocks w ⟨rfl, _, hq.symm, rfl, h_x_no.2, h_x_no_cr.2, h_x_no_cr_e.2, hk⟩ (Nat.le_refl _) (Nat.le_refl _) dX5_anew_14
def f_X5_last (what : Int32) (x_no_up : Int32) (x_no_down : Int32) (x_no_prize : Int32) (x_no_rounds : Int32) (x_no_ls : Int32) (x_no_cr_sz : Int32) (x_no_cr_e_f : Nat → Int32) : Int32 := if what < (0 : Int32) then (-1) else (if what ≤ (2 : Int32) then (if x_no_rounds = (0 : Int32) then (-3) else (if what = (0 : Int32) then x_no_ls else (if what = (1 : Int32) then (f_X0_countWinners x_no_up x_no_down x_no_prize x_no_cr_sz x_no_cr_e_f) else (f_X0_firstWinner x_no_up x_no_down x_no_prize x_no_cr_sz x_no_cr_e_f)))) else (-1))
set_option maxHeartbeats 400000 in
set_option maxRecDepth 100000 in
theorem c_X5_last (l : Launch) (D : va_G) (cI cP cS cL : ClassId) (L : List Nat) (F : Nat → va_E) (x : Nat) (what : Int32) (x_no : Nat) (x_ke : Nat) (x_mi : Nat) (x_im : Int32) (x_sh : Nat) (x_co : Nat) (x_ot : Nat) (x_no_up : Int32) (x_no_down : Int32) (x_no_high : Int32) (x_no_prize : Int32) (x_no_z : Int32) (x_no_rounds : Int32) (x_no_people : Int32) (x_no_pa : Nat) (x_no_cr : Nat) (x_no_ls : Int32) (x_no_cr_e : Nat) (x_no_cr_so : Int32) (x_no_cr_sz : Int32) (x_no_cr_e_f : Nat → Int32) (h_x : wi L F x (eX x_no x_ke x_mi x_im x_sh x_co x_ot)) (h_x_no : wi L F x_no (eG x_no_up x_no_down x_no_high x_no_prize x_no_z x_no_rounds x_no_people x_no_pa x_no_cr x_no_ls)) (h_x_no_cr : wi L F x_no_cr (eR x_no_cr_e x_no_cr_so x_no_cr_sz)) (h_x_no_cr_e : wi L F x_no_cr_e (eI cI 12 x_no_cr_e_f)) (hzc : x_no_cr_sz.toInt ≤ 12) : wMI l D cI cP cS cL yX5_last wsX5_last ({ frames := 4, cells := 0, slots := 0, locals := 97 } : Room) [.ref x, .int what] L F (f_X5_last what x_no_up x_no_down x_no_prize x_no_rounds x_no_ls x_no_cr_sz x_no_cr_e_f) F := by
  refine wM.of (cc := cX5_last) (maxL := 2) (ret := (some .int)) (by decide) rfl (Nat.le_of_ble_eq_true rfl) ?_
  intro pZ eZ sZ mZ below meth cZ A ls C hl w
  obtain ⟨hx, hb, hr, hml, hts, hown, hlocks, hK, hA, hin⟩ := C
  have hown : sZ.vm.findClass RX5 = some mZ.cls := hown
  have hl : lv_has ls 2 [(0, .ref x), (1, .int what)] := hl
  have m_0 : ((.fieldLink RX5 10 "TwoThirds" "now" "LTwoThirds$Game;") : Cond) ∈ wsX5_last := by decide +kernel
  have i_X5 : ∀ w ∈ wsX50, w ∈ wsX5_last := by decide +kernel
  have m_2 : ((.fieldLink RX5 93 "TwoThirds$Game" "rounds" "I") : Cond) ∈ wsX5_last := by decide +kernel
  have i_X0 : ∀ w ∈ wsX00, w ∈ wsX5_last := by decide +kernel
  have m_4 : ((.fieldLink RX5 96 "TwoThirds$Game" "cards" "LTwoThirds$Row;") : Cond) ∈ wsX5_last := by decide +kernel
  have m_5 : ((.fieldLink RX5 134 "TwoThirds$Game" "lastSum" "I") : Cond) ∈ wsX5_last := by decide +kernel
  have hq : f_X5_last what x_no_up x_no_down x_no_prize x_no_rounds x_no_ls x_no_cr_sz x_no_cr_e_f = f_X5_last what x_no_up x_no_down x_no_prize x_no_rounds x_no_ls x_no_cr_sz x_no_cr_e_f := rfl
  refine lv_iload_n hx hb dX5_last_0 rfl (lv_at hl 1 rfl) ?_
  refine lv_if_lt (tgt := 9) hx hb dX5_last_1 (by decide) (fun c1 => ?_) (fun c1 => ?_)
  · skip
    have hq := hq.trans (if_pos c1)
    refine lv_iconst (v := (-1)) hx hb dX5_last_9 (by decide) ?_
    exact w_iret hx hb hr hlocks w ⟨hq.symm, rfl, rfl⟩ (Nat.le_refl _) (Nat.le_refl _) dX5_last_10
  · skip
    have hq := hq.trans (if_neg c1)
    refine lv_iload_n hx hb dX5_last_4 rfl (lv_at hl 1 rfl) ?_
    refine lv_iconst (v := 2) hx hb dX5_last_5 (by decide) ?_
    refine lv_icmp_le (tgt := 11) hx hb dX5_last_6 (by decide) (fun c2 => ?_) (fun c2 => ?_)
    · skip
      have hq := hq.trans (if_pos c2)
      refine lv_aload_n hx hb dX5_last_11 rfl (lv_at hl 0 rfl) ?_
      refine w_get (v := .ref x_no) hx hb hts i_X5 hown hK w h_x rfl 0 (by decide) (hts _ m_0) rfl dX5_last_12 ?_
      refine w_get (v := .int x_no_rounds) hx hb hts i_X0 hown hK w h_x_no rfl 5 (by decide) (hts _ m_2) rfl dX5_last_15 ?_
      refine lv_if_ne (tgt := 24) hx hb dX5_last_18 (by decide) (fun c3 => ?_) (fun c3 => ?_)
      · skip
        have hq := hq.trans (if_neg c3)
        refine lv_iload_n hx hb dX5_last_24 rfl (lv_at hl 1 rfl) ?_
        refine lv_if_ne (tgt := 36) hx hb dX5_last_25 (by decide) (fun c4 => ?_) (fun c4 => ?_)
        · skip
          have hq := hq.trans (if_neg c4)
          refine lv_iload_n hx hb dX5_last_36 rfl (lv_at hl 1 rfl) ?_
          refine lv_iconst (v := 1) hx hb dX5_last_37 (by decide) ?_
          refine lv_icmp_ne (tgt := 58) hx hb dX5_last_38 (by decide) (fun c5 => ?_) (fun c5 => ?_)
          · skip
            have hq := hq.trans (if_neg c5)
            refine lv_aload_n hx hb dX5_last_58 rfl (lv_at hl 0 rfl) ?_
            refine w_get (v := .ref x_no) hx hb hts i_X5 hown hK w h_x rfl 0 (by decide) (hts _ m_0) rfl dX5_last_59 ?_
            refine lv_aload_n hx hb dX5_last_62 rfl (lv_at hl 0 rfl) ?_
            refine w_get (v := .ref x_no) hx hb hts i_X5 hown hK w h_x rfl 0 (by decide) (hts _ m_0) rfl dX5_last_63 ?_
            refine w_get (v := .ref x_no_cr) hx hb hts i_X0 hown hK w h_x_no rfl 8 (by decide) (hts _ m_4) rfl dX5_last_66 ?_
            refine w_finI (w_runV (rm := ({ frames := 2, cells := 0, slots := 0, locals := 43 } : Room)) (As := [.ref x_no_cr]) (rest := []) (n := 1) hx hb hml hts hown hK w (c_X0_firstWinner l D cI cP cS cL L _ x_no x_no_cr x_no_up x_no_down x_no_high x_no_prize x_no_z x_no_rounds x_no_people x_no_pa x_no_cr x_no_ls x_no_cr_e x_no_cr_so x_no_cr_sz 12 x_no_cr_e_f h_x_no h_x_no_cr h_x_no_cr_e hzc) gX5_last_X0_firstWinner rfl rfl rfl (by decide +kernel) ⟨(Nat.le_of_ble_eq_true rfl), (Nat.le_of_ble_eq_true rfl)⟩ h_x_no rfl rfl hl.1 rfl (Nat.le_of_ble_eq_true rfl) dX5_last_69 ⟨(Nat.le_of_ble_eq_true rfl), (Nat.le_of_ble_eq_true rfl)⟩) w hA (fun H locs w => ?_)
            exact w_iret hx hb hr hlocks w ⟨hq.symm, rfl, rfl⟩ (Nat.le_refl _) (Nat.le_refl _) dX5_last_72
          · skip
            have hq := hq.trans (if_pos c5)
            refine lv_aload_n hx hb dX5_last_41 rfl (lv_at hl 0 rfl) ?_
            refine w_get (v := .ref x_no) hx hb hts i_X5 hown hK w h_x rfl 0 (by decide) (hts _ m_0) rfl dX5_last_42 ?_
            refine lv_aload_n hx hb dX5_last_45 rfl (lv_at hl 0 rfl) ?_
            refine w_get (v := .ref x_no) hx hb hts i_X5 hown hK w h_x rfl 0 (by decide) (hts _ m_0) rfl dX5_last_46 ?_
            refine w_get (v := .ref x_no_cr) hx hb hts i_X0 hown hK w h_x_no rfl 8 (by decide) (hts _ m_4) rfl dX5_last_49 ?_
            refine w_finI (w_runV (rm := ({ frames := 3, cells := 0, slots := 0, locals := 70 } : Room)) (As := [.ref x_no_cr]) (rest := []) (n := 1) hx hb hml hts hown hK w (c_X0_countWinners l D cI cP cS cL L _ x_no x_no_cr x_no_up x_no_down x_no_high x_no_prize x_no_z x_no_rounds x_no_people x_no_pa x_no_cr x_no_ls x_no_cr_e x_no_cr_so x_no_cr_sz 12 x_no_cr_e_f h_x_no h_x_no_cr h_x_no_cr_e hzc) gX5_last_X0_countWinners rfl rfl rfl (by decide +kernel) ⟨(Nat.le_of_ble_eq_true rfl), (Nat.le_of_ble_eq_true rfl)⟩ h_x_no rfl rfl hl.1 rfl (Nat.le_of_ble_eq_true rfl) dX5_last_52 ⟨(Nat.le_of_ble_eq_true rfl), (Nat.le_of_ble_eq_true rfl)⟩) w hA (fun H locs w => ?_)
            refine lv_goto (tgt := 72) hx hb dX5_last_55 (by decide) ?_
            exact w_iret hx hb hr hlocks w ⟨hq.symm, rfl, rfl⟩ (Nat.le_refl _) (Nat.le_refl _) dX5_last_72
        · skip
          have hq := hq.trans (if_pos c4)
          refine lv_aload_n hx hb dX5_last_28 rfl (lv_at hl 0 rfl) ?_
          refine w_get (v := .ref x_no) hx hb hts i_X5 hown hK w h_x rfl 0 (by decide) (hts _ m_0) rfl dX5_last_29 ?_
          refine w_get (v := .int x_no_ls) hx hb hts i_X0 hown hK w h_x_no rfl 9 (by decide) (hts _ m_5) rfl dX5_last_32 ?_
          exact w_iret hx hb hr hlocks w ⟨hq.symm, rfl, rfl⟩ (Nat.le_refl _) (Nat.le_refl _) dX5_last_35
      · skip
        have hq := hq.trans (if_pos c3)
        refine lv_bipush (v := (-3)) hx hb dX5_last_21 (by decide) ?_
        exact w_iret hx hb hr hlocks w ⟨hq.symm, rfl, rfl⟩ (Nat.le_refl _) (Nat.le_refl _) dX5_last_23
    · skip
      have hq := hq.trans (if_neg c2)
      refine lv_iconst (v := (-1)) hx hb dX5_last_9 (by decide) ?_
      exact w_iret hx hb hr hlocks w ⟨hq.symm, rfl, rfl⟩ (Nat.le_refl _) (Nat.le_refl _) dX5_last_10
def f_X5_target (part : Int32) (x_no_up : Int32) (x_no_down : Int32) (x_no_rounds : Int32) (x_no_cr_sz : Int32) (x_no_cr_e_f : Nat → Int32) : Int32 := if (f_X5_isOneOfTwo part) = (0 : Int32) then (-1) else (if x_no_rounds = (0 : Int32) then (-3) else (f_X5_leastPart (f_X0_targetAbove x_no_up x_no_cr_sz x_no_cr_e_f) (f_X0_targetLine x_no_down x_no_cr_sz) part))
set_option maxHeartbeats 400000 in
set_option maxRecDepth 100000 in
theorem c_X5_target (l : Launch) (D : va_G) (cI cP cS cL : ClassId) (L : List Nat) (F : Nat → va_E) (x : Nat) (part : Int32) (x_no : Nat) (x_ke : Nat) (x_mi : Nat) (x_im : Int32) (x_sh : Nat) (x_co : Nat) (x_ot : Nat) (x_no_up : Int32) (x_no_down : Int32) (x_no_high : Int32) (x_no_prize : Int32) (x_no_z : Int32) (x_no_rounds : Int32) (x_no_people : Int32) (x_no_pa : Nat) (x_no_cr : Nat) (x_no_ls : Int32) (x_no_cr_e : Nat) (x_no_cr_so : Int32) (x_no_cr_sz : Int32) (x_no_cr_e_f : Nat → Int32) (h_x : wi L F x (eX x_no x_ke x_mi x_im x_sh x_co x_ot)) (h_x_no : wi L F x_no (eG x_no_up x_no_down x_no_high x_no_prize x_no_z x_no_rounds x_no_people x_no_pa x_no_cr x_no_ls)) (h_x_no_cr : wi L F x_no_cr (eR x_no_cr_e x_no_cr_so x_no_cr_sz)) (h_x_no_cr_e : wi L F x_no_cr_e (eI cI 12 x_no_cr_e_f)) (hzc : x_no_cr_sz.toInt ≤ 12) : wMI l D cI cP cS cL yX5_target wsX5_target ({ frames := 2, cells := 0, slots := 0, locals := 47 } : Room) [.ref x, .int part] L F (f_X5_target part x_no_up x_no_down x_no_rounds x_no_cr_sz x_no_cr_e_f) F := by
  refine wM.of (cc := cX5_target) (maxL := 2) (ret := (some .int)) (by decide) rfl (Nat.le_of_ble_eq_true rfl) ?_
  intro pZ eZ sZ mZ below meth cZ A ls C hl w
  obtain ⟨hx, hb, hr, hml, hts, hown, hlocks, hK, hA, hin⟩ := C
  have hown : sZ.vm.findClass RX5 = some mZ.cls := hown
  have hl : lv_has ls 2 [(0, .ref x), (1, .int part)] := hl
  have m_0 : ((.fieldLink RX5 10 "TwoThirds" "now" "LTwoThirds$Game;") : Cond) ∈ wsX5_target := by decide +kernel
  have i_X5 : ∀ w ∈ wsX50, w ∈ wsX5_target := by decide +kernel
  have m_2 : ((.fieldLink RX5 93 "TwoThirds$Game" "rounds" "I") : Cond) ∈ wsX5_target := by decide +kernel
  have i_X0 : ∀ w ∈ wsX00, w ∈ wsX5_target := by decide +kernel
  have m_4 : ((.fieldLink RX5 96 "TwoThirds$Game" "cards" "LTwoThirds$Row;") : Cond) ∈ wsX5_target := by decide +kernel
  have hq : f_X5_target part x_no_up x_no_down x_no_rounds x_no_cr_sz x_no_cr_e_f = f_X5_target part x_no_up x_no_down x_no_rounds x_no_cr_sz x_no_cr_e_f := rfl
  refine lv_iload_n hx hb dX5_target_0 rfl (lv_at hl 1 rfl) ?_
  refine w_finI (w_runS (rm := ({ frames := 0, cells := 0, slots := 0, locals := 0 } : Room)) (As := [.int part]) (rest := []) (n := 1) hx hb hml hts hown hK w (c_X5_isOneOfTwo l D cI cP cS cL L _ part ) gX5_target_X5_isOneOfTwo rfl rfl rfl (by decide +kernel) ⟨(Nat.le_of_ble_eq_true rfl), (Nat.le_of_ble_eq_true rfl)⟩ rfl hl.1 rfl (Nat.le_of_ble_eq_true rfl) dX5_target_1 ⟨(Nat.le_of_ble_eq_true rfl), (Nat.le_of_ble_eq_true rfl)⟩) w hA (fun H locs w => ?_)
  refine lv_if_ne (tgt := 9) hx hb dX5_target_4 (by decide) (fun c1 => ?_) (fun c1 => ?_)
  · skip
    have hq := hq.trans (if_neg c1)
    refine lv_aload_n hx hb dX5_target_9 rfl (lv_at hl 0 rfl) ?_
    refine w_get (v := .ref x_no) hx hb hts i_X5 hown hK w h_x rfl 0 (by decide) (hts _ m_0) rfl dX5_target_10 ?_
    refine w_get (v := .int x_no_rounds) hx hb hts i_X0 hown hK w h_x_no rfl 5 (by decide) (hts _ m_2) rfl dX5_target_13 ?_
    refine lv_if_ne (tgt := 22) hx hb dX5_target_16 (by decide) (fun c2 => ?_) (fun c2 => ?_)
    · skip
      have hq := hq.trans (if_neg c2)
      refine lv_aload_n hx hb dX5_target_22 rfl (lv_at hl 0 rfl) ?_
      refine w_get (v := .ref x_no) hx hb hts i_X5 hown hK w h_x rfl 0 (by decide) (hts _ m_0) rfl dX5_target_23 ?_
      refine lv_aload_n hx hb dX5_target_26 rfl (lv_at hl 0 rfl) ?_
      refine w_get (v := .ref x_no) hx hb hts i_X5 hown hK w h_x rfl 0 (by decide) (hts _ m_0) rfl dX5_target_27 ?_
      refine w_get (v := .ref x_no_cr) hx hb hts i_X0 hown hK w h_x_no rfl 8 (by decide) (hts _ m_4) rfl dX5_target_30 ?_
      refine w_finI (w_runV (rm := ({ frames := 1, cells := 0, slots := 0, locals := 22 } : Room)) (As := [.ref x_no_cr]) (rest := []) (n := 1) hx hb hml hts hown hK w (c_X0_targetAbove l D cI cP cS cL L _ x_no x_no_cr x_no_up x_no_down x_no_high x_no_prize x_no_z x_no_rounds x_no_people x_no_pa x_no_cr x_no_ls x_no_cr_e x_no_cr_so x_no_cr_sz 12 x_no_cr_e_f h_x_no h_x_no_cr h_x_no_cr_e hzc) gX5_target_X0_targetAbove rfl rfl rfl (by decide +kernel) ⟨(Nat.le_of_ble_eq_true rfl), (Nat.le_of_ble_eq_true rfl)⟩ h_x_no rfl rfl hl.1 rfl (Nat.le_of_ble_eq_true rfl) dX5_target_33 ⟨(Nat.le_of_ble_eq_true rfl), (Nat.le_of_ble_eq_true rfl)⟩) w hA (fun H locs w => ?_)
      refine lv_aload_n hx hb dX5_target_36 rfl (lv_at hl 0 rfl) ?_
      refine w_get (v := .ref x_no) hx hb hts i_X5 hown hK w h_x rfl 0 (by decide) (hts _ m_0) rfl dX5_target_37 ?_
      refine lv_aload_n hx hb dX5_target_40 rfl (lv_at hl 0 rfl) ?_
      refine w_get (v := .ref x_no) hx hb hts i_X5 hown hK w h_x rfl 0 (by decide) (hts _ m_0) rfl dX5_target_41 ?_
      refine w_get (v := .ref x_no_cr) hx hb hts i_X0 hown hK w h_x_no rfl 8 (by decide) (hts _ m_4) rfl dX5_target_44 ?_
      refine w_finI (w_runV (rm := ({ frames := 0, cells := 0, slots := 0, locals := 0 } : Room)) (As := [.ref x_no_cr]) (rest := [.int (f_X0_targetAbove x_no_up x_no_cr_sz x_no_cr_e_f)]) (n := 1) hx hb hml hts hown hK w (c_X0_targetLine l D cI cP cS cL L _ x_no x_no_cr x_no_up x_no_down x_no_high x_no_prize x_no_z x_no_rounds x_no_people x_no_pa x_no_cr x_no_ls x_no_cr_e x_no_cr_so x_no_cr_sz h_x_no h_x_no_cr) gX5_target_X0_targetLine rfl rfl rfl (by decide +kernel) ⟨(Nat.le_of_ble_eq_true rfl), (Nat.le_of_ble_eq_true rfl)⟩ h_x_no rfl rfl hl.1 rfl (Nat.le_of_ble_eq_true rfl) dX5_target_47 ⟨(Nat.le_of_ble_eq_true rfl), (Nat.le_of_ble_eq_true rfl)⟩) w hA (fun H locs w => ?_)
      refine lv_iload_n hx hb dX5_target_50 rfl (lv_at hl 1 rfl) ?_
      refine w_finI (w_runS (rm := ({ frames := 1, cells := 0, slots := 0, locals := 25 } : Room)) (As := [.int (f_X0_targetAbove x_no_up x_no_cr_sz x_no_cr_e_f), .int (f_X0_targetLine x_no_down x_no_cr_sz), .int part]) (rest := []) (n := 3) hx hb hml hts hown hK w (c_X5_leastPart l D cI cP cS cL L _ (f_X0_targetAbove x_no_up x_no_cr_sz x_no_cr_e_f) (f_X0_targetLine x_no_down x_no_cr_sz) part ) gX5_target_X5_leastPart rfl rfl rfl (by decide +kernel) ⟨(Nat.le_of_ble_eq_true rfl), (Nat.le_of_ble_eq_true rfl)⟩ rfl hl.1 rfl (Nat.le_of_ble_eq_true rfl) dX5_target_51 ⟨(Nat.le_of_ble_eq_true rfl), (Nat.le_of_ble_eq_true rfl)⟩) w hA (fun H locs w => ?_)
      exact w_iret hx hb hr hlocks w ⟨hq.symm, rfl, rfl⟩ (Nat.le_refl _) (Nat.le_refl _) dX5_target_54
    · skip
      have hq := hq.trans (if_pos c2)
      refine lv_bipush (v := (-3)) hx hb dX5_target_19 (by decide) ?_
      exact w_iret hx hb hr hlocks w ⟨hq.symm, rfl, rfl⟩ (Nat.le_refl _) (Nat.le_refl _) dX5_target_21
  · skip
    have hq := hq.trans (if_pos c1)
    refine lv_iconst (v := (-1)) hx hb dX5_target_7 (by decide) ?_
    exact w_iret hx hb hr hlocks w ⟨hq.symm, rfl, rfl⟩ (Nat.le_refl _) (Nat.le_refl _) dX5_target_8
def f_X5_mean (d : Int32) (what : Int32) (part : Int32) (x_no_up : Int32) (x_no_down : Int32) (x_no_high : Int32) (sh_ho : Nat → Int32) (rw_sz : Nat → Int32) (el_f : Nat → Nat → Int32) : Int32 := if (¬ d < 0 ∧ ¬ (8 : Int32) ≤ d) then (if (f_X5_isOneOfTwo what) = (0 : Int32) then (-1) else (if (f_X5_isOneOfTwo part) = (0 : Int32) then (-1) else (if (f_X5_cardsRefusal x_no_high (sh_ho (d.toNatClampNeg)) (rw_sz (d.toNatClampNeg)) (el_f (d.toNatClampNeg))) = (0 : Int32) then (if what = (0 : Int32) then (f_X5_leastPart (f_X3_sum (rw_sz (d.toNatClampNeg)) (el_f (d.toNatClampNeg))) (rw_sz (d.toNatClampNeg)) part) else (f_X5_leastPart (f_X0_targetAbove x_no_up (rw_sz (d.toNatClampNeg)) (el_f (d.toNatClampNeg))) (f_X0_targetLine x_no_down (rw_sz (d.toNatClampNeg))) part)) else (f_X5_cardsRefusal x_no_high (sh_ho (d.toNatClampNeg)) (rw_sz (d.toNatClampNeg)) (el_f (d.toNatClampNeg)))))) else (if (f_X5_isOneOfTwo what) = (0 : Int32) then (-1) else (if (f_X5_isOneOfTwo part) = (0 : Int32) then (-1) else (-1)))
set_option maxHeartbeats 400000 in
set_option maxRecDepth 100000 in
theorem c_X5_mean (l : Launch) (D : va_G) (cI cP cS cL : ClassId) (L : List Nat) (F : Nat → va_E) (x : Nat) (d : Int32) (what : Int32) (part : Int32) (x_no : Nat) (x_ke : Nat) (x_mi : Nat) (x_im : Int32) (x_sh : Nat) (x_co : Nat) (x_ot : Nat) (x_no_up : Int32) (x_no_down : Int32) (x_no_high : Int32) (x_no_prize : Int32) (x_no_z : Int32) (x_no_rounds : Int32) (x_no_people : Int32) (x_no_pa : Nat) (x_no_cr : Nat) (x_no_ls : Int32) (sh : Nat → Nat) (sh_ho : Nat → Int32) (rw : Nat → Nat) (sp : Nat → Nat) (el : Nat → Nat) (rw_so : Nat → Int32) (rw_sz : Nat → Int32) (el_f : Nat → Nat → Int32) (h_x : wi L F x (eX x_no x_ke x_mi x_im x_sh x_co x_ot)) (h_x_no : wi L F x_no (eG x_no_up x_no_down x_no_high x_no_prize x_no_z x_no_rounds x_no_people x_no_pa x_no_cr x_no_ls)) (h_x_sh : wi L F x_sh (eQ cS 8 (fun i => some (sh i)))) (h_sh : ∀ i, i < 8 → wi L F (sh i) (eS (sh_ho i) (rw i) (sp i))) (h_rw : ∀ i, i < 8 → wi L F (rw i) (eR (el i) (rw_so i) (rw_sz i))) (h_el : ∀ i, i < 8 → wi L F (el i) (eI cI 100 (el_f i))) (hzs : ∀ i, i < 8 → (rw_sz i).toInt ≤ 100) : wMI l D cI cP cS cL yX5_mean wsX5_mean ({ frames := 4, cells := 0, slots := 0, locals := 86 } : Room) [.ref x, .int d, .int what, .int part] L F (f_X5_mean d what part x_no_up x_no_down x_no_high sh_ho rw_sz el_f) F := by
  refine wM.of (cc := cX5_mean) (maxL := 6) (ret := (some .int)) (by decide) rfl (Nat.le_of_ble_eq_true rfl) ?_
  intro pZ eZ sZ mZ below meth cZ A ls C hl w
  obtain ⟨hx, hb, hr, hml, hts, hown, hlocks, hK, hA, hin⟩ := C
  have hown : sZ.vm.findClass RX5 = some mZ.cls := hown
  have hl : lv_has ls 6 [(0, .ref x), (1, .int d), (2, .int what), (3, .int part)] := hl
  have m_0 : ((.fieldLink RX5 10 "TwoThirds" "now" "LTwoThirds$Game;") : Cond) ∈ wsX5_mean := by decide +kernel
  have i_X5 : ∀ w ∈ wsX50, w ∈ wsX5_mean := by decide +kernel
  have m_2 : ((.fieldLink RX5 44 "TwoThirds$Shelf" "row" "LTwoThirds$Row;") : Cond) ∈ wsX5_mean := by decide +kernel
  have i_X4 : ∀ w ∈ wsX40, w ∈ wsX5_mean := by decide +kernel
  have m_4 : ((.fieldLink RX5 167 "TwoThirds$Row" "size" "I") : Cond) ∈ wsX5_mean := by decide +kernel
  have i_X3 : ∀ w ∈ wsX30, w ∈ wsX5_mean := by decide +kernel
  have hq : f_X5_mean d what part x_no_up x_no_down x_no_high sh_ho rw_sz el_f = f_X5_mean d what part x_no_up x_no_down x_no_high sh_ho rw_sz el_f := rfl
  refine lv_aload_n hx hb dX5_mean_0 rfl (lv_at hl 0 rfl) ?_
  refine lv_iload_n hx hb dX5_mean_1 rfl (lv_at hl 1 rfl) ?_
  by_cases c1 : (¬ d < 0 ∧ ¬ (8 : Int32) ≤ d)
  · skip
    have hq := hq.trans (if_pos c1)
    have hlt_C : d.toNatClampNeg < 8 := w_okP (n := 8) c1 (by decide)
    refine w_finQ (v := .ref (sh (d.toNatClampNeg))) rfl (w_runV (rm := ({ frames := 0, cells := 0, slots := 0, locals := 0 } : Room)) (As := [.int d]) (rest := []) (n := 1) hx hb hml hts hown hK w (c_X5_shelfAt_some l D cI cP cS cL L _ x d x_no x_ke x_mi x_im x_sh x_co x_ot sh sh_ho rw sp h_x h_x_sh h_sh c1) gX5_mean_X5_shelfAt rfl rfl rfl (by decide +kernel) ⟨(Nat.le_of_ble_eq_true rfl), (Nat.le_of_ble_eq_true rfl)⟩ h_x rfl rfl hl.1 rfl (Nat.le_of_ble_eq_true rfl) dX5_mean_2 ⟨(Nat.le_of_ble_eq_true rfl), (Nat.le_of_ble_eq_true rfl)⟩) w hA (fun H locs w => ?_)
    refine lv_astore (lv' := [(4, .ref (sh (d.toNatClampNeg))), (0, .ref x), (1, .int d), (2, .int what), (3, .int part)]) hx hb dX5_mean_5 hl (by decide) rfl (fun ls hl => ?_)
    refine lv_iload_n hx hb dX5_mean_7 rfl (lv_at hl 3 rfl) ?_
    refine w_finI (w_runS (rm := ({ frames := 0, cells := 0, slots := 0, locals := 0 } : Room)) (As := [.int what]) (rest := []) (n := 1) hx hb hml hts hown hK w (c_X5_isOneOfTwo l D cI cP cS cL L _ what ) gX5_mean_X5_isOneOfTwo rfl rfl rfl (by decide +kernel) ⟨(Nat.le_of_ble_eq_true rfl), (Nat.le_of_ble_eq_true rfl)⟩ rfl hl.1 rfl (Nat.le_of_ble_eq_true rfl) dX5_mean_8 ⟨(Nat.le_of_ble_eq_true rfl), (Nat.le_of_ble_eq_true rfl)⟩) w hA (fun H locs w => ?_)
    refine lv_if_eq (tgt := 21) hx hb dX5_mean_11 (by decide) (fun c2 => ?_) (fun c2 => ?_)
    · skip
      have hq := hq.trans (if_pos c2)
      refine lv_iconst (v := (-1)) hx hb dX5_mean_21 (by decide) ?_
      exact w_iret hx hb hr hlocks w ⟨hq.symm, rfl, rfl⟩ (Nat.le_refl _) (Nat.le_refl _) dX5_mean_22
    · skip
      have hq := hq.trans (if_neg c2)
      refine lv_iload_n hx hb dX5_mean_14 rfl (lv_at hl 4 rfl) ?_
      refine w_finI (w_runS (rm := ({ frames := 0, cells := 0, slots := 0, locals := 0 } : Room)) (As := [.int part]) (rest := []) (n := 1) hx hb hml hts hown hK w (c_X5_isOneOfTwo l D cI cP cS cL L _ part ) gX5_mean_X5_isOneOfTwo rfl rfl rfl (by decide +kernel) ⟨(Nat.le_of_ble_eq_true rfl), (Nat.le_of_ble_eq_true rfl)⟩ rfl hl.1 rfl (Nat.le_of_ble_eq_true rfl) dX5_mean_15 ⟨(Nat.le_of_ble_eq_true rfl), (Nat.le_of_ble_eq_true rfl)⟩) w hA (fun H locs w => ?_)
      refine lv_if_ne (tgt := 23) hx hb dX5_mean_18 (by decide) (fun c3 => ?_) (fun c3 => ?_)
      · skip
        have hq := hq.trans (if_neg c3)
        refine lv_aload_n hx hb dX5_mean_23 rfl (lv_at hl 1 rfl) ?_
        refine lv_aload hx hb dX5_mean_24 (lv_at hl 0 rfl) ?_
        refine w_finI (w_runV (rm := ({ frames := 3, cells := 0, slots := 0, locals := 64 } : Room)) (As := [.ref (sh (d.toNatClampNeg))]) (rest := []) (n := 1) hx hb hml hts hown hK w (c_X5_cardsRefusal l D cI cP cS cL L _ x (sh (d.toNatClampNeg)) x_no x_ke x_mi x_im x_sh x_co x_ot x_no_up x_no_down x_no_high x_no_prize x_no_z x_no_rounds x_no_people x_no_pa x_no_cr x_no_ls (sh_ho (d.toNatClampNeg)) (rw (d.toNatClampNeg)) (sp (d.toNatClampNeg)) (el (d.toNatClampNeg)) (rw_so (d.toNatClampNeg)) (rw_sz (d.toNatClampNeg)) 100 (el_f (d.toNatClampNeg)) h_x h_x_no (h_sh (d.toNatClampNeg) (by omega)) (h_rw (d.toNatClampNeg) (by omega)) (h_el (d.toNatClampNeg) (by omega)) (hzs (d.toNatClampNeg) (by omega))) gX5_mean_X5_cardsRefusal rfl rfl rfl (by decide +kernel) ⟨(Nat.le_of_ble_eq_true rfl), (Nat.le_of_ble_eq_true rfl)⟩ h_x rfl rfl hl.1 rfl (Nat.le_of_ble_eq_true rfl) dX5_mean_26 ⟨(Nat.le_of_ble_eq_true rfl), (Nat.le_of_ble_eq_true rfl)⟩) w hA (fun H locs w => ?_)
        refine lv_istore (lv' := [(5, .int (f_X5_cardsRefusal x_no_high (sh_ho (d.toNatClampNeg)) (rw_sz (d.toNatClampNeg)) (el_f (d.toNatClampNeg)))), (4, .ref (sh (d.toNatClampNeg))), (0, .ref x), (1, .int d), (2, .int what), (3, .int part)]) hx hb dX5_mean_29 hl (by decide) rfl (fun ls hl => ?_)
        refine lv_iload hx hb dX5_mean_31 (lv_at hl 0 rfl) ?_
        refine lv_if_eq (tgt := 39) hx hb dX5_mean_33 (by decide) (fun c4 => ?_) (fun c4 => ?_)
        · skip
          have hq := hq.trans (if_pos c4)
          refine lv_iload_n hx hb dX5_mean_39 rfl (lv_at hl 4 rfl) ?_
          refine lv_if_ne (tgt := 64) hx hb dX5_mean_40 (by decide) (fun c5 => ?_) (fun c5 => ?_)
          · skip
            have hq := hq.trans (if_neg c5)
            refine lv_aload_n hx hb dX5_mean_64 rfl (lv_at hl 2 rfl) ?_
            refine w_get (v := .ref x_no) hx hb hts i_X5 hown hK w h_x rfl 0 (by decide) (hts _ m_0) rfl dX5_mean_65 ?_
            refine lv_aload hx hb dX5_mean_68 (lv_at hl 1 rfl) ?_
            refine w_get (v := .ref (rw (d.toNatClampNeg))) hx hb hts i_X4 hown hK w (h_sh (d.toNatClampNeg) (by omega)) rfl 1 (by decide) (hts _ m_2) rfl dX5_mean_70 ?_
            refine w_finI (w_runV (rm := ({ frames := 1, cells := 0, slots := 0, locals := 22 } : Room)) (As := [.ref (rw (d.toNatClampNeg))]) (rest := []) (n := 1) hx hb hml hts hown hK w (c_X0_targetAbove l D cI cP cS cL L _ x_no (rw (d.toNatClampNeg)) x_no_up x_no_down x_no_high x_no_prize x_no_z x_no_rounds x_no_people x_no_pa x_no_cr x_no_ls (el (d.toNatClampNeg)) (rw_so (d.toNatClampNeg)) (rw_sz (d.toNatClampNeg)) 100 (el_f (d.toNatClampNeg)) h_x_no (h_rw (d.toNatClampNeg) (by omega)) (h_el (d.toNatClampNeg) (by omega)) (hzs (d.toNatClampNeg) (by omega))) gX5_mean_X0_targetAbove rfl rfl rfl (by decide +kernel) ⟨(Nat.le_of_ble_eq_true rfl), (Nat.le_of_ble_eq_true rfl)⟩ h_x_no rfl rfl hl.1 rfl (Nat.le_of_ble_eq_true rfl) dX5_mean_73 ⟨(Nat.le_of_ble_eq_true rfl), (Nat.le_of_ble_eq_true rfl)⟩) w hA (fun H locs w => ?_)
            refine lv_aload_n hx hb dX5_mean_76 rfl (lv_at hl 2 rfl) ?_
            refine w_get (v := .ref x_no) hx hb hts i_X5 hown hK w h_x rfl 0 (by decide) (hts _ m_0) rfl dX5_mean_77 ?_
            refine lv_aload hx hb dX5_mean_80 (lv_at hl 1 rfl) ?_
            refine w_get (v := .ref (rw (d.toNatClampNeg))) hx hb hts i_X4 hown hK w (h_sh (d.toNatClampNeg) (by omega)) rfl 1 (by decide) (hts _ m_2) rfl dX5_mean_82 ?_
            refine w_finI (w_runV (rm := ({ frames := 0, cells := 0, slots := 0, locals := 0 } : Room)) (As := [.ref (rw (d.toNatClampNeg))]) (rest := [.int (f_X0_targetAbove x_no_up (rw_sz (d.toNatClampNeg)) (el_f (d.toNatClampNeg)))]) (n := 1) hx hb hml hts hown hK w (c_X0_targetLine l D cI cP cS cL L _ x_no (rw (d.toNatClampNeg)) x_no_up x_no_down x_no_high x_no_prize x_no_z x_no_rounds x_no_people x_no_pa x_no_cr x_no_ls (el (d.toNatClampNeg)) (rw_so (d.toNatClampNeg)) (rw_sz (d.toNatClampNeg)) h_x_no (h_rw (d.toNatClampNeg) (by omega))) gX5_mean_X0_targetLine rfl rfl rfl (by decide +kernel) ⟨(Nat.le_of_ble_eq_true rfl), (Nat.le_of_ble_eq_true rfl)⟩ h_x_no rfl rfl hl.1 rfl (Nat.le_of_ble_eq_true rfl) dX5_mean_85 ⟨(Nat.le_of_ble_eq_true rfl), (Nat.le_of_ble_eq_true rfl)⟩) w hA (fun H locs w => ?_)
            refine lv_iload_n hx hb dX5_mean_88 rfl (lv_at hl 5 rfl) ?_
            refine w_finI (w_runS (rm := ({ frames := 1, cells := 0, slots := 0, locals := 25 } : Room)) (As := [.int (f_X0_targetAbove x_no_up (rw_sz (d.toNatClampNeg)) (el_f (d.toNatClampNeg))), .int (f_X0_targetLine x_no_down (rw_sz (d.toNatClampNeg))), .int part]) (rest := []) (n := 3) hx hb hml hts hown hK w (c_X5_leastPart l D cI cP cS cL L _ (f_X0_targetAbove x_no_up (rw_sz (d.toNatClampNeg)) (el_f (d.toNatClampNeg))) (f_X0_targetLine x_no_down (rw_sz (d.toNatClampNeg))) part ) gX5_mean_X5_leastPart rfl rfl rfl (by decide +kernel) ⟨(Nat.le_of_ble_eq_true rfl), (Nat.le_of_ble_eq_true rfl)⟩ rfl hl.1 rfl (Nat.le_of_ble_eq_true rfl) dX5_mean_89 ⟨(Nat.le_of_ble_eq_true rfl), (Nat.le_of_ble_eq_true rfl)⟩) w hA (fun H locs w => ?_)
            exact w_iret hx hb hr hlocks w ⟨hq.symm, rfl, rfl⟩ (Nat.le_refl _) (Nat.le_refl _) dX5_mean_92
          · skip
            have hq := hq.trans (if_pos c5)
            refine lv_aload hx hb dX5_mean_43 (lv_at hl 1 rfl) ?_
            refine w_get (v := .ref (rw (d.toNatClampNeg))) hx hb hts i_X4 hown hK w (h_sh (d.toNatClampNeg) (by omega)) rfl 1 (by decide) (hts _ m_2) rfl dX5_mean_45 ?_
            refine w_finI (w_runV (rm := ({ frames := 0, cells := 0, slots := 0, locals := 0 } : Room)) (As := []) (rest := []) (n := 0) hx hb hml hts hown hK w (c_X3_sum l D cI cP cS cL L _ (rw (d.toNatClampNeg)) (el (d.toNatClampNeg)) (rw_so (d.toNatClampNeg)) (rw_sz (d.toNatClampNeg)) 100 (el_f (d.toNatClampNeg)) (h_rw (d.toNatClampNeg) (by omega)) (h_el (d.toNatClampNeg) (by omega)) (hzs (d.toNatClampNeg) (by omega))) gX5_mean_X3_sum rfl rfl rfl (by decide +kernel) ⟨(Nat.le_of_ble_eq_true rfl), (Nat.le_of_ble_eq_true rfl)⟩ (h_rw (d.toNatClampNeg) (by omega)) rfl rfl hl.1 rfl (Nat.le_of_ble_eq_true rfl) dX5_mean_48 ⟨(Nat.le_of_ble_eq_true rfl), (Nat.le_of_ble_eq_true rfl)⟩) w hA (fun H locs w => ?_)
            refine lv_aload hx hb dX5_mean_51 (lv_at hl 1 rfl) ?_
            refine w_get (v := .ref (rw (d.toNatClampNeg))) hx hb hts i_X4 hown hK w (h_sh (d.toNatClampNeg) (by omega)) rfl 1 (by decide) (hts _ m_2) rfl dX5_mean_53 ?_
            refine w_get (v := .int (rw_sz (d.toNatClampNeg))) hx hb hts i_X3 hown hK w (h_rw (d.toNatClampNeg) (by omega)) rfl 2 (by decide) (hts _ m_4) rfl dX5_mean_56 ?_
            refine lv_iload_n hx hb dX5_mean_59 rfl (lv_at hl 5 rfl) ?_
            refine w_finI (w_runS (rm := ({ frames := 1, cells := 0, slots := 0, locals := 25 } : Room)) (As := [.int (f_X3_sum (rw_sz (d.toNatClampNeg)) (el_f (d.toNatClampNeg))), .int (rw_sz (d.toNatClampNeg)), .int part]) (rest := []) (n := 3) hx hb hml hts hown hK w (c_X5_leastPart l D cI cP cS cL L _ (f_X3_sum (rw_sz (d.toNatClampNeg)) (el_f (d.toNatClampNeg))) (rw_sz (d.toNatClampNeg)) part ) gX5_mean_X5_leastPart rfl rfl rfl (by decide +kernel) ⟨(Nat.le_of_ble_eq_true rfl), (Nat.le_of_ble_eq_true rfl)⟩ rfl hl.1 rfl (Nat.le_of_ble_eq_true rfl) dX5_mean_60 ⟨(Nat.le_of_ble_eq_true rfl), (Nat.le_of_ble_eq_true rfl)⟩) w hA (fun H locs w => ?_)
            exact w_iret hx hb hr hlocks w ⟨hq.symm, rfl, rfl⟩ (Nat.le_refl _) (Nat.le_refl _) dX5_mean_63
        · skip
          have hq := hq.trans (if_neg c4)
          refine lv_iload hx hb dX5_mean_36 (lv_at hl 0 rfl) ?_
          exact w_iret hx hb hr hlocks w ⟨hq.symm, rfl, rfl⟩ (Nat.le_refl _) (Nat.le_refl _) dX5_mean_38
      · skip
        have hq := hq.trans (if_pos c3)
        refine lv_iconst (v := (-1)) hx hb dX5_mean_21 (by decide) ?_
        exact w_iret hx hb hr hlocks w ⟨hq.symm, rfl, rfl⟩ (Nat.le_refl _) (Nat.le_refl _) dX5_mean_22
  · skip
    have hq := hq.trans (if_neg c1)
    refine w_finQ (v := .null) rfl (w_runV (rm := ({ frames := 0, cells := 0, slots := 0, locals := 0 } : Room)) (As := [.int d]) (rest := []) (n := 1) hx hb hml hts hown hK w (c_X5_shelfAt_none l D cI cP cS cL L _ x d x_no x_ke x_mi x_im x_sh x_co x_ot sh h_x h_x_sh c1) gX5_mean_X5_shelfAt rfl rfl rfl (by decide +kernel) ⟨(Nat.le_of_ble_eq_true rfl), (Nat.le_of_ble_eq_true rfl)⟩ h_x rfl rfl hl.1 rfl (Nat.le_of_ble_eq_true rfl) dX5_mean_2 ⟨(Nat.le_of_ble_eq_true rfl), (Nat.le_of_ble_eq_true rfl)⟩) w hA (fun H locs w => ?_)
    refine lv_astoreN (lv' := [(4, .null), (0, .ref x), (1, .int d), (2, .int what), (3, .int part)]) hx hb dX5_mean_5 hl (by decide) rfl (fun ls hl => ?_)
    refine lv_iload_n hx hb dX5_mean_7 rfl (lv_at hl 3 rfl) ?_
    refine w_finI (w_runS (rm := ({ frames := 0, cells := 0, slots := 0, locals := 0 } : Room)) (As := [.int what]) (rest := []) (n := 1) hx hb hml hts hown hK w (c_X5_isOneOfTwo l D cI cP cS cL L _ what ) gX5_mean_X5_isOneOfTwo rfl rfl rfl (by decide +kernel) ⟨(Nat.le_of_ble_eq_true rfl), (Nat.le_of_ble_eq_true rfl)⟩ rfl hl.1 rfl (Nat.le_of_ble_eq_true rfl) dX5_mean_8 ⟨(Nat.le_of_ble_eq_true rfl), (Nat.le_of_ble_eq_true rfl)⟩) w hA (fun H locs w => ?_)
    refine lv_if_eq (tgt := 21) hx hb dX5_mean_11 (by decide) (fun c6 => ?_) (fun c6 => ?_)
    · skip
      have hq := hq.trans (if_pos c6)
      refine lv_iconst (v := (-1)) hx hb dX5_mean_21 (by decide) ?_
      exact w_iret hx hb hr hlocks w ⟨hq.symm, rfl, rfl⟩ (Nat.le_refl _) (Nat.le_refl _) dX5_mean_22
    · skip
      have hq := hq.trans (if_neg c6)
      refine lv_iload_n hx hb dX5_mean_14 rfl (lv_at hl 4 rfl) ?_
      refine w_finI (w_runS (rm := ({ frames := 0, cells := 0, slots := 0, locals := 0 } : Room)) (As := [.int part]) (rest := []) (n := 1) hx hb hml hts hown hK w (c_X5_isOneOfTwo l D cI cP cS cL L _ part ) gX5_mean_X5_isOneOfTwo rfl rfl rfl (by decide +kernel) ⟨(Nat.le_of_ble_eq_true rfl), (Nat.le_of_ble_eq_true rfl)⟩ rfl hl.1 rfl (Nat.le_of_ble_eq_true rfl) dX5_mean_15 ⟨(Nat.le_of_ble_eq_true rfl), (Nat.le_of_ble_eq_true rfl)⟩) w hA (fun H locs w => ?_)
      refine lv_if_ne (tgt := 23) hx hb dX5_mean_18 (by decide) (fun c7 => ?_) (fun c7 => ?_)
      · skip
        have hq := hq.trans (if_neg c7)
        refine lv_aload_n hx hb dX5_mean_23 rfl (lv_at hl 1 rfl) ?_
        refine lv_aloadN hx hb dX5_mean_24 (lv_at hl 0 rfl) ?_
        refine w_finI (r := (-1)) (w_runV (rm := ({ frames := 2, cells := 0, slots := 0, locals := 41 } : Room)) (As := [.null]) (rest := []) (n := 1) hx hb hml hts hown hK w (c_X5_cardsRefusal_n l D cI cP cS cL L _ x x_no x_ke x_mi x_im x_sh x_co x_ot h_x) gX5_mean_X5_cardsRefusal rfl rfl rfl (by decide +kernel) ⟨(Nat.le_of_ble_eq_true rfl), (Nat.le_of_ble_eq_true rfl)⟩ h_x rfl rfl hl.1 rfl (Nat.le_of_ble_eq_true rfl) dX5_mean_26 ⟨(Nat.le_of_ble_eq_true rfl), (Nat.le_of_ble_eq_true rfl)⟩) w hA (fun H locs w => ?_)
        refine lv_istore (lv' := [(5, .int (-1)), (4, .null), (0, .ref x), (1, .int d), (2, .int what), (3, .int part)]) hx hb dX5_mean_29 hl (by decide) rfl (fun ls hl => ?_)
        refine lv_iload hx hb dX5_mean_31 (lv_at hl 0 rfl) ?_
        refine lv_if_eq (tgt := 39) hx hb dX5_mean_33 (by decide) (fun c => absurd c (by decide)) (fun _ => ?_)
        refine lv_iload hx hb dX5_mean_36 (lv_at hl 0 rfl) ?_
        exact w_iret hx hb hr hlocks w ⟨hq.symm, rfl, rfl⟩ (Nat.le_refl _) (Nat.le_refl _) dX5_mean_38
      · skip
        have hq := hq.trans (if_pos c7)
        refine lv_iconst (v := (-1)) hx hb dX5_mean_21 (by decide) ?_
        exact w_iret hx hb hr hlocks w ⟨hq.symm, rfl, rfl⟩ (Nat.le_refl _) (Nat.le_refl _) dX5_mean_22
def f_X5_winners (d : Int32) (what : Int32) (x_no_up : Int32) (x_no_down : Int32) (x_no_high : Int32) (x_no_prize : Int32) (sh_ho : Nat → Int32) (rw_sz : Nat → Int32) (el_f : Nat → Nat → Int32) : Int32 := if (¬ d < 0 ∧ ¬ (8 : Int32) ≤ d) then (if (f_X5_isOneOfTwo what) = (0 : Int32) then (-1) else (if (f_X5_cardsRefusal x_no_high (sh_ho (d.toNatClampNeg)) (rw_sz (d.toNatClampNeg)) (el_f (d.toNatClampNeg))) = (0 : Int32) then (if what = (0 : Int32) then (f_X0_countWinners x_no_up x_no_down x_no_prize (rw_sz (d.toNatClampNeg)) (el_f (d.toNatClampNeg))) else (f_X0_firstWinner x_no_up x_no_down x_no_prize (rw_sz (d.toNatClampNeg)) (el_f (d.toNatClampNeg)))) else (f_X5_cardsRefusal x_no_high (sh_ho (d.toNatClampNeg)) (rw_sz (d.toNatClampNeg)) (el_f (d.toNatClampNeg))))) else (if (f_X5_isOneOfTwo what) = (0 : Int32) then (-1) else (-1))
set_option maxHeartbeats 400000 in
set_option maxRecDepth 100000 in
theorem c_X5_winners (l : Launch) (D : va_G) (cI cP cS cL : ClassId) (L : List Nat) (F : Nat → va_E) (x : Nat) (d : Int32) (what : Int32) (x_no : Nat) (x_ke : Nat) (x_mi : Nat) (x_im : Int32) (x_sh : Nat) (x_co : Nat) (x_ot : Nat) (x_no_up : Int32) (x_no_down : Int32) (x_no_high : Int32) (x_no_prize : Int32) (x_no_z : Int32) (x_no_rounds : Int32) (x_no_people : Int32) (x_no_pa : Nat) (x_no_cr : Nat) (x_no_ls : Int32) (sh : Nat → Nat) (sh_ho : Nat → Int32) (rw : Nat → Nat) (sp : Nat → Nat) (el : Nat → Nat) (rw_so : Nat → Int32) (rw_sz : Nat → Int32) (el_f : Nat → Nat → Int32) (h_x : wi L F x (eX x_no x_ke x_mi x_im x_sh x_co x_ot)) (h_x_no : wi L F x_no (eG x_no_up x_no_down x_no_high x_no_prize x_no_z x_no_rounds x_no_people x_no_pa x_no_cr x_no_ls)) (h_x_sh : wi L F x_sh (eQ cS 8 (fun i => some (sh i)))) (h_sh : ∀ i, i < 8 → wi L F (sh i) (eS (sh_ho i) (rw i) (sp i))) (h_rw : ∀ i, i < 8 → wi L F (rw i) (eR (el i) (rw_so i) (rw_sz i))) (h_el : ∀ i, i < 8 → wi L F (el i) (eI cI 100 (el_f i))) (hzs : ∀ i, i < 8 → (rw_sz i).toInt ≤ 100) : wMI l D cI cP cS cL yX5_winners wsX5_winners ({ frames := 4, cells := 0, slots := 0, locals := 97 } : Room) [.ref x, .int d, .int what] L F (f_X5_winners d what x_no_up x_no_down x_no_high x_no_prize sh_ho rw_sz el_f) F := by
  refine wM.of (cc := cX5_winners) (maxL := 5) (ret := (some .int)) (by decide) rfl (Nat.le_of_ble_eq_true rfl) ?_
  intro pZ eZ sZ mZ below meth cZ A ls C hl w
  obtain ⟨hx, hb, hr, hml, hts, hown, hlocks, hK, hA, hin⟩ := C
  have hown : sZ.vm.findClass RX5 = some mZ.cls := hown
  have hl : lv_has ls 5 [(0, .ref x), (1, .int d), (2, .int what)] := hl
  have m_0 : ((.fieldLink RX5 10 "TwoThirds" "now" "LTwoThirds$Game;") : Cond) ∈ wsX5_winners := by decide +kernel
  have i_X5 : ∀ w ∈ wsX50, w ∈ wsX5_winners := by decide +kernel
  have m_2 : ((.fieldLink RX5 44 "TwoThirds$Shelf" "row" "LTwoThirds$Row;") : Cond) ∈ wsX5_winners := by decide +kernel
  have i_X4 : ∀ w ∈ wsX40, w ∈ wsX5_winners := by decide +kernel
  have hq : f_X5_winners d what x_no_up x_no_down x_no_high x_no_prize sh_ho rw_sz el_f = f_X5_winners d what x_no_up x_no_down x_no_high x_no_prize sh_ho rw_sz el_f := rfl
  refine lv_aload_n hx hb dX5_winners_0 rfl (lv_at hl 0 rfl) ?_
  refine lv_iload_n hx hb dX5_winners_1 rfl (lv_at hl 1 rfl) ?_
  by_cases c1 : (¬ d < 0 ∧ ¬ (8 : Int32) ≤ d)
  · skip
    have hq := hq.trans (if_pos c1)
    have hlt_C : d.toNatClampNeg < 8 := w_okP (n := 8) c1 (by decide)
    refine w_finQ (v := .ref (sh (d.toNatClampNeg))) rfl (w_runV (rm := ({ frames := 0, cells := 0, slots := 0, locals := 0 } : Room)) (As := [.int d]) (rest := []) (n := 1) hx hb hml hts hown hK w (c_X5_shelfAt_some l D cI cP cS cL L _ x d x_no x_ke x_mi x_im x_sh x_co x_ot sh sh_ho rw sp h_x h_x_sh h_sh c1) gX5_winners_X5_shelfAt rfl rfl rfl (by decide +kernel) ⟨(Nat.le_of_ble_eq_true rfl), (Nat.le_of_ble_eq_true rfl)⟩ h_x rfl rfl hl.1 rfl (Nat.le_of_ble_eq_true rfl) dX5_winners_2 ⟨(Nat.le_of_ble_eq_true rfl), (Nat.le_of_ble_eq_true rfl)⟩) w hA (fun H locs w => ?_)
    refine lv_astore_n (lv' := [(3, .ref (sh (d.toNatClampNeg))), (0, .ref x), (1, .int d), (2, .int what)]) hx hb dX5_winners_5 rfl hl (by decide) rfl (fun ls hl => ?_)
    refine lv_iload_n hx hb dX5_winners_6 rfl (lv_at hl 3 rfl) ?_
    refine w_finI (w_runS (rm := ({ frames := 0, cells := 0, slots := 0, locals := 0 } : Room)) (As := [.int what]) (rest := []) (n := 1) hx hb hml hts hown hK w (c_X5_isOneOfTwo l D cI cP cS cL L _ what ) gX5_winners_X5_isOneOfTwo rfl rfl rfl (by decide +kernel) ⟨(Nat.le_of_ble_eq_true rfl), (Nat.le_of_ble_eq_true rfl)⟩ rfl hl.1 rfl (Nat.le_of_ble_eq_true rfl) dX5_winners_7 ⟨(Nat.le_of_ble_eq_true rfl), (Nat.le_of_ble_eq_true rfl)⟩) w hA (fun H locs w => ?_)
    refine lv_if_ne (tgt := 15) hx hb dX5_winners_10 (by decide) (fun c2 => ?_) (fun c2 => ?_)
    · skip
      have hq := hq.trans (if_neg c2)
      refine lv_aload_n hx hb dX5_winners_15 rfl (lv_at hl 1 rfl) ?_
      refine lv_aload_n hx hb dX5_winners_16 rfl (lv_at hl 0 rfl) ?_
      refine w_finI (w_runV (rm := ({ frames := 3, cells := 0, slots := 0, locals := 64 } : Room)) (As := [.ref (sh (d.toNatClampNeg))]) (rest := []) (n := 1) hx hb hml hts hown hK w (c_X5_cardsRefusal l D cI cP cS cL L _ x (sh (d.toNatClampNeg)) x_no x_ke x_mi x_im x_sh x_co x_ot x_no_up x_no_down x_no_high x_no_prize x_no_z x_no_rounds x_no_people x_no_pa x_no_cr x_no_ls (sh_ho (d.toNatClampNeg)) (rw (d.toNatClampNeg)) (sp (d.toNatClampNeg)) (el (d.toNatClampNeg)) (rw_so (d.toNatClampNeg)) (rw_sz (d.toNatClampNeg)) 100 (el_f (d.toNatClampNeg)) h_x h_x_no (h_sh (d.toNatClampNeg) (by omega)) (h_rw (d.toNatClampNeg) (by omega)) (h_el (d.toNatClampNeg) (by omega)) (hzs (d.toNatClampNeg) (by omega))) gX5_winners_X5_cardsRefusal rfl rfl rfl (by decide +kernel) ⟨(Nat.le_of_ble_eq_true rfl), (Nat.le_of_ble_eq_true rfl)⟩ h_x rfl rfl hl.1 rfl (Nat.le_of_ble_eq_true rfl) dX5_winners_17 ⟨(Nat.le_of_ble_eq_true rfl), (Nat.le_of_ble_eq_true rfl)⟩) w hA (fun H locs w => ?_)
      refine lv_istore (lv' := [(4, .int (f_X5_cardsRefusal x_no_high (sh_ho (d.toNatClampNeg)) (rw_sz (d.toNatClampNeg)) (el_f (d.toNatClampNeg)))), (3, .ref (sh (d.toNatClampNeg))), (0, .ref x), (1, .int d), (2, .int what)]) hx hb dX5_winners_20 hl (by decide) rfl (fun ls hl => ?_)
      refine lv_iload hx hb dX5_winners_22 (lv_at hl 0 rfl) ?_
      refine lv_if_eq (tgt := 30) hx hb dX5_winners_24 (by decide) (fun c3 => ?_) (fun c3 => ?_)
      · skip
        have hq := hq.trans (if_pos c3)
        refine lv_iload_n hx hb dX5_winners_30 rfl (lv_at hl 4 rfl) ?_
        refine lv_if_ne (tgt := 48) hx hb dX5_winners_31 (by decide) (fun c4 => ?_) (fun c4 => ?_)
        · skip
          have hq := hq.trans (if_neg c4)
          refine lv_aload_n hx hb dX5_winners_48 rfl (lv_at hl 2 rfl) ?_
          refine w_get (v := .ref x_no) hx hb hts i_X5 hown hK w h_x rfl 0 (by decide) (hts _ m_0) rfl dX5_winners_49 ?_
          refine lv_aload_n hx hb dX5_winners_52 rfl (lv_at hl 1 rfl) ?_
          refine w_get (v := .ref (rw (d.toNatClampNeg))) hx hb hts i_X4 hown hK w (h_sh (d.toNatClampNeg) (by omega)) rfl 1 (by decide) (hts _ m_2) rfl dX5_winners_53 ?_
          refine w_finI (w_runV (rm := ({ frames := 2, cells := 0, slots := 0, locals := 43 } : Room)) (As := [.ref (rw (d.toNatClampNeg))]) (rest := []) (n := 1) hx hb hml hts hown hK w (c_X0_firstWinner l D cI cP cS cL L _ x_no (rw (d.toNatClampNeg)) x_no_up x_no_down x_no_high x_no_prize x_no_z x_no_rounds x_no_people x_no_pa x_no_cr x_no_ls (el (d.toNatClampNeg)) (rw_so (d.toNatClampNeg)) (rw_sz (d.toNatClampNeg)) 100 (el_f (d.toNatClampNeg)) h_x_no (h_rw (d.toNatClampNeg) (by omega)) (h_el (d.toNatClampNeg) (by omega)) (hzs (d.toNatClampNeg) (by omega))) gX5_winners_X0_firstWinner rfl rfl rfl (by decide +kernel) ⟨(Nat.le_of_ble_eq_true rfl), (Nat.le_of_ble_eq_true rfl)⟩ h_x_no rfl rfl hl.1 rfl (Nat.le_of_ble_eq_true rfl) dX5_winners_56 ⟨(Nat.le_of_ble_eq_true rfl), (Nat.le_of_ble_eq_true rfl)⟩) w hA (fun H locs w => ?_)
          exact w_iret hx hb hr hlocks w ⟨hq.symm, rfl, rfl⟩ (Nat.le_refl _) (Nat.le_refl _) dX5_winners_59
        · skip
          have hq := hq.trans (if_pos c4)
          refine lv_aload_n hx hb dX5_winners_34 rfl (lv_at hl 2 rfl) ?_
          refine w_get (v := .ref x_no) hx hb hts i_X5 hown hK w h_x rfl 0 (by decide) (hts _ m_0) rfl dX5_winners_35 ?_
          refine lv_aload_n hx hb dX5_winners_38 rfl (lv_at hl 1 rfl) ?_
          refine w_get (v := .ref (rw (d.toNatClampNeg))) hx hb hts i_X4 hown hK w (h_sh (d.toNatClampNeg) (by omega)) rfl 1 (by decide) (hts _ m_2) rfl dX5_winners_39 ?_
          refine w_finI (w_runV (rm := ({ frames := 3, cells := 0, slots := 0, locals := 70 } : Room)) (As := [.ref (rw (d.toNatClampNeg))]) (rest := []) (n := 1) hx hb hml hts hown hK w (c_X0_countWinners l D cI cP cS cL L _ x_no (rw (d.toNatClampNeg)) x_no_up x_no_down x_no_high x_no_prize x_no_z x_no_rounds x_no_people x_no_pa x_no_cr x_no_ls (el (d.toNatClampNeg)) (rw_so (d.toNatClampNeg)) (rw_sz (d.toNatClampNeg)) 100 (el_f (d.toNatClampNeg)) h_x_no (h_rw (d.toNatClampNeg) (by omega)) (h_el (d.toNatClampNeg) (by omega)) (hzs (d.toNatClampNeg) (by omega))) gX5_winners_X0_countWinners rfl rfl rfl (by decide +kernel) ⟨(Nat.le_of_ble_eq_true rfl), (Nat.le_of_ble_eq_true rfl)⟩ h_x_no rfl rfl hl.1 rfl (Nat.le_of_ble_eq_true rfl) dX5_winners_42 ⟨(Nat.le_of_ble_eq_true rfl), (Nat.le_of_ble_eq_true rfl)⟩) w hA (fun H locs w => ?_)
          refine lv_goto (tgt := 59) hx hb dX5_winners_45 (by decide) ?_
          exact w_iret hx hb hr hlocks w ⟨hq.symm, rfl, rfl⟩ (Nat.le_refl _) (Nat.le_refl _) dX5_winners_59
      · skip
        have hq := hq.trans (if_neg c3)
        refine lv_iload hx hb dX5_winners_27 (lv_at hl 0 rfl) ?_
        exact w_iret hx hb hr hlocks w ⟨hq.symm, rfl, rfl⟩ (Nat.le_refl _) (Nat.le_refl _) dX5_winners_29
    · skip
      have hq := hq.trans (if_pos c2)
      refine lv_iconst (v := (-1)) hx hb dX5_winners_13 (by decide) ?_
      exact w_iret hx hb hr hlocks w ⟨hq.symm, rfl, rfl⟩ (Nat.le_refl _) (Nat.le_refl _) dX5_winners_14
  · skip
    have hq := hq.trans (if_neg c1)
    refine w_finQ (v := .null) rfl (w_runV (rm := ({ frames := 0, cells := 0, slots := 0, locals := 0 } : Room)) (As := [.int d]) (rest := []) (n := 1) hx hb hml hts hown hK w (c_X5_shelfAt_none l D cI cP cS cL L _ x d x_no x_ke x_mi x_im x_sh x_co x_ot sh h_x h_x_sh c1) gX5_winners_X5_shelfAt rfl rfl rfl (by decide +kernel) ⟨(Nat.le_of_ble_eq_true rfl), (Nat.le_of_ble_eq_true rfl)⟩ h_x rfl rfl hl.1 rfl (Nat.le_of_ble_eq_true rfl) dX5_winners_2 ⟨(Nat.le_of_ble_eq_true rfl), (Nat.le_of_ble_eq_true rfl)⟩) w hA (fun H locs w => ?_)
    refine lv_astore_nN (lv' := [(3, .null), (0, .ref x), (1, .int d), (2, .int what)]) hx hb dX5_winners_5 rfl hl (by decide) rfl (fun ls hl => ?_)
    refine lv_iload_n hx hb dX5_winners_6 rfl (lv_at hl 3 rfl) ?_
    refine w_finI (w_runS (rm := ({ frames := 0, cells := 0, slots := 0, locals := 0 } : Room)) (As := [.int what]) (rest := []) (n := 1) hx hb hml hts hown hK w (c_X5_isOneOfTwo l D cI cP cS cL L _ what ) gX5_winners_X5_isOneOfTwo rfl rfl rfl (by decide +kernel) ⟨(Nat.le_of_ble_eq_true rfl), (Nat.le_of_ble_eq_true rfl)⟩ rfl hl.1 rfl (Nat.le_of_ble_eq_true rfl) dX5_winners_7 ⟨(Nat.le_of_ble_eq_true rfl), (Nat.le_of_ble_eq_true rfl)⟩) w hA (fun H locs w => ?_)
    refine lv_if_ne (tgt := 15) hx hb dX5_winners_10 (by decide) (fun c5 => ?_) (fun c5 => ?_)
    · skip
      have hq := hq.trans (if_neg c5)
      refine lv_aload_n hx hb dX5_winners_15 rfl (lv_at hl 1 rfl) ?_
      refine lv_aload_nN hx hb dX5_winners_16 rfl (lv_at hl 0 rfl) ?_
      refine w_finI (r := (-1)) (w_runV (rm := ({ frames := 2, cells := 0, slots := 0, locals := 41 } : Room)) (As := [.null]) (rest := []) (n := 1) hx hb hml hts hown hK w (c_X5_cardsRefusal_n l D cI cP cS cL L _ x x_no x_ke x_mi x_im x_sh x_co x_ot h_x) gX5_winners_X5_cardsRefusal rfl rfl rfl (by decide +kernel) ⟨(Nat.le_of_ble_eq_true rfl), (Nat.le_of_ble_eq_true rfl)⟩ h_x rfl rfl hl.1 rfl (Nat.le_of_ble_eq_true rfl) dX5_winners_17 ⟨(Nat.le_of_ble_eq_true rfl), (Nat.le_of_ble_eq_true rfl)⟩) w hA (fun H locs w => ?_)
      refine lv_istore (lv' := [(4, .int (-1)), (3, .null), (0, .ref x), (1, .int d), (2, .int what)]) hx hb dX5_winners_20 hl (by decide) rfl (fun ls hl => ?_)
      refine lv_iload hx hb dX5_winners_22 (lv_at hl 0 rfl) ?_
      refine lv_if_eq (tgt := 30) hx hb dX5_winners_24 (by decide) (fun c => absurd c (by decide)) (fun _ => ?_)
      refine lv_iload hx hb dX5_winners_27 (lv_at hl 0 rfl) ?_
      exact w_iret hx hb hr hlocks w ⟨hq.symm, rfl, rfl⟩ (Nat.le_refl _) (Nat.le_refl _) dX5_winners_29
    · skip
      have hq := hq.trans (if_pos c5)
      refine lv_iconst (v := (-1)) hx hb dX5_winners_13 (by decide) ?_
      exact w_iret hx hb hr hlocks w ⟨hq.symm, rfl, rfl⟩ (Nat.le_refl _) (Nat.le_refl _) dX5_winners_14
def f_X5_best (d : Int32) (x_no_up : Int32) (x_no_down : Int32) (x_no_high : Int32) (x_no_prize : Int32) (sh_ho : Nat → Int32) (rw_sz : Nat → Int32) (el_f : Nat → Nat → Int32) : Int32 := if (¬ d < 0 ∧ ¬ (8 : Int32) ≤ d) then (if (f_X5_cardsRefusal x_no_high (sh_ho (d.toNatClampNeg)) (rw_sz (d.toNatClampNeg)) (el_f (d.toNatClampNeg))) = (0 : Int32) then (f_X0_bestAgainst x_no_up x_no_down x_no_high x_no_prize (rw_sz (d.toNatClampNeg)) (el_f (d.toNatClampNeg))) else (f_X5_cardsRefusal x_no_high (sh_ho (d.toNatClampNeg)) (rw_sz (d.toNatClampNeg)) (el_f (d.toNatClampNeg)))) else (-1)
set_option maxHeartbeats 400000 in
set_option maxRecDepth 100000 in
theorem c_X5_best (l : Launch) (D : va_G) (cI cP cS cL : ClassId) (L : List Nat) (F : Nat → va_E) (x : Nat) (d : Int32) (x_no : Nat) (x_ke : Nat) (x_mi : Nat) (x_im : Int32) (x_sh : Nat) (x_co : Nat) (x_ot : Nat) (x_no_up : Int32) (x_no_down : Int32) (x_no_high : Int32) (x_no_prize : Int32) (x_no_z : Int32) (x_no_rounds : Int32) (x_no_people : Int32) (x_no_pa : Nat) (x_no_cr : Nat) (x_no_ls : Int32) (sh : Nat → Nat) (sh_ho : Nat → Int32) (rw : Nat → Nat) (sp : Nat → Nat) (el : Nat → Nat) (rw_so : Nat → Int32) (rw_sz : Nat → Int32) (el_f : Nat → Nat → Int32) (h_x : wi L F x (eX x_no x_ke x_mi x_im x_sh x_co x_ot)) (h_x_no : wi L F x_no (eG x_no_up x_no_down x_no_high x_no_prize x_no_z x_no_rounds x_no_people x_no_pa x_no_cr x_no_ls)) (h_x_sh : wi L F x_sh (eQ cS 8 (fun i => some (sh i)))) (h_sh : ∀ i, i < 8 → wi L F (sh i) (eS (sh_ho i) (rw i) (sp i))) (h_rw : ∀ i, i < 8 → wi L F (rw i) (eR (el i) (rw_so i) (rw_sz i))) (h_el : ∀ i, i < 8 → wi L F (el i) (eI cI 100 (el_f i))) (hzs : ∀ i, i < 8 → (rw_sz i).toInt ≤ 100) (hhi : x_no_high.toInt ≤ 1000) : wMI l D cI cP cS cL yX5_best wsX5_best ({ frames := 4, cells := 0, slots := 0, locals := 86 } : Room) [.ref x, .int d] L F (f_X5_best d x_no_up x_no_down x_no_high x_no_prize sh_ho rw_sz el_f) F := by
  refine wM.of (cc := cX5_best) (maxL := 4) (ret := (some .int)) (by decide) rfl (Nat.le_of_ble_eq_true rfl) ?_
  intro pZ eZ sZ mZ below meth cZ A ls C hl w
  obtain ⟨hx, hb, hr, hml, hts, hown, hlocks, hK, hA, hin⟩ := C
  have hown : sZ.vm.findClass RX5 = some mZ.cls := hown
  have hl : lv_has ls 4 [(0, .ref x), (1, .int d)] := hl
  have m_0 : ((.fieldLink RX5 10 "TwoThirds" "now" "LTwoThirds$Game;") : Cond) ∈ wsX5_best := by decide +kernel
  have i_X5 : ∀ w ∈ wsX50, w ∈ wsX5_best := by decide +kernel
  have m_2 : ((.fieldLink RX5 44 "TwoThirds$Shelf" "row" "LTwoThirds$Row;") : Cond) ∈ wsX5_best := by decide +kernel
  have i_X4 : ∀ w ∈ wsX40, w ∈ wsX5_best := by decide +kernel
  have hq : f_X5_best d x_no_up x_no_down x_no_high x_no_prize sh_ho rw_sz el_f = f_X5_best d x_no_up x_no_down x_no_high x_no_prize sh_ho rw_sz el_f := rfl
  refine lv_aload_n hx hb dX5_best_0 rfl (lv_at hl 0 rfl) ?_
  refine lv_iload_n hx hb dX5_best_1 rfl (lv_at hl 1 rfl) ?_
  by_cases c1 : (¬ d < 0 ∧ ¬ (8 : Int32) ≤ d)
  · skip
    have hq := hq.trans (if_pos c1)
    have hlt_C : d.toNatClampNeg < 8 := w_okP (n := 8) c1 (by decide)
    refine w_finQ (v := .ref (sh (d.toNatClampNeg))) rfl (w_runV (rm := ({ frames := 0, cells := 0, slots := 0, locals := 0 } : Room)) (As := [.int d]) (rest := []) (n := 1) hx hb hml hts hown hK w (c_X5_shelfAt_some l D cI cP cS cL L _ x d x_no x_ke x_mi x_im x_sh x_co x_ot sh sh_ho rw sp h_x h_x_sh h_sh c1) gX5_best_X5_shelfAt rfl rfl rfl (by decide +kernel) ⟨(Nat.le_of_ble_eq_true rfl), (Nat.le_of_ble_eq_true rfl)⟩ h_x rfl rfl hl.1 rfl (Nat.le_of_ble_eq_true rfl) dX5_best_2 ⟨(Nat.le_of_ble_eq_true rfl), (Nat.le_of_ble_eq_true rfl)⟩) w hA (fun H locs w => ?_)
    refine lv_astore_n (lv' := [(2, .ref (sh (d.toNatClampNeg))), (0, .ref x), (1, .int d)]) hx hb dX5_best_5 rfl hl (by decide) rfl (fun ls hl => ?_)
    refine lv_aload_n hx hb dX5_best_6 rfl (lv_at hl 1 rfl) ?_
    refine lv_aload_n hx hb dX5_best_7 rfl (lv_at hl 0 rfl) ?_
    refine w_finI (w_runV (rm := ({ frames := 3, cells := 0, slots := 0, locals := 64 } : Room)) (As := [.ref (sh (d.toNatClampNeg))]) (rest := []) (n := 1) hx hb hml hts hown hK w (c_X5_cardsRefusal l D cI cP cS cL L _ x (sh (d.toNatClampNeg)) x_no x_ke x_mi x_im x_sh x_co x_ot x_no_up x_no_down x_no_high x_no_prize x_no_z x_no_rounds x_no_people x_no_pa x_no_cr x_no_ls (sh_ho (d.toNatClampNeg)) (rw (d.toNatClampNeg)) (sp (d.toNatClampNeg)) (el (d.toNatClampNeg)) (rw_so (d.toNatClampNeg)) (rw_sz (d.toNatClampNeg)) 100 (el_f (d.toNatClampNeg)) h_x h_x_no (h_sh (d.toNatClampNeg) (by omega)) (h_rw (d.toNatClampNeg) (by omega)) (h_el (d.toNatClampNeg) (by omega)) (hzs (d.toNatClampNeg) (by omega))) gX5_best_X5_cardsRefusal rfl rfl rfl (by decide +kernel) ⟨(Nat.le_of_ble_eq_true rfl), (Nat.le_of_ble_eq_true rfl)⟩ h_x rfl rfl hl.1 rfl (Nat.le_of_ble_eq_true rfl) dX5_best_8 ⟨(Nat.le_of_ble_eq_true rfl), (Nat.le_of_ble_eq_true rfl)⟩) w hA (fun H locs w => ?_)
    refine lv_istore_n (lv' := [(3, .int (f_X5_cardsRefusal x_no_high (sh_ho (d.toNatClampNeg)) (rw_sz (d.toNatClampNeg)) (el_f (d.toNatClampNeg)))), (2, .ref (sh (d.toNatClampNeg))), (0, .ref x), (1, .int d)]) hx hb dX5_best_11 rfl hl (by decide) rfl (fun ls hl => ?_)
    refine lv_iload_n hx hb dX5_best_12 rfl (lv_at hl 0 rfl) ?_
    refine lv_if_eq (tgt := 20) hx hb dX5_best_13 (by decide) (fun c2 => ?_) (fun c2 => ?_)
    · skip
      have hq := hq.trans (if_pos c2)
      refine lv_aload_n hx hb dX5_best_20 rfl (lv_at hl 2 rfl) ?_
      refine w_get (v := .ref x_no) hx hb hts i_X5 hown hK w h_x rfl 0 (by decide) (hts _ m_0) rfl dX5_best_21 ?_
      refine lv_aload_n hx hb dX5_best_24 rfl (lv_at hl 1 rfl) ?_
      refine w_get (v := .ref (rw (d.toNatClampNeg))) hx hb hts i_X4 hown hK w (h_sh (d.toNatClampNeg) (by omega)) rfl 1 (by decide) (hts _ m_2) rfl dX5_best_25 ?_
      refine w_finI (w_runV (rm := ({ frames := 1, cells := 0, slots := 0, locals := 24 } : Room)) (As := [.ref (rw (d.toNatClampNeg))]) (rest := []) (n := 1) hx hb hml hts hown hK w (c_X0_bestAgainst l D cI cP cS cL L _ x_no (rw (d.toNatClampNeg)) x_no_up x_no_down x_no_high x_no_prize x_no_z x_no_rounds x_no_people x_no_pa x_no_cr x_no_ls (el (d.toNatClampNeg)) (rw_so (d.toNatClampNeg)) (rw_sz (d.toNatClampNeg)) 100 (el_f (d.toNatClampNeg)) h_x_no (h_rw (d.toNatClampNeg) (by omega)) (h_el (d.toNatClampNeg) (by omega)) (hzs (d.toNatClampNeg) (by omega)) hhi) gX5_best_X0_bestAgainst rfl rfl rfl (by decide +kernel) ⟨(Nat.le_of_ble_eq_true rfl), (Nat.le_of_ble_eq_true rfl)⟩ h_x_no rfl rfl hl.1 rfl (Nat.le_of_ble_eq_true rfl) dX5_best_28 ⟨(Nat.le_of_ble_eq_true rfl), (Nat.le_of_ble_eq_true rfl)⟩) w hA (fun H locs w => ?_)
      exact w_iret hx hb hr hlocks w ⟨hq.symm, rfl, rfl⟩ (Nat.le_refl _) (Nat.le_refl _) dX5_best_31
    · skip
      have hq := hq.trans (if_neg c2)
      refine lv_iload_n hx hb dX5_best_16 rfl (lv_at hl 0 rfl) ?_
      refine lv_goto (tgt := 31) hx hb dX5_best_17 (by decide) ?_
      exact w_iret hx hb hr hlocks w ⟨hq.symm, rfl, rfl⟩ (Nat.le_refl _) (Nat.le_refl _) dX5_best_31
  · skip
    have hq := hq.trans (if_neg c1)
    refine w_finQ (v := .null) rfl (w_runV (rm := ({ frames := 0, cells := 0, slots := 0, locals := 0 } : Room)) (As := [.int d]) (rest := []) (n := 1) hx hb hml hts hown hK w (c_X5_shelfAt_none l D cI cP cS cL L _ x d x_no x_ke x_mi x_im x_sh x_co x_ot sh h_x h_x_sh c1) gX5_best_X5_shelfAt rfl rfl rfl (by decide +kernel) ⟨(Nat.le_of_ble_eq_true rfl), (Nat.le_of_ble_eq_true rfl)⟩ h_x rfl rfl hl.1 rfl (Nat.le_of_ble_eq_true rfl) dX5_best_2 ⟨(Nat.le_of_ble_eq_true rfl), (Nat.le_of_ble_eq_true rfl)⟩) w hA (fun H locs w => ?_)
    refine lv_astore_nN (lv' := [(2, .null), (0, .ref x), (1, .int d)]) hx hb dX5_best_5 rfl hl (by decide) rfl (fun ls hl => ?_)
    refine lv_aload_n hx hb dX5_best_6 rfl (lv_at hl 1 rfl) ?_
    refine lv_aload_nN hx hb dX5_best_7 rfl (lv_at hl 0 rfl) ?_
    refine w_finI (r := (-1)) (w_runV (rm := ({ frames := 2, cells := 0, slots := 0, locals := 41 } : Room)) (As := [.null]) (rest := []) (n := 1) hx hb hml hts hown hK w (c_X5_cardsRefusal_n l D cI cP cS cL L _ x x_no x_ke x_mi x_im x_sh x_co x_ot h_x) gX5_best_X5_cardsRefusal rfl rfl rfl (by decide +kernel) ⟨(Nat.le_of_ble_eq_true rfl), (Nat.le_of_ble_eq_true rfl)⟩ h_x rfl rfl hl.1 rfl (Nat.le_of_ble_eq_true rfl) dX5_best_8 ⟨(Nat.le_of_ble_eq_true rfl), (Nat.le_of_ble_eq_true rfl)⟩) w hA (fun H locs w => ?_)
    refine lv_istore_n (lv' := [(3, .int (-1)), (2, .null), (0, .ref x), (1, .int d)]) hx hb dX5_best_11 rfl hl (by decide) rfl (fun ls hl => ?_)
    refine lv_iload_n hx hb dX5_best_12 rfl (lv_at hl 0 rfl) ?_
    refine lv_if_eq (tgt := 20) hx hb dX5_best_13 (by decide) (fun c => absurd c (by decide)) (fun _ => ?_)
    refine lv_iload_n hx hb dX5_best_16 rfl (lv_at hl 0 rfl) ?_
    refine lv_goto (tgt := 31) hx hb dX5_best_17 (by decide) ?_
    exact w_iret hx hb hr hlocks w ⟨hq.symm, rfl, rfl⟩ (Nat.le_refl _) (Nat.le_refl _) dX5_best_31
def f_X5_level (k0 : Int32) (x_no_up : Int32) (x_no_down : Int32) (x_no_high : Int32) : Int32 := if (f_X5_isStepCount k0) = (0 : Int32) then (-1) else (f_X0_stepped k0 x_no_up x_no_down x_no_high)
set_option maxHeartbeats 400000 in
set_option maxRecDepth 100000 in
theorem c_X5_level (l : Launch) (D : va_G) (cI cP cS cL : ClassId) (L : List Nat) (F : Nat → va_E) (x : Nat) (k0 : Int32) (x_no : Nat) (x_ke : Nat) (x_mi : Nat) (x_im : Int32) (x_sh : Nat) (x_co : Nat) (x_ot : Nat) (x_no_up : Int32) (x_no_down : Int32) (x_no_high : Int32) (x_no_prize : Int32) (x_no_z : Int32) (x_no_rounds : Int32) (x_no_people : Int32) (x_no_pa : Nat) (x_no_cr : Nat) (x_no_ls : Int32) (h_x : wi L F x (eX x_no x_ke x_mi x_im x_sh x_co x_ot)) (h_x_no : wi L F x_no (eG x_no_up x_no_down x_no_high x_no_prize x_no_z x_no_rounds x_no_people x_no_pa x_no_cr x_no_ls)) : wMI l D cI cP cS cL yX5_level wsX5_level ({ frames := 5, cells := 0, slots := 0, locals := 101 } : Room) [.ref x, .int k0] L F (f_X5_level k0 x_no_up x_no_down x_no_high) F := by
  refine wM.of (cc := cX5_level) (maxL := 2) (ret := (some .int)) (by decide) rfl (Nat.le_of_ble_eq_true rfl) ?_
  intro pZ eZ sZ mZ below meth cZ A ls C hl w
  obtain ⟨hx, hb, hr, hml, hts, hown, hlocks, hK, hA, hin⟩ := C
  have hown : sZ.vm.findClass RX5 = some mZ.cls := hown
  have hl : lv_has ls 2 [(0, .ref x), (1, .int k0)] := hl
  have m_0 : ((.fieldLink RX5 10 "TwoThirds" "now" "LTwoThirds$Game;") : Cond) ∈ wsX5_level := by decide +kernel
  have i_X5 : ∀ w ∈ wsX50, w ∈ wsX5_level := by decide +kernel
  have hq : f_X5_level k0 x_no_up x_no_down x_no_high = f_X5_level k0 x_no_up x_no_down x_no_high := rfl
  refine lv_iload_n hx hb dX5_level_0 rfl (lv_at hl 1 rfl) ?_
  refine w_finI (w_runS (rm := ({ frames := 0, cells := 0, slots := 0, locals := 0 } : Room)) (As := [.int k0]) (rest := []) (n := 1) hx hb hml hts hown hK w (c_X5_isStepCount l D cI cP cS cL L _ k0 ) gX5_level_X5_isStepCount rfl rfl rfl (by decide +kernel) ⟨(Nat.le_of_ble_eq_true rfl), (Nat.le_of_ble_eq_true rfl)⟩ rfl hl.1 rfl (Nat.le_of_ble_eq_true rfl) dX5_level_1 ⟨(Nat.le_of_ble_eq_true rfl), (Nat.le_of_ble_eq_true rfl)⟩) w hA (fun H locs w => ?_)
  refine lv_if_eq (tgt := 18) hx hb dX5_level_4 (by decide) (fun c1 => ?_) (fun c1 => ?_)
  · skip
    have hq := hq.trans (if_pos c1)
    refine lv_iconst (v := (-1)) hx hb dX5_level_18 (by decide) ?_
    exact w_iret hx hb hr hlocks w ⟨hq.symm, rfl, rfl⟩ (Nat.le_refl _) (Nat.le_refl _) dX5_level_19
  · skip
    have hq := hq.trans (if_neg c1)
    refine lv_aload_n hx hb dX5_level_7 rfl (lv_at hl 0 rfl) ?_
    refine w_get (v := .ref x_no) hx hb hts i_X5 hown hK w h_x rfl 0 (by decide) (hts _ m_0) rfl dX5_level_8 ?_
    refine lv_iload_n hx hb dX5_level_11 rfl (lv_at hl 1 rfl) ?_
    refine w_finI (w_runV (rm := ({ frames := 4, cells := 0, slots := 0, locals := 80 } : Room)) (As := [.int k0]) (rest := []) (n := 1) hx hb hml hts hown hK w (c_X0_stepped l D cI cP cS cL L _ x_no k0 x_no_up x_no_down x_no_high x_no_prize x_no_z x_no_rounds x_no_people x_no_pa x_no_cr x_no_ls h_x_no) gX5_level_X0_stepped rfl rfl rfl (by decide +kernel) ⟨(Nat.le_of_ble_eq_true rfl), (Nat.le_of_ble_eq_true rfl)⟩ h_x_no rfl rfl hl.1 rfl (Nat.le_of_ble_eq_true rfl) dX5_level_12 ⟨(Nat.le_of_ble_eq_true rfl), (Nat.le_of_ble_eq_true rfl)⟩) w hA (fun H locs w => ?_)
    refine lv_goto (tgt := 19) hx hb dX5_level_15 (by decide) ?_
    exact w_iret hx hb hr hlocks w ⟨hq.symm, rfl, rfl⟩ (Nat.le_refl _) (Nat.le_refl _) dX5_level_19
def f_X5_stepsOf (card : Int32) (x_no_up : Int32) (x_no_down : Int32) (x_no_high : Int32) : Int32 := if (f_X0_isCard card x_no_high) = (0 : Int32) then (-1) else (f_X0_nearestSteps card x_no_up x_no_down x_no_high)
set_option maxHeartbeats 400000 in
set_option maxRecDepth 100000 in
theorem c_X5_stepsOf (l : Launch) (D : va_G) (cI cP cS cL : ClassId) (L : List Nat) (F : Nat → va_E) (x : Nat) (card : Int32) (x_no : Nat) (x_ke : Nat) (x_mi : Nat) (x_im : Int32) (x_sh : Nat) (x_co : Nat) (x_ot : Nat) (x_no_up : Int32) (x_no_down : Int32) (x_no_high : Int32) (x_no_prize : Int32) (x_no_z : Int32) (x_no_rounds : Int32) (x_no_people : Int32) (x_no_pa : Nat) (x_no_cr : Nat) (x_no_ls : Int32) (h_x : wi L F x (eX x_no x_ke x_mi x_im x_sh x_co x_ot)) (h_x_no : wi L F x_no (eG x_no_up x_no_down x_no_high x_no_prize x_no_z x_no_rounds x_no_people x_no_pa x_no_cr x_no_ls)) : wMI l D cI cP cS cL yX5_stepsOf wsX5_stepsOf ({ frames := 4, cells := 0, slots := 0, locals := 82 } : Room) [.ref x, .int card] L F (f_X5_stepsOf card x_no_up x_no_down x_no_high) F := by
  refine wM.of (cc := cX5_stepsOf) (maxL := 2) (ret := (some .int)) (by decide) rfl (Nat.le_of_ble_eq_true rfl) ?_
  intro pZ eZ sZ mZ below meth cZ A ls C hl w
  obtain ⟨hx, hb, hr, hml, hts, hown, hlocks, hK, hA, hin⟩ := C
  have hown : sZ.vm.findClass RX5 = some mZ.cls := hown
  have hl : lv_has ls 2 [(0, .ref x), (1, .int card)] := hl
  have m_0 : ((.fieldLink RX5 10 "TwoThirds" "now" "LTwoThirds$Game;") : Cond) ∈ wsX5_stepsOf := by decide +kernel
  have i_X5 : ∀ w ∈ wsX50, w ∈ wsX5_stepsOf := by decide +kernel
  have hq : f_X5_stepsOf card x_no_up x_no_down x_no_high = f_X5_stepsOf card x_no_up x_no_down x_no_high := rfl
  refine lv_aload_n hx hb dX5_stepsOf_0 rfl (lv_at hl 0 rfl) ?_
  refine w_get (v := .ref x_no) hx hb hts i_X5 hown hK w h_x rfl 0 (by decide) (hts _ m_0) rfl dX5_stepsOf_1 ?_
  refine lv_iload_n hx hb dX5_stepsOf_4 rfl (lv_at hl 1 rfl) ?_
  refine w_finI (w_runV (rm := ({ frames := 0, cells := 0, slots := 0, locals := 0 } : Room)) (As := [.int card]) (rest := []) (n := 1) hx hb hml hts hown hK w (c_X0_isCard l D cI cP cS cL L _ x_no card x_no_up x_no_down x_no_high x_no_prize x_no_z x_no_rounds x_no_people x_no_pa x_no_cr x_no_ls h_x_no) gX5_stepsOf_X0_isCard rfl rfl rfl (by decide +kernel) ⟨(Nat.le_of_ble_eq_true rfl), (Nat.le_of_ble_eq_true rfl)⟩ h_x_no rfl rfl hl.1 rfl (Nat.le_of_ble_eq_true rfl) dX5_stepsOf_5 ⟨(Nat.le_of_ble_eq_true rfl), (Nat.le_of_ble_eq_true rfl)⟩) w hA (fun H locs w => ?_)
  refine lv_if_eq (tgt := 22) hx hb dX5_stepsOf_8 (by decide) (fun c1 => ?_) (fun c1 => ?_)
  · skip
    have hq := hq.trans (if_pos c1)
    refine lv_iconst (v := (-1)) hx hb dX5_stepsOf_22 (by decide) ?_
    exact w_iret hx hb hr hlocks w ⟨hq.symm, rfl, rfl⟩ (Nat.le_refl _) (Nat.le_refl _) dX5_stepsOf_23
  · skip
    have hq := hq.trans (if_neg c1)
    refine lv_aload_n hx hb dX5_stepsOf_11 rfl (lv_at hl 0 rfl) ?_
    refine w_get (v := .ref x_no) hx hb hts i_X5 hown hK w h_x rfl 0 (by decide) (hts _ m_0) rfl dX5_stepsOf_12 ?_
    refine lv_iload_n hx hb dX5_stepsOf_15 rfl (lv_at hl 1 rfl) ?_
    refine w_finI (w_runV (rm := ({ frames := 3, cells := 0, slots := 0, locals := 56 } : Room)) (As := [.int card]) (rest := []) (n := 1) hx hb hml hts hown hK w (c_X0_nearestSteps l D cI cP cS cL L _ x_no card x_no_up x_no_down x_no_high x_no_prize x_no_z x_no_rounds x_no_people x_no_pa x_no_cr x_no_ls h_x_no) gX5_stepsOf_X0_nearestSteps rfl rfl rfl (by decide +kernel) ⟨(Nat.le_of_ble_eq_true rfl), (Nat.le_of_ble_eq_true rfl)⟩ h_x_no rfl rfl hl.1 rfl (Nat.le_of_ble_eq_true rfl) dX5_stepsOf_16 ⟨(Nat.le_of_ble_eq_true rfl), (Nat.le_of_ble_eq_true rfl)⟩) w hA (fun H locs w => ?_)
    refine lv_goto (tgt := 23) hx hb dX5_stepsOf_19 (by decide) ?_
    exact w_iret hx hb hr hlocks w ⟨hq.symm, rfl, rfl⟩ (Nat.le_refl _) (Nat.le_refl _) dX5_stepsOf_23
