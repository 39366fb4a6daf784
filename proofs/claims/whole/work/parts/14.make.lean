set_option maxHeartbeats 400000 in
set_option maxRecDepth 100000 in
theorem c_X1_init (l : Launch) (D : va_G) (cI cP cS cL : ClassId) (L : List Nat) (F : Nat → va_E) (p9 : Nat) : wMV l D cI cP cS cL yX1_init wsX1_init ({ frames := 1, cells := 0, slots := 0, locals := 12 } : Room) [.ref p9] L F F := by
  refine wM.of (cc := cX1_init) (maxL := 1) (ret := none) (by decide) rfl (Nat.le_of_ble_eq_true rfl) ?_
  intro pZ eZ sZ mZ below meth cZ A ls C hl w
  obtain ⟨hx, hb, hr, hml, hts, hown, hlocks, hK, hA, hin⟩ := C
  have hown : sZ.vm.findClass RX1 = some mZ.cls := hown
  have hl : lv_has ls 1 [(0, .ref p9)] := hl
  have m_0 : ((.methodLink RX1 3 objectInit) : Cond) ∈ wsX1_init := by decide +kernel
  have m_1 : ((.instanceMethod objectInit) : Cond) ∈ wsX1_init := by decide +kernel
  have m_2 : ((.code objectInit ⟨#[0xb1]⟩ 1 none) : Cond) ∈ wsX1_init := by decide +kernel
  refine lv_aload_n hx hb dX1_init_0 rfl (lv_at hl 0 rfl) ?_
  refine w_obj hx hb hml hl.1 hts hown m_0 m_1 m_2 dX1_init_1 (Nat.le_of_ble_eq_true rfl) (Nat.le_of_ble_eq_true rfl) ?_
  exact w_vret hx hb hr hlocks w ⟨rfl, rfl⟩ (Nat.le_refl _) (Nat.le_refl _) dX1_init_4
set_option maxHeartbeats 400000 in
set_option maxRecDepth 100000 in
theorem c_X3_init (l : Launch) (D : va_G) (cI cP cS cL : ClassId) (L : List Nat) (F : Nat → va_E) (r n0 : Nat) (hn : n0 ≤ 1000) (h_r : wi L F r (.inr (3, [.null, .int 0, .int 0]))) : wMv l D cI cP cS cL yX3_init wsX3_init ({ frames := 1, cells := 1, slots := n0, locals := 12 } : Room) [.ref r, .int (nI n0)] L F (fun L1 F1 => ∃ q, q ∉ L ∧ L1 = L ++ [q] ∧ F1 r = eR q 0 0 ∧ F1 q = eI cI n0 (fun _ => 0) ∧ gr L F (fun a => a ≠ r) L1 F1) 1 n0 := by
  refine wM.of (cc := cX3_init) (maxL := 2) (ret := none) (by decide) rfl (Nat.le_of_ble_eq_true rfl) ?_
  intro pZ eZ sZ mZ below meth cZ A ls C hl w
  obtain ⟨hx, hb, hr, hml, hts, hown, hlocks, hK, hA, hin⟩ := C
  have hown : sZ.vm.findClass RX3 = some mZ.cls := hown
  have hl : lv_has ls 2 [(0, .ref r), (1, .int (nI n0))] := hl
  have m_0 : ((.methodLink RX3 3 objectInit) : Cond) ∈ wsX3_init := by decide +kernel
  have m_1 : ((.instanceMethod objectInit) : Cond) ∈ wsX3_init := by decide +kernel
  have m_2 : ((.code objectInit ⟨#[0xb1]⟩ 1 none) : Cond) ∈ wsX3_init := by decide +kernel
  have m_3 : ((.arrayClass .int) : Cond) ∈ wsX3_init := by decide +kernel
  have m_4 : ((.fieldLink RX3 9 "TwoThirds$Row" "elements" "[I") : Cond) ∈ wsX3_init := by decide +kernel
  have i_X3 : ∀ w ∈ wsX30, w ∈ wsX3_init := by decide +kernel
  have hg : gr L F (fun a => a ≠ r) L F := gr.rf
  refine lv_aload_n hx hb dX3_init_0 rfl (lv_at hl 0 rfl) ?_
  refine w_obj hx hb hml hl.1 hts hown m_0 m_1 m_2 dX3_init_1 (Nat.le_of_ble_eq_true rfl) (Nat.le_of_ble_eq_true rfl) ?_
  refine lv_aload_n hx hb dX3_init_4 rfl (lv_at hl 0 rfl) ?_
  refine lv_iload_n hx hb dX3_init_5 rfl (lv_at hl 1 rfl) ?_
  refine w_newI (N' := n0) hx hb hts m_3 hK w hA (nI_pos (by omega)) (nI_clamp (by omega)) hn (Nat.le_of_ble_eq_true rfl) (by show 0 + n0 ≤ n0; omega) dX3_init_6 (fun q H hq9 w h_q => ?_)
  have h_r := h_r.pushw h_q hq9
  have hg := hg.push h_q hq9
  have hq0 := hq9
  have ho9 := h_r
  refine w_putF (fs2 := [.ref q, .int 0, .int 0]) hx hb hts i_X3 tyX3 tyX3_ok nmX3 hown hK w h_r rfl 0 (by decide) (hts _ m_4) rfl hin.symm rfl rfl rfl (Nat.le_of_ble_eq_true rfl) rfl dX3_init_8 (fun H locs w h_r => ?_)
  have h_q := h_q.upw h_r (wi.ne h_q ho9 (by intro h; cases h))
  have hg := hg.up h_r (fun _ h => h rfl)
  exact w_vret hx hb hr hlocks w ⟨q, hq0, rfl, h_r.2, h_q.2, hg⟩ (Nat.le_refl _) (by omega) dX3_init_11
