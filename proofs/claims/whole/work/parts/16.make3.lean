theorem getD_mem {ps : List Nat} {i n : Nat} (h : ps.length = n) (hi : i < n) : ps.getD i 0 ∈ ps := by
  have hl : i < ps.length := by omega
  simp [List.getD, List.getElem?_eq_getElem hl]
/-- a game as it is made; the eight shelves as they are made -/
def newGame (cI cP : ClassId) (F1 : Nat → va_E) (g pa : Nat) (ps : List Nat) (r e : Nat) : Prop := ps.length = 12 ∧ F1 g = eG 2 3 100 0 1 0 0 pa r 0 ∧ F1 pa = eQ cP 12 (fun i => some (ps.getD i 0)) ∧ (∀ i, i < 12 → F1 (ps.getD i 0) = eP 0 0 0 0) ∧ F1 r = eR e 0 0 ∧ F1 e = eI cI 12 (fun _ => 0)
def shelfAt (cI : ClassId) (F1 : Nat → va_E) (qs : List Nat) (i : Nat) : Prop := F1 (qs.getD (4 * i) 0) = eS 0 (qs.getD (4 * i + 1) 0) (qs.getD (4 * i + 3) 0) ∧ F1 (qs.getD (4 * i + 1) 0) = eR (qs.getD (4 * i + 2) 0) 0 0 ∧ F1 (qs.getD (4 * i + 2) 0) = eI cI 100 (fun _ => 0) ∧ F1 (qs.getD (4 * i + 3) 0) = eP 0 0 0 0
theorem wi.mk0 {L : List Nat} {F : Nat → va_E} {a : Nat} {e : va_E} (hm : a ∈ L) (h : F a = e) : wi L F a e := ⟨hm, h⟩
theorem mem_game {L0 : List Nat} {pa : Nat} {ps : List Nat} {r e z : Nat} (h : z = pa ∨ z ∈ ps ∨ z = r ∨ z = e) : z ∈ L0 ++ [pa] ++ ps ++ [r, e] := by
  rcases h with h | h | h | h <;> simp [h]
theorem mem_gameW {D : va_G} {A : Nat → Prop} {H0 H : Heap} {F : Nat → va_E} {locs : List Loc} {L0 : List Nat} {pa : Nat} {ps : List Nat} {r e : Nat} (_ : ww D A H0 (L0 ++ [pa] ++ ps ++ [r, e]) F H locs) : ∀ z, (z = pa ∨ z ∈ ps ∨ z = r ∨ z = e) → z ∈ L0 ++ [pa] ++ ps ++ [r, e] := fun _ h => mem_game h
theorem shelfAt.move {cI : ClassId} {F F1 : Nat → va_E} {qs : List Nat} {i : Nat} (h : shelfAt cI F qs i) (hk : ∀ j, j < 4 → F1 (qs.getD (4 * i + j) 0) = F (qs.getD (4 * i + j) 0)) : shelfAt cI F1 qs i :=
  ⟨(hk 0 (by omega)).trans h.1, (hk 1 (by omega)).trans h.2.1, (hk 2 (by omega)).trans h.2.2.1, (hk 3 (by omega)).trans h.2.2.2⟩
theorem shelfAt.pushw {cI : ClassId} {L : List Nat} {F : Nat → va_E} {qs : List Nat} {i q : Nat} {e e3 : va_E} (h : shelfAt cI F qs i) (_ : wi (L ++ [q]) (va_up F q e) q e3) (hq : q ∉ L) (hm : ∀ j, j < 4 → qs.getD (4 * i + j) 0 ∈ L) : shelfAt cI (va_up F q e) qs i :=
  h.move (fun j hj => va_up_ne F e (fun z => hq (by rw [← z]; exact hm j hj)))
theorem shelfAt.upw {cI : ClassId} {L L2 : List Nat} {F : Nat → va_E} {qs : List Nat} {i b : Nat} {e0 e e3 : va_E} (h : shelfAt cI F qs i) (h0 : wi L F b e0) (_ : wi L2 (va_up F b e) b e3) (hne : eS 0 (qs.getD (4 * i + 1) 0) (qs.getD (4 * i + 3) 0) ≠ e0 := by intro h; cases h) (hne1 : eR (qs.getD (4 * i + 2) 0) 0 0 ≠ e0 := by intro h; cases h) (hne2 : eI cI 100 (fun _ => 0) ≠ e0 := by intro h; cases h) (hne3 : eP 0 0 0 0 ≠ e0 := by intro h; cases h) : shelfAt cI (va_up F b e) qs i :=
  ⟨(va_up_ne F e (fun z => hne (by rw [← h.1, z, h0.2]))).trans h.1, (va_up_ne F e (fun z => hne1 (by rw [← h.2.1, z, h0.2]))).trans h.2.1, (va_up_ne F e (fun z => hne2 (by rw [← h.2.2.1, z, h0.2]))).trans h.2.2.1, (va_up_ne F e (fun z => hne3 (by rw [← h.2.2.2, z, h0.2]))).trans h.2.2.2⟩
theorem shelfAt.grow {cI : ClassId} {L0 L1 : List Nat} {F F1 : Nat → va_E} {P : Nat → Prop} {qs : List Nat} {i : Nat} (h : shelfAt cI F qs i) (hg : gr L0 F P L1 F1) (hm : ∀ j, j < 4 → qs.getD (4 * i + j) 0 ∈ L0 ∧ P (qs.getD (4 * i + j) 0)) : shelfAt cI F1 qs i :=
  h.move (fun j hj => (hg _ (hm j hj).1).2 (hm j hj).2)
theorem shelfAt.old {cI : ClassId} {F : Nat → va_E} {qs q2 : List Nat} {i : Nat} (h : shelfAt cI F qs i) (hi : 4 * i + 3 < qs.length) : shelfAt cI F (qs ++ q2) i := by
  unfold shelfAt at h ⊢
  rw [getD_old (by omega), getD_old (by omega), getD_old (by omega), getD_old (by omega)]
  exact h
theorem shelf_new {cI cS : ClassId} {L : List Nat} {F : Nat → va_E} {qs : List Nat} {k q q1 q2 q3 sa n : Nat} {f : Nat → Option Nat} {e e3 : va_E} (a0 : 4 * k = qs.length + 0) (a1 : 4 * k + 1 = qs.length + 1) (a2 : 4 * k + 2 = qs.length + 2) (a3 : 4 * k + 3 = qs.length + 3) (h1 : F q = eS 0 q1 q3) (h2 : F q1 = eR q2 0 0) (h3 : F q2 = eI cI 100 (fun _ => 0)) (h4 : F q3 = eP 0 0 0 0) (h0 : wi L F sa (eQ cS n f)) (h9 : wi L (va_up F sa e) sa e3) : shelfAt cI (va_up F sa e) (qs ++ [q, q1, q2, q3]) k := by
  have h : shelfAt cI F (qs ++ [q, q1, q2, q3]) k := by
    unfold shelfAt
    rw [getD_new a0, getD_new a1, getD_new a2, getD_new a3]
    exact ⟨h1, h2, h3, h4⟩
  exact h.upw h0 h9
set_option maxHeartbeats 400000 in
set_option maxRecDepth 100000 in
theorem c_X5_init (l : Launch) (D : va_G) (cI cP cS cL : ClassId) (L : List Nat) (F : Nat → va_E) (x : Nat) (h_x : wi L F x (.inr (5, [.null, .null, .null, .int 0, .null, .null, .null]))) : wMv l D cI cP cS cL yX5_init wsX5_init ({ frames := 3, cells := 83, slots := 1163, locals := 54 } : Room) [.ref x] L F (fun L1 F1 => ∃ (g1 pa1 : Nat) (ps1 : List Nat) (r1 e1 g2 pa2 : Nat) (ps2 : List Nat) (r2 e2 g3 pa3 : Nat) (ps3 : List Nat) (r3 e3 sa : Nat) (qs : List Nat) (co ot : Nat), L1 = L ++ [g1] ++ [pa1] ++ ps1 ++ [r1, e1] ++ [g2] ++ [pa2] ++ ps2 ++ [r2, e2] ++ [g3] ++ [pa3] ++ ps3 ++ [r3, e3] ++ [sa] ++ qs ++ [co] ++ [ot] ∧ newGame cI cP F1 g1 pa1 ps1 r1 e1 ∧ newGame cI cP F1 g2 pa2 ps2 r2 e2 ∧ newGame cI cP F1 g3 pa3 ps3 r3 e3 ∧ F1 sa = eQ cS 8 (fun i => some (qs.getD (4 * i) 0)) ∧ qs.length = 32 ∧ (∀ i, i < 8 → shelfAt cI F1 qs i) ∧ F1 co = eI cI 10 (fun _ => 0) ∧ F1 ot = eI cI 10 (fun _ => 0) ∧ F1 x = eX g1 g2 g3 0 sa co ot ∧ gr L F (fun a => a ≠ x) L1 F1) 83 1163 := by
  refine wM.of (cc := cX5_init) (maxL := 2) (ret := none) (by decide) rfl (Nat.le_of_ble_eq_true rfl) ?_
  intro pZ eZ sZ mZ below meth cZ A ls C hl w
  obtain ⟨hx, hb, hr, hml, hts, hown, hlocks, hK, hA, hin⟩ := C
  have hown : sZ.vm.findClass RX5 = some mZ.cls := hown
  have hl : lv_has ls 2 [(0, .ref x)] := hl
  have m_0 : ((.methodLink RX5 1 objectInit) : Cond) ∈ wsX5_init := by decide +kernel
  have m_1 : ((.instanceMethod objectInit) : Cond) ∈ wsX5_init := by decide +kernel
  have m_2 : ((.code objectInit ⟨#[0xb1]⟩ 1 none) : Cond) ∈ wsX5_init := by decide +kernel
  have m_3 : ((.classLink RX5 7 RX0) : Cond) ∈ wsX5_init := by decide +kernel
  have m_4 : ((.instantiable RX0 10) : Cond) ∈ wsX5_init := by decide +kernel
  have m_5 : ((.initialized RX0) : Cond) ∈ wsX5_init := by decide +kernel
  have i_X0 : ∀ w ∈ wsX00, w ∈ wsX5_init := by decide +kernel
  have m_7 : ((.methodLink RX5 9 yX0_init) : Cond) ∈ wsX5_init := by decide +kernel
  have m_8 : ((.instanceMethod yX0_init) : Cond) ∈ wsX5_init := by decide +kernel
  have m_9 : ((.fieldLink RX5 10 "TwoThirds" "now" "LTwoThirds$Game;") : Cond) ∈ wsX5_init := by decide +kernel
  have i_X5 : ∀ w ∈ wsX50, w ∈ wsX5_init := by decide +kernel
  have m_11 : ((.fieldLink RX5 16 "TwoThirds" "kept" "LTwoThirds$Game;") : Cond) ∈ wsX5_init := by decide +kernel
  have m_12 : ((.fieldLink RX5 19 "TwoThirds" "mind" "LTwoThirds$Game;") : Cond) ∈ wsX5_init := by decide +kernel
  have m_13 : ((.classLink RX5 22 RX4) : Cond) ∈ wsX5_init := by decide +kernel
  have m_14 : ((.fieldLink RX5 24 "TwoThirds" "shelves" "[LTwoThirds$Shelf;") : Cond) ∈ wsX5_init := by decide +kernel
  have m_15 : ((.arrayClass .int) : Cond) ∈ wsX5_init := by decide +kernel
  have m_16 : ((.fieldLink RX5 29 "TwoThirds" "counts" "[I") : Cond) ∈ wsX5_init := by decide +kernel
  have m_17 : ((.fieldLink RX5 33 "TwoThirds" "otherCounts" "[I") : Cond) ∈ wsX5_init := by decide +kernel
  have m_18 : ((.instantiable RX4 3) : Cond) ∈ wsX5_init := by decide +kernel
  have m_19 : ((.initialized RX4) : Cond) ∈ wsX5_init := by decide +kernel
  have i_X4 : ∀ w ∈ wsX40, w ∈ wsX5_init := by decide +kernel
  have m_21 : ((.methodLink RX5 28 yX4_init) : Cond) ∈ wsX5_init := by decide +kernel
  have m_22 : ((.instanceMethod yX4_init) : Cond) ∈ wsX5_init := by decide +kernel
  have hg : gr L F (fun a => a ≠ x) L F := gr.rf
  refine lv_aload_n hx hb dX5_init_0 rfl (lv_at hl 0 rfl) ?_
  refine w_obj hx hb hml hl.1 hts hown m_0 m_1 m_2 dX5_init_1 (Nat.le_of_ble_eq_true rfl) (Nat.le_of_ble_eq_true rfl) ?_
  refine lv_aload_n hx hb dX5_init_4 rfl (lv_at hl 0 rfl) ?_
  refine w_newO (ci := 0) (fs := [.int 0, .int 0, .int 0, .int 0, .int 0, .int 0, .int 0, .null, .null, .int 0]) (C := RX0) (T := TX0) (N := 10) hx hb hts i_X0 tyX0 tyX0_ok hown m_3 m_4 m_5 hK w hA rfl (fun j hj => by rcases (show j = 0 ∨ j = 1 ∨ j = 2 ∨ j = 3 ∨ j = 4 ∨ j = 5 ∨ j = 6 ∨ j = 7 ∨ j = 8 ∨ j = 9 by omega) with rfl | rfl | rfl | rfl | rfl | rfl | rfl | rfl | rfl | rfl <;> rfl) (Nat.le_of_ble_eq_true rfl) (Nat.le_of_ble_eq_true rfl) dX5_init_5 (fun g1 H hq9 w h_g1 => ?_)
  have hq_g1 : g1 ∉ L := fun z => hq9 (hg _ z).1
  have ne_g1_x : g1 ≠ x := fun z => hq9 (by rw [z]; exact h_x.1)
  have h_x := h_x.pushw h_g1 hq9
  have hg := hg.push h_g1 hq9
  refine lv_dup hx hb dX5_init_8 rfl ?_
  refine w_finv (w_runI (rm := ({ frames := 2, cells := 15, slots := 75, locals := 33 } : Room)) (As := []) (rest := [.ref g1, .ref x]) (n := 0) hx hb hml hts hown hK w (c_X0_init l D cI cP cS cL _ _ g1 h_g1) gX5_init_X0_init rfl rfl rfl m_5 m_7 m_8 rfl (by decide +kernel) ⟨(Nat.le_of_ble_eq_true rfl), (Nat.le_of_ble_eq_true rfl)⟩ rfl hl.1 rfl (Nat.le_of_ble_eq_true rfl) dX5_init_9 ⟨(Nat.le_of_ble_eq_true rfl), (Nat.le_of_ble_eq_true rfl)⟩) w hA (fun L1 F1 H locs hp w => ?_)
  obtain ⟨pa1, ps1, r1, e1, hps1, rfl, h1, h2, h3, h4, h5, hg2⟩ := hp
  have hr9 := h_g1
  have h_x := h_x.grow hg2 (wi.ne h_x hr9 (by intro h; cases h))
  have hg := hg.call hg2 (fun a ha _ z => hq_g1 (by rw [← z]; exact ha))
  have h_g1 : wi _ _ g1 _ := ⟨(hg2 _ hr9.1).1, h1⟩
  have hmem := mem_gameW (pa := pa1) (ps := ps1) (r := r1) (e := e1) w
  have h_pa1 := wi.mk0 (hmem pa1 (Or.inl rfl)) h2
  have h_ps1 := fun i (hi : i < 12) => wi.mk0 (hmem _ (Or.inr (Or.inl (getD_mem hps1 hi)))) (h3 i hi)
  have h_r1 := wi.mk0 (hmem r1 (Or.inr (Or.inr (Or.inl rfl)))) h4
  have h_e1 := wi.mk0 (hmem e1 (Or.inr (Or.inr (Or.inr rfl)))) h5
  have ho9 := h_x
  refine w_putF (fs2 := [.ref g1, .null, .null, .int 0, .null, .null, .null]) hx hb hts i_X5 tyX5 tyX5_ok nmX5 hown hK w h_x rfl 0 (by decide) (hts _ m_9) rfl hin.symm rfl rfl rfl (Nat.le_of_ble_eq_true rfl) rfl dX5_init_12 (fun H locs w h_x => ?_)
  have h_g1 := h_g1.upw h_x (wi.ne h_g1 ho9 (by intro h; cases h))
  have h_pa1 := h_pa1.upw h_x (wi.ne h_pa1 ho9 (by intro h; cases h))
  have h_ps1 := fun i (hi : i < 12) => (h_ps1 i hi).upw h_x (wi.ne (h_ps1 i hi) ho9 (by intro h; cases h))
  have h_r1 := h_r1.upw h_x (wi.ne h_r1 ho9 (by intro h; cases h))
  have h_e1 := h_e1.upw h_x (wi.ne h_e1 ho9 (by intro h; cases h))
  have hg := hg.up h_x (fun _ h => h rfl)
  refine lv_aload_n hx hb dX5_init_15 rfl (lv_at hl 0 rfl) ?_
  refine w_newO (ci := 0) (fs := [.int 0, .int 0, .int 0, .int 0, .int 0, .int 0, .int 0, .null, .null, .int 0]) (C := RX0) (T := TX0) (N := 10) hx hb hts i_X0 tyX0 tyX0_ok hown m_3 m_4 m_5 hK w hA rfl (fun j hj => by rcases (show j = 0 ∨ j = 1 ∨ j = 2 ∨ j = 3 ∨ j = 4 ∨ j = 5 ∨ j = 6 ∨ j = 7 ∨ j = 8 ∨ j = 9 by omega) with rfl | rfl | rfl | rfl | rfl | rfl | rfl | rfl | rfl | rfl <;> rfl) (Nat.le_of_ble_eq_true rfl) (Nat.le_of_ble_eq_true rfl) dX5_init_16 (fun g2 H hq9 w h_g2 => ?_)
  have hq_g2 : g2 ∉ L := fun z => hq9 (hg _ z).1
  have ne_g2_x : g2 ≠ x := fun z => hq9 (by rw [z]; exact h_x.1)
  have ne_g2_g1 : g2 ≠ g1 := fun z => hq9 (by rw [z]; exact h_g1.1)
  have ne_g2_pa1 : g2 ≠ pa1 := fun z => hq9 (by rw [z]; exact h_pa1.1)
  have ne_g2_r1 : g2 ≠ r1 := fun z => hq9 (by rw [z]; exact h_r1.1)
  have ne_g2_e1 : g2 ≠ e1 := fun z => hq9 (by rw [z]; exact h_e1.1)
  have h_x := h_x.pushw h_g2 hq9
  have h_g1 := h_g1.pushw h_g2 hq9
  have h_pa1 := h_pa1.pushw h_g2 hq9
  have h_ps1 := fun i (hi : i < 12) => (h_ps1 i hi).pushw h_g2 hq9
  have h_r1 := h_r1.pushw h_g2 hq9
  have h_e1 := h_e1.pushw h_g2 hq9
  have hg := hg.push h_g2 hq9
  refine lv_dup hx hb dX5_init_19 rfl ?_
  refine w_finv (w_runI (rm := ({ frames := 2, cells := 15, slots := 75, locals := 33 } : Room)) (As := []) (rest := [.ref g2, .ref x]) (n := 0) hx hb hml hts hown hK w (c_X0_init l D cI cP cS cL _ _ g2 h_g2) gX5_init_X0_init rfl rfl rfl m_5 m_7 m_8 rfl (by decide +kernel) ⟨(Nat.le_of_ble_eq_true rfl), (Nat.le_of_ble_eq_true rfl)⟩ rfl hl.1 rfl (Nat.le_of_ble_eq_true rfl) dX5_init_20 ⟨(Nat.le_of_ble_eq_true rfl), (Nat.le_of_ble_eq_true rfl)⟩) w hA (fun L1 F1 H locs hp w => ?_)
  obtain ⟨pa2, ps2, r2, e2, hps2, rfl, h1, h2, h3, h4, h5, hg2⟩ := hp
  have hr9 := h_g2
  have h_x := h_x.grow hg2 (wi.ne h_x hr9 (by intro h; cases h))
  have h_g1 := h_g1.grow hg2 (Ne.symm ne_g2_g1)
  have h_pa1 := h_pa1.grow hg2 (wi.ne h_pa1 hr9 (by intro h; cases h))
  have h_ps1 := fun i (hi : i < 12) => (h_ps1 i hi).grow hg2 (wi.ne (h_ps1 i hi) hr9 (by intro h; cases h))
  have h_r1 := h_r1.grow hg2 (wi.ne h_r1 hr9 (by intro h; cases h))
  have h_e1 := h_e1.grow hg2 (wi.ne h_e1 hr9 (by intro h; cases h))
  have hg := hg.call hg2 (fun a ha _ z => hq_g2 (by rw [← z]; exact ha))
  have h_g2 : wi _ _ g2 _ := ⟨(hg2 _ hr9.1).1, h1⟩
  have hmem := mem_gameW (pa := pa2) (ps := ps2) (r := r2) (e := e2) w
  have h_pa2 := wi.mk0 (hmem pa2 (Or.inl rfl)) h2
  have h_ps2 := fun i (hi : i < 12) => wi.mk0 (hmem _ (Or.inr (Or.inl (getD_mem hps2 hi)))) (h3 i hi)
  have h_r2 := wi.mk0 (hmem r2 (Or.inr (Or.inr (Or.inl rfl)))) h4
  have h_e2 := wi.mk0 (hmem e2 (Or.inr (Or.inr (Or.inr rfl)))) h5
  have ho9 := h_x
  refine w_putF (fs2 := [.ref g1, .ref g2, .null, .int 0, .null, .null, .null]) hx hb hts i_X5 tyX5 tyX5_ok nmX5 hown hK w h_x rfl 1 (by decide) (hts _ m_11) rfl hin.symm rfl rfl rfl (Nat.le_of_ble_eq_true rfl) rfl dX5_init_23 (fun H locs w h_x => ?_)
  have h_g1 := h_g1.upw h_x (wi.ne h_g1 ho9 (by intro h; cases h))
  have h_pa1 := h_pa1.upw h_x (wi.ne h_pa1 ho9 (by intro h; cases h))
  have h_ps1 := fun i (hi : i < 12) => (h_ps1 i hi).upw h_x (wi.ne (h_ps1 i hi) ho9 (by intro h; cases h))
  have h_r1 := h_r1.upw h_x (wi.ne h_r1 ho9 (by intro h; cases h))
  have h_e1 := h_e1.upw h_x (wi.ne h_e1 ho9 (by intro h; cases h))
  have h_g2 := h_g2.upw h_x (wi.ne h_g2 ho9 (by intro h; cases h))
  have h_pa2 := h_pa2.upw h_x (wi.ne h_pa2 ho9 (by intro h; cases h))
  have h_ps2 := fun i (hi : i < 12) => (h_ps2 i hi).upw h_x (wi.ne (h_ps2 i hi) ho9 (by intro h; cases h))
  have h_r2 := h_r2.upw h_x (wi.ne h_r2 ho9 (by intro h; cases h))
  have h_e2 := h_e2.upw h_x (wi.ne h_e2 ho9 (by intro h; cases h))
  have hg := hg.up h_x (fun _ h => h rfl)
  refine lv_aload_n hx hb dX5_init_26 rfl (lv_at hl 0 rfl) ?_
  refine w_newO (ci := 0) (fs := [.int 0, .int 0, .int 0, .int 0, .int 0, .int 0, .int 0, .null, .null, .int 0]) (C := RX0) (T := TX0) (N := 10) hx hb hts i_X0 tyX0 tyX0_ok hown m_3 m_4 m_5 hK w hA rfl (fun j hj => by rcases (show j = 0 ∨ j = 1 ∨ j = 2 ∨ j = 3 ∨ j = 4 ∨ j = 5 ∨ j = 6 ∨ j = 7 ∨ j = 8 ∨ j = 9 by omega) with rfl | rfl | rfl | rfl | rfl | rfl | rfl | rfl | rfl | rfl <;> rfl) (Nat.le_of_ble_eq_true rfl) (Nat.le_of_ble_eq_true rfl) dX5_init_27 (fun g3 H hq9 w h_g3 => ?_)
  have hq_g3 : g3 ∉ L := fun z => hq9 (hg _ z).1
  have ne_g3_x : g3 ≠ x := fun z => hq9 (by rw [z]; exact h_x.1)
  have ne_g3_g1 : g3 ≠ g1 := fun z => hq9 (by rw [z]; exact h_g1.1)
  have ne_g3_pa1 : g3 ≠ pa1 := fun z => hq9 (by rw [z]; exact h_pa1.1)
  have ne_g3_r1 : g3 ≠ r1 := fun z => hq9 (by rw [z]; exact h_r1.1)
  have ne_g3_e1 : g3 ≠ e1 := fun z => hq9 (by rw [z]; exact h_e1.1)
  have ne_g3_g2 : g3 ≠ g2 := fun z => hq9 (by rw [z]; exact h_g2.1)
  have ne_g3_pa2 : g3 ≠ pa2 := fun z => hq9 (by rw [z]; exact h_pa2.1)
  have ne_g3_r2 : g3 ≠ r2 := fun z => hq9 (by rw [z]; exact h_r2.1)
  have ne_g3_e2 : g3 ≠ e2 := fun z => hq9 (by rw [z]; exact h_e2.1)
  have h_x := h_x.pushw h_g3 hq9
  have h_g1 := h_g1.pushw h_g3 hq9
  have h_pa1 := h_pa1.pushw h_g3 hq9
  have h_ps1 := fun i (hi : i < 12) => (h_ps1 i hi).pushw h_g3 hq9
  have h_r1 := h_r1.pushw h_g3 hq9
  have h_e1 := h_e1.pushw h_g3 hq9
  have h_g2 := h_g2.pushw h_g3 hq9
  have h_pa2 := h_pa2.pushw h_g3 hq9
  have h_ps2 := fun i (hi : i < 12) => (h_ps2 i hi).pushw h_g3 hq9
  have h_r2 := h_r2.pushw h_g3 hq9
  have h_e2 := h_e2.pushw h_g3 hq9
  have hg := hg.push h_g3 hq9
  refine lv_dup hx hb dX5_init_30 rfl ?_
  refine w_finv (w_runI (rm := ({ frames := 2, cells := 15, slots := 75, locals := 33 } : Room)) (As := []) (rest := [.ref g3, .ref x]) (n := 0) hx hb hml hts hown hK w (c_X0_init l D cI cP cS cL _ _ g3 h_g3) gX5_init_X0_init rfl rfl rfl m_5 m_7 m_8 rfl (by decide +kernel) ⟨(Nat.le_of_ble_eq_true rfl), (Nat.le_of_ble_eq_true rfl)⟩ rfl hl.1 rfl (Nat.le_of_ble_eq_true rfl) dX5_init_31 ⟨(Nat.le_of_ble_eq_true rfl), (Nat.le_of_ble_eq_true rfl)⟩) w hA (fun L1 F1 H locs hp w => ?_)
  obtain ⟨pa3, ps3, r3, e3, hps3, rfl, h1, h2, h3, h4, h5, hg2⟩ := hp
  have hr9 := h_g3
  have h_x := h_x.grow hg2 (wi.ne h_x hr9 (by intro h; cases h))
  have h_g1 := h_g1.grow hg2 (Ne.symm ne_g3_g1)
  have h_pa1 := h_pa1.grow hg2 (wi.ne h_pa1 hr9 (by intro h; cases h))
  have h_ps1 := fun i (hi : i < 12) => (h_ps1 i hi).grow hg2 (wi.ne (h_ps1 i hi) hr9 (by intro h; cases h))
  have h_r1 := h_r1.grow hg2 (wi.ne h_r1 hr9 (by intro h; cases h))
  have h_e1 := h_e1.grow hg2 (wi.ne h_e1 hr9 (by intro h; cases h))
  have h_g2 := h_g2.grow hg2 (Ne.symm ne_g3_g2)
  have h_pa2 := h_pa2.grow hg2 (wi.ne h_pa2 hr9 (by intro h; cases h))
  have h_ps2 := fun i (hi : i < 12) => (h_ps2 i hi).grow hg2 (wi.ne (h_ps2 i hi) hr9 (by intro h; cases h))
  have h_r2 := h_r2.grow hg2 (wi.ne h_r2 hr9 (by intro h; cases h))
  have h_e2 := h_e2.grow hg2 (wi.ne h_e2 hr9 (by intro h; cases h))
  have hg := hg.call hg2 (fun a ha _ z => hq_g3 (by rw [← z]; exact ha))
  have h_g3 : wi _ _ g3 _ := ⟨(hg2 _ hr9.1).1, h1⟩
  have hmem := mem_gameW (pa := pa3) (ps := ps3) (r := r3) (e := e3) w
  have h_pa3 := wi.mk0 (hmem pa3 (Or.inl rfl)) h2
  have h_ps3 := fun i (hi : i < 12) => wi.mk0 (hmem _ (Or.inr (Or.inl (getD_mem hps3 hi)))) (h3 i hi)
  have h_r3 := wi.mk0 (hmem r3 (Or.inr (Or.inr (Or.inl rfl)))) h4
  have h_e3 := wi.mk0 (hmem e3 (Or.inr (Or.inr (Or.inr rfl)))) h5
  have ho9 := h_x
  refine w_putF (fs2 := [.ref g1, .ref g2, .ref g3, .int 0, .null, .null, .null]) hx hb hts i_X5 tyX5 tyX5_ok nmX5 hown hK w h_x rfl 2 (by decide) (hts _ m_12) rfl hin.symm rfl rfl rfl (Nat.le_of_ble_eq_true rfl) rfl dX5_init_34 (fun H locs w h_x => ?_)
  have h_g1 := h_g1.upw h_x (wi.ne h_g1 ho9 (by intro h; cases h))
  have h_pa1 := h_pa1.upw h_x (wi.ne h_pa1 ho9 (by intro h; cases h))
  have h_ps1 := fun i (hi : i < 12) => (h_ps1 i hi).upw h_x (wi.ne (h_ps1 i hi) ho9 (by intro h; cases h))
  have h_r1 := h_r1.upw h_x (wi.ne h_r1 ho9 (by intro h; cases h))
  have h_e1 := h_e1.upw h_x (wi.ne h_e1 ho9 (by intro h; cases h))
  have h_g2 := h_g2.upw h_x (wi.ne h_g2 ho9 (by intro h; cases h))
  have h_pa2 := h_pa2.upw h_x (wi.ne h_pa2 ho9 (by intro h; cases h))
  have h_ps2 := fun i (hi : i < 12) => (h_ps2 i hi).upw h_x (wi.ne (h_ps2 i hi) ho9 (by intro h; cases h))
  have h_r2 := h_r2.upw h_x (wi.ne h_r2 ho9 (by intro h; cases h))
  have h_e2 := h_e2.upw h_x (wi.ne h_e2 ho9 (by intro h; cases h))
  have h_g3 := h_g3.upw h_x (wi.ne h_g3 ho9 (by intro h; cases h))
  have h_pa3 := h_pa3.upw h_x (wi.ne h_pa3 ho9 (by intro h; cases h))
  have h_ps3 := fun i (hi : i < 12) => (h_ps3 i hi).upw h_x (wi.ne (h_ps3 i hi) ho9 (by intro h; cases h))
  have h_r3 := h_r3.upw h_x (wi.ne h_r3 ho9 (by intro h; cases h))
  have h_e3 := h_e3.upw h_x (wi.ne h_e3 ho9 (by intro h; cases h))
  have hg := hg.up h_x (fun _ h => h rfl)
  refine lv_aload_n hx hb dX5_init_37 rfl (lv_at hl 0 rfl) ?_
  refine lv_bipush (v := 8) hx hb dX5_init_38 (by decide) ?_
  refine w_newS (N' := 8) hx hb hts hown m_13 hK w hA (by decide) rfl (by decide) (Nat.le_of_ble_eq_true rfl) (Nat.le_of_ble_eq_true rfl) dX5_init_40 (fun sa H hq9 w h_sa => ?_)
  have hq_sa : sa ∉ L := fun z => hq9 (hg _ z).1
  have ne_sa_x : sa ≠ x := fun z => hq9 (by rw [z]; exact h_x.1)
  have ne_sa_g1 : sa ≠ g1 := fun z => hq9 (by rw [z]; exact h_g1.1)
  have ne_sa_pa1 : sa ≠ pa1 := fun z => hq9 (by rw [z]; exact h_pa1.1)
  have ne_sa_r1 : sa ≠ r1 := fun z => hq9 (by rw [z]; exact h_r1.1)
  have ne_sa_e1 : sa ≠ e1 := fun z => hq9 (by rw [z]; exact h_e1.1)
  have ne_sa_g2 : sa ≠ g2 := fun z => hq9 (by rw [z]; exact h_g2.1)
  have ne_sa_pa2 : sa ≠ pa2 := fun z => hq9 (by rw [z]; exact h_pa2.1)
  have ne_sa_r2 : sa ≠ r2 := fun z => hq9 (by rw [z]; exact h_r2.1)
  have ne_sa_e2 : sa ≠ e2 := fun z => hq9 (by rw [z]; exact h_e2.1)
  have ne_sa_g3 : sa ≠ g3 := fun z => hq9 (by rw [z]; exact h_g3.1)
  have ne_sa_pa3 : sa ≠ pa3 := fun z => hq9 (by rw [z]; exact h_pa3.1)
  have ne_sa_r3 : sa ≠ r3 := fun z => hq9 (by rw [z]; exact h_r3.1)
  have ne_sa_e3 : sa ≠ e3 := fun z => hq9 (by rw [z]; exact h_e3.1)
  have h_x := h_x.pushw h_sa hq9
  have h_g1 := h_g1.pushw h_sa hq9
  have h_pa1 := h_pa1.pushw h_sa hq9
  have h_ps1 := fun i (hi : i < 12) => (h_ps1 i hi).pushw h_sa hq9
  have h_r1 := h_r1.pushw h_sa hq9
  have h_e1 := h_e1.pushw h_sa hq9
  have h_g2 := h_g2.pushw h_sa hq9
  have h_pa2 := h_pa2.pushw h_sa hq9
  have h_ps2 := fun i (hi : i < 12) => (h_ps2 i hi).pushw h_sa hq9
  have h_r2 := h_r2.pushw h_sa hq9
  have h_e2 := h_e2.pushw h_sa hq9
  have h_g3 := h_g3.pushw h_sa hq9
  have h_pa3 := h_pa3.pushw h_sa hq9
  have h_ps3 := fun i (hi : i < 12) => (h_ps3 i hi).pushw h_sa hq9
  have h_r3 := h_r3.pushw h_sa hq9
  have h_e3 := h_e3.pushw h_sa hq9
  have hg := hg.push h_sa hq9
  have ho9 := h_x
  refine w_putF (fs2 := [.ref g1, .ref g2, .ref g3, .int 0, .ref sa, .null, .null]) hx hb hts i_X5 tyX5 tyX5_ok nmX5 hown hK w h_x rfl 4 (by decide) (hts _ m_14) rfl hin.symm rfl rfl rfl (Nat.le_of_ble_eq_true rfl) rfl dX5_init_43 (fun H locs w h_x => ?_)
  have h_g1 := h_g1.upw h_x (wi.ne h_g1 ho9 (by intro h; cases h))
  have h_pa1 := h_pa1.upw h_x (wi.ne h_pa1 ho9 (by intro h; cases h))
  have h_ps1 := fun i (hi : i < 12) => (h_ps1 i hi).upw h_x (wi.ne (h_ps1 i hi) ho9 (by intro h; cases h))
  have h_r1 := h_r1.upw h_x (wi.ne h_r1 ho9 (by intro h; cases h))
  have h_e1 := h_e1.upw h_x (wi.ne h_e1 ho9 (by intro h; cases h))
  have h_g2 := h_g2.upw h_x (wi.ne h_g2 ho9 (by intro h; cases h))
  have h_pa2 := h_pa2.upw h_x (wi.ne h_pa2 ho9 (by intro h; cases h))
  have h_ps2 := fun i (hi : i < 12) => (h_ps2 i hi).upw h_x (wi.ne (h_ps2 i hi) ho9 (by intro h; cases h))
  have h_r2 := h_r2.upw h_x (wi.ne h_r2 ho9 (by intro h; cases h))
  have h_e2 := h_e2.upw h_x (wi.ne h_e2 ho9 (by intro h; cases h))
  have h_g3 := h_g3.upw h_x (wi.ne h_g3 ho9 (by intro h; cases h))
  have h_pa3 := h_pa3.upw h_x (wi.ne h_pa3 ho9 (by intro h; cases h))
  have h_ps3 := fun i (hi : i < 12) => (h_ps3 i hi).upw h_x (wi.ne (h_ps3 i hi) ho9 (by intro h; cases h))
  have h_r3 := h_r3.upw h_x (wi.ne h_r3 ho9 (by intro h; cases h))
  have h_e3 := h_e3.upw h_x (wi.ne h_e3 ho9 (by intro h; cases h))
  have h_sa := h_sa.upw h_x (wi.ne h_sa ho9 (by intro h; cases h))
  have hg := hg.up h_x (fun _ h => h rfl)
  have key : ∀ (L2 : List Nat) (F2 : Nat → va_E) (H : Heap) (locs : List Loc), L2 = L ++ [g1] ++ [pa1] ++ ps1 ++ [r1, e1] ++ [g2] ++ [pa2] ++ ps2 ++ [r2, e2] ++ [g3] ++ [pa3] ++ ps3 ++ [r3, e3] ++ [sa] → ww D A sZ.heap L2 F2 H locs → wi L2 F2 x (.inr (5, [.ref g1, .ref g2, .ref g3, .int 0, .ref sa, .null, .null])) → wi L2 F2 g1 (eG 2 3 100 0 1 0 0 pa1 r1 0) → wi L2 F2 pa1 (eQ cP 12 (fun i => some (ps1.getD i 0))) → (∀ i, i < 12 → wi L2 F2 (ps1.getD i 0) (eP 0 0 0 0)) → wi L2 F2 r1 (eR e1 0 0) → wi L2 F2 e1 (eI cI 12 (fun _ => 0)) → wi L2 F2 g2 (eG 2 3 100 0 1 0 0 pa2 r2 0) → wi L2 F2 pa2 (eQ cP 12 (fun i => some (ps2.getD i 0))) → (∀ i, i < 12 → wi L2 F2 (ps2.getD i 0) (eP 0 0 0 0)) → wi L2 F2 r2 (eR e2 0 0) → wi L2 F2 e2 (eI cI 12 (fun _ => 0)) → wi L2 F2 g3 (eG 2 3 100 0 1 0 0 pa3 r3 0) → wi L2 F2 pa3 (eQ cP 12 (fun i => some (ps3.getD i 0))) → (∀ i, i < 12 → wi L2 F2 (ps3.getD i 0) (eP 0 0 0 0)) → wi L2 F2 r3 (eR e3 0 0) → wi L2 F2 e3 (eI cI 12 (fun _ => 0)) → wi L2 F2 sa (eQ cS 8 (fun _ => none)) → gr L F (fun a => a ≠ x) L2 F2 → W pZ l eZ ({ frames := 3, cells := 83, slots := 1163, locals := 54 } : Room) sZ mZ [.ref x].toArray below meth cZ H locs (0 + 1 + 15 + 1 + 15 + 1 + 15 + 1) (0 + 10 + 75 + 10 + 75 + 10 + 75 + 8) (MQ below (wQv D A (fun L1 F1 => ∃ (g1 pa1 : Nat) (ps1 : List Nat) (r1 e1 g2 pa2 : Nat) (ps2 : List Nat) (r2 e2 g3 pa3 : Nat) (ps3 : List Nat) (r3 e3 sa : Nat) (qs : List Nat) (co ot : Nat), L1 = L ++ [g1] ++ [pa1] ++ ps1 ++ [r1, e1] ++ [g2] ++ [pa2] ++ ps2 ++ [r2, e2] ++ [g3] ++ [pa3] ++ ps3 ++ [r3, e3] ++ [sa] ++ qs ++ [co] ++ [ot] ∧ newGame cI cP F1 g1 pa1 ps1 r1 e1 ∧ newGame cI cP F1 g2 pa2 ps2 r2 e2 ∧ newGame cI cP F1 g3 pa3 ps3 r3 e3 ∧ F1 sa = eQ cS 8 (fun i => some (qs.getD (4 * i) 0)) ∧ qs.length = 32 ∧ (∀ i, i < 8 → shelfAt cI F1 qs i) ∧ F1 co = eI cI 10 (fun _ => 0) ∧ F1 ot = eI cI 10 (fun _ => 0) ∧ F1 x = eX g1 g2 g3 0 sa co ot ∧ gr L F (fun a => a ≠ x) L1 F1)) [.ref x].toArray sZ 83 1163 A) (F0 mZ 46 ls []) := by
    intro L2 F2 H locs hL2 w h_x h_g1 h_pa1 h_ps1 h_r1 h_e1 h_g2 h_pa2 h_ps2 h_r2 h_e2 h_g3 h_pa3 h_ps3 h_r3 h_e3 h_sa hg
    refine lv_iconst (v := 0) hx hb dX5_init_46 (by decide) ?_
    refine lv_istore_n (lv' := [(1, .int 0), (0, .ref x)]) hx hb dX5_init_47 rfl hl (by decide) rfl (fun ls hl => ?_)
    have hL : ∀ (n k : Nat) (qs : List Nat) (F1 : Nat → va_E) (H : Heap) (locs : List Loc) (ls : Array Slot), k ≤ 8 → 8 - k < n → qs.length = 4 * k → lv_has ls 2 [(0, .ref x), (1, .int (nI k))] → ww D A sZ.heap (L2 ++ qs) F1 H locs → wi (L2 ++ qs) F1 sa (eQ cS 8 (fun i => if i < k then some (qs.getD (4 * i) 0) else none)) → (∀ i, i < k → shelfAt cI F1 qs i) → gr L2 F2 (fun a => a ≠ sa) (L2 ++ qs) F1 → W pZ l eZ ({ frames := 3, cells := 83, slots := 1163, locals := 54 } : Room) sZ mZ [.ref x].toArray below meth cZ H locs (49 + 4 * k) (263 + 110 * k) (MQ below (wQv D A (fun L1 F1 => ∃ (g1 pa1 : Nat) (ps1 : List Nat) (r1 e1 g2 pa2 : Nat) (ps2 : List Nat) (r2 e2 g3 pa3 : Nat) (ps3 : List Nat) (r3 e3 sa : Nat) (qs : List Nat) (co ot : Nat), L1 = L ++ [g1] ++ [pa1] ++ ps1 ++ [r1, e1] ++ [g2] ++ [pa2] ++ ps2 ++ [r2, e2] ++ [g3] ++ [pa3] ++ ps3 ++ [r3, e3] ++ [sa] ++ qs ++ [co] ++ [ot] ∧ newGame cI cP F1 g1 pa1 ps1 r1 e1 ∧ newGame cI cP F1 g2 pa2 ps2 r2 e2 ∧ newGame cI cP F1 g3 pa3 ps3 r3 e3 ∧ F1 sa = eQ cS 8 (fun i => some (qs.getD (4 * i) 0)) ∧ qs.length = 32 ∧ (∀ i, i < 8 → shelfAt cI F1 qs i) ∧ F1 co = eI cI 10 (fun _ => 0) ∧ F1 ot = eI cI 10 (fun _ => 0) ∧ F1 x = eX g1 g2 g3 0 sa co ot ∧ gr L F (fun a => a ≠ x) L1 F1)) [.ref x].toArray sZ 83 1163 A) (F0 mZ 48 ls []) := by
      intro n; induction n with
      | zero => intro k qs F1 H locs ls hkT hmeas; exact absurd hmeas (Nat.not_lt_zero _)
      | succ n ih =>
        intro k qs F1 H locs ls hkT hmeas hqs hl w h_sb h_qs hg2
        refine lv_iload_n hx hb dX5_init_48 rfl (lv_at hl 1 rfl) ?_
        refine lv_bipush (v := 8) hx hb dX5_init_49 (by decide) ?_
        refine lv_icmp_ge (tgt := 73) hx hb dX5_init_51 (by decide) (fun c1 => ?_) (fun c1 => ?_)
        · skip
          have hk8 : k = 8 := by rw [Int32.le_iff_toInt_le, nI_toInt (by omega)] at c1; have : (8 : Int32).toInt = 8 := rfl; omega
          subst hk8
          have h_g1 := h_g1.grow hg2 (wi.ne h_g1 h_sa (by intro h; cases h))
          have h_pa1 := h_pa1.grow hg2 (wi.ne h_pa1 h_sa (by intro h; cases h))
          have h_ps1 := fun i (hi : i < 12) => (h_ps1 i hi).grow hg2 (wi.ne (h_ps1 i hi) h_sa (by intro h; cases h))
          have h_r1 := h_r1.grow hg2 (wi.ne h_r1 h_sa (by intro h; cases h))
          have h_e1 := h_e1.grow hg2 (wi.ne h_e1 h_sa (by intro h; cases h))
          have h_g2 := h_g2.grow hg2 (wi.ne h_g2 h_sa (by intro h; cases h))
          have h_pa2 := h_pa2.grow hg2 (wi.ne h_pa2 h_sa (by intro h; cases h))
          have h_ps2 := fun i (hi : i < 12) => (h_ps2 i hi).grow hg2 (wi.ne (h_ps2 i hi) h_sa (by intro h; cases h))
          have h_r2 := h_r2.grow hg2 (wi.ne h_r2 h_sa (by intro h; cases h))
          have h_e2 := h_e2.grow hg2 (wi.ne h_e2 h_sa (by intro h; cases h))
          have h_g3 := h_g3.grow hg2 (wi.ne h_g3 h_sa (by intro h; cases h))
          have h_pa3 := h_pa3.grow hg2 (wi.ne h_pa3 h_sa (by intro h; cases h))
          have h_ps3 := fun i (hi : i < 12) => (h_ps3 i hi).grow hg2 (wi.ne (h_ps3 i hi) h_sa (by intro h; cases h))
          have h_r3 := h_r3.grow hg2 (wi.ne h_r3 h_sa (by intro h; cases h))
          have h_e3 := h_e3.grow hg2 (wi.ne h_e3 h_sa (by intro h; cases h))
          have h_x := h_x.grow hg2 (wi.ne h_x h_sa (by intro h; cases h))
          have hsaL : sa ∉ L := hq_sa
          have hg := hg.call hg2 (fun a ha _ z => hsaL (by rw [← z]; exact ha))
          have h_sa := h_sb
          obtain ⟨w, h_sb⟩ := ww_congr (g := fun i => some (qs.getD (4 * i) 0)) w h_sa (fun i hi => if_pos hi)
          have h_g1 := h_g1.upw h_sb (wi.ne h_g1 h_sa (by intro h; cases h))
          have h_pa1 := h_pa1.upw h_sb (wi.ne h_pa1 h_sa (by intro h; cases h))
          have h_ps1 := fun i (hi : i < 12) => (h_ps1 i hi).upw h_sb (wi.ne (h_ps1 i hi) h_sa (by intro h; cases h))
          have h_r1 := h_r1.upw h_sb (wi.ne h_r1 h_sa (by intro h; cases h))
          have h_e1 := h_e1.upw h_sb (wi.ne h_e1 h_sa (by intro h; cases h))
          have h_g2 := h_g2.upw h_sb (wi.ne h_g2 h_sa (by intro h; cases h))
          have h_pa2 := h_pa2.upw h_sb (wi.ne h_pa2 h_sa (by intro h; cases h))
          have h_ps2 := fun i (hi : i < 12) => (h_ps2 i hi).upw h_sb (wi.ne (h_ps2 i hi) h_sa (by intro h; cases h))
          have h_r2 := h_r2.upw h_sb (wi.ne h_r2 h_sa (by intro h; cases h))
          have h_e2 := h_e2.upw h_sb (wi.ne h_e2 h_sa (by intro h; cases h))
          have h_g3 := h_g3.upw h_sb (wi.ne h_g3 h_sa (by intro h; cases h))
          have h_pa3 := h_pa3.upw h_sb (wi.ne h_pa3 h_sa (by intro h; cases h))
          have h_ps3 := fun i (hi : i < 12) => (h_ps3 i hi).upw h_sb (wi.ne (h_ps3 i hi) h_sa (by intro h; cases h))
          have h_r3 := h_r3.upw h_sb (wi.ne h_r3 h_sa (by intro h; cases h))
          have h_e3 := h_e3.upw h_sb (wi.ne h_e3 h_sa (by intro h; cases h))
          have h_x := h_x.upw h_sb (wi.ne h_x h_sa (by intro h; cases h))
          have h_qs := fun i (hi : i < 8) => (h_qs i hi).upw h_sa h_sb
          have hg := hg.up h_sb (fun h _ => hsaL h)
          have h_sa := h_sb
          have hqm : ∀ i, i < 8 → ∀ j, j < 4 → qs.getD (4 * i + j) 0 ∈ L2 ++ qs := fun i hi j hj => List.mem_append_right _ (getD_mem hqs (by omega))
          refine lv_aload_n hx hb dX5_init_73 rfl (lv_at hl 0 rfl) ?_
          refine lv_bipush (v := 10) hx hb dX5_init_74 (by decide) ?_
          refine w_newI (N' := 10) hx hb hts m_15 hK w hA (by decide) rfl (by decide) (Nat.le_of_ble_eq_true rfl) (Nat.le_of_ble_eq_true rfl) dX5_init_76 (fun co H hq9 w h_co => ?_)
          have hq_co : co ∉ L := fun z => hq9 (hg _ z).1
          have ne_co_x : co ≠ x := fun z => hq9 (by rw [z]; exact h_x.1)
          have ne_co_g1 : co ≠ g1 := fun z => hq9 (by rw [z]; exact h_g1.1)
          have ne_co_pa1 : co ≠ pa1 := fun z => hq9 (by rw [z]; exact h_pa1.1)
          have ne_co_r1 : co ≠ r1 := fun z => hq9 (by rw [z]; exact h_r1.1)
          have ne_co_e1 : co ≠ e1 := fun z => hq9 (by rw [z]; exact h_e1.1)
          have ne_co_g2 : co ≠ g2 := fun z => hq9 (by rw [z]; exact h_g2.1)
          have ne_co_pa2 : co ≠ pa2 := fun z => hq9 (by rw [z]; exact h_pa2.1)
          have ne_co_r2 : co ≠ r2 := fun z => hq9 (by rw [z]; exact h_r2.1)
          have ne_co_e2 : co ≠ e2 := fun z => hq9 (by rw [z]; exact h_e2.1)
          have ne_co_g3 : co ≠ g3 := fun z => hq9 (by rw [z]; exact h_g3.1)
          have ne_co_pa3 : co ≠ pa3 := fun z => hq9 (by rw [z]; exact h_pa3.1)
          have ne_co_r3 : co ≠ r3 := fun z => hq9 (by rw [z]; exact h_r3.1)
          have ne_co_e3 : co ≠ e3 := fun z => hq9 (by rw [z]; exact h_e3.1)
          have ne_co_sa : co ≠ sa := fun z => hq9 (by rw [z]; exact h_sa.1)
          have h_x := h_x.pushw h_co hq9
          have h_g1 := h_g1.pushw h_co hq9
          have h_pa1 := h_pa1.pushw h_co hq9
          have h_ps1 := fun i (hi : i < 12) => (h_ps1 i hi).pushw h_co hq9
          have h_r1 := h_r1.pushw h_co hq9
          have h_e1 := h_e1.pushw h_co hq9
          have h_g2 := h_g2.pushw h_co hq9
          have h_pa2 := h_pa2.pushw h_co hq9
          have h_ps2 := fun i (hi : i < 12) => (h_ps2 i hi).pushw h_co hq9
          have h_r2 := h_r2.pushw h_co hq9
          have h_e2 := h_e2.pushw h_co hq9
          have h_g3 := h_g3.pushw h_co hq9
          have h_pa3 := h_pa3.pushw h_co hq9
          have h_ps3 := fun i (hi : i < 12) => (h_ps3 i hi).pushw h_co hq9
          have h_r3 := h_r3.pushw h_co hq9
          have h_e3 := h_e3.pushw h_co hq9
          have h_sa := h_sa.pushw h_co hq9
          have h_qs := fun i (hi : i < 8) => (h_qs i hi).pushw h_co hq9 (hqm i hi)
          have hg := hg.push h_co hq9
          have hqm := fun i (hi : i < 8) j (hj : j < 4) => List.mem_append_left [co] (hqm i hi j hj)
          have ho9 := h_x
          refine w_putF (fs2 := [.ref g1, .ref g2, .ref g3, .int 0, .ref sa, .ref co, .null]) hx hb hts i_X5 tyX5 tyX5_ok nmX5 hown hK w h_x rfl 5 (by decide) (hts _ m_16) rfl hin.symm rfl rfl rfl (Nat.le_of_ble_eq_true rfl) rfl dX5_init_78 (fun H locs w h_x => ?_)
          have h_g1 := h_g1.upw h_x (wi.ne h_g1 ho9 (by intro h; cases h))
          have h_pa1 := h_pa1.upw h_x (wi.ne h_pa1 ho9 (by intro h; cases h))
          have h_ps1 := fun i (hi : i < 12) => (h_ps1 i hi).upw h_x (wi.ne (h_ps1 i hi) ho9 (by intro h; cases h))
          have h_r1 := h_r1.upw h_x (wi.ne h_r1 ho9 (by intro h; cases h))
          have h_e1 := h_e1.upw h_x (wi.ne h_e1 ho9 (by intro h; cases h))
          have h_g2 := h_g2.upw h_x (wi.ne h_g2 ho9 (by intro h; cases h))
          have h_pa2 := h_pa2.upw h_x (wi.ne h_pa2 ho9 (by intro h; cases h))
          have h_ps2 := fun i (hi : i < 12) => (h_ps2 i hi).upw h_x (wi.ne (h_ps2 i hi) ho9 (by intro h; cases h))
          have h_r2 := h_r2.upw h_x (wi.ne h_r2 ho9 (by intro h; cases h))
          have h_e2 := h_e2.upw h_x (wi.ne h_e2 ho9 (by intro h; cases h))
          have h_g3 := h_g3.upw h_x (wi.ne h_g3 ho9 (by intro h; cases h))
          have h_pa3 := h_pa3.upw h_x (wi.ne h_pa3 ho9 (by intro h; cases h))
          have h_ps3 := fun i (hi : i < 12) => (h_ps3 i hi).upw h_x (wi.ne (h_ps3 i hi) ho9 (by intro h; cases h))
          have h_r3 := h_r3.upw h_x (wi.ne h_r3 ho9 (by intro h; cases h))
          have h_e3 := h_e3.upw h_x (wi.ne h_e3 ho9 (by intro h; cases h))
          have h_sa := h_sa.upw h_x (wi.ne h_sa ho9 (by intro h; cases h))
          have h_co := h_co.upw h_x (wi.ne h_co ho9 (by intro h; cases h))
          have h_qs := fun i (hi : i < 8) => (h_qs i hi).upw ho9 h_x
          have hg := hg.up h_x (fun _ h => h rfl)
          refine lv_aload_n hx hb dX5_init_81 rfl (lv_at hl 0 rfl) ?_
          refine lv_bipush (v := 10) hx hb dX5_init_82 (by decide) ?_
          refine w_newI (N' := 10) hx hb hts m_15 hK w hA (by decide) rfl (by decide) (Nat.le_of_ble_eq_true rfl) (Nat.le_of_ble_eq_true rfl) dX5_init_84 (fun ot H hq9 w h_ot => ?_)
          have hq_ot : ot ∉ L := fun z => hq9 (hg _ z).1
          have ne_ot_x : ot ≠ x := fun z => hq9 (by rw [z]; exact h_x.1)
          have ne_ot_g1 : ot ≠ g1 := fun z => hq9 (by rw [z]; exact h_g1.1)
          have ne_ot_pa1 : ot ≠ pa1 := fun z => hq9 (by rw [z]; exact h_pa1.1)
          have ne_ot_r1 : ot ≠ r1 := fun z => hq9 (by rw [z]; exact h_r1.1)
          have ne_ot_e1 : ot ≠ e1 := fun z => hq9 (by rw [z]; exact h_e1.1)
          have ne_ot_g2 : ot ≠ g2 := fun z => hq9 (by rw [z]; exact h_g2.1)
          have ne_ot_pa2 : ot ≠ pa2 := fun z => hq9 (by rw [z]; exact h_pa2.1)
          have ne_ot_r2 : ot ≠ r2 := fun z => hq9 (by rw [z]; exact h_r2.1)
          have ne_ot_e2 : ot ≠ e2 := fun z => hq9 (by rw [z]; exact h_e2.1)
          have ne_ot_g3 : ot ≠ g3 := fun z => hq9 (by rw [z]; exact h_g3.1)
          have ne_ot_pa3 : ot ≠ pa3 := fun z => hq9 (by rw [z]; exact h_pa3.1)
          have ne_ot_r3 : ot ≠ r3 := fun z => hq9 (by rw [z]; exact h_r3.1)
          have ne_ot_e3 : ot ≠ e3 := fun z => hq9 (by rw [z]; exact h_e3.1)
          have ne_ot_sa : ot ≠ sa := fun z => hq9 (by rw [z]; exact h_sa.1)
          have ne_ot_co : ot ≠ co := fun z => hq9 (by rw [z]; exact h_co.1)
          have h_x := h_x.pushw h_ot hq9
          have h_g1 := h_g1.pushw h_ot hq9
          have h_pa1 := h_pa1.pushw h_ot hq9
          have h_ps1 := fun i (hi : i < 12) => (h_ps1 i hi).pushw h_ot hq9
          have h_r1 := h_r1.pushw h_ot hq9
          have h_e1 := h_e1.pushw h_ot hq9
          have h_g2 := h_g2.pushw h_ot hq9
          have h_pa2 := h_pa2.pushw h_ot hq9
          have h_ps2 := fun i (hi : i < 12) => (h_ps2 i hi).pushw h_ot hq9
          have h_r2 := h_r2.pushw h_ot hq9
          have h_e2 := h_e2.pushw h_ot hq9
          have h_g3 := h_g3.pushw h_ot hq9
          have h_pa3 := h_pa3.pushw h_ot hq9
          have h_ps3 := fun i (hi : i < 12) => (h_ps3 i hi).pushw h_ot hq9
          have h_r3 := h_r3.pushw h_ot hq9
          have h_e3 := h_e3.pushw h_ot hq9
          have h_sa := h_sa.pushw h_ot hq9
          have h_co := h_co.pushw h_ot hq9
          have h_qs := fun i (hi : i < 8) => (h_qs i hi).pushw h_ot hq9 (hqm i hi)
          have hg := hg.push h_ot hq9
          have hqm := fun i (hi : i < 8) j (hj : j < 4) => List.mem_append_left [ot] (hqm i hi j hj)
          have ho9 := h_x
          refine w_putF (fs2 := [.ref g1, .ref g2, .ref g3, .int 0, .ref sa, .ref co, .ref ot]) hx hb hts i_X5 tyX5 tyX5_ok nmX5 hown hK w h_x rfl 6 (by decide) (hts _ m_17) rfl hin.symm rfl rfl rfl (Nat.le_of_ble_eq_true rfl) rfl dX5_init_86 (fun H locs w h_x => ?_)
          have h_g1 := h_g1.upw h_x (wi.ne h_g1 ho9 (by intro h; cases h))
          have h_pa1 := h_pa1.upw h_x (wi.ne h_pa1 ho9 (by intro h; cases h))
          have h_ps1 := fun i (hi : i < 12) => (h_ps1 i hi).upw h_x (wi.ne (h_ps1 i hi) ho9 (by intro h; cases h))
          have h_r1 := h_r1.upw h_x (wi.ne h_r1 ho9 (by intro h; cases h))
          have h_e1 := h_e1.upw h_x (wi.ne h_e1 ho9 (by intro h; cases h))
          have h_g2 := h_g2.upw h_x (wi.ne h_g2 ho9 (by intro h; cases h))
          have h_pa2 := h_pa2.upw h_x (wi.ne h_pa2 ho9 (by intro h; cases h))
          have h_ps2 := fun i (hi : i < 12) => (h_ps2 i hi).upw h_x (wi.ne (h_ps2 i hi) ho9 (by intro h; cases h))
          have h_r2 := h_r2.upw h_x (wi.ne h_r2 ho9 (by intro h; cases h))
          have h_e2 := h_e2.upw h_x (wi.ne h_e2 ho9 (by intro h; cases h))
          have h_g3 := h_g3.upw h_x (wi.ne h_g3 ho9 (by intro h; cases h))
          have h_pa3 := h_pa3.upw h_x (wi.ne h_pa3 ho9 (by intro h; cases h))
          have h_ps3 := fun i (hi : i < 12) => (h_ps3 i hi).upw h_x (wi.ne (h_ps3 i hi) ho9 (by intro h; cases h))
          have h_r3 := h_r3.upw h_x (wi.ne h_r3 ho9 (by intro h; cases h))
          have h_e3 := h_e3.upw h_x (wi.ne h_e3 ho9 (by intro h; cases h))
          have h_sa := h_sa.upw h_x (wi.ne h_sa ho9 (by intro h; cases h))
          have h_co := h_co.upw h_x (wi.ne h_co ho9 (by intro h; cases h))
          have h_ot := h_ot.upw h_x (wi.ne h_ot ho9 (by intro h; cases h))
          have h_qs := fun i (hi : i < 8) => (h_qs i hi).upw ho9 h_x
          have hg := hg.up h_x (fun _ h => h rfl)
          subst hL2
          exact w_vret hx hb hr hlocks w ⟨g1, pa1, ps1, r1, e1, g2, pa2, ps2, r2, e2, g3, pa3, ps3, r3, e3, sa, qs, co, ot, rfl, ⟨hps1, h_g1.2, h_pa1.2, fun i hi => (h_ps1 i hi).2, h_r1.2, h_e1.2⟩, ⟨hps2, h_g2.2, h_pa2.2, fun i hi => (h_ps2 i hi).2, h_r2.2, h_e2.2⟩, ⟨hps3, h_g3.2, h_pa3.2, fun i hi => (h_ps3 i hi).2, h_r3.2, h_e3.2⟩, h_sa.2, hqs, h_qs, h_co.2, h_ot.2, h_x.2, hg⟩ (Nat.le_of_ble_eq_true rfl) (Nat.le_of_ble_eq_true rfl) dX5_init_89
        · skip
          have hlt : k < 8 := w_ltk (B := 8) (by omega) c1
          have h_xx := h_x.grow hg2 (wi.ne h_x h_sa (by intro h; cases h))
          refine lv_aload_n hx hb dX5_init_54 rfl (lv_at hl 0 rfl) ?_
          refine w_get (v := .ref sa) hx hb hts i_X5 hown hK w h_xx rfl 4 (by decide) (hts _ m_14) rfl dX5_init_55 ?_
          refine lv_iload_n hx hb dX5_init_58 rfl (lv_at hl 1 rfl) ?_
          refine w_newO (ci := 4) (fs := [.int 0, .null, .null]) (C := RX4) (T := TX4) (N := 3) hx hb hts i_X4 tyX4 tyX4_ok hown m_13 m_18 m_19 hK w hA rfl (fun j hj => by rcases (show j = 0 ∨ j = 1 ∨ j = 2 by omega) with rfl | rfl | rfl <;> rfl) (by show 49 + 4 * k + 1 ≤ 83; omega) (by show 263 + 110 * k + 3 ≤ 1163; omega) dX5_init_59 (fun q H hq9 w h_q => ?_)
          have h_sb := h_sb.pushw h_q hq9
          have hqm : ∀ i, i < k → ∀ j, j < 4 → qs.getD (4 * i + j) 0 ∈ L2 ++ qs := fun i hi j hj => List.mem_append_right _ (getD_mem hqs (by omega))
          have h_qs := fun i (hi : i < k) => (h_qs i hi).pushw h_q hq9 (hqm i hi)
          have hqL2 : q ∉ L2 := fun z => hq9 (List.mem_append_left _ z)
          have hg2 := hg2.push h_q hq9
          refine lv_dup hx hb dX5_init_62 rfl ?_
          refine w_finv (w_runI (rm := ({ frames := 2, cells := 3, slots := 107, locals := 33 } : Room)) (As := []) (rest := [.ref q, .int (nI k), .ref sa]) (n := 0) hx hb hml hts hown hK w (c_X4_init l D cI cP cS cL _ _ q h_q) gX5_init_X4_init rfl rfl rfl m_19 m_21 m_22 rfl (by decide +kernel) ⟨(Nat.le_of_ble_eq_true rfl), (Nat.le_of_ble_eq_true rfl)⟩ rfl hl.1 rfl (Nat.le_of_ble_eq_true rfl) dX5_init_63 ⟨(by show 49 + 4 * k + 1 + 3 ≤ 83; omega), (by show 263 + 110 * k + 3 + 107 ≤ 1163; omega)⟩) w hA (fun L1 F1 H locs hp w => ?_)
          obtain ⟨q1, q2, q3, rfl, h1, h2, h3, h4, hg4⟩ := hp
          have hr9 := h_q
          have h_sb := h_sb.grow hg4 (wi.ne h_sb hr9 (by intro h; cases h))
          have h_qs := fun i (hi : i < k) => (h_qs i hi).grow hg4 (fun j hj => ⟨List.mem_append_left _ (hqm i hi j hj), fun z => hq9 (by rw [← z]; exact hqm i hi j hj)⟩)
          have hg2 := hg2.call hg4 (fun a ha _ z => hqL2 (by rw [← z]; exact ha))
          have h_q : wi _ _ q _ := ⟨(hg4 _ hr9.1).1, h1⟩
          have ho9 := h_sb
          refine w_ast (t0 := 2) (ci := 4) (r := (RX4, TX4, 3)) (j := k) hx hb hK w h_sb rfl h_q rfl (vp_in_nI hlt (by omega)) (nI_clamp (by omega)) dX5_init_66 (fun H locs w h_sb => ?_)
          have h_qs := fun i (hi : i < k) => (h_qs i hi).upw ho9 h_sb
          have hsn : shelfAt cI _ (qs ++ [q, q1, q2, q3]) k := shelf_new (by omega) (by omega) (by omega) (by omega) h1 h2 h3 h4 ho9 h_sb
          have hg2 := hg2.up h_sb (fun _ h => h rfl)
          refine lv_iinc (v := nI (k + 1)) (lv' := [(1, .int (nI (k + 1))), (0, .ref x)]) hx hb dX5_init_67 hl (k := 1) rfl (w_inc _) (by decide) rfl (fun ls hl => ?_)
          refine lv_goto (tgt := 48) hx hb dX5_init_70 (by decide) ?_
          have eL : L2 ++ qs ++ [q] ++ [q1, q2, q3] = L2 ++ (qs ++ [q, q1, q2, q3]) := by simp only [List.append_assoc, List.cons_append, List.nil_append]
          rw [eL] at w h_sb hg2
          refine W.widen (k := 49 + 4 * (k + 1)) (n := 263 + 110 * (k + 1)) (by omega) (by omega) ?_
          refine ih (k + 1) (qs ++ [q, q1, q2, q3]) _ H locs ls (by omega) (by omega) (by simp [hqs]; omega) (lv_sub hl [1, 0] rfl) w (by rw [← sa_step hqs]; exact h_sb) ?_ hg2
          intro i hi
          by_cases hik : i = k
          · subst hik; exact hsn
          · exact (h_qs i (by omega)).old (by omega)
    exact hL 9 0 [] _ H locs ls (by omega) (by omega) rfl (lv_sub hl [1, 0] rfl) (by rw [List.append_nil]; exact w) (by rw [List.append_nil]; exact h_sa) (fun i hi => absurd hi (Nat.not_lt_zero _)) (by rw [List.append_nil]; exact gr.rf)
  exact key _ _ _ _ rfl w h_x h_g1 h_pa1 h_ps1 h_r1 h_e1 h_g2 h_pa2 h_ps2 h_r2 h_e2 h_g3 h_pa3 h_ps3 h_r3 h_e3 h_sa hg
