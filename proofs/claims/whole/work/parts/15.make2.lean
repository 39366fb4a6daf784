theorem getD_push {ps : List Nat} {k q : Nat} (h : ps.length = k) : (ps ++ [q]).getD k 0 = q := by
  subst h
  simp [List.getD]
theorem getD_old {ps qs : List Nat} {i : Nat} (h : i < ps.length) : (ps ++ qs).getD i 0 = ps.getD i 0 := by
  simp [List.getD, List.getElem?_append_left h]
theorem getD_new {ps qs : List Nat} {i j : Nat} (h : i = ps.length + j) : (ps ++ qs).getD i 0 = qs.getD j 0 := by
  subst h
  simp [List.getD, List.getElem?_append_right]
theorem pa_step {ps : List Nat} {k q : Nat} (h : ps.length = k) : va_up (fun i => if i < k then some (ps.getD i 0) else none) k (some q) = (fun i => if i < k + 1 then some ((ps ++ [q]).getD i 0) else none) := by
  funext i
  by_cases hi : i = k
  · subst hi
    rw [va_up_self, if_pos (by omega), getD_push h]
  · rw [va_up_ne _ _ hi]
    by_cases h2 : i < k
    · rw [if_pos h2, if_pos (by omega), getD_old (by omega)]
    · rw [if_neg h2, if_neg (by omega)]
theorem sa_step {ps : List Nat} {k q q1 q2 q3 : Nat} (h : ps.length = 4 * k) : va_up (fun i => if i < k then some (ps.getD (4 * i) 0) else none) k (some q) = (fun i => if i < k + 1 then some ((ps ++ [q, q1, q2, q3]).getD (4 * i) 0) else none) := by
  funext i
  by_cases hi : i = k
  · subst hi
    rw [va_up_self, if_pos (by omega), getD_new (j := 0) (by omega)]
    rfl
  · rw [va_up_ne _ _ hi]
    by_cases h2 : i < k
    · rw [if_pos h2, if_pos (by omega), getD_old (by omega)]
    · rw [if_neg h2, if_neg (by omega)]
set_option maxHeartbeats 400000 in
set_option maxRecDepth 100000 in
theorem c_X2_init (l : Launch) (D : va_G) (cI cP cS cL : ClassId) (L : List Nat) (F : Nat → va_E) (d t : Nat) (h_d : wi L F d (.inr (2, [.null, .int 0, .int 0, .int 0, .int 0, .int 0, .int 0]))) : wMv l D cI cP cS cL yX2_init wsX2_init ({ frames := 1, cells := 0, slots := 0, locals := 12 } : Room) [.ref d, .ref t] L F (fun L1 F1 => L1 = L ∧ F1 d = eD t 0 0 0 0 0 0 ∧ gr L F (fun a => a ≠ d) L1 F1) 0 0 := by
  refine wM.of (cc := cX2_init) (maxL := 2) (ret := none) (by decide) rfl (Nat.le_of_ble_eq_true rfl) ?_
  intro pZ eZ sZ mZ below meth cZ A ls C hl w
  obtain ⟨hx, hb, hr, hml, hts, hown, hlocks, hK, hA, hin⟩ := C
  have hown : sZ.vm.findClass RX2 = some mZ.cls := hown
  have hl : lv_has ls 2 [(0, .ref d), (1, .ref t)] := hl
  have m_0 : ((.methodLink RX2 3 objectInit) : Cond) ∈ wsX2_init := by decide +kernel
  have m_1 : ((.instanceMethod objectInit) : Cond) ∈ wsX2_init := by decide +kernel
  have m_2 : ((.code objectInit ⟨#[0xb1]⟩ 1 none) : Cond) ∈ wsX2_init := by decide +kernel
  have m_3 : ((.fieldLink RX2 9 "TwoThirds$Reader" "text" "LTwoThirds$Row;") : Cond) ∈ wsX2_init := by decide +kernel
  have i_X2 : ∀ w ∈ wsX20, w ∈ wsX2_init := by decide +kernel
  have hg : gr L F (fun a => a ≠ d) L F := gr.rf
  refine lv_aload_n hx hb dX2_init_0 rfl (lv_at hl 0 rfl) ?_
  refine w_obj hx hb hml hl.1 hts hown m_0 m_1 m_2 dX2_init_1 (Nat.le_of_ble_eq_true rfl) (Nat.le_of_ble_eq_true rfl) ?_
  refine lv_aload_n hx hb dX2_init_4 rfl (lv_at hl 0 rfl) ?_
  refine lv_aload_n hx hb dX2_init_5 rfl (lv_at hl 1 rfl) ?_
  have ho9 := h_d
  refine w_putF (fs2 := [.ref t, .int 0, .int 0, .int 0, .int 0, .int 0, .int 0]) hx hb hts i_X2 tyX2 tyX2_ok nmX2 hown hK w h_d rfl 0 (by decide) (hts _ m_3) rfl hin.symm rfl rfl rfl (Nat.le_of_ble_eq_true rfl) rfl dX2_init_6 (fun H locs w h_d => ?_)
  have hg := hg.up h_d (fun _ h => h rfl)
  exact w_vret hx hb hr hlocks w ⟨rfl, h_d.2, hg⟩ (Nat.le_refl _) (Nat.le_refl _) dX2_init_9
set_option maxHeartbeats 400000 in
set_option maxRecDepth 100000 in
theorem c_X0_init (l : Launch) (D : va_G) (cI cP cS cL : ClassId) (L : List Nat) (F : Nat → va_E) (g : Nat) (h_g : wi L F g (.inr (0, [.int 0, .int 0, .int 0, .int 0, .int 0, .int 0, .int 0, .null, .null, .int 0]))) : wMv l D cI cP cS cL yX0_init wsX0_init ({ frames := 2, cells := 15, slots := 75, locals := 33 } : Room) [.ref g] L F (fun L1 F1 => ∃ (pa : Nat) (ps : List Nat) (q1 q2 : Nat), ps.length = 12 ∧ L1 = L ++ [pa] ++ ps ++ [q1, q2] ∧ F1 g = eG 2 3 100 0 1 0 0 pa q1 0 ∧ F1 pa = eQ cP 12 (fun i => some (ps.getD i 0)) ∧ (∀ i, i < 12 → F1 (ps.getD i 0) = eP 0 0 0 0) ∧ F1 q1 = eR q2 0 0 ∧ F1 q2 = eI cI 12 (fun _ => 0) ∧ gr L F (fun a => a ≠ g) L1 F1) 15 75 := by
  refine wM.of (cc := cX0_init) (maxL := 2) (ret := none) (by decide) rfl (Nat.le_of_ble_eq_true rfl) ?_
  intro pZ eZ sZ mZ below meth cZ A ls C hl w
  obtain ⟨hx, hb, hr, hml, hts, hown, hlocks, hK, hA, hin⟩ := C
  have hown : sZ.vm.findClass RX0 = some mZ.cls := hown
  have hl : lv_has ls 2 [(0, .ref g)] := hl
  have m_0 : ((.methodLink RX0 3 objectInit) : Cond) ∈ wsX0_init := by decide +kernel
  have m_1 : ((.instanceMethod objectInit) : Cond) ∈ wsX0_init := by decide +kernel
  have m_2 : ((.code objectInit ⟨#[0xb1]⟩ 1 none) : Cond) ∈ wsX0_init := by decide +kernel
  have m_3 : ((.fieldLink RX0 9 "TwoThirds$Game" "up" "I") : Cond) ∈ wsX0_init := by decide +kernel
  have i_X0 : ∀ w ∈ wsX00, w ∈ wsX0_init := by decide +kernel
  have m_5 : ((.fieldLink RX0 15 "TwoThirds$Game" "down" "I") : Cond) ∈ wsX0_init := by decide +kernel
  have m_6 : ((.fieldLink RX0 18 "TwoThirds$Game" "high" "I") : Cond) ∈ wsX0_init := by decide +kernel
  have m_7 : ((.fieldLink RX0 21 "TwoThirds$Game" "prize" "I") : Cond) ∈ wsX0_init := by decide +kernel
  have m_8 : ((.fieldLink RX0 24 "TwoThirds$Game" "z" "I") : Cond) ∈ wsX0_init := by decide +kernel
  have m_9 : ((.classLink RX0 27 RX1) : Cond) ∈ wsX0_init := by decide +kernel
  have m_10 : ((.fieldLink RX0 29 "TwoThirds$Game" "persons" "[LTwoThirds$Person;") : Cond) ∈ wsX0_init := by decide +kernel
  have m_11 : ((.classLink RX0 34 RX3) : Cond) ∈ wsX0_init := by decide +kernel
  have m_12 : ((.instantiable RX3 3) : Cond) ∈ wsX0_init := by decide +kernel
  have m_13 : ((.initialized RX3) : Cond) ∈ wsX0_init := by decide +kernel
  have i_X3 : ∀ w ∈ wsX30, w ∈ wsX0_init := by decide +kernel
  have m_15 : ((.methodLink RX0 36 yX3_init) : Cond) ∈ wsX0_init := by decide +kernel
  have m_16 : ((.instanceMethod yX3_init) : Cond) ∈ wsX0_init := by decide +kernel
  have m_17 : ((.fieldLink RX0 39 "TwoThirds$Game" "cards" "LTwoThirds$Row;") : Cond) ∈ wsX0_init := by decide +kernel
  have m_18 : ((.instantiable RX1 4) : Cond) ∈ wsX0_init := by decide +kernel
  have m_19 : ((.initialized RX1) : Cond) ∈ wsX0_init := by decide +kernel
  have i_X1 : ∀ w ∈ wsX10, w ∈ wsX0_init := by decide +kernel
  have m_21 : ((.methodLink RX0 33 yX1_init) : Cond) ∈ wsX0_init := by decide +kernel
  have m_22 : ((.instanceMethod yX1_init) : Cond) ∈ wsX0_init := by decide +kernel
  have hg : gr L F (fun a => a ≠ g) L F := gr.rf
  refine lv_aload_n hx hb dX0_init_0 rfl (lv_at hl 0 rfl) ?_
  refine w_obj hx hb hml hl.1 hts hown m_0 m_1 m_2 dX0_init_1 (Nat.le_of_ble_eq_true rfl) (Nat.le_of_ble_eq_true rfl) ?_
  refine lv_aload_n hx hb dX0_init_4 rfl (lv_at hl 0 rfl) ?_
  refine lv_iconst (v := 2) hx hb dX0_init_5 (by decide) ?_
  have ho9 := h_g
  refine w_put (fs2 := [.int 2, .int 0, .int 0, .int 0, .int 0, .int 0, .int 0, .null, .null, .int 0]) hx hb hts i_X0 tyX0 tyX0_ok nmX0 hown hK w h_g rfl 0 (by decide) (hts _ m_3) rfl rfl rfl (Nat.le_of_ble_eq_true rfl) rfl dX0_init_6 (fun H locs w h_g => ?_)
  have hg := hg.up h_g (fun _ h => h rfl)
  refine lv_aload_n hx hb dX0_init_9 rfl (lv_at hl 0 rfl) ?_
  refine lv_iconst (v := 3) hx hb dX0_init_10 (by decide) ?_
  have ho9 := h_g
  refine w_put (fs2 := [.int 2, .int 3, .int 0, .int 0, .int 0, .int 0, .int 0, .null, .null, .int 0]) hx hb hts i_X0 tyX0 tyX0_ok nmX0 hown hK w h_g rfl 1 (by decide) (hts _ m_5) rfl rfl rfl (Nat.le_of_ble_eq_true rfl) rfl dX0_init_11 (fun H locs w h_g => ?_)
  have hg := hg.up h_g (fun _ h => h rfl)
  refine lv_aload_n hx hb dX0_init_14 rfl (lv_at hl 0 rfl) ?_
  refine lv_bipush (v := 100) hx hb dX0_init_15 (by decide) ?_
  have ho9 := h_g
  refine w_put (fs2 := [.int 2, .int 3, .int 100, .int 0, .int 0, .int 0, .int 0, .null, .null, .int 0]) hx hb hts i_X0 tyX0 tyX0_ok nmX0 hown hK w h_g rfl 2 (by decide) (hts _ m_6) rfl rfl rfl (Nat.le_of_ble_eq_true rfl) rfl dX0_init_17 (fun H locs w h_g => ?_)
  have hg := hg.up h_g (fun _ h => h rfl)
  refine lv_aload_n hx hb dX0_init_20 rfl (lv_at hl 0 rfl) ?_
  refine lv_iconst (v := 0) hx hb dX0_init_21 (by decide) ?_
  have ho9 := h_g
  refine w_put (fs2 := [.int 2, .int 3, .int 100, .int 0, .int 0, .int 0, .int 0, .null, .null, .int 0]) hx hb hts i_X0 tyX0 tyX0_ok nmX0 hown hK w h_g rfl 3 (by decide) (hts _ m_7) rfl rfl rfl (Nat.le_of_ble_eq_true rfl) rfl dX0_init_22 (fun H locs w h_g => ?_)
  have hg := hg.up h_g (fun _ h => h rfl)
  refine lv_aload_n hx hb dX0_init_25 rfl (lv_at hl 0 rfl) ?_
  refine lv_iconst (v := 1) hx hb dX0_init_26 (by decide) ?_
  have ho9 := h_g
  refine w_put (fs2 := [.int 2, .int 3, .int 100, .int 0, .int 1, .int 0, .int 0, .null, .null, .int 0]) hx hb hts i_X0 tyX0 tyX0_ok nmX0 hown hK w h_g rfl 4 (by decide) (hts _ m_8) rfl rfl rfl (Nat.le_of_ble_eq_true rfl) rfl dX0_init_27 (fun H locs w h_g => ?_)
  have hg := hg.up h_g (fun _ h => h rfl)
  refine lv_aload_n hx hb dX0_init_30 rfl (lv_at hl 0 rfl) ?_
  refine lv_bipush (v := 12) hx hb dX0_init_31 (by decide) ?_
  refine w_newP (N' := 12) hx hb hts hown m_9 hK w hA (by decide) rfl (by decide) (Nat.le_of_ble_eq_true rfl) (Nat.le_of_ble_eq_true rfl) dX0_init_33 (fun pa H hq9 w h_pa => ?_)
  have hq_pa : pa ∉ L := fun z => hq9 (hg _ z).1
  have ne_pa_g : pa ≠ g := fun z => hq9 (by rw [z]; exact h_g.1)
  have h_g := h_g.pushw h_pa hq9
  have hg := hg.push h_pa hq9
  have ho9 := h_g
  refine w_putF (fs2 := [.int 2, .int 3, .int 100, .int 0, .int 1, .int 0, .int 0, .ref pa, .null, .int 0]) hx hb hts i_X0 tyX0 tyX0_ok nmX0 hown hK w h_g rfl 7 (by decide) (hts _ m_10) rfl hin.symm rfl rfl rfl (Nat.le_of_ble_eq_true rfl) rfl dX0_init_36 (fun H locs w h_g => ?_)
  have h_pa := h_pa.upw h_g (wi.ne h_pa ho9 (by intro h; cases h))
  have hg := hg.up h_g (fun _ h => h rfl)
  refine lv_iconst (v := 0) hx hb dX0_init_39 (by decide) ?_
  refine lv_istore_n (lv' := [(1, .int 0), (0, .ref g)]) hx hb dX0_init_40 rfl hl (by decide) rfl (fun ls hl => ?_)
  have hL : ∀ (n k : Nat) (ps : List Nat) (F1 : Nat → va_E) (H : Heap) (locs : List Loc) (ls : Array Slot), k ≤ 12 → 12 - k < n → ps.length = k → lv_has ls 2 [(0, .ref g), (1, .int (nI k))] → ww D A sZ.heap (L ++ [pa] ++ ps) F1 H locs → wi (L ++ [pa] ++ ps) F1 g (.inr (0, [.int 2, .int 3, .int 100, .int 0, .int 1, .int 0, .int 0, .ref pa, .null, .int 0])) → wi (L ++ [pa] ++ ps) F1 pa (eQ cP 12 (fun i => if i < k then some (ps.getD i 0) else none)) → (∀ i, i < k → wi (L ++ [pa] ++ ps) F1 (ps.getD i 0) (eP 0 0 0 0)) → gr L F (fun a => a ≠ g) (L ++ [pa] ++ ps) F1 → W pZ l eZ ({ frames := 2, cells := 15, slots := 75, locals := 33 } : Room) sZ mZ [.ref g].toArray below meth cZ H locs (1 + k) (12 + 4 * k) (MQ below (wQv D A (fun L1 F1 => ∃ (pa : Nat) (ps : List Nat) (q1 q2 : Nat), ps.length = 12 ∧ L1 = L ++ [pa] ++ ps ++ [q1, q2] ∧ F1 g = eG 2 3 100 0 1 0 0 pa q1 0 ∧ F1 pa = eQ cP 12 (fun i => some (ps.getD i 0)) ∧ (∀ i, i < 12 → F1 (ps.getD i 0) = eP 0 0 0 0) ∧ F1 q1 = eR q2 0 0 ∧ F1 q2 = eI cI 12 (fun _ => 0) ∧ gr L F (fun a => a ≠ g) L1 F1)) [.ref g].toArray sZ 15 75 A) (F0 mZ 41 ls []) := by
    intro n; induction n with
    | zero => intro k ps F1 H locs ls hkT hmeas; exact absurd hmeas (Nat.not_lt_zero _)
    | succ n ih =>
      intro k ps F1 H locs ls hkT hmeas hps hl w h_g h_pa h_ps hg
      refine lv_iload_n hx hb dX0_init_41 rfl (lv_at hl 1 rfl) ?_
      refine lv_bipush (v := 12) hx hb dX0_init_42 (by decide) ?_
      refine lv_icmp_ge (tgt := 66) hx hb dX0_init_44 (by decide) (fun c1 => ?_) (fun c1 => ?_)
      · skip
        have hk12 : k = 12 := by rw [Int32.le_iff_toInt_le, nI_toInt (by omega)] at c1; have : (12 : Int32).toInt = 12 := rfl; omega
        subst hk12
        obtain ⟨w, h_pb⟩ := ww_congr (g := fun i => some (ps.getD i 0)) w h_pa (fun i hi => if_pos hi)
        have h_g := h_g.upw h_pb (wi.ne h_g h_pa (by intro h; cases h))
        have h_ps := fun i (hi : i < 12) => (h_ps i hi).upw h_pb (wi.ne (h_ps i hi) h_pa (by intro h; cases h))
        have hg := hg.up h_pb (fun h _ => hq_pa h)
        have h_pa := h_pb
        refine lv_aload_n hx hb dX0_init_66 rfl (lv_at hl 0 rfl) ?_
        refine w_newO (ci := 3) (fs := [.null, .int 0, .int 0]) (C := RX3) (T := TX3) (N := 3) hx hb hts i_X3 tyX3 tyX3_ok hown m_11 m_12 m_13 hK w hA rfl (fun j hj => by rcases (show j = 0 ∨ j = 1 ∨ j = 2 by omega) with rfl | rfl | rfl <;> rfl) (Nat.le_of_ble_eq_true rfl) (Nat.le_of_ble_eq_true rfl) dX0_init_67 (fun q1 H hq9 w h_q1 => ?_)
        have hq_q1 : q1 ∉ L := fun z => hq9 (hg _ z).1
        have ne_q1_g : q1 ≠ g := fun z => hq9 (by rw [z]; exact h_g.1)
        have ne_q1_pa : q1 ≠ pa := fun z => hq9 (by rw [z]; exact h_pa.1)
        have h_g := h_g.pushw h_q1 hq9
        have h_pa := h_pa.pushw h_q1 hq9
        have h_ps := fun i (hi : i < 12) => (h_ps i hi).pushw h_q1 hq9
        have hg := hg.push h_q1 hq9
        refine lv_dup hx hb dX0_init_70 rfl ?_
        refine lv_bipush (v := 12) hx hb dX0_init_71 (by decide) ?_
        refine w_finv (w_runI (rm := ({ frames := 1, cells := 1, slots := 12, locals := 12 } : Room)) (As := [.int 12]) (rest := [.ref q1, .ref g]) (n := 1) hx hb hml hts hown hK w (c_X3_init l D cI cP cS cL _ _ q1 12 (by decide) h_q1) gX0_init_X3_init rfl rfl rfl m_13 m_15 m_16 rfl (by decide +kernel) ⟨(Nat.le_of_ble_eq_true rfl), (Nat.le_of_ble_eq_true rfl)⟩ rfl hl.1 rfl (Nat.le_of_ble_eq_true rfl) dX0_init_73 ⟨(Nat.le_of_ble_eq_true rfl), (Nat.le_of_ble_eq_true rfl)⟩) w hA (fun L1 F1 H locs hp w => ?_)
        obtain ⟨q2, hq9, rfl, h1, h2, hg2⟩ := hp
        have hq_q2 : q2 ∉ L := fun z => hq9 (hg _ z).1
        have hr9 := h_q1
        have h_g := h_g.grow hg2 (wi.ne h_g hr9 (by intro h; cases h))
        have h_pa := h_pa.grow hg2 (wi.ne h_pa hr9 (by intro h; cases h))
        have h_ps := fun i (hi : i < 12) => (h_ps i hi).grow hg2 (wi.ne (h_ps i hi) hr9 (by intro h; cases h))
        have hg := hg.call hg2 (fun a ha _ z => hq_q1 (by rw [← z]; exact ha))
        have h_q1 : wi _ _ q1 (eR q2 0 0) := ⟨(hg2 _ hr9.1).1, h1⟩
        have h_q2 := wi_last w h2
        have ho9 := h_g
        refine w_putF (fs2 := [.int 2, .int 3, .int 100, .int 0, .int 1, .int 0, .int 0, .ref pa, .ref q1, .int 0]) hx hb hts i_X0 tyX0 tyX0_ok nmX0 hown hK w h_g rfl 8 (by decide) (hts _ m_17) rfl hin.symm rfl rfl rfl (Nat.le_of_ble_eq_true rfl) rfl dX0_init_76 (fun H locs w h_g => ?_)
        have h_pa := h_pa.upw h_g (wi.ne h_pa ho9 (by intro h; cases h))
        have h_ps := fun i (hi : i < 12) => (h_ps i hi).upw h_g (wi.ne (h_ps i hi) ho9 (by intro h; cases h))
        have h_q1 := h_q1.upw h_g (wi.ne h_q1 ho9 (by intro h; cases h))
        have h_q2 := h_q2.upw h_g (wi.ne h_q2 ho9 (by intro h; cases h))
        have hg := hg.up h_g (fun _ h => h rfl)
        exact w_vret hx hb hr hlocks w ⟨pa, ps, q1, q2, hps, by simp only [List.append_assoc, List.cons_append, List.nil_append], h_g.2, h_pa.2, fun i hi => (h_ps i hi).2, h_q1.2, h_q2.2, hg⟩ (Nat.le_of_ble_eq_true rfl) (Nat.le_of_ble_eq_true rfl) dX0_init_79
      · skip
        have hlt : k < 12 := w_ltk (B := 12) (by omega) c1
        refine lv_aload_n hx hb dX0_init_47 rfl (lv_at hl 0 rfl) ?_
        refine w_get (v := .ref pa) hx hb hts i_X0 hown hK w h_g rfl 7 (by decide) (hts _ m_10) rfl dX0_init_48 ?_
        refine lv_iload_n hx hb dX0_init_51 rfl (lv_at hl 1 rfl) ?_
        refine w_newO (ci := 1) (fs := [.int 0, .int 0, .int 0, .int 0]) (C := RX1) (T := TX1) (N := 4) hx hb hts i_X1 tyX1 tyX1_ok hown m_9 m_18 m_19 hK w hA rfl (fun j hj => by rcases (show j = 0 ∨ j = 1 ∨ j = 2 ∨ j = 3 by omega) with rfl | rfl | rfl | rfl <;> rfl) (by show 1 + k + 1 ≤ 15; omega) (by show 12 + 4 * k + 4 ≤ 75; omega) dX0_init_52 (fun q H hq9 w h_q => ?_)
        have hq_q : q ∉ L := fun z => hq9 (hg _ z).1
        have ne_q_g : q ≠ g := fun z => hq9 (by rw [z]; exact h_g.1)
        have ne_q_pa : q ≠ pa := fun z => hq9 (by rw [z]; exact h_pa.1)
        have h_g := h_g.pushw h_q hq9
        have h_pa := h_pa.pushw h_q hq9
        have h_ps := fun i (hi : i < k) => (h_ps i hi).pushw h_q hq9
        have hg := hg.push h_q hq9
        refine lv_dup hx hb dX0_init_55 rfl ?_
        refine w_finV (w_runI (rm := ({ frames := 1, cells := 0, slots := 0, locals := 12 } : Room)) (As := []) (rest := [.ref q, .int (nI k), .ref pa]) (n := 0) hx hb hml hts hown hK w (c_X1_init l D cI cP cS cL _ _ q) gX0_init_X1_init rfl rfl rfl m_19 m_21 m_22 rfl (by decide +kernel) ⟨(Nat.le_of_ble_eq_true rfl), (Nat.le_of_ble_eq_true rfl)⟩ rfl hl.1 rfl (Nat.le_of_ble_eq_true rfl) dX0_init_56 ⟨(by show 1 + k + 1 + 0 ≤ 15; omega), (by show 12 + 4 * k + 4 + 0 ≤ 75; omega)⟩) w hA (fun H locs w => ?_)
        have ho9 := h_pa
        refine w_ast (t0 := 1) (ci := 1) (r := (RX1, TX1, 4)) (j := k) hx hb hK w h_pa rfl h_q rfl (vp_in_nI hlt (by omega)) (nI_clamp (by omega)) dX0_init_59 (fun H locs w h_pa => ?_)
        have h_g := h_g.upw h_pa (wi.ne h_g ho9 (by intro h; cases h))
        have h_ps := fun i (hi : i < k) => (h_ps i hi).upw h_pa (wi.ne (h_ps i hi) ho9 (by intro h; cases h))
        have h_q := h_q.upw h_pa (wi.ne h_q ho9 (by intro h; cases h))
        have hg := hg.up h_pa (fun h _ => hq_pa h)
        refine lv_iinc (v := nI (k + 1)) (lv' := [(1, .int (nI (k + 1))), (0, .ref g)]) hx hb dX0_init_60 hl (k := 1) rfl (w_inc _) (by decide) rfl (fun ls hl => ?_)
        refine lv_goto (tgt := 41) hx hb dX0_init_63 (by decide) ?_
        rw [List.append_assoc] at w h_g h_pa h_q hg
        refine ih (k + 1) (ps ++ [q]) _ H locs ls (by omega) (by omega) (by simp [hps]) (lv_sub hl [1, 0] rfl) w h_g (by rw [← pa_step hps]; exact h_pa) ?_ hg
        intro i hi
        by_cases hik : i = k
        · subst hik; rw [getD_push hps]; exact h_q
        · rw [getD_old (by omega)]; have h := h_ps i (by omega); rw [List.append_assoc] at h; exact h
  exact hL 13 0 [] _ H locs ls (by omega) (by omega) rfl (lv_sub hl [1, 0] rfl) (by rw [List.append_nil]; exact w) (by rw [List.append_nil]; exact h_g) (by rw [List.append_nil]; exact h_pa) (fun i hi => absurd hi (Nat.not_lt_zero _)) (by rw [List.append_nil]; exact hg)
