theorem here_in {po ba en : Int32} (h0 : 0 ≤ po.toInt) (hb : 0 ≤ ba.toInt ∧ ba.toInt ≤ 700) (he : en.toInt ≤ 100) (c : ¬ en ≤ po) : vp_in (ba + po) 800 := by
  rw [Int32.le_iff_toInt_le] at c
  refine vp_in_iff.mpr ?_
  rw [addI (by omega)]
  omega
theorem po_inc {po en : Int32} (h0 : 0 ≤ po.toInt) (he : en.toInt ≤ 100) (c : po < en) : 0 ≤ (po + 1).toInt ∧ (po + 1).toInt = po.toInt + 1 ∧ (po + 1).toInt ≤ 100 := by
  rw [Int32.lt_iff_toInt_lt] at c
  have h1 : (1 : Int32).toInt = 1 := rfl
  rw [addI (by rw [h1]; omega), h1]
  omega
def f_X6_here (m_po : Int32) (m_ba : Int32) (m_en : Int32) (m_el_f : Nat → Int32) : Int32 := if m_en ≤ m_po then (-1000) else (m_el_f ((m_ba + m_po).toNatClampNeg))
set_option maxHeartbeats 400000 in
set_option maxRecDepth 100000 in
theorem c_X6_here (l : Launch) (D : va_G) (cI cP cS cL : ClassId) (L : List Nat) (F : Nat → va_E) (m : Nat) (m_ss : Nat) (m_im : Nat) (m_re : Nat) (m_sa : Nat) (m_ke : Nat) (m_so : Nat) (m_si : Nat) (m_el : Nat) (m_kd : Nat) (m_kt : Nat) (m_hi : Int32) (m_th : Int32) (m_po : Int32) (m_ba : Int32) (m_en : Int32) (m_tl : Int32) (m_nu : Nat) (m_ca : Nat) (m_ha : Nat) (m_hs : Int32) (m_co : Nat) (m_el_f : Nat → Int32) (h_m : wi L F m (eM m_ss m_im m_re m_sa m_ke m_so m_si m_el m_kd m_kt m_hi m_th m_po m_ba m_en m_tl m_nu m_ca m_ha m_hs m_co)) (h_m_el : wi L F m_el (eI cI 800 m_el_f)) (hpo : 0 ≤ m_po.toInt) (hba : 0 ≤ m_ba.toInt ∧ m_ba.toInt ≤ 700) (hen : m_en.toInt ≤ 100) : wMI l D cI cP cS cL yX6_here wsX6_here ({ frames := 0, cells := 0, slots := 0, locals := 0 } : Room) [.ref m] L F (f_X6_here m_po m_ba m_en m_el_f) F := by
  refine wM.of (cc := cX6_here) (maxL := 1) (ret := (some .int)) (by decide) rfl (Nat.le_of_ble_eq_true rfl) ?_
  intro pZ eZ sZ mZ below meth cZ A ls C hl w
  obtain ⟨hx, hb, hr, hml, hts, hown, hlocks, hK, hA, hin⟩ := C
  have hown : sZ.vm.findClass RX6 = some mZ.cls := hown
  have hl : lv_has ls 1 [(0, .ref m)] := hl
  have m_0 : ((.fieldLink RX6 62 "TwoThirdsModel" "pos" "I") : Cond) ∈ wsX6_here := by decide +kernel
  have i_X6 : ∀ w ∈ wsX60, w ∈ wsX6_here := by decide +kernel
  have m_2 : ((.fieldLink RX6 65 "TwoThirdsModel" "end" "I") : Cond) ∈ wsX6_here := by decide +kernel
  have m_3 : ((.fieldLink RX6 31 "TwoThirdsModel" "element" "[I") : Cond) ∈ wsX6_here := by decide +kernel
  have m_4 : ((.fieldLink RX6 68 "TwoThirdsModel" "base" "I") : Cond) ∈ wsX6_here := by decide +kernel
  have hq : f_X6_here m_po m_ba m_en m_el_f = f_X6_here m_po m_ba m_en m_el_f := rfl
  refine lv_aload_n hx hb dX6_here_0 rfl (lv_at hl 0 rfl) ?_
  refine w_get (v := .int m_po) hx hb hts i_X6 hown hK w h_m rfl 12 (by decide) (hts _ m_0) rfl dX6_here_1 ?_
  refine lv_aload_n hx hb dX6_here_4 rfl (lv_at hl 0 rfl) ?_
  refine w_get (v := .int m_en) hx hb hts i_X6 hown hK w h_m rfl 14 (by decide) (hts _ m_2) rfl dX6_here_5 ?_
  refine lv_icmp_ge (tgt := 28) hx hb dX6_here_8 (by decide) (fun c1 => ?_) (fun c1 => ?_)
  · skip
    have hq := hq.trans (if_pos c1)
    refine lv_sipush (v := (-1000)) hx hb dX6_here_28 (by decide) ?_
    exact w_iret hx hb hr hlocks w ⟨hq.symm, rfl, rfl⟩ (Nat.le_refl _) (Nat.le_refl _) dX6_here_31
  · skip
    have hq := hq.trans (if_neg c1)
    refine lv_aload_n hx hb dX6_here_11 rfl (lv_at hl 0 rfl) ?_
    refine w_get (v := .ref m_el) hx hb hts i_X6 hown hK w h_m rfl 7 (by decide) (hts _ m_3) rfl dX6_here_12 ?_
    refine lv_aload_n hx hb dX6_here_15 rfl (lv_at hl 0 rfl) ?_
    refine w_get (v := .int m_ba) hx hb hts i_X6 hown hK w h_m rfl 13 (by decide) (hts _ m_4) rfl dX6_here_16 ?_
    refine lv_aload_n hx hb dX6_here_19 rfl (lv_at hl 0 rfl) ?_
    refine w_get (v := .int m_po) hx hb hts i_X6 hown hK w h_m rfl 12 (by decide) (hts _ m_0) rfl dX6_here_20 ?_
    refine lv_iadd hx hb dX6_here_23 ?_
    refine w_ild (j := ((m_ba + m_po).toNatClampNeg)) hx hb hK w h_m_el (here_in hpo hba hen (by assumption)) rfl dX6_here_24 ?_
    refine lv_goto (tgt := 31) hx hb dX6_here_25 (by decide) ?_
    exact w_iret hx hb hr hlocks w ⟨hq.symm, rfl, rfl⟩ (Nat.le_refl _) (Nat.le_refl _) dX6_here_31
theorem here_lt {po ba en : Int32} {el : Nat → Int32} {v : Int32} (c : f_X6_here po ba en el = v) (hv : ¬ v = -1000) : po < en := by
  unfold f_X6_here at c
  by_cases h : en ≤ po
  · rw [if_pos h] at c; exact absurd c.symm hv
  · exact Int32.not_le.mp h
def f_X6_isDigit (m_po : Int32) (m_ba : Int32) (m_en : Int32) (m_el_f : Nat → Int32) : Int32 := (f_X6_isIn ((f_X6_here m_po m_ba m_en m_el_f).toInt64) 48 57)
theorem z_X6_isDigit (m_po : Int32) (m_ba : Int32) (m_en : Int32) (m_el_f : Nat → Int32) : (f_X6_isDigit m_po m_ba m_en m_el_f) = 0 ∨ (f_X6_isDigit m_po m_ba m_en m_el_f) = 1 := by
  unfold f_X6_isDigit
  try simp only [bnd]
  exact z_X6_isIn _ _ _
set_option maxHeartbeats 400000 in
set_option maxRecDepth 100000 in
theorem c_X6_isDigit (l : Launch) (D : va_G) (cI cP cS cL : ClassId) (L : List Nat) (F : Nat → va_E) (m : Nat) (m_ss : Nat) (m_im : Nat) (m_re : Nat) (m_sa : Nat) (m_ke : Nat) (m_so : Nat) (m_si : Nat) (m_el : Nat) (m_kd : Nat) (m_kt : Nat) (m_hi : Int32) (m_th : Int32) (m_po : Int32) (m_ba : Int32) (m_en : Int32) (m_tl : Int32) (m_nu : Nat) (m_ca : Nat) (m_ha : Nat) (m_hs : Int32) (m_co : Nat) (m_el_f : Nat → Int32) (h_m : wi L F m (eM m_ss m_im m_re m_sa m_ke m_so m_si m_el m_kd m_kt m_hi m_th m_po m_ba m_en m_tl m_nu m_ca m_ha m_hs m_co)) (h_m_el : wi L F m_el (eI cI 800 m_el_f)) (hpo : 0 ≤ m_po.toInt) (hba : 0 ≤ m_ba.toInt ∧ m_ba.toInt ≤ 700) (hen : m_en.toInt ≤ 100) : wMI l D cI cP cS cL yX6_isDigit wsX6_isDigit ({ frames := 1, cells := 0, slots := 0, locals := 25 } : Room) [.ref m] L F (f_X6_isDigit m_po m_ba m_en m_el_f) F := by
  refine wM.of (cc := cX6_isDigit) (maxL := 1) (ret := (some .boolean)) (by decide) rfl (Nat.le_of_ble_eq_true rfl) ?_
  intro pZ eZ sZ mZ below meth cZ A ls C hl w
  obtain ⟨hx, hb, hr, hml, hts, hown, hlocks, hK, hA, hin⟩ := C
  have hown : sZ.vm.findClass RX6 = some mZ.cls := hown
  have hl : lv_has ls 1 [(0, .ref m)] := hl
  have m_0 : ((.constantLong RX6 75 48) : Cond) ∈ wsX6_isDigit := by decide +kernel
  have m_1 : ((.constantLong RX6 77 57) : Cond) ∈ wsX6_isDigit := by decide +kernel
  have hq : f_X6_isDigit m_po m_ba m_en m_el_f = f_X6_isDigit m_po m_ba m_en m_el_f := rfl
  refine lv_aload_n hx hb dX6_isDigit_0 rfl (lv_at hl 0 rfl) ?_
  refine w_finI (w_runV (rm := ({ frames := 0, cells := 0, slots := 0, locals := 0 } : Room)) (As := []) (rest := []) (n := 0) hx hb hml hts hown hK w (c_X6_here l D cI cP cS cL L _ m m_ss m_im m_re m_sa m_ke m_so m_si m_el m_kd m_kt m_hi m_th m_po m_ba m_en m_tl m_nu m_ca m_ha m_hs m_co m_el_f h_m h_m_el hpo hba hen) gX6_isDigit_X6_here rfl rfl rfl (by decide +kernel) ⟨(Nat.le_of_ble_eq_true rfl), (Nat.le_of_ble_eq_true rfl)⟩ h_m rfl rfl hl.1 rfl (Nat.le_of_ble_eq_true rfl) dX6_isDigit_1 ⟨(Nat.le_of_ble_eq_true rfl), (Nat.le_of_ble_eq_true rfl)⟩) w hA (fun H locs w => ?_)
  refine lv_i2l (v := ((f_X6_here m_po m_ba m_en m_el_f).toInt64)) hx hb dX6_isDigit_4 rfl ?_
  refine lv_ldc2 (v := 48) hx hb hown (hts _ m_0) dX6_isDigit_5 ?_
  refine lv_ldc2 (v := 57) hx hb hown (hts _ m_1) dX6_isDigit_8 ?_
  refine w_finI (w_runS (rm := ({ frames := 0, cells := 0, slots := 0, locals := 0 } : Room)) (As := [.long ((f_X6_here m_po m_ba m_en m_el_f).toInt64), .long 48, .long 57]) (rest := []) (n := 3) hx hb hml hts hown hK w (c_X6_isIn l D cI cP cS cL L _ ((f_X6_here m_po m_ba m_en m_el_f).toInt64) 48 57 ) gX6_isDigit_X6_isIn rfl rfl rfl (by decide +kernel) ⟨(Nat.le_of_ble_eq_true rfl), (Nat.le_of_ble_eq_true rfl)⟩ rfl hl.1 rfl (Nat.le_of_ble_eq_true rfl) dX6_isDigit_11 ⟨(Nat.le_of_ble_eq_true rfl), (Nat.le_of_ble_eq_true rfl)⟩) w hA (fun H locs w => ?_)
  exact w_zret hx hb hr hlocks w (w_nb (z_X6_isIn _ _ _)) ⟨hq.symm, rfl, rfl⟩ (Nat.le_refl _) (Nat.le_refl _) dX6_isDigit_14
theorem isDigit_lt {po ba en : Int32} {el : Nat → Int32} (c : ¬ f_X6_isDigit po ba en el = 0) : po < en := by
  unfold f_X6_isDigit at c
  have h := isIn_ok c
  rw [i64] at h
  have a : (48 : Int64).toInt = 48 := rfl
  refine here_lt (v := f_X6_here po ba en el) rfl (fun q => ?_)
  rw [q] at h
  have b : (-1000 : Int32).toInt = -1000 := rfl
  omega
def f_X6_takes (c0 : Int32) (m_po : Int32) (m_ba : Int32) (m_en : Int32) (m_el_f : Nat → Int32) : Int32 × Int32 := if (f_X6_here m_po m_ba m_en m_el_f) = c0 then (1, (m_po + 1)) else (0, m_po)
theorem z_X6_takes (c0 : Int32) (m_po : Int32) (m_ba : Int32) (m_en : Int32) (m_el_f : Nat → Int32) : (f_X6_takes c0 m_po m_ba m_en m_el_f).1 = 0 ∨ (f_X6_takes c0 m_po m_ba m_en m_el_f).1 = 1 := by
  unfold f_X6_takes
  try simp only [bnd]
  repeat' split
  all_goals first | exact Or.inl rfl | exact Or.inr rfl
set_option maxHeartbeats 400000 in
set_option maxRecDepth 100000 in
theorem c_X6_takes (l : Launch) (D : va_G) (cI cP cS cL : ClassId) (L : List Nat) (F : Nat → va_E) (m : Nat) (c0 : Int32) (m_ss : Nat) (m_im : Nat) (m_re : Nat) (m_sa : Nat) (m_ke : Nat) (m_so : Nat) (m_si : Nat) (m_el : Nat) (m_kd : Nat) (m_kt : Nat) (m_hi : Int32) (m_th : Int32) (m_po : Int32) (m_ba : Int32) (m_en : Int32) (m_tl : Int32) (m_nu : Nat) (m_ca : Nat) (m_ha : Nat) (m_hs : Int32) (m_co : Nat) (m_el_f : Nat → Int32) (h_m : wi L F m (eM m_ss m_im m_re m_sa m_ke m_so m_si m_el m_kd m_kt m_hi m_th m_po m_ba m_en m_tl m_nu m_ca m_ha m_hs m_co)) (h_m_el : wi L F m_el (eI cI 800 m_el_f)) (hpo : 0 ≤ m_po.toInt) (hba : 0 ≤ m_ba.toInt ∧ m_ba.toInt ≤ 700) (hen : m_en.toInt ≤ 100) (hc : ¬ c0 = -1000) : wMj l D cI cP cS cL yX6_takes wsX6_takes ({ frames := 1, cells := 0, slots := 0, locals := 20 } : Room) [.ref m, .int c0] L F (fun r1 F1 => ∃ y9 : Int32 × Int32, y9 = (f_X6_takes c0 m_po m_ba m_en m_el_f) ∧ (0 ≤ y9.2.toInt) ∧ (y9.1 = 0 ∨ m_po.toInt < y9.2.toInt) ∧ (m_po.toInt ≤ y9.2.toInt) ∧ r1 = y9.1 ∧ F1 m = (eM m_ss m_im m_re m_sa m_ke m_so m_si m_el m_kd m_kt m_hi m_th y9.2 m_ba m_en m_tl m_nu m_ca m_ha m_hs m_co) ∧ wk (fun q : Nat => q ≠ m ∧ True) F1 F) := by
  refine wM.of (cc := cX6_takes) (maxL := 2) (ret := (some .boolean)) (by decide) rfl (Nat.le_of_ble_eq_true rfl) ?_
  intro pZ eZ sZ mZ below meth cZ A ls C hl w
  obtain ⟨hx, hb, hr, hml, hts, hown, hlocks, hK, hA, hin⟩ := C
  have hown : sZ.vm.findClass RX6 = some mZ.cls := hown
  have hl : lv_has ls 2 [(0, .ref m), (1, .int c0)] := hl
  have m_0 : ((.fieldLink RX6 62 "TwoThirdsModel" "pos" "I") : Cond) ∈ wsX6_takes := by decide +kernel
  have i_X6 : ∀ w ∈ wsX60, w ∈ wsX6_takes := by decide +kernel
  have hk : wk (fun q : Nat => q ≠ m ∧ True) F F := wk.rf
  have hq : f_X6_takes c0 m_po m_ba m_en m_el_f = f_X6_takes c0 m_po m_ba m_en m_el_f := rfl
  refine lv_aload_n hx hb dX6_takes_0 rfl (lv_at hl 0 rfl) ?_
  refine w_finI (w_runV (rm := ({ frames := 0, cells := 0, slots := 0, locals := 0 } : Room)) (As := []) (rest := []) (n := 0) hx hb hml hts hown hK w (c_X6_here l D cI cP cS cL L _ m m_ss m_im m_re m_sa m_ke m_so m_si m_el m_kd m_kt m_hi m_th m_po m_ba m_en m_tl m_nu m_ca m_ha m_hs m_co m_el_f h_m h_m_el hpo hba hen) gX6_takes_X6_here rfl rfl rfl (by decide +kernel) ⟨(Nat.le_of_ble_eq_true rfl), (Nat.le_of_ble_eq_true rfl)⟩ h_m rfl rfl hl.1 rfl (Nat.le_of_ble_eq_true rfl) dX6_takes_1 ⟨(Nat.le_of_ble_eq_true rfl), (Nat.le_of_ble_eq_true rfl)⟩) w hA (fun H locs w => ?_)
  refine lv_iload_n hx hb dX6_takes_4 rfl (lv_at hl 1 rfl) ?_
  refine lv_icmp_eq (tgt := 10) hx hb dX6_takes_5 (by decide) (fun c1 => ?_) (fun c1 => ?_)
  · skip
    have hq := hq.trans (if_pos c1)
    obtain ⟨hp1, hp2, hp3⟩ := po_inc hpo hen (here_lt c1 hc)
    refine lv_aload_n hx hb dX6_takes_10 rfl (lv_at hl 0 rfl) ?_
    refine lv_dup hx hb dX6_takes_11 rfl ?_
    refine w_get (v := .int m_po) hx hb hts i_X6 hown hK w h_m rfl 12 (by decide) (hts _ m_0) rfl dX6_takes_12 ?_
    refine lv_iconst (v := 1) hx hb dX6_takes_15 (by decide) ?_
    refine lv_iadd hx hb dX6_takes_16 ?_
    have ho2 := h_m
    refine w_put (fs2 := [.ref m_ss, .ref m_im, .ref m_re, .ref m_sa, .ref m_ke, .ref m_so, .ref m_si, .ref m_el, .ref m_kd, .ref m_kt, .int m_hi, .int m_th, .int (m_po + 1), .int m_ba, .int m_en, .int m_tl, .ref m_nu, .ref m_ca, .ref m_ha, .int m_hs, .ref m_co]) hx hb hts i_X6 tyX6 tyX6_ok nmX6 hown hK w h_m rfl 12 (by decide) (hts _ m_0) rfl rfl rfl (Nat.le_of_ble_eq_true rfl) rfl dX6_takes_17 (fun H locs w h_m => ?_)
    have h_m_el := h_m_el.upw h_m (wi.ne h_m_el ho2 (by intro h; cases h))
    have hk := hk.upw h_m (fun q h => h.1)
    refine lv_iconst (v := 1) hx hb dX6_takes_20 (by decide) ?_
    exact w_zret hx hb hr hlocks w rfl ⟨rfl, _, hq.symm, (by dsimp only; omega), (by first | exact Or.inl rfl | exact Or.inr (by dsimp only; omega) | exact Or.inr (by have := e148_2; dsimp only; omega)), (by dsimp only; omega), rfl, h_m.2, hk⟩ (Nat.le_refl _) (Nat.le_refl _) dX6_takes_21
  · skip
    have hq := hq.trans (if_neg c1)
    refine lv_iconst (v := 0) hx hb dX6_takes_8 (by decide) ?_
    exact w_zret hx hb hr hlocks w rfl ⟨rfl, _, hq.symm, (by dsimp only; omega), (by first | exact Or.inl rfl | exact Or.inr (by dsimp only; omega) | exact Or.inr (by have := e148_2; dsimp only; omega)), (by dsimp only; omega), rfl, h_m.2, hk⟩ (Nat.le_refl _) (Nat.le_refl _) dX6_takes_9
def f_X6_readsDigit (m_po : Int32) (m_ba : Int32) (m_en : Int32) (m_tl : Int32) (m_el_f : Nat → Int32) (m_nu_f : Nat → Int32) : Int32 × Int32 × Int32 × (Nat → Int32) := if (f_X6_isDigit m_po m_ba m_en m_el_f) = (0 : Int32) then (0, m_po, m_tl, m_nu_f) else (1, (m_po + 1), (m_tl + 1), (upd m_nu_f (m_tl.toNatClampNeg) ((f_X6_here m_po m_ba m_en m_el_f) - 48)))
theorem z_X6_readsDigit (m_po : Int32) (m_ba : Int32) (m_en : Int32) (m_tl : Int32) (m_el_f : Nat → Int32) (m_nu_f : Nat → Int32) : (f_X6_readsDigit m_po m_ba m_en m_tl m_el_f m_nu_f).1 = 0 ∨ (f_X6_readsDigit m_po m_ba m_en m_tl m_el_f m_nu_f).1 = 1 := by
  unfold f_X6_readsDigit
  try simp only [bnd]
  repeat' split
  all_goals first | exact Or.inl rfl | exact Or.inr rfl | exact z_X6_isDigit _ _ _ _
set_option maxHeartbeats 400000 in
set_option maxRecDepth 100000 in
theorem c_X6_readsDigit (l : Launch) (D : va_G) (cI cP cS cL : ClassId) (L : List Nat) (F : Nat → va_E) (m : Nat) (m_ss : Nat) (m_im : Nat) (m_re : Nat) (m_sa : Nat) (m_ke : Nat) (m_so : Nat) (m_si : Nat) (m_el : Nat) (m_kd : Nat) (m_kt : Nat) (m_hi : Int32) (m_th : Int32) (m_po : Int32) (m_ba : Int32) (m_en : Int32) (m_tl : Int32) (m_nu : Nat) (m_ca : Nat) (m_ha : Nat) (m_hs : Int32) (m_co : Nat) (m_el_f : Nat → Int32) (m_nu_f : Nat → Int32) (h_m : wi L F m (eM m_ss m_im m_re m_sa m_ke m_so m_si m_el m_kd m_kt m_hi m_th m_po m_ba m_en m_tl m_nu m_ca m_ha m_hs m_co)) (h_m_el : wi L F m_el (eI cI 800 m_el_f)) (h_m_nu : wi L F m_nu (eI cI 3 m_nu_f)) (hpo : 0 ≤ m_po.toInt) (hba : 0 ≤ m_ba.toInt ∧ m_ba.toInt ≤ 700) (hen : m_en.toInt ≤ 100) (htl : 0 ≤ m_tl.toInt ∧ m_tl.toInt < 3) (ne_m_el_m_nu : m_el ≠ m_nu) : wMj l D cI cP cS cL yX6_readsDigit wsX6_readsDigit ({ frames := 2, cells := 0, slots := 0, locals := 45 } : Room) [.ref m] L F (fun r1 F1 => ∃ y9 : Int32 × Int32 × Int32 × (Nat → Int32), y9 = (f_X6_readsDigit m_po m_ba m_en m_tl m_el_f m_nu_f) ∧ (0 ≤ y9.2.1.toInt) ∧ (y9.1 = 0 ∨ m_po.toInt < y9.2.1.toInt) ∧ (m_po.toInt ≤ y9.2.1.toInt) ∧ (y9.1 = 0 ∨ y9.2.2.1.toInt = m_tl.toInt + 1) ∧ r1 = y9.1 ∧ F1 m = (eM m_ss m_im m_re m_sa m_ke m_so m_si m_el m_kd m_kt m_hi m_th y9.2.1 m_ba m_en y9.2.2.1 m_nu m_ca m_ha m_hs m_co) ∧ F1 m_nu = (eI cI 3 y9.2.2.2) ∧ wk (fun q : Nat => q ≠ m ∧ q ≠ m_nu ∧ True) F1 F) := by
  refine wM.of (cc := cX6_readsDigit) (maxL := 1) (ret := (some .boolean)) (by decide) rfl (Nat.le_of_ble_eq_true rfl) ?_
  intro pZ eZ sZ mZ below meth cZ A ls C hl w
  obtain ⟨hx, hb, hr, hml, hts, hown, hlocks, hK, hA, hin⟩ := C
  have hown : sZ.vm.findClass RX6 = some mZ.cls := hown
  have hl : lv_has ls 1 [(0, .ref m)] := hl
  have m_0 : ((.fieldLink RX6 40 "TwoThirdsModel" "numbers" "[I") : Cond) ∈ wsX6_readsDigit := by decide +kernel
  have i_X6 : ∀ w ∈ wsX60, w ∈ wsX6_readsDigit := by decide +kernel
  have m_2 : ((.fieldLink RX6 83 "TwoThirdsModel" "told" "I") : Cond) ∈ wsX6_readsDigit := by decide +kernel
  have m_3 : ((.fieldLink RX6 62 "TwoThirdsModel" "pos" "I") : Cond) ∈ wsX6_readsDigit := by decide +kernel
  have hk : wk (fun q : Nat => q ≠ m ∧ q ≠ m_nu ∧ True) F F := wk.rf
  have hq : f_X6_readsDigit m_po m_ba m_en m_tl m_el_f m_nu_f = f_X6_readsDigit m_po m_ba m_en m_tl m_el_f m_nu_f := rfl
  refine lv_aload_n hx hb dX6_readsDigit_0 rfl (lv_at hl 0 rfl) ?_
  refine w_finI (w_runV (rm := ({ frames := 1, cells := 0, slots := 0, locals := 25 } : Room)) (As := []) (rest := []) (n := 0) hx hb hml hts hown hK w (c_X6_isDigit l D cI cP cS cL L _ m m_ss m_im m_re m_sa m_ke m_so m_si m_el m_kd m_kt m_hi m_th m_po m_ba m_en m_tl m_nu m_ca m_ha m_hs m_co m_el_f h_m h_m_el hpo hba hen) gX6_readsDigit_X6_isDigit rfl rfl rfl (by decide +kernel) ⟨(Nat.le_of_ble_eq_true rfl), (Nat.le_of_ble_eq_true rfl)⟩ h_m rfl rfl hl.1 rfl (Nat.le_of_ble_eq_true rfl) dX6_readsDigit_1 ⟨(Nat.le_of_ble_eq_true rfl), (Nat.le_of_ble_eq_true rfl)⟩) w hA (fun H locs w => ?_)
  refine lv_if_ne (tgt := 9) hx hb dX6_readsDigit_4 (by decide) (fun c1 => ?_) (fun c1 => ?_)
  · skip
    have hq := hq.trans (if_neg c1)
    obtain ⟨hp1, hp2, hp3⟩ := po_inc hpo hen (isDigit_lt c1)
    have htl1 : (m_tl + 1).toInt = m_tl.toInt + 1 := by have h1 : (1 : Int32).toInt = 1 := rfl; rw [addI (by rw [h1]; omega), h1]
    refine lv_aload_n hx hb dX6_readsDigit_9 rfl (lv_at hl 0 rfl) ?_
    refine w_get (v := .ref m_nu) hx hb hts i_X6 hown hK w h_m rfl 16 (by decide) (hts _ m_0) rfl dX6_readsDigit_10 ?_
    refine lv_aload_n hx hb dX6_readsDigit_13 rfl (lv_at hl 0 rfl) ?_
    refine w_get (v := .int m_tl) hx hb hts i_X6 hown hK w h_m rfl 15 (by decide) (hts _ m_2) rfl dX6_readsDigit_14 ?_
    refine lv_aload_n hx hb dX6_readsDigit_17 rfl (lv_at hl 0 rfl) ?_
    refine w_finI (w_runV (rm := ({ frames := 0, cells := 0, slots := 0, locals := 0 } : Room)) (As := []) (rest := [.int m_tl, .ref m_nu]) (n := 0) hx hb hml hts hown hK w (c_X6_here l D cI cP cS cL L _ m m_ss m_im m_re m_sa m_ke m_so m_si m_el m_kd m_kt m_hi m_th m_po m_ba m_en m_tl m_nu m_ca m_ha m_hs m_co m_el_f h_m h_m_el hpo hba hen) gX6_readsDigit_X6_here rfl rfl rfl (by decide +kernel) ⟨(Nat.le_of_ble_eq_true rfl), (Nat.le_of_ble_eq_true rfl)⟩ h_m rfl rfl hl.1 rfl (Nat.le_of_ble_eq_true rfl) dX6_readsDigit_18 ⟨(Nat.le_of_ble_eq_true rfl), (Nat.le_of_ble_eq_true rfl)⟩) w hA (fun H locs w => ?_)
    refine lv_bipush (v := 48) hx hb dX6_readsDigit_21 (by decide) ?_
    refine lv_isub hx hb dX6_readsDigit_23 ?_
    have ho2 := h_m_nu
    refine w_ist (j := (m_tl.toNatClampNeg)) hx hb hK w h_m_nu (vp_in_iff.mpr ⟨htl.1, by omega⟩) rfl dX6_readsDigit_24 (fun H locs w h_m_nu => ?_)
    have h_m := h_m.upw h_m_nu (wi.ne h_m ho2 (by intro h; cases h))
    have h_m_el := h_m_el.upw h_m_nu ne_m_el_m_nu
    have hk := hk.upw h_m_nu (fun q h => h.2.1)
    refine lv_aload_n hx hb dX6_readsDigit_25 rfl (lv_at hl 0 rfl) ?_
    refine lv_dup hx hb dX6_readsDigit_26 rfl ?_
    refine w_get (v := .int m_tl) hx hb hts i_X6 hown hK w h_m rfl 15 (by decide) (hts _ m_2) rfl dX6_readsDigit_27 ?_
    refine lv_iconst (v := 1) hx hb dX6_readsDigit_30 (by decide) ?_
    refine lv_iadd hx hb dX6_readsDigit_31 ?_
    have ho3 := h_m
    refine w_put (fs2 := [.ref m_ss, .ref m_im, .ref m_re, .ref m_sa, .ref m_ke, .ref m_so, .ref m_si, .ref m_el, .ref m_kd, .ref m_kt, .int m_hi, .int m_th, .int m_po, .int m_ba, .int m_en, .int (m_tl + 1), .ref m_nu, .ref m_ca, .ref m_ha, .int m_hs, .ref m_co]) hx hb hts i_X6 tyX6 tyX6_ok nmX6 hown hK w h_m rfl 15 (by decide) (hts _ m_2) rfl rfl rfl (Nat.le_of_ble_eq_true rfl) rfl dX6_readsDigit_32 (fun H locs w h_m => ?_)
    have h_m_el := h_m_el.upw h_m (wi.ne h_m_el ho3 (by intro h; cases h))
    have h_m_nu := h_m_nu.upw h_m (wi.ne h_m_nu ho3 (by intro h; cases h))
    have hk := hk.upw h_m (fun q h => h.1)
    refine lv_aload_n hx hb dX6_readsDigit_35 rfl (lv_at hl 0 rfl) ?_
    refine lv_dup hx hb dX6_readsDigit_36 rfl ?_
    refine w_get (v := .int m_po) hx hb hts i_X6 hown hK w h_m rfl 12 (by decide) (hts _ m_3) rfl dX6_readsDigit_37 ?_
    refine lv_iconst (v := 1) hx hb dX6_readsDigit_40 (by decide) ?_
    refine lv_iadd hx hb dX6_readsDigit_41 ?_
    have ho4 := h_m
    refine w_put (fs2 := [.ref m_ss, .ref m_im, .ref m_re, .ref m_sa, .ref m_ke, .ref m_so, .ref m_si, .ref m_el, .ref m_kd, .ref m_kt, .int m_hi, .int m_th, .int (m_po + 1), .int m_ba, .int m_en, .int (m_tl + 1), .ref m_nu, .ref m_ca, .ref m_ha, .int m_hs, .ref m_co]) hx hb hts i_X6 tyX6 tyX6_ok nmX6 hown hK w h_m rfl 12 (by decide) (hts _ m_3) rfl rfl rfl (Nat.le_of_ble_eq_true rfl) rfl dX6_readsDigit_42 (fun H locs w h_m => ?_)
    have h_m_el := h_m_el.upw h_m (wi.ne h_m_el ho4 (by intro h; cases h))
    have h_m_nu := h_m_nu.upw h_m (wi.ne h_m_nu ho4 (by intro h; cases h))
    have hk := hk.upw h_m (fun q h => h.1)
    refine lv_iconst (v := 1) hx hb dX6_readsDigit_45 (by decide) ?_
    exact w_zret hx hb hr hlocks w rfl ⟨rfl, _, hq.symm, (by dsimp only; omega), (by first | exact Or.inl rfl | exact Or.inr (by dsimp only; omega) | exact Or.inr (by have := e148_2; dsimp only; omega)), (by dsimp only; omega), (by first | exact Or.inl rfl | exact Or.inr htl1), rfl, h_m.2, h_m_nu.2, hk⟩ (Nat.le_refl _) (Nat.le_refl _) dX6_readsDigit_46
  · skip
    have hq := hq.trans (if_pos c1)
    refine lv_iconst (v := 0) hx hb dX6_readsDigit_7 (by decide) ?_
    exact w_zret hx hb hr hlocks w rfl ⟨rfl, _, hq.symm, (by dsimp only; omega), (by first | exact Or.inl rfl | exact Or.inr (by dsimp only; omega) | exact Or.inr (by have := e148_2; dsimp only; omega)), (by dsimp only; omega), (by first | exact Or.inl rfl | exact Or.inr htl1), rfl, h_m.2, h_m_nu.2, hk⟩ (Nat.le_refl _) (Nat.le_refl _) dX6_readsDigit_8
theorem tl_in {t x : Int32} (h : 0 ≤ t.toInt ∧ t.toInt < 3) (e : x.toInt = t.toInt + 1) : vp_in (x - 1) 3 := by
  have h1 : (1 : Int32).toInt = 1 := rfl
  refine vp_in_iff.mpr ?_
  rw [subI (by rw [h1]; omega), h1]
  omega
def f_X6_readsNumber_L23 (m_ba : Int32) (m_en : Int32) (m_el_f : Nat → Int32) (x1 : Int32 × Int32 × Int32 × (Nat → Int32)) : Nat → Nat → Int32 → (Int32) → Int32 × Int32 × Int32 × (Nat → Int32)
  | 0, _, _, _ => (0, 0, 0, (fun _ => 0))
  | n + 1, k, v1, u_m_po => if (4 : Int32) ≤ (nI k) then (1, u_m_po, x1.2.2.1, (upd x1.2.2.2 ((x1.2.2.1 - 1).toNatClampNeg) v1)) else (if v1 ≤ (0 : Int32) then (1, u_m_po, x1.2.2.1, (upd x1.2.2.2 ((x1.2.2.1 - 1).toNatClampNeg) v1)) else (if (f_X6_isDigit u_m_po m_ba m_en m_el_f) = (0 : Int32) then (1, u_m_po, x1.2.2.1, (upd x1.2.2.2 ((x1.2.2.1 - 1).toNatClampNeg) v1)) else (f_X6_readsNumber_L23 m_ba m_en m_el_f x1 n ((k + 1)) (((10 * v1) + (f_X6_here u_m_po m_ba m_en m_el_f)) - 48) (u_m_po + 1))))
theorem f_X6_readsNumber_L23_s (m_ba : Int32) (m_en : Int32) (m_el_f : Nat → Int32) (x1 : Int32 × Int32 × Int32 × (Nat → Int32)) (n k : Nat) (v1 : Int32) (u_m_po : Int32) : f_X6_readsNumber_L23 m_ba m_en m_el_f x1 (n + 1) k v1 u_m_po = (if (4 : Int32) ≤ (nI k) then (1, u_m_po, x1.2.2.1, (upd x1.2.2.2 ((x1.2.2.1 - 1).toNatClampNeg) v1)) else (if v1 ≤ (0 : Int32) then (1, u_m_po, x1.2.2.1, (upd x1.2.2.2 ((x1.2.2.1 - 1).toNatClampNeg) v1)) else (if (f_X6_isDigit u_m_po m_ba m_en m_el_f) = (0 : Int32) then (1, u_m_po, x1.2.2.1, (upd x1.2.2.2 ((x1.2.2.1 - 1).toNatClampNeg) v1)) else (f_X6_readsNumber_L23 m_ba m_en m_el_f x1 n ((k + 1)) (((10 * v1) + (f_X6_here u_m_po m_ba m_en m_el_f)) - 48) (u_m_po + 1))))) := rfl
def f_X6_readsNumber (m_po : Int32) (m_ba : Int32) (m_en : Int32) (m_tl : Int32) (m_el_f : Nat → Int32) (m_nu_f : Nat → Int32) : Int32 × Int32 × Int32 × (Nat → Int32) := (bnd (f_X6_readsDigit m_po m_ba m_en m_tl m_el_f m_nu_f) (fun x1 : Int32 × Int32 × Int32 × (Nat → Int32) => if x1.1 = (0 : Int32) then (0, x1.2.1, x1.2.2.1, x1.2.2.2) else (f_X6_readsNumber_L23 m_ba m_en m_el_f x1 (4 + 1) 1 (x1.2.2.2 ((x1.2.2.1 - 1).toNatClampNeg)) x1.2.1)))
set_option maxHeartbeats 400000 in
set_option maxRecDepth 100000 in
theorem c_X6_readsNumber (l : Launch) (D : va_G) (cI cP cS cL : ClassId) (L : List Nat) (F : Nat → va_E) (m : Nat) (m_ss : Nat) (m_im : Nat) (m_re : Nat) (m_sa : Nat) (m_ke : Nat) (m_so : Nat) (m_si : Nat) (m_el : Nat) (m_kd : Nat) (m_kt : Nat) (m_hi : Int32) (m_th : Int32) (m_po : Int32) (m_ba : Int32) (m_en : Int32) (m_tl : Int32) (m_nu : Nat) (m_ca : Nat) (m_ha : Nat) (m_hs : Int32) (m_co : Nat) (m_el_f : Nat → Int32) (m_nu_f : Nat → Int32) (h_m : wi L F m (eM m_ss m_im m_re m_sa m_ke m_so m_si m_el m_kd m_kt m_hi m_th m_po m_ba m_en m_tl m_nu m_ca m_ha m_hs m_co)) (h_m_el : wi L F m_el (eI cI 800 m_el_f)) (h_m_nu : wi L F m_nu (eI cI 3 m_nu_f)) (hpo : 0 ≤ m_po.toInt) (hba : 0 ≤ m_ba.toInt ∧ m_ba.toInt ≤ 700) (hen : m_en.toInt ≤ 100) (htl : 0 ≤ m_tl.toInt ∧ m_tl.toInt < 3) (ne_m_el_m_nu : m_el ≠ m_nu) : wMj l D cI cP cS cL yX6_readsNumber wsX6_readsNumber ({ frames := 3, cells := 0, slots := 0, locals := 65 } : Room) [.ref m] L F (fun r1 F1 => ∃ y9 : Int32 × Int32 × Int32 × (Nat → Int32), y9 = (f_X6_readsNumber m_po m_ba m_en m_tl m_el_f m_nu_f) ∧ (0 ≤ y9.2.1.toInt) ∧ (y9.1 = 0 ∨ m_po.toInt < y9.2.1.toInt) ∧ (m_po.toInt ≤ y9.2.1.toInt) ∧ (y9.1 = 0 ∨ y9.2.2.1.toInt = m_tl.toInt + 1) ∧ r1 = y9.1 ∧ F1 m = (eM m_ss m_im m_re m_sa m_ke m_so m_si m_el m_kd m_kt m_hi m_th y9.2.1 m_ba m_en y9.2.2.1 m_nu m_ca m_ha m_hs m_co) ∧ F1 m_nu = (eI cI 3 y9.2.2.2) ∧ wk (fun q : Nat => q ≠ m ∧ q ≠ m_nu ∧ True) F1 F) := by
  refine wM.of (cc := cX6_readsNumber) (maxL := 3) (ret := (some .boolean)) (by decide) rfl (Nat.le_of_ble_eq_true rfl) ?_
  intro pZ eZ sZ mZ below meth cZ A ls C hl w
  obtain ⟨hx, hb, hr, hml, hts, hown, hlocks, hK, hA, hin⟩ := C
  have hown : sZ.vm.findClass RX6 = some mZ.cls := hown
  have hl : lv_has ls 3 [(0, .ref m)] := hl
  have m_0 : ((.fieldLink RX6 40 "TwoThirdsModel" "numbers" "[I") : Cond) ∈ wsX6_readsNumber := by decide +kernel
  have i_X6 : ∀ w ∈ wsX60, w ∈ wsX6_readsNumber := by decide +kernel
  have m_2 : ((.fieldLink RX6 83 "TwoThirdsModel" "told" "I") : Cond) ∈ wsX6_readsNumber := by decide +kernel
  have m_3 : ((.fieldLink RX6 62 "TwoThirdsModel" "pos" "I") : Cond) ∈ wsX6_readsNumber := by decide +kernel
  have hk : wk (fun q : Nat => q ≠ m ∧ q ≠ m_nu ∧ True) F F := wk.rf
  have hq : f_X6_readsNumber m_po m_ba m_en m_tl m_el_f m_nu_f = f_X6_readsNumber m_po m_ba m_en m_tl m_el_f m_nu_f := rfl
  refine lv_aload_n hx hb dX6_readsNumber_0 rfl (lv_at hl 0 rfl) ?_
  refine w_finj (w_runV (rm := ({ frames := 2, cells := 0, slots := 0, locals := 45 } : Room)) (As := []) (rest := []) (n := 0) hx hb hml hts hown hK w (c_X6_readsDigit l D cI cP cS cL L _ m m_ss m_im m_re m_sa m_ke m_so m_si m_el m_kd m_kt m_hi m_th m_po m_ba m_en m_tl m_nu m_ca m_ha m_hs m_co m_el_f m_nu_f h_m h_m_el h_m_nu hpo hba hen htl ne_m_el_m_nu) gX6_readsNumber_X6_readsDigit rfl rfl rfl (by decide +kernel) ⟨(Nat.le_of_ble_eq_true rfl), (Nat.le_of_ble_eq_true rfl)⟩ h_m rfl rfl hl.1 rfl (Nat.le_of_ble_eq_true rfl) dX6_readsNumber_1 ⟨(Nat.le_of_ble_eq_true rfl), (Nat.le_of_ble_eq_true rfl)⟩) w hA (fun r9 F1 H locs hp w => ?_)
  obtain ⟨x1, hx1, e1_0, e1_1, e1_2, e1_3, hr9, hw0, hw1, hk9⟩ := hp
  subst hr9
  have hq := hq.trans (w_bnd hx1)
  have h_m_el := h_m_el.keep hk9 ⟨(wi.ne h_m_el h_m (by intro h; cases h)), ne_m_el_m_nu, trivial⟩
  have h_m := h_m.new hw0
  have h_m_nu := h_m_nu.new hw1
  have hk := hk.call hk9 (fun q h => ⟨h.1, h.2.1, trivial⟩)
  refine lv_if_ne (tgt := 9) hx hb dX6_readsNumber_4 (by decide) (fun c1 => ?_) (fun c1 => ?_)
  · skip
    have hq := hq.trans (if_neg c1)
    have hp1 := e1_1.resolve_left c1
    have htl1 := e1_3.resolve_left c1
    refine lv_aload_n hx hb dX6_readsNumber_9 rfl (lv_at hl 0 rfl) ?_
    refine w_get (v := .ref m_nu) hx hb hts i_X6 hown hK w h_m rfl 16 (by decide) (hts _ m_0) rfl dX6_readsNumber_10 ?_
    refine lv_aload_n hx hb dX6_readsNumber_13 rfl (lv_at hl 0 rfl) ?_
    refine w_get (v := .int x1.2.2.1) hx hb hts i_X6 hown hK w h_m rfl 15 (by decide) (hts _ m_2) rfl dX6_readsNumber_14 ?_
    refine lv_iconst (v := 1) hx hb dX6_readsNumber_17 (by decide) ?_
    refine lv_isub hx hb dX6_readsNumber_18 ?_
    refine w_ild (j := ((x1.2.2.1 - 1).toNatClampNeg)) hx hb hK w h_m_nu (tl_in htl htl1) rfl dX6_readsNumber_19 ?_
    refine lv_istore_n (lv' := [(1, .int (x1.2.2.2 ((x1.2.2.1 - 1).toNatClampNeg))), (0, .ref m)]) hx hb dX6_readsNumber_20 rfl hl (by decide) rfl (fun ls hl => ?_)
    refine lv_iconst (v := 1) hx hb dX6_readsNumber_21 (by decide) ?_
    refine lv_istore_n (lv' := [(2, .int 1), (1, .int (x1.2.2.2 ((x1.2.2.1 - 1).toNatClampNeg))), (0, .ref m)]) hx hb dX6_readsNumber_22 rfl hl (by decide) rfl (fun ls hl => ?_)
    have hL23 : ∀ (n k : Nat) (v1 : Int32) (u_m_po : Int32) (F1 : Nat → va_E) (H : Heap) (locs : List Loc) (ls : Array Slot), (0 ≤ u_m_po.toInt ∧ x1.2.1.toInt ≤ u_m_po.toInt) → k ≤ 4 → 4 - k < n → f_X6_readsNumber m_po m_ba m_en m_tl m_el_f m_nu_f = f_X6_readsNumber_L23 m_ba m_en m_el_f x1 n k v1 u_m_po → lv_has ls 3 [(0, .ref m), (1, .int v1), (2, .int (nI k))] → ww D A sZ.heap L F1 H locs → (wi L F1 m (eM m_ss m_im m_re m_sa m_ke m_so m_si m_el m_kd m_kt m_hi m_th u_m_po m_ba m_en x1.2.2.1 m_nu m_ca m_ha m_hs m_co)) → (wi L F1 m_el (eI cI 800 m_el_f)) → (wi L F1 m_nu (eI cI 3 x1.2.2.2)) → wk (fun q : Nat => q ≠ m ∧ q ≠ m_nu ∧ True) F1 F → W pZ l eZ ({ frames := 3, cells := 0, slots := 0, locals := 65 } : Room) sZ mZ [.ref m].toArray below meth cZ H locs 0 0 (MQ below (wQi D A (fun r1 L1 F1 => L1 = L ∧ ∃ y9 : Int32 × Int32 × Int32 × (Nat → Int32), y9 = (f_X6_readsNumber m_po m_ba m_en m_tl m_el_f m_nu_f) ∧ (0 ≤ y9.2.1.toInt) ∧ (y9.1 = 0 ∨ m_po.toInt < y9.2.1.toInt) ∧ (m_po.toInt ≤ y9.2.1.toInt) ∧ (y9.1 = 0 ∨ y9.2.2.1.toInt = m_tl.toInt + 1) ∧ r1 = y9.1 ∧ F1 m = (eM m_ss m_im m_re m_sa m_ke m_so m_si m_el m_kd m_kt m_hi m_th y9.2.1 m_ba m_en y9.2.2.1 m_nu m_ca m_ha m_hs m_co) ∧ F1 m_nu = (eI cI 3 y9.2.2.2) ∧ wk (fun q : Nat => q ≠ m ∧ q ≠ m_nu ∧ True) F1 F)) [.ref m].toArray sZ 0 0 A) (F0 mZ 23 ls []) := by
      intro n; induction n with
      | zero => intro k v1 u_m_po F1 H locs ls _ hkT hmeas; exact absurd hmeas (Nat.not_lt_zero _)
      | succ n ih =>
        intro k v1 u_m_po F1 H locs ls hi0 hkT hmeas hq hl w h_m h_m_el h_m_nu hk
        have hk31 : k < 2147483648 := by omega
        have hpu : 0 ≤ u_m_po.toInt := hi0.1
        have hq := hq.trans (f_X6_readsNumber_L23_s m_ba m_en m_el_f x1 n k v1 u_m_po)
        refine lv_iload_n hx hb dX6_readsNumber_23 rfl (lv_at hl 2 rfl) ?_
        refine lv_iconst (v := 4) hx hb dX6_readsNumber_24 (by decide) ?_
        refine lv_icmp_ge (tgt := 68) hx hb dX6_readsNumber_25 (by decide) (fun c2 => ?_) (fun c2 => ?_)
        · skip
          have hq := hq.trans (if_pos c2)
          refine lv_aload_n hx hb dX6_readsNumber_68 rfl (lv_at hl 0 rfl) ?_
          refine w_get (v := .ref m_nu) hx hb hts i_X6 hown hK w h_m rfl 16 (by decide) (hts _ m_0) rfl dX6_readsNumber_69 ?_
          refine lv_aload_n hx hb dX6_readsNumber_72 rfl (lv_at hl 0 rfl) ?_
          refine w_get (v := .int x1.2.2.1) hx hb hts i_X6 hown hK w h_m rfl 15 (by decide) (hts _ m_2) rfl dX6_readsNumber_73 ?_
          refine lv_iconst (v := 1) hx hb dX6_readsNumber_76 (by decide) ?_
          refine lv_isub hx hb dX6_readsNumber_77 ?_
          refine lv_iload_n hx hb dX6_readsNumber_78 rfl (lv_at hl 1 rfl) ?_
          have ho3 := h_m_nu
          refine w_ist (j := ((x1.2.2.1 - 1).toNatClampNeg)) hx hb hK w h_m_nu (tl_in htl htl1) rfl dX6_readsNumber_79 (fun H locs w h_m_nu => ?_)
          have h_m := h_m.upw h_m_nu (wi.ne h_m ho3 (by intro h; cases h))
          have h_m_el := h_m_el.upw h_m_nu ne_m_el_m_nu
          have hk := hk.upw h_m_nu (fun q h => h.2.1)
          refine lv_iconst (v := 1) hx hb dX6_readsNumber_80 (by decide) ?_
          exact w_zret hx hb hr hlocks w rfl ⟨rfl, _, hq.symm, (by dsimp only; omega), (by first | exact Or.inl rfl | exact Or.inr (by dsimp only; omega) | exact Or.inr (by have := e148_2; dsimp only; omega)), (by dsimp only; omega), (by first | exact Or.inl rfl | exact Or.inr htl1), rfl, h_m.2, h_m_nu.2, hk⟩ (Nat.le_refl _) (Nat.le_refl _) dX6_readsNumber_81
        · skip
          have hq := hq.trans (if_neg c2)
          have hlt25 : k < 4 := w_ltk hk31 c2
          refine lv_iload_n hx hb dX6_readsNumber_28 rfl (lv_at hl 1 rfl) ?_
          refine lv_if_le (tgt := 68) hx hb dX6_readsNumber_29 (by decide) (fun c4 => ?_) (fun c4 => ?_)
          · skip
            have hq := hq.trans (if_pos c4)
            refine lv_aload_n hx hb dX6_readsNumber_68 rfl (lv_at hl 0 rfl) ?_
            refine w_get (v := .ref m_nu) hx hb hts i_X6 hown hK w h_m rfl 16 (by decide) (hts _ m_0) rfl dX6_readsNumber_69 ?_
            refine lv_aload_n hx hb dX6_readsNumber_72 rfl (lv_at hl 0 rfl) ?_
            refine w_get (v := .int x1.2.2.1) hx hb hts i_X6 hown hK w h_m rfl 15 (by decide) (hts _ m_2) rfl dX6_readsNumber_73 ?_
            refine lv_iconst (v := 1) hx hb dX6_readsNumber_76 (by decide) ?_
            refine lv_isub hx hb dX6_readsNumber_77 ?_
            refine lv_iload_n hx hb dX6_readsNumber_78 rfl (lv_at hl 1 rfl) ?_
            have ho5 := h_m_nu
            refine w_ist (j := ((x1.2.2.1 - 1).toNatClampNeg)) hx hb hK w h_m_nu (tl_in htl htl1) rfl dX6_readsNumber_79 (fun H locs w h_m_nu => ?_)
            have h_m := h_m.upw h_m_nu (wi.ne h_m ho5 (by intro h; cases h))
            have h_m_el := h_m_el.upw h_m_nu ne_m_el_m_nu
            have hk := hk.upw h_m_nu (fun q h => h.2.1)
            refine lv_iconst (v := 1) hx hb dX6_readsNumber_80 (by decide) ?_
            exact w_zret hx hb hr hlocks w rfl ⟨rfl, _, hq.symm, (by dsimp only; omega), (by first | exact Or.inl rfl | exact Or.inr (by dsimp only; omega) | exact Or.inr (by have := e148_2; dsimp only; omega)), (by dsimp only; omega), (by first | exact Or.inl rfl | exact Or.inr htl1), rfl, h_m.2, h_m_nu.2, hk⟩ (Nat.le_refl _) (Nat.le_refl _) dX6_readsNumber_81
          · skip
            have hq := hq.trans (if_neg c4)
            refine lv_aload_n hx hb dX6_readsNumber_32 rfl (lv_at hl 0 rfl) ?_
            refine w_finI (w_runV (rm := ({ frames := 1, cells := 0, slots := 0, locals := 25 } : Room)) (As := []) (rest := []) (n := 0) hx hb hml hts hown hK w (c_X6_isDigit l D cI cP cS cL L _ m m_ss m_im m_re m_sa m_ke m_so m_si m_el m_kd m_kt m_hi m_th u_m_po m_ba m_en x1.2.2.1 m_nu m_ca m_ha m_hs m_co m_el_f h_m h_m_el hpu hba hen) gX6_readsNumber_X6_isDigit rfl rfl rfl (by decide +kernel) ⟨(Nat.le_of_ble_eq_true rfl), (Nat.le_of_ble_eq_true rfl)⟩ h_m rfl rfl hl.1 rfl (Nat.le_of_ble_eq_true rfl) dX6_readsNumber_33 ⟨(Nat.le_of_ble_eq_true rfl), (Nat.le_of_ble_eq_true rfl)⟩) w hA (fun H locs w => ?_)
            refine lv_if_eq (tgt := 68) hx hb dX6_readsNumber_36 (by decide) (fun c6 => ?_) (fun c6 => ?_)
            · skip
              have hq := hq.trans (if_pos c6)
              refine lv_aload_n hx hb dX6_readsNumber_68 rfl (lv_at hl 0 rfl) ?_
              refine w_get (v := .ref m_nu) hx hb hts i_X6 hown hK w h_m rfl 16 (by decide) (hts _ m_0) rfl dX6_readsNumber_69 ?_
              refine lv_aload_n hx hb dX6_readsNumber_72 rfl (lv_at hl 0 rfl) ?_
              refine w_get (v := .int x1.2.2.1) hx hb hts i_X6 hown hK w h_m rfl 15 (by decide) (hts _ m_2) rfl dX6_readsNumber_73 ?_
              refine lv_iconst (v := 1) hx hb dX6_readsNumber_76 (by decide) ?_
              refine lv_isub hx hb dX6_readsNumber_77 ?_
              refine lv_iload_n hx hb dX6_readsNumber_78 rfl (lv_at hl 1 rfl) ?_
              have ho7 := h_m_nu
              refine w_ist (j := ((x1.2.2.1 - 1).toNatClampNeg)) hx hb hK w h_m_nu (tl_in htl htl1) rfl dX6_readsNumber_79 (fun H locs w h_m_nu => ?_)
              have h_m := h_m.upw h_m_nu (wi.ne h_m ho7 (by intro h; cases h))
              have h_m_el := h_m_el.upw h_m_nu ne_m_el_m_nu
              have hk := hk.upw h_m_nu (fun q h => h.2.1)
              refine lv_iconst (v := 1) hx hb dX6_readsNumber_80 (by decide) ?_
              exact w_zret hx hb hr hlocks w rfl ⟨rfl, _, hq.symm, (by dsimp only; omega), (by first | exact Or.inl rfl | exact Or.inr (by dsimp only; omega) | exact Or.inr (by have := e148_2; dsimp only; omega)), (by dsimp only; omega), (by first | exact Or.inl rfl | exact Or.inr htl1), rfl, h_m.2, h_m_nu.2, hk⟩ (Nat.le_refl _) (Nat.le_refl _) dX6_readsNumber_81
            · skip
              have hq := hq.trans (if_neg c6)
              obtain ⟨hq1, hq2, hq3⟩ := po_inc hi0.1 hen (isDigit_lt c6)
              refine lv_bipush (v := 10) hx hb dX6_readsNumber_39 (by decide) ?_
              refine lv_iload_n hx hb dX6_readsNumber_41 rfl (lv_at hl 1 rfl) ?_
              refine lv_imul hx hb dX6_readsNumber_42 ?_
              refine lv_aload_n hx hb dX6_readsNumber_43 rfl (lv_at hl 0 rfl) ?_
              refine w_finI (w_runV (rm := ({ frames := 0, cells := 0, slots := 0, locals := 0 } : Room)) (As := []) (rest := [.int (10 * v1)]) (n := 0) hx hb hml hts hown hK w (c_X6_here l D cI cP cS cL L _ m m_ss m_im m_re m_sa m_ke m_so m_si m_el m_kd m_kt m_hi m_th u_m_po m_ba m_en x1.2.2.1 m_nu m_ca m_ha m_hs m_co m_el_f h_m h_m_el hpu hba hen) gX6_readsNumber_X6_here rfl rfl rfl (by decide +kernel) ⟨(Nat.le_of_ble_eq_true rfl), (Nat.le_of_ble_eq_true rfl)⟩ h_m rfl rfl hl.1 rfl (Nat.le_of_ble_eq_true rfl) dX6_readsNumber_44 ⟨(Nat.le_of_ble_eq_true rfl), (Nat.le_of_ble_eq_true rfl)⟩) w hA (fun H locs w => ?_)
              refine lv_iadd hx hb dX6_readsNumber_47 ?_
              refine lv_bipush (v := 48) hx hb dX6_readsNumber_48 (by decide) ?_
              refine lv_isub hx hb dX6_readsNumber_50 ?_
              refine lv_istore_n (lv' := [(1, .int (((10 * v1) + (f_X6_here u_m_po m_ba m_en m_el_f)) - 48)), (0, .ref m), (2, .int (nI k))]) hx hb dX6_readsNumber_51 rfl hl (by decide) rfl (fun ls hl => ?_)
              refine lv_aload_n hx hb dX6_readsNumber_52 rfl (lv_at hl 1 rfl) ?_
              refine lv_dup hx hb dX6_readsNumber_53 rfl ?_
              refine w_get (v := .int u_m_po) hx hb hts i_X6 hown hK w h_m rfl 12 (by decide) (hts _ m_3) rfl dX6_readsNumber_54 ?_
              refine lv_iconst (v := 1) hx hb dX6_readsNumber_57 (by decide) ?_
              refine lv_iadd hx hb dX6_readsNumber_58 ?_
              have ho8 := h_m
              refine w_put (fs2 := [.ref m_ss, .ref m_im, .ref m_re, .ref m_sa, .ref m_ke, .ref m_so, .ref m_si, .ref m_el, .ref m_kd, .ref m_kt, .int m_hi, .int m_th, .int (u_m_po + 1), .int m_ba, .int m_en, .int x1.2.2.1, .ref m_nu, .ref m_ca, .ref m_ha, .int m_hs, .ref m_co]) hx hb hts i_X6 tyX6 tyX6_ok nmX6 hown hK w h_m rfl 12 (by decide) (hts _ m_3) rfl rfl rfl (Nat.le_of_ble_eq_true rfl) rfl dX6_readsNumber_59 (fun H locs w h_m => ?_)
              have h_m_el := h_m_el.upw h_m (wi.ne h_m_el ho8 (by intro h; cases h))
              have h_m_nu := h_m_nu.upw h_m (wi.ne h_m_nu ho8 (by intro h; cases h))
              have hk := hk.upw h_m (fun q h => h.1)
              refine lv_iinc (v := (nI (k + 1))) (lv' := [(2, .int (nI (k + 1))), (1, .int (((10 * v1) + (f_X6_here u_m_po m_ba m_en m_el_f)) - 48)), (0, .ref m)]) hx hb dX6_readsNumber_62 hl (k := 2) rfl (w_inc _) (by decide) rfl (fun ls hl => ?_)
              refine lv_goto (tgt := 23) hx hb dX6_readsNumber_65 (by decide) ?_
              exact ih ((k + 1)) (((10 * v1) + (f_X6_here u_m_po m_ba m_en m_el_f)) - 48) (u_m_po + 1) _ _ _ _ ⟨hq1, by omega⟩ (by omega) (by omega) hq (lv_sub hl [2, 1, 0] rfl) w h_m h_m_el h_m_nu hk
    exact hL23 (4 + 1) 1 (x1.2.2.2 ((x1.2.2.1 - 1).toNatClampNeg)) x1.2.1 _ _ _ _ ⟨e1_0, Int.le_refl _⟩ (by omega) (by omega) hq (lv_sub hl [2, 1, 0] rfl) w h_m h_m_el h_m_nu hk
  · skip
    have hq := hq.trans (if_pos c1)
    refine lv_iconst (v := 0) hx hb dX6_readsNumber_7 (by decide) ?_
    exact w_zret hx hb hr hlocks w rfl ⟨rfl, _, hq.symm, (by dsimp only; omega), (by first | exact Or.inl rfl | exact Or.inr (by dsimp only; omega) | exact Or.inr (by have := e148_2; dsimp only; omega)), (by dsimp only; omega), (by first | exact Or.inl rfl | exact Or.inr htl1), rfl, h_m.2, h_m_nu.2, hk⟩ (Nat.le_refl _) (Nat.le_refl _) dX6_readsNumber_8
theorem z_bnd {α β : Type} {a : α} {f : α → Int32 × β} (h : ∀ x, x = a → (f x).1 = 0 ∨ (f x).1 = 1) : (bnd a f).1 = 0 ∨ (bnd a f).1 = 1 := h a rfl
def f_X6_readsStatement (m_po : Int32) (m_ba : Int32) (m_en : Int32) (m_el_f : Nat → Int32) (m_nu_f : Nat → Int32) : Int32 × Int32 × Int32 × (Nat → Int32) := if (f_X6_here m_po m_ba m_en m_el_f) = (112 : Int32) then (bnd (f_X6_readsDigit (m_po + 1) m_ba m_en 0 m_el_f m_nu_f) (fun x59 : Int32 × Int32 × Int32 × (Nat → Int32) => if x59.1 = (0 : Int32) then (0, x59.2.1, x59.2.2.1, x59.2.2.2) else (bnd (f_X6_takes 32 x59.2.1 m_ba m_en m_el_f) (fun x68 : Int32 × Int32 => if x68.1 = (0 : Int32) then (0, x68.2, x59.2.2.1, x59.2.2.2) else (bnd (f_X6_readsDigit x68.2 m_ba m_en x59.2.2.1 m_el_f x59.2.2.2) (fun x75 : Int32 × Int32 × Int32 × (Nat → Int32) => if x75.1 = (0 : Int32) then (0, x75.2.1, x75.2.2.1, x75.2.2.2) else (bnd (f_X6_takes 32 x75.2.1 m_ba m_en m_el_f) (fun x84 : Int32 × Int32 => if x84.1 = (0 : Int32) then (0, x84.2, x75.2.2.1, x75.2.2.2) else (bnd (f_X6_readsNumber x84.2 m_ba m_en x75.2.2.1 m_el_f x75.2.2.2) (fun x91 : Int32 × Int32 × Int32 × (Nat → Int32) => if x91.1 = (0 : Int32) then (0, x91.2.1, x91.2.2.1, x91.2.2.2) else (bnd (f_X6_takes 59 x91.2.1 m_ba m_en m_el_f) (fun x148 : Int32 × Int32 => (x148.1, x148.2, x91.2.2.1, x91.2.2.2))))))))))))) else (if (f_X6_here m_po m_ba m_en m_el_f) = (103 : Int32) then (bnd (f_X6_readsNumber (m_po + 1) m_ba m_en 0 m_el_f m_nu_f) (fun x106 : Int32 × Int32 × Int32 × (Nat → Int32) => if x106.1 = (0 : Int32) then (0, x106.2.1, x106.2.2.1, x106.2.2.2) else (bnd (f_X6_takes 47 x106.2.1 m_ba m_en m_el_f) (fun x115 : Int32 × Int32 => if x115.1 = (0 : Int32) then (0, x115.2, x106.2.2.1, x106.2.2.2) else (bnd (f_X6_readsNumber x115.2 m_ba m_en x106.2.2.1 m_el_f x106.2.2.2) (fun x122 : Int32 × Int32 × Int32 × (Nat → Int32) => if x122.1 = (0 : Int32) then (0, x122.2.1, x122.2.2.1, x122.2.2.2) else (bnd (f_X6_takes 59 x122.2.1 m_ba m_en m_el_f) (fun x148 : Int32 × Int32 => (x148.1, x148.2, x122.2.2.1, x122.2.2.2))))))))) else (if (f_X6_here m_po m_ba m_en m_el_f) = (104 : Int32) then (bnd (f_X6_readsNumber (m_po + 1) m_ba m_en 0 m_el_f m_nu_f) (fun x137 : Int32 × Int32 × Int32 × (Nat → Int32) => if x137.1 = (0 : Int32) then (0, x137.2.1, x137.2.2.1, x137.2.2.2) else (bnd (f_X6_takes 59 x137.2.1 m_ba m_en m_el_f) (fun x148 : Int32 × Int32 => (x148.1, x148.2, x137.2.2.1, x137.2.2.2))))) else (if (f_X6_here m_po m_ba m_en m_el_f) = (98 : Int32) then (bnd (f_X6_takes 59 (m_po + 1) m_ba m_en m_el_f) (fun x148 : Int32 × Int32 => (x148.1, x148.2, 0, m_nu_f))) else (if (f_X6_here m_po m_ba m_en m_el_f) = (110 : Int32) then (bnd (f_X6_takes 59 (m_po + 1) m_ba m_en m_el_f) (fun x148 : Int32 × Int32 => (x148.1, x148.2, 0, m_nu_f))) else (0, m_po, 0, m_nu_f)))))
theorem z_X6_readsStatement (m_po : Int32) (m_ba : Int32) (m_en : Int32) (m_el_f : Nat → Int32) (m_nu_f : Nat → Int32) : (f_X6_readsStatement m_po m_ba m_en m_el_f m_nu_f).1 = 0 ∨ (f_X6_readsStatement m_po m_ba m_en m_el_f m_nu_f).1 = 1 := by
  unfold f_X6_readsStatement
  repeat' first | (with_reducible refine z_bnd ?_; intro x hx) | split
  all_goals first | (rw [hx]; with_reducible exact z_X6_takes _ _ _ _ _) | exact Or.inl rfl
set_option maxHeartbeats 400000 in
set_option maxRecDepth 100000 in
theorem c_X6_readsStatement (l : Launch) (D : va_G) (cI cP cS cL : ClassId) (L : List Nat) (F : Nat → va_E) (m : Nat) (m_ss : Nat) (m_im : Nat) (m_re : Nat) (m_sa : Nat) (m_ke : Nat) (m_so : Nat) (m_si : Nat) (m_el : Nat) (m_kd : Nat) (m_kt : Nat) (m_hi : Int32) (m_th : Int32) (m_po : Int32) (m_ba : Int32) (m_en : Int32) (m_tl : Int32) (m_nu : Nat) (m_ca : Nat) (m_ha : Nat) (m_hs : Int32) (m_co : Nat) (m_el_f : Nat → Int32) (m_nu_f : Nat → Int32) (h_m : wi L F m (eM m_ss m_im m_re m_sa m_ke m_so m_si m_el m_kd m_kt m_hi m_th m_po m_ba m_en m_tl m_nu m_ca m_ha m_hs m_co)) (h_m_el : wi L F m_el (eI cI 800 m_el_f)) (h_m_nu : wi L F m_nu (eI cI 3 m_nu_f)) (hpo : 0 ≤ m_po.toInt) (hba : 0 ≤ m_ba.toInt ∧ m_ba.toInt ≤ 700) (hen : m_en.toInt ≤ 100) (ne_m_el_m_nu : m_el ≠ m_nu) : wMj l D cI cP cS cL yX6_readsStatement wsX6_readsStatement ({ frames := 4, cells := 0, slots := 0, locals := 87 } : Room) [.ref m] L F (fun r1 F1 => ∃ y9 : Int32 × Int32 × Int32 × (Nat → Int32), y9 = (f_X6_readsStatement m_po m_ba m_en m_el_f m_nu_f) ∧ (0 ≤ y9.2.1.toInt) ∧ (y9.1 = 0 ∨ m_po.toInt < y9.2.1.toInt) ∧ (m_po.toInt ≤ y9.2.1.toInt) ∧ r1 = y9.1 ∧ F1 m = (eM m_ss m_im m_re m_sa m_ke m_so m_si m_el m_kd m_kt m_hi m_th y9.2.1 m_ba m_en y9.2.2.1 m_nu m_ca m_ha m_hs m_co) ∧ F1 m_nu = (eI cI 3 y9.2.2.2) ∧ wk (fun q : Nat => q ≠ m ∧ q ≠ m_nu ∧ True) F1 F) := by
  refine wM.of (cc := cX6_readsStatement) (maxL := 2) (ret := (some .boolean)) (by decide) rfl (Nat.le_of_ble_eq_true rfl) ?_
  intro pZ eZ sZ mZ below meth cZ A ls C hl w
  obtain ⟨hx, hb, hr, hml, hts, hown, hlocks, hK, hA, hin⟩ := C
  have hown : sZ.vm.findClass RX6 = some mZ.cls := hown
  have hl : lv_has ls 2 [(0, .ref m)] := hl
  have m_0 : ((.fieldLink RX6 83 "TwoThirdsModel" "told" "I") : Cond) ∈ wsX6_readsStatement := by decide +kernel
  have i_X6 : ∀ w ∈ wsX60, w ∈ wsX6_readsStatement := by decide +kernel
  have m_2 : ((.fieldLink RX6 62 "TwoThirdsModel" "pos" "I") : Cond) ∈ wsX6_readsStatement := by decide +kernel
  have hk : wk (fun q : Nat => q ≠ m ∧ q ≠ m_nu ∧ True) F F := wk.rf
  have hq : f_X6_readsStatement m_po m_ba m_en m_el_f m_nu_f = f_X6_readsStatement m_po m_ba m_en m_el_f m_nu_f := rfl
  refine lv_aload_n hx hb dX6_readsStatement_0 rfl (lv_at hl 0 rfl) ?_
  refine w_finI (w_runV (rm := ({ frames := 0, cells := 0, slots := 0, locals := 0 } : Room)) (As := []) (rest := []) (n := 0) hx hb hml hts hown hK w (c_X6_here l D cI cP cS cL L _ m m_ss m_im m_re m_sa m_ke m_so m_si m_el m_kd m_kt m_hi m_th m_po m_ba m_en m_tl m_nu m_ca m_ha m_hs m_co m_el_f h_m h_m_el hpo hba hen) gX6_readsStatement_X6_here rfl rfl rfl (by decide +kernel) ⟨(Nat.le_of_ble_eq_true rfl), (Nat.le_of_ble_eq_true rfl)⟩ h_m rfl rfl hl.1 rfl (Nat.le_of_ble_eq_true rfl) dX6_readsStatement_1 ⟨(Nat.le_of_ble_eq_true rfl), (Nat.le_of_ble_eq_true rfl)⟩) w hA (fun H locs w => ?_)
  refine lv_istore_n (lv' := [(1, .int (f_X6_here m_po m_ba m_en m_el_f)), (0, .ref m)]) hx hb dX6_readsStatement_4 rfl hl (by decide) rfl (fun ls hl => ?_)
  refine lv_aload_n hx hb dX6_readsStatement_5 rfl (lv_at hl 1 rfl) ?_
  refine lv_iconst (v := 0) hx hb dX6_readsStatement_6 (by decide) ?_
  have ho1 := h_m
  refine w_put (fs2 := [.ref m_ss, .ref m_im, .ref m_re, .ref m_sa, .ref m_ke, .ref m_so, .ref m_si, .ref m_el, .ref m_kd, .ref m_kt, .int m_hi, .int m_th, .int m_po, .int m_ba, .int m_en, .int 0, .ref m_nu, .ref m_ca, .ref m_ha, .int m_hs, .ref m_co]) hx hb hts i_X6 tyX6 tyX6_ok nmX6 hown hK w h_m rfl 15 (by decide) (hts _ m_0) rfl rfl rfl (Nat.le_of_ble_eq_true rfl) rfl dX6_readsStatement_7 (fun H locs w h_m => ?_)
  have h_m_el := h_m_el.upw h_m (wi.ne h_m_el ho1 (by intro h; cases h))
  have h_m_nu := h_m_nu.upw h_m (wi.ne h_m_nu ho1 (by intro h; cases h))
  have hk := hk.upw h_m (fun q h => h.1)
  refine lv_iload_n hx hb dX6_readsStatement_10 rfl (lv_at hl 0 rfl) ?_
  refine lv_bipush (v := 112) hx hb dX6_readsStatement_11 (by decide) ?_
  refine lv_icmp_eq (tgt := 42) hx hb dX6_readsStatement_13 (by decide) (fun c2 => ?_) (fun c2 => ?_)
  · skip
    have hq := hq.trans (if_pos c2)
    have hpp : 0 ≤ (m_po + 1).toInt := (po_inc hpo hen (here_lt c2 (by decide))).1
    have hpq : (m_po + 1).toInt = m_po.toInt + 1 := (po_inc hpo hen (here_lt c2 (by decide))).2.1
    refine lv_aload_n hx hb dX6_readsStatement_42 rfl (lv_at hl 1 rfl) ?_
    refine lv_dup hx hb dX6_readsStatement_43 rfl ?_
    refine w_get (v := .int m_po) hx hb hts i_X6 hown hK w h_m rfl 12 (by decide) (hts _ m_2) rfl dX6_readsStatement_44 ?_
    refine lv_iconst (v := 1) hx hb dX6_readsStatement_47 (by decide) ?_
    refine lv_iadd hx hb dX6_readsStatement_48 ?_
    have ho3 := h_m
    refine w_put (fs2 := [.ref m_ss, .ref m_im, .ref m_re, .ref m_sa, .ref m_ke, .ref m_so, .ref m_si, .ref m_el, .ref m_kd, .ref m_kt, .int m_hi, .int m_th, .int (m_po + 1), .int m_ba, .int m_en, .int 0, .ref m_nu, .ref m_ca, .ref m_ha, .int m_hs, .ref m_co]) hx hb hts i_X6 tyX6 tyX6_ok nmX6 hown hK w h_m rfl 12 (by decide) (hts _ m_2) rfl rfl rfl (Nat.le_of_ble_eq_true rfl) rfl dX6_readsStatement_49 (fun H locs w h_m => ?_)
    have h_m_el := h_m_el.upw h_m (wi.ne h_m_el ho3 (by intro h; cases h))
    have h_m_nu := h_m_nu.upw h_m (wi.ne h_m_nu ho3 (by intro h; cases h))
    have hk := hk.upw h_m (fun q h => h.1)
    refine lv_iload_n hx hb dX6_readsStatement_52 rfl (lv_at hl 0 rfl) ?_
    refine lv_bipush (v := 112) hx hb dX6_readsStatement_53 (by decide) ?_
    refine lv_icmp_ne (tgt := 99) hx hb dX6_readsStatement_55 (by decide) (fun c => absurd c2 c) (fun _ => ?_)
    refine lv_aload_n hx hb dX6_readsStatement_58 rfl (lv_at hl 1 rfl) ?_
    refine w_finj (w_runV (rm := ({ frames := 2, cells := 0, slots := 0, locals := 45 } : Room)) (As := []) (rest := []) (n := 0) hx hb hml hts hown hK w (c_X6_readsDigit l D cI cP cS cL L _ m m_ss m_im m_re m_sa m_ke m_so m_si m_el m_kd m_kt m_hi m_th (m_po + 1) m_ba m_en 0 m_nu m_ca m_ha m_hs m_co m_el_f m_nu_f h_m h_m_el h_m_nu hpp hba hen (by first | decide | omega) ne_m_el_m_nu) gX6_readsStatement_X6_readsDigit rfl rfl rfl (by decide +kernel) ⟨(Nat.le_of_ble_eq_true rfl), (Nat.le_of_ble_eq_true rfl)⟩ h_m rfl rfl hl.1 rfl (Nat.le_of_ble_eq_true rfl) dX6_readsStatement_59 ⟨(Nat.le_of_ble_eq_true rfl), (Nat.le_of_ble_eq_true rfl)⟩) w hA (fun r9 F1 H locs hp w => ?_)
    obtain ⟨x59, hx59, e59_0, e59_1, e59_2, e59_3, hr9, hw0, hw1, hk9⟩ := hp
    subst hr9
    have hq := hq.trans (w_bnd hx59)
    have h_m_el := h_m_el.keep hk9 ⟨(wi.ne h_m_el h_m (by intro h; cases h)), ne_m_el_m_nu, trivial⟩
    have h_m := h_m.new hw0
    have h_m_nu := h_m_nu.new hw1
    have hk := hk.call hk9 (fun q h => ⟨h.1, h.2.1, trivial⟩)
    refine lv_if_eq (tgt := 97) hx hb dX6_readsStatement_62 (by decide) (fun c4 => ?_) (fun c4 => ?_)
    · skip
      have hq := hq.trans (if_pos c4)
      refine lv_iconst (v := 0) hx hb dX6_readsStatement_97 (by decide) ?_
      exact w_zret hx hb hr hlocks w rfl ⟨rfl, _, hq.symm, (by dsimp only; omega), (by first | exact Or.inl rfl | exact Or.inr (by dsimp only; omega) | exact Or.inr (by have := e148_2; dsimp only; omega)), (by dsimp only; omega), rfl, h_m.2, h_m_nu.2, hk⟩ (Nat.le_refl _) (Nat.le_refl _) dX6_readsStatement_98
    · skip
      have hq := hq.trans (if_neg c4)
      have ht62 : x59.2.2.1.toInt = 1 := e59_3.resolve_left c4
      refine lv_aload_n hx hb dX6_readsStatement_65 rfl (lv_at hl 1 rfl) ?_
      refine lv_bipush (v := 32) hx hb dX6_readsStatement_66 (by decide) ?_
      refine w_finj (w_runV (rm := ({ frames := 1, cells := 0, slots := 0, locals := 20 } : Room)) (As := [.int 32]) (rest := []) (n := 1) hx hb hml hts hown hK w (c_X6_takes l D cI cP cS cL L _ m 32 m_ss m_im m_re m_sa m_ke m_so m_si m_el m_kd m_kt m_hi m_th x59.2.1 m_ba m_en x59.2.2.1 m_nu m_ca m_ha m_hs m_co m_el_f h_m h_m_el e59_0 hba hen (by decide)) gX6_readsStatement_X6_takes rfl rfl rfl (by decide +kernel) ⟨(Nat.le_of_ble_eq_true rfl), (Nat.le_of_ble_eq_true rfl)⟩ h_m rfl rfl hl.1 rfl (Nat.le_of_ble_eq_true rfl) dX6_readsStatement_68 ⟨(Nat.le_of_ble_eq_true rfl), (Nat.le_of_ble_eq_true rfl)⟩) w hA (fun r9 F1 H locs hp w => ?_)
      obtain ⟨x68, hx68, e68_0, e68_1, e68_2, hr9, hw0, hk9⟩ := hp
      subst hr9
      have hq := hq.trans (w_bnd hx68)
      have h_m_el := h_m_el.keep hk9 ⟨(wi.ne h_m_el h_m (by intro h; cases h)), trivial⟩
      have h_m_nu := h_m_nu.keep hk9 ⟨(wi.ne h_m_nu h_m (by intro h; cases h)), trivial⟩
      have h_m := h_m.new hw0
      have hk := hk.call hk9 (fun q h => ⟨h.1, trivial⟩)
      refine lv_if_eq (tgt := 97) hx hb dX6_readsStatement_71 (by decide) (fun c5 => ?_) (fun c5 => ?_)
      · skip
        have hq := hq.trans (if_pos c5)
        refine lv_iconst (v := 0) hx hb dX6_readsStatement_97 (by decide) ?_
        exact w_zret hx hb hr hlocks w rfl ⟨rfl, _, hq.symm, (by dsimp only; omega), (by first | exact Or.inl rfl | exact Or.inr (by dsimp only; omega) | exact Or.inr (by have := e148_2; dsimp only; omega)), (by dsimp only; omega), rfl, h_m.2, h_m_nu.2, hk⟩ (Nat.le_refl _) (Nat.le_refl _) dX6_readsStatement_98
      · skip
        have hq := hq.trans (if_neg c5)
        refine lv_aload_n hx hb dX6_readsStatement_74 rfl (lv_at hl 1 rfl) ?_
        refine w_finj (w_runV (rm := ({ frames := 2, cells := 0, slots := 0, locals := 45 } : Room)) (As := []) (rest := []) (n := 0) hx hb hml hts hown hK w (c_X6_readsDigit l D cI cP cS cL L _ m m_ss m_im m_re m_sa m_ke m_so m_si m_el m_kd m_kt m_hi m_th x68.2 m_ba m_en x59.2.2.1 m_nu m_ca m_ha m_hs m_co m_el_f x59.2.2.2 h_m h_m_el h_m_nu e68_0 hba hen (by first | decide | omega) ne_m_el_m_nu) gX6_readsStatement_X6_readsDigit rfl rfl rfl (by decide +kernel) ⟨(Nat.le_of_ble_eq_true rfl), (Nat.le_of_ble_eq_true rfl)⟩ h_m rfl rfl hl.1 rfl (Nat.le_of_ble_eq_true rfl) dX6_readsStatement_75 ⟨(Nat.le_of_ble_eq_true rfl), (Nat.le_of_ble_eq_true rfl)⟩) w hA (fun r9 F1 H locs hp w => ?_)
        obtain ⟨x75, hx75, e75_0, e75_1, e75_2, e75_3, hr9, hw0, hw1, hk9⟩ := hp
        subst hr9
        have hq := hq.trans (w_bnd hx75)
        have h_m_el := h_m_el.keep hk9 ⟨(wi.ne h_m_el h_m (by intro h; cases h)), ne_m_el_m_nu, trivial⟩
        have h_m := h_m.new hw0
        have h_m_nu := h_m_nu.new hw1
        have hk := hk.call hk9 (fun q h => ⟨h.1, h.2.1, trivial⟩)
        refine lv_if_eq (tgt := 97) hx hb dX6_readsStatement_78 (by decide) (fun c6 => ?_) (fun c6 => ?_)
        · skip
          have hq := hq.trans (if_pos c6)
          refine lv_iconst (v := 0) hx hb dX6_readsStatement_97 (by decide) ?_
          exact w_zret hx hb hr hlocks w rfl ⟨rfl, _, hq.symm, (by dsimp only; omega), (by first | exact Or.inl rfl | exact Or.inr (by dsimp only; omega) | exact Or.inr (by have := e148_2; dsimp only; omega)), (by dsimp only; omega), rfl, h_m.2, h_m_nu.2, hk⟩ (Nat.le_refl _) (Nat.le_refl _) dX6_readsStatement_98
        · skip
          have hq := hq.trans (if_neg c6)
          have ht78 : x75.2.2.1.toInt = x59.2.2.1.toInt + 1 := e75_3.resolve_left c6
          refine lv_aload_n hx hb dX6_readsStatement_81 rfl (lv_at hl 1 rfl) ?_
          refine lv_bipush (v := 32) hx hb dX6_readsStatement_82 (by decide) ?_
          refine w_finj (w_runV (rm := ({ frames := 1, cells := 0, slots := 0, locals := 20 } : Room)) (As := [.int 32]) (rest := []) (n := 1) hx hb hml hts hown hK w (c_X6_takes l D cI cP cS cL L _ m 32 m_ss m_im m_re m_sa m_ke m_so m_si m_el m_kd m_kt m_hi m_th x75.2.1 m_ba m_en x75.2.2.1 m_nu m_ca m_ha m_hs m_co m_el_f h_m h_m_el e75_0 hba hen (by decide)) gX6_readsStatement_X6_takes rfl rfl rfl (by decide +kernel) ⟨(Nat.le_of_ble_eq_true rfl), (Nat.le_of_ble_eq_true rfl)⟩ h_m rfl rfl hl.1 rfl (Nat.le_of_ble_eq_true rfl) dX6_readsStatement_84 ⟨(Nat.le_of_ble_eq_true rfl), (Nat.le_of_ble_eq_true rfl)⟩) w hA (fun r9 F1 H locs hp w => ?_)
          obtain ⟨x84, hx84, e84_0, e84_1, e84_2, hr9, hw0, hk9⟩ := hp
          subst hr9
          have hq := hq.trans (w_bnd hx84)
          have h_m_el := h_m_el.keep hk9 ⟨(wi.ne h_m_el h_m (by intro h; cases h)), trivial⟩
          have h_m_nu := h_m_nu.keep hk9 ⟨(wi.ne h_m_nu h_m (by intro h; cases h)), trivial⟩
          have h_m := h_m.new hw0
          have hk := hk.call hk9 (fun q h => ⟨h.1, trivial⟩)
          refine lv_if_eq (tgt := 97) hx hb dX6_readsStatement_87 (by decide) (fun c7 => ?_) (fun c7 => ?_)
          · skip
            have hq := hq.trans (if_pos c7)
            refine lv_iconst (v := 0) hx hb dX6_readsStatement_97 (by decide) ?_
            exact w_zret hx hb hr hlocks w rfl ⟨rfl, _, hq.symm, (by dsimp only; omega), (by first | exact Or.inl rfl | exact Or.inr (by dsimp only; omega) | exact Or.inr (by have := e148_2; dsimp only; omega)), (by dsimp only; omega), rfl, h_m.2, h_m_nu.2, hk⟩ (Nat.le_refl _) (Nat.le_refl _) dX6_readsStatement_98
          · skip
            have hq := hq.trans (if_neg c7)
            refine lv_aload_n hx hb dX6_readsStatement_90 rfl (lv_at hl 1 rfl) ?_
            refine w_finj (w_runV (rm := ({ frames := 3, cells := 0, slots := 0, locals := 65 } : Room)) (As := []) (rest := []) (n := 0) hx hb hml hts hown hK w (c_X6_readsNumber l D cI cP cS cL L _ m m_ss m_im m_re m_sa m_ke m_so m_si m_el m_kd m_kt m_hi m_th x84.2 m_ba m_en x75.2.2.1 m_nu m_ca m_ha m_hs m_co m_el_f x75.2.2.2 h_m h_m_el h_m_nu e84_0 hba hen (by first | decide | omega) ne_m_el_m_nu) gX6_readsStatement_X6_readsNumber rfl rfl rfl (by decide +kernel) ⟨(Nat.le_of_ble_eq_true rfl), (Nat.le_of_ble_eq_true rfl)⟩ h_m rfl rfl hl.1 rfl (Nat.le_of_ble_eq_true rfl) dX6_readsStatement_91 ⟨(Nat.le_of_ble_eq_true rfl), (Nat.le_of_ble_eq_true rfl)⟩) w hA (fun r9 F1 H locs hp w => ?_)
            obtain ⟨x91, hx91, e91_0, e91_1, e91_2, e91_3, hr9, hw0, hw1, hk9⟩ := hp
            subst hr9
            have hq := hq.trans (w_bnd hx91)
            have h_m_el := h_m_el.keep hk9 ⟨(wi.ne h_m_el h_m (by intro h; cases h)), ne_m_el_m_nu, trivial⟩
            have h_m := h_m.new hw0
            have h_m_nu := h_m_nu.new hw1
            have hk := hk.call hk9 (fun q h => ⟨h.1, h.2.1, trivial⟩)
            refine lv_if_ne (tgt := 99) hx hb dX6_readsStatement_94 (by decide) (fun c8 => ?_) (fun c8 => ?_)
            · skip
              have hq := hq.trans (if_neg c8)
              refine lv_iload_n hx hb dX6_readsStatement_99 rfl (lv_at hl 0 rfl) ?_
              refine lv_bipush (v := 103) hx hb dX6_readsStatement_100 (by decide) ?_
              refine lv_icmp_ne (tgt := 130) hx hb dX6_readsStatement_102 (by decide) (fun _ => ?_) (fun c => absurd (c2.symm.trans c) (by decide))
              refine lv_iload_n hx hb dX6_readsStatement_130 rfl (lv_at hl 0 rfl) ?_
              refine lv_bipush (v := 104) hx hb dX6_readsStatement_131 (by decide) ?_
              refine lv_icmp_ne (tgt := 145) hx hb dX6_readsStatement_133 (by decide) (fun _ => ?_) (fun c => absurd (c2.symm.trans c) (by decide))
              refine lv_aload_n hx hb dX6_readsStatement_145 rfl (lv_at hl 1 rfl) ?_
              refine lv_bipush (v := 59) hx hb dX6_readsStatement_146 (by decide) ?_
              refine w_finj (w_runV (rm := ({ frames := 1, cells := 0, slots := 0, locals := 20 } : Room)) (As := [.int 59]) (rest := []) (n := 1) hx hb hml hts hown hK w (c_X6_takes l D cI cP cS cL L _ m 59 m_ss m_im m_re m_sa m_ke m_so m_si m_el m_kd m_kt m_hi m_th x91.2.1 m_ba m_en x91.2.2.1 m_nu m_ca m_ha m_hs m_co m_el_f h_m h_m_el e91_0 hba hen (by decide)) gX6_readsStatement_X6_takes rfl rfl rfl (by decide +kernel) ⟨(Nat.le_of_ble_eq_true rfl), (Nat.le_of_ble_eq_true rfl)⟩ h_m rfl rfl hl.1 rfl (Nat.le_of_ble_eq_true rfl) dX6_readsStatement_148 ⟨(Nat.le_of_ble_eq_true rfl), (Nat.le_of_ble_eq_true rfl)⟩) w hA (fun r9 F1 H locs hp w => ?_)
              obtain ⟨x148, hx148, e148_0, e148_1, e148_2, hr9, hw0, hk9⟩ := hp
              subst hr9
              have hq := hq.trans (w_bnd hx148)
              have h_m_el := h_m_el.keep hk9 ⟨(wi.ne h_m_el h_m (by intro h; cases h)), trivial⟩
              have h_m_nu := h_m_nu.keep hk9 ⟨(wi.ne h_m_nu h_m (by intro h; cases h)), trivial⟩
              have h_m := h_m.new hw0
              have hk := hk.call hk9 (fun q h => ⟨h.1, trivial⟩)
              exact w_zret hx hb hr hlocks w (w_nb (by rw [hx148]; exact z_X6_takes _ _ _ _ _)) ⟨rfl, _, hq.symm, (by dsimp only; omega), (by first | exact Or.inl rfl | exact Or.inr (by dsimp only; omega) | exact Or.inr (by have := e148_2; dsimp only; omega)), (by dsimp only; omega), rfl, h_m.2, h_m_nu.2, hk⟩ (Nat.le_refl _) (Nat.le_refl _) dX6_readsStatement_151
            · skip
              have hq := hq.trans (if_pos c8)
              refine lv_iconst (v := 0) hx hb dX6_readsStatement_97 (by decide) ?_
              exact w_zret hx hb hr hlocks w rfl ⟨rfl, _, hq.symm, (by dsimp only; omega), (by first | exact Or.inl rfl | exact Or.inr (by dsimp only; omega) | exact Or.inr (by have := e148_2; dsimp only; omega)), (by dsimp only; omega), rfl, h_m.2, h_m_nu.2, hk⟩ (Nat.le_refl _) (Nat.le_refl _) dX6_readsStatement_98
  · skip
    have hq := hq.trans (if_neg c2)
    refine lv_iload_n hx hb dX6_readsStatement_16 rfl (lv_at hl 0 rfl) ?_
    refine lv_bipush (v := 103) hx hb dX6_readsStatement_17 (by decide) ?_
    refine lv_icmp_eq (tgt := 42) hx hb dX6_readsStatement_19 (by decide) (fun c9 => ?_) (fun c9 => ?_)
    · skip
      have hq := hq.trans (if_pos c9)
      have hpp : 0 ≤ (m_po + 1).toInt := (po_inc hpo hen (here_lt c9 (by decide))).1
      have hpq : (m_po + 1).toInt = m_po.toInt + 1 := (po_inc hpo hen (here_lt c9 (by decide))).2.1
      refine lv_aload_n hx hb dX6_readsStatement_42 rfl (lv_at hl 1 rfl) ?_
      refine lv_dup hx hb dX6_readsStatement_43 rfl ?_
      refine w_get (v := .int m_po) hx hb hts i_X6 hown hK w h_m rfl 12 (by decide) (hts _ m_2) rfl dX6_readsStatement_44 ?_
      refine lv_iconst (v := 1) hx hb dX6_readsStatement_47 (by decide) ?_
      refine lv_iadd hx hb dX6_readsStatement_48 ?_
      have ho10 := h_m
      refine w_put (fs2 := [.ref m_ss, .ref m_im, .ref m_re, .ref m_sa, .ref m_ke, .ref m_so, .ref m_si, .ref m_el, .ref m_kd, .ref m_kt, .int m_hi, .int m_th, .int (m_po + 1), .int m_ba, .int m_en, .int 0, .ref m_nu, .ref m_ca, .ref m_ha, .int m_hs, .ref m_co]) hx hb hts i_X6 tyX6 tyX6_ok nmX6 hown hK w h_m rfl 12 (by decide) (hts _ m_2) rfl rfl rfl (Nat.le_of_ble_eq_true rfl) rfl dX6_readsStatement_49 (fun H locs w h_m => ?_)
      have h_m_el := h_m_el.upw h_m (wi.ne h_m_el ho10 (by intro h; cases h))
      have h_m_nu := h_m_nu.upw h_m (wi.ne h_m_nu ho10 (by intro h; cases h))
      have hk := hk.upw h_m (fun q h => h.1)
      refine lv_iload_n hx hb dX6_readsStatement_52 rfl (lv_at hl 0 rfl) ?_
      refine lv_bipush (v := 112) hx hb dX6_readsStatement_53 (by decide) ?_
      refine lv_icmp_ne (tgt := 99) hx hb dX6_readsStatement_55 (by decide) (fun _ => ?_) (fun c => absurd (c9.symm.trans c) (by decide))
      refine lv_iload_n hx hb dX6_readsStatement_99 rfl (lv_at hl 0 rfl) ?_
      refine lv_bipush (v := 103) hx hb dX6_readsStatement_100 (by decide) ?_
      refine lv_icmp_ne (tgt := 130) hx hb dX6_readsStatement_102 (by decide) (fun c => absurd c9 c) (fun _ => ?_)
      refine lv_aload_n hx hb dX6_readsStatement_105 rfl (lv_at hl 1 rfl) ?_
      refine w_finj (w_runV (rm := ({ frames := 3, cells := 0, slots := 0, locals := 65 } : Room)) (As := []) (rest := []) (n := 0) hx hb hml hts hown hK w (c_X6_readsNumber l D cI cP cS cL L _ m m_ss m_im m_re m_sa m_ke m_so m_si m_el m_kd m_kt m_hi m_th (m_po + 1) m_ba m_en 0 m_nu m_ca m_ha m_hs m_co m_el_f m_nu_f h_m h_m_el h_m_nu hpp hba hen (by first | decide | omega) ne_m_el_m_nu) gX6_readsStatement_X6_readsNumber rfl rfl rfl (by decide +kernel) ⟨(Nat.le_of_ble_eq_true rfl), (Nat.le_of_ble_eq_true rfl)⟩ h_m rfl rfl hl.1 rfl (Nat.le_of_ble_eq_true rfl) dX6_readsStatement_106 ⟨(Nat.le_of_ble_eq_true rfl), (Nat.le_of_ble_eq_true rfl)⟩) w hA (fun r9 F1 H locs hp w => ?_)
      obtain ⟨x106, hx106, e106_0, e106_1, e106_2, e106_3, hr9, hw0, hw1, hk9⟩ := hp
      subst hr9
      have hq := hq.trans (w_bnd hx106)
      have h_m_el := h_m_el.keep hk9 ⟨(wi.ne h_m_el h_m (by intro h; cases h)), ne_m_el_m_nu, trivial⟩
      have h_m := h_m.new hw0
      have h_m_nu := h_m_nu.new hw1
      have hk := hk.call hk9 (fun q h => ⟨h.1, h.2.1, trivial⟩)
      refine lv_if_eq (tgt := 128) hx hb dX6_readsStatement_109 (by decide) (fun c11 => ?_) (fun c11 => ?_)
      · skip
        have hq := hq.trans (if_pos c11)
        refine lv_iconst (v := 0) hx hb dX6_readsStatement_128 (by decide) ?_
        exact w_zret hx hb hr hlocks w rfl ⟨rfl, _, hq.symm, (by dsimp only; omega), (by first | exact Or.inl rfl | exact Or.inr (by dsimp only; omega) | exact Or.inr (by have := e148_2; dsimp only; omega)), (by dsimp only; omega), rfl, h_m.2, h_m_nu.2, hk⟩ (Nat.le_refl _) (Nat.le_refl _) dX6_readsStatement_129
      · skip
        have hq := hq.trans (if_neg c11)
        have ht109 : x106.2.2.1.toInt = 1 := e106_3.resolve_left c11
        refine lv_aload_n hx hb dX6_readsStatement_112 rfl (lv_at hl 1 rfl) ?_
        refine lv_bipush (v := 47) hx hb dX6_readsStatement_113 (by decide) ?_
        refine w_finj (w_runV (rm := ({ frames := 1, cells := 0, slots := 0, locals := 20 } : Room)) (As := [.int 47]) (rest := []) (n := 1) hx hb hml hts hown hK w (c_X6_takes l D cI cP cS cL L _ m 47 m_ss m_im m_re m_sa m_ke m_so m_si m_el m_kd m_kt m_hi m_th x106.2.1 m_ba m_en x106.2.2.1 m_nu m_ca m_ha m_hs m_co m_el_f h_m h_m_el e106_0 hba hen (by decide)) gX6_readsStatement_X6_takes rfl rfl rfl (by decide +kernel) ⟨(Nat.le_of_ble_eq_true rfl), (Nat.le_of_ble_eq_true rfl)⟩ h_m rfl rfl hl.1 rfl (Nat.le_of_ble_eq_true rfl) dX6_readsStatement_115 ⟨(Nat.le_of_ble_eq_true rfl), (Nat.le_of_ble_eq_true rfl)⟩) w hA (fun r9 F1 H locs hp w => ?_)
        obtain ⟨x115, hx115, e115_0, e115_1, e115_2, hr9, hw0, hk9⟩ := hp
        subst hr9
        have hq := hq.trans (w_bnd hx115)
        have h_m_el := h_m_el.keep hk9 ⟨(wi.ne h_m_el h_m (by intro h; cases h)), trivial⟩
        have h_m_nu := h_m_nu.keep hk9 ⟨(wi.ne h_m_nu h_m (by intro h; cases h)), trivial⟩
        have h_m := h_m.new hw0
        have hk := hk.call hk9 (fun q h => ⟨h.1, trivial⟩)
        refine lv_if_eq (tgt := 128) hx hb dX6_readsStatement_118 (by decide) (fun c12 => ?_) (fun c12 => ?_)
        · skip
          have hq := hq.trans (if_pos c12)
          refine lv_iconst (v := 0) hx hb dX6_readsStatement_128 (by decide) ?_
          exact w_zret hx hb hr hlocks w rfl ⟨rfl, _, hq.symm, (by dsimp only; omega), (by first | exact Or.inl rfl | exact Or.inr (by dsimp only; omega) | exact Or.inr (by have := e148_2; dsimp only; omega)), (by dsimp only; omega), rfl, h_m.2, h_m_nu.2, hk⟩ (Nat.le_refl _) (Nat.le_refl _) dX6_readsStatement_129
        · skip
          have hq := hq.trans (if_neg c12)
          refine lv_aload_n hx hb dX6_readsStatement_121 rfl (lv_at hl 1 rfl) ?_
          refine w_finj (w_runV (rm := ({ frames := 3, cells := 0, slots := 0, locals := 65 } : Room)) (As := []) (rest := []) (n := 0) hx hb hml hts hown hK w (c_X6_readsNumber l D cI cP cS cL L _ m m_ss m_im m_re m_sa m_ke m_so m_si m_el m_kd m_kt m_hi m_th x115.2 m_ba m_en x106.2.2.1 m_nu m_ca m_ha m_hs m_co m_el_f x106.2.2.2 h_m h_m_el h_m_nu e115_0 hba hen (by first | decide | omega) ne_m_el_m_nu) gX6_readsStatement_X6_readsNumber rfl rfl rfl (by decide +kernel) ⟨(Nat.le_of_ble_eq_true rfl), (Nat.le_of_ble_eq_true rfl)⟩ h_m rfl rfl hl.1 rfl (Nat.le_of_ble_eq_true rfl) dX6_readsStatement_122 ⟨(Nat.le_of_ble_eq_true rfl), (Nat.le_of_ble_eq_true rfl)⟩) w hA (fun r9 F1 H locs hp w => ?_)
          obtain ⟨x122, hx122, e122_0, e122_1, e122_2, e122_3, hr9, hw0, hw1, hk9⟩ := hp
          subst hr9
          have hq := hq.trans (w_bnd hx122)
          have h_m_el := h_m_el.keep hk9 ⟨(wi.ne h_m_el h_m (by intro h; cases h)), ne_m_el_m_nu, trivial⟩
          have h_m := h_m.new hw0
          have h_m_nu := h_m_nu.new hw1
          have hk := hk.call hk9 (fun q h => ⟨h.1, h.2.1, trivial⟩)
          refine lv_if_ne (tgt := 130) hx hb dX6_readsStatement_125 (by decide) (fun c13 => ?_) (fun c13 => ?_)
          · skip
            have hq := hq.trans (if_neg c13)
            refine lv_iload_n hx hb dX6_readsStatement_130 rfl (lv_at hl 0 rfl) ?_
            refine lv_bipush (v := 104) hx hb dX6_readsStatement_131 (by decide) ?_
            refine lv_icmp_ne (tgt := 145) hx hb dX6_readsStatement_133 (by decide) (fun _ => ?_) (fun c => absurd (c9.symm.trans c) (by decide))
            refine lv_aload_n hx hb dX6_readsStatement_145 rfl (lv_at hl 1 rfl) ?_
            refine lv_bipush (v := 59) hx hb dX6_readsStatement_146 (by decide) ?_
            refine w_finj (w_runV (rm := ({ frames := 1, cells := 0, slots := 0, locals := 20 } : Room)) (As := [.int 59]) (rest := []) (n := 1) hx hb hml hts hown hK w (c_X6_takes l D cI cP cS cL L _ m 59 m_ss m_im m_re m_sa m_ke m_so m_si m_el m_kd m_kt m_hi m_th x122.2.1 m_ba m_en x122.2.2.1 m_nu m_ca m_ha m_hs m_co m_el_f h_m h_m_el e122_0 hba hen (by decide)) gX6_readsStatement_X6_takes rfl rfl rfl (by decide +kernel) ⟨(Nat.le_of_ble_eq_true rfl), (Nat.le_of_ble_eq_true rfl)⟩ h_m rfl rfl hl.1 rfl (Nat.le_of_ble_eq_true rfl) dX6_readsStatement_148 ⟨(Nat.le_of_ble_eq_true rfl), (Nat.le_of_ble_eq_true rfl)⟩) w hA (fun r9 F1 H locs hp w => ?_)
            obtain ⟨x148, hx148, e148_0, e148_1, e148_2, hr9, hw0, hk9⟩ := hp
            subst hr9
            have hq := hq.trans (w_bnd hx148)
            have h_m_el := h_m_el.keep hk9 ⟨(wi.ne h_m_el h_m (by intro h; cases h)), trivial⟩
            have h_m_nu := h_m_nu.keep hk9 ⟨(wi.ne h_m_nu h_m (by intro h; cases h)), trivial⟩
            have h_m := h_m.new hw0
            have hk := hk.call hk9 (fun q h => ⟨h.1, trivial⟩)
            exact w_zret hx hb hr hlocks w (w_nb (by rw [hx148]; exact z_X6_takes _ _ _ _ _)) ⟨rfl, _, hq.symm, (by dsimp only; omega), (by first | exact Or.inl rfl | exact Or.inr (by dsimp only; omega) | exact Or.inr (by have := e148_2; dsimp only; omega)), (by dsimp only; omega), rfl, h_m.2, h_m_nu.2, hk⟩ (Nat.le_refl _) (Nat.le_refl _) dX6_readsStatement_151
          · skip
            have hq := hq.trans (if_pos c13)
            refine lv_iconst (v := 0) hx hb dX6_readsStatement_128 (by decide) ?_
            exact w_zret hx hb hr hlocks w rfl ⟨rfl, _, hq.symm, (by dsimp only; omega), (by first | exact Or.inl rfl | exact Or.inr (by dsimp only; omega) | exact Or.inr (by have := e148_2; dsimp only; omega)), (by dsimp only; omega), rfl, h_m.2, h_m_nu.2, hk⟩ (Nat.le_refl _) (Nat.le_refl _) dX6_readsStatement_129
    · skip
      have hq := hq.trans (if_neg c9)
      refine lv_iload_n hx hb dX6_readsStatement_22 rfl (lv_at hl 0 rfl) ?_
      refine lv_bipush (v := 104) hx hb dX6_readsStatement_23 (by decide) ?_
      refine lv_icmp_eq (tgt := 42) hx hb dX6_readsStatement_25 (by decide) (fun c14 => ?_) (fun c14 => ?_)
      · skip
        have hq := hq.trans (if_pos c14)
        have hpp : 0 ≤ (m_po + 1).toInt := (po_inc hpo hen (here_lt c14 (by decide))).1
        have hpq : (m_po + 1).toInt = m_po.toInt + 1 := (po_inc hpo hen (here_lt c14 (by decide))).2.1
        refine lv_aload_n hx hb dX6_readsStatement_42 rfl (lv_at hl 1 rfl) ?_
        refine lv_dup hx hb dX6_readsStatement_43 rfl ?_
        refine w_get (v := .int m_po) hx hb hts i_X6 hown hK w h_m rfl 12 (by decide) (hts _ m_2) rfl dX6_readsStatement_44 ?_
        refine lv_iconst (v := 1) hx hb dX6_readsStatement_47 (by decide) ?_
        refine lv_iadd hx hb dX6_readsStatement_48 ?_
        have ho15 := h_m
        refine w_put (fs2 := [.ref m_ss, .ref m_im, .ref m_re, .ref m_sa, .ref m_ke, .ref m_so, .ref m_si, .ref m_el, .ref m_kd, .ref m_kt, .int m_hi, .int m_th, .int (m_po + 1), .int m_ba, .int m_en, .int 0, .ref m_nu, .ref m_ca, .ref m_ha, .int m_hs, .ref m_co]) hx hb hts i_X6 tyX6 tyX6_ok nmX6 hown hK w h_m rfl 12 (by decide) (hts _ m_2) rfl rfl rfl (Nat.le_of_ble_eq_true rfl) rfl dX6_readsStatement_49 (fun H locs w h_m => ?_)
        have h_m_el := h_m_el.upw h_m (wi.ne h_m_el ho15 (by intro h; cases h))
        have h_m_nu := h_m_nu.upw h_m (wi.ne h_m_nu ho15 (by intro h; cases h))
        have hk := hk.upw h_m (fun q h => h.1)
        refine lv_iload_n hx hb dX6_readsStatement_52 rfl (lv_at hl 0 rfl) ?_
        refine lv_bipush (v := 112) hx hb dX6_readsStatement_53 (by decide) ?_
        refine lv_icmp_ne (tgt := 99) hx hb dX6_readsStatement_55 (by decide) (fun _ => ?_) (fun c => absurd (c14.symm.trans c) (by decide))
        refine lv_iload_n hx hb dX6_readsStatement_99 rfl (lv_at hl 0 rfl) ?_
        refine lv_bipush (v := 103) hx hb dX6_readsStatement_100 (by decide) ?_
        refine lv_icmp_ne (tgt := 130) hx hb dX6_readsStatement_102 (by decide) (fun _ => ?_) (fun c => absurd (c14.symm.trans c) (by decide))
        refine lv_iload_n hx hb dX6_readsStatement_130 rfl (lv_at hl 0 rfl) ?_
        refine lv_bipush (v := 104) hx hb dX6_readsStatement_131 (by decide) ?_
        refine lv_icmp_ne (tgt := 145) hx hb dX6_readsStatement_133 (by decide) (fun c => absurd c14 c) (fun _ => ?_)
        refine lv_aload_n hx hb dX6_readsStatement_136 rfl (lv_at hl 1 rfl) ?_
        refine w_finj (w_runV (rm := ({ frames := 3, cells := 0, slots := 0, locals := 65 } : Room)) (As := []) (rest := []) (n := 0) hx hb hml hts hown hK w (c_X6_readsNumber l D cI cP cS cL L _ m m_ss m_im m_re m_sa m_ke m_so m_si m_el m_kd m_kt m_hi m_th (m_po + 1) m_ba m_en 0 m_nu m_ca m_ha m_hs m_co m_el_f m_nu_f h_m h_m_el h_m_nu hpp hba hen (by first | decide | omega) ne_m_el_m_nu) gX6_readsStatement_X6_readsNumber rfl rfl rfl (by decide +kernel) ⟨(Nat.le_of_ble_eq_true rfl), (Nat.le_of_ble_eq_true rfl)⟩ h_m rfl rfl hl.1 rfl (Nat.le_of_ble_eq_true rfl) dX6_readsStatement_137 ⟨(Nat.le_of_ble_eq_true rfl), (Nat.le_of_ble_eq_true rfl)⟩) w hA (fun r9 F1 H locs hp w => ?_)
        obtain ⟨x137, hx137, e137_0, e137_1, e137_2, e137_3, hr9, hw0, hw1, hk9⟩ := hp
        subst hr9
        have hq := hq.trans (w_bnd hx137)
        have h_m_el := h_m_el.keep hk9 ⟨(wi.ne h_m_el h_m (by intro h; cases h)), ne_m_el_m_nu, trivial⟩
        have h_m := h_m.new hw0
        have h_m_nu := h_m_nu.new hw1
        have hk := hk.call hk9 (fun q h => ⟨h.1, h.2.1, trivial⟩)
        refine lv_if_ne (tgt := 145) hx hb dX6_readsStatement_140 (by decide) (fun c16 => ?_) (fun c16 => ?_)
        · skip
          have hq := hq.trans (if_neg c16)
          refine lv_aload_n hx hb dX6_readsStatement_145 rfl (lv_at hl 1 rfl) ?_
          refine lv_bipush (v := 59) hx hb dX6_readsStatement_146 (by decide) ?_
          refine w_finj (w_runV (rm := ({ frames := 1, cells := 0, slots := 0, locals := 20 } : Room)) (As := [.int 59]) (rest := []) (n := 1) hx hb hml hts hown hK w (c_X6_takes l D cI cP cS cL L _ m 59 m_ss m_im m_re m_sa m_ke m_so m_si m_el m_kd m_kt m_hi m_th x137.2.1 m_ba m_en x137.2.2.1 m_nu m_ca m_ha m_hs m_co m_el_f h_m h_m_el e137_0 hba hen (by decide)) gX6_readsStatement_X6_takes rfl rfl rfl (by decide +kernel) ⟨(Nat.le_of_ble_eq_true rfl), (Nat.le_of_ble_eq_true rfl)⟩ h_m rfl rfl hl.1 rfl (Nat.le_of_ble_eq_true rfl) dX6_readsStatement_148 ⟨(Nat.le_of_ble_eq_true rfl), (Nat.le_of_ble_eq_true rfl)⟩) w hA (fun r9 F1 H locs hp w => ?_)
          obtain ⟨x148, hx148, e148_0, e148_1, e148_2, hr9, hw0, hk9⟩ := hp
          subst hr9
          have hq := hq.trans (w_bnd hx148)
          have h_m_el := h_m_el.keep hk9 ⟨(wi.ne h_m_el h_m (by intro h; cases h)), trivial⟩
          have h_m_nu := h_m_nu.keep hk9 ⟨(wi.ne h_m_nu h_m (by intro h; cases h)), trivial⟩
          have h_m := h_m.new hw0
          have hk := hk.call hk9 (fun q h => ⟨h.1, trivial⟩)
          exact w_zret hx hb hr hlocks w (w_nb (by rw [hx148]; exact z_X6_takes _ _ _ _ _)) ⟨rfl, _, hq.symm, (by dsimp only; omega), (by first | exact Or.inl rfl | exact Or.inr (by dsimp only; omega) | exact Or.inr (by have := e148_2; dsimp only; omega)), (by dsimp only; omega), rfl, h_m.2, h_m_nu.2, hk⟩ (Nat.le_refl _) (Nat.le_refl _) dX6_readsStatement_151
        · skip
          have hq := hq.trans (if_pos c16)
          refine lv_iconst (v := 0) hx hb dX6_readsStatement_143 (by decide) ?_
          exact w_zret hx hb hr hlocks w rfl ⟨rfl, _, hq.symm, (by dsimp only; omega), (by first | exact Or.inl rfl | exact Or.inr (by dsimp only; omega) | exact Or.inr (by have := e148_2; dsimp only; omega)), (by dsimp only; omega), rfl, h_m.2, h_m_nu.2, hk⟩ (Nat.le_refl _) (Nat.le_refl _) dX6_readsStatement_144
      · skip
        have hq := hq.trans (if_neg c14)
        refine lv_iload_n hx hb dX6_readsStatement_28 rfl (lv_at hl 0 rfl) ?_
        refine lv_bipush (v := 98) hx hb dX6_readsStatement_29 (by decide) ?_
        refine lv_icmp_eq (tgt := 42) hx hb dX6_readsStatement_31 (by decide) (fun c17 => ?_) (fun c17 => ?_)
        · skip
          have hq := hq.trans (if_pos c17)
          have hpp : 0 ≤ (m_po + 1).toInt := (po_inc hpo hen (here_lt c17 (by decide))).1
          have hpq : (m_po + 1).toInt = m_po.toInt + 1 := (po_inc hpo hen (here_lt c17 (by decide))).2.1
          refine lv_aload_n hx hb dX6_readsStatement_42 rfl (lv_at hl 1 rfl) ?_
          refine lv_dup hx hb dX6_readsStatement_43 rfl ?_
          refine w_get (v := .int m_po) hx hb hts i_X6 hown hK w h_m rfl 12 (by decide) (hts _ m_2) rfl dX6_readsStatement_44 ?_
          refine lv_iconst (v := 1) hx hb dX6_readsStatement_47 (by decide) ?_
          refine lv_iadd hx hb dX6_readsStatement_48 ?_
          have ho18 := h_m
          refine w_put (fs2 := [.ref m_ss, .ref m_im, .ref m_re, .ref m_sa, .ref m_ke, .ref m_so, .ref m_si, .ref m_el, .ref m_kd, .ref m_kt, .int m_hi, .int m_th, .int (m_po + 1), .int m_ba, .int m_en, .int 0, .ref m_nu, .ref m_ca, .ref m_ha, .int m_hs, .ref m_co]) hx hb hts i_X6 tyX6 tyX6_ok nmX6 hown hK w h_m rfl 12 (by decide) (hts _ m_2) rfl rfl rfl (Nat.le_of_ble_eq_true rfl) rfl dX6_readsStatement_49 (fun H locs w h_m => ?_)
          have h_m_el := h_m_el.upw h_m (wi.ne h_m_el ho18 (by intro h; cases h))
          have h_m_nu := h_m_nu.upw h_m (wi.ne h_m_nu ho18 (by intro h; cases h))
          have hk := hk.upw h_m (fun q h => h.1)
          refine lv_iload_n hx hb dX6_readsStatement_52 rfl (lv_at hl 0 rfl) ?_
          refine lv_bipush (v := 112) hx hb dX6_readsStatement_53 (by decide) ?_
          refine lv_icmp_ne (tgt := 99) hx hb dX6_readsStatement_55 (by decide) (fun _ => ?_) (fun c => absurd (c17.symm.trans c) (by decide))
          refine lv_iload_n hx hb dX6_readsStatement_99 rfl (lv_at hl 0 rfl) ?_
          refine lv_bipush (v := 103) hx hb dX6_readsStatement_100 (by decide) ?_
          refine lv_icmp_ne (tgt := 130) hx hb dX6_readsStatement_102 (by decide) (fun _ => ?_) (fun c => absurd (c17.symm.trans c) (by decide))
          refine lv_iload_n hx hb dX6_readsStatement_130 rfl (lv_at hl 0 rfl) ?_
          refine lv_bipush (v := 104) hx hb dX6_readsStatement_131 (by decide) ?_
          refine lv_icmp_ne (tgt := 145) hx hb dX6_readsStatement_133 (by decide) (fun _ => ?_) (fun c => absurd (c17.symm.trans c) (by decide))
          refine lv_aload_n hx hb dX6_readsStatement_145 rfl (lv_at hl 1 rfl) ?_
          refine lv_bipush (v := 59) hx hb dX6_readsStatement_146 (by decide) ?_
          refine w_finj (w_runV (rm := ({ frames := 1, cells := 0, slots := 0, locals := 20 } : Room)) (As := [.int 59]) (rest := []) (n := 1) hx hb hml hts hown hK w (c_X6_takes l D cI cP cS cL L _ m 59 m_ss m_im m_re m_sa m_ke m_so m_si m_el m_kd m_kt m_hi m_th (m_po + 1) m_ba m_en 0 m_nu m_ca m_ha m_hs m_co m_el_f h_m h_m_el hpp hba hen (by decide)) gX6_readsStatement_X6_takes rfl rfl rfl (by decide +kernel) ⟨(Nat.le_of_ble_eq_true rfl), (Nat.le_of_ble_eq_true rfl)⟩ h_m rfl rfl hl.1 rfl (Nat.le_of_ble_eq_true rfl) dX6_readsStatement_148 ⟨(Nat.le_of_ble_eq_true rfl), (Nat.le_of_ble_eq_true rfl)⟩) w hA (fun r9 F1 H locs hp w => ?_)
          obtain ⟨x148, hx148, e148_0, e148_1, e148_2, hr9, hw0, hk9⟩ := hp
          subst hr9
          have hq := hq.trans (w_bnd hx148)
          have h_m_el := h_m_el.keep hk9 ⟨(wi.ne h_m_el h_m (by intro h; cases h)), trivial⟩
          have h_m_nu := h_m_nu.keep hk9 ⟨(wi.ne h_m_nu h_m (by intro h; cases h)), trivial⟩
          have h_m := h_m.new hw0
          have hk := hk.call hk9 (fun q h => ⟨h.1, trivial⟩)
          exact w_zret hx hb hr hlocks w (w_nb (by rw [hx148]; exact z_X6_takes _ _ _ _ _)) ⟨rfl, _, hq.symm, (by dsimp only; omega), (by first | exact Or.inl rfl | exact Or.inr (by dsimp only; omega) | exact Or.inr (by have := e148_2; dsimp only; omega)), (by dsimp only; omega), rfl, h_m.2, h_m_nu.2, hk⟩ (Nat.le_refl _) (Nat.le_refl _) dX6_readsStatement_151
        · skip
          have hq := hq.trans (if_neg c17)
          refine lv_iload_n hx hb dX6_readsStatement_34 rfl (lv_at hl 0 rfl) ?_
          refine lv_bipush (v := 110) hx hb dX6_readsStatement_35 (by decide) ?_
          refine lv_icmp_eq (tgt := 42) hx hb dX6_readsStatement_37 (by decide) (fun c19 => ?_) (fun c19 => ?_)
          · skip
            have hq := hq.trans (if_pos c19)
            have hpp : 0 ≤ (m_po + 1).toInt := (po_inc hpo hen (here_lt c19 (by decide))).1
            have hpq : (m_po + 1).toInt = m_po.toInt + 1 := (po_inc hpo hen (here_lt c19 (by decide))).2.1
            refine lv_aload_n hx hb dX6_readsStatement_42 rfl (lv_at hl 1 rfl) ?_
            refine lv_dup hx hb dX6_readsStatement_43 rfl ?_
            refine w_get (v := .int m_po) hx hb hts i_X6 hown hK w h_m rfl 12 (by decide) (hts _ m_2) rfl dX6_readsStatement_44 ?_
            refine lv_iconst (v := 1) hx hb dX6_readsStatement_47 (by decide) ?_
            refine lv_iadd hx hb dX6_readsStatement_48 ?_
            have ho20 := h_m
            refine w_put (fs2 := [.ref m_ss, .ref m_im, .ref m_re, .ref m_sa, .ref m_ke, .ref m_so, .ref m_si, .ref m_el, .ref m_kd, .ref m_kt, .int m_hi, .int m_th, .int (m_po + 1), .int m_ba, .int m_en, .int 0, .ref m_nu, .ref m_ca, .ref m_ha, .int m_hs, .ref m_co]) hx hb hts i_X6 tyX6 tyX6_ok nmX6 hown hK w h_m rfl 12 (by decide) (hts _ m_2) rfl rfl rfl (Nat.le_of_ble_eq_true rfl) rfl dX6_readsStatement_49 (fun H locs w h_m => ?_)
            have h_m_el := h_m_el.upw h_m (wi.ne h_m_el ho20 (by intro h; cases h))
            have h_m_nu := h_m_nu.upw h_m (wi.ne h_m_nu ho20 (by intro h; cases h))
            have hk := hk.upw h_m (fun q h => h.1)
            refine lv_iload_n hx hb dX6_readsStatement_52 rfl (lv_at hl 0 rfl) ?_
            refine lv_bipush (v := 112) hx hb dX6_readsStatement_53 (by decide) ?_
            refine lv_icmp_ne (tgt := 99) hx hb dX6_readsStatement_55 (by decide) (fun _ => ?_) (fun c => absurd (c19.symm.trans c) (by decide))
            refine lv_iload_n hx hb dX6_readsStatement_99 rfl (lv_at hl 0 rfl) ?_
            refine lv_bipush (v := 103) hx hb dX6_readsStatement_100 (by decide) ?_
            refine lv_icmp_ne (tgt := 130) hx hb dX6_readsStatement_102 (by decide) (fun _ => ?_) (fun c => absurd (c19.symm.trans c) (by decide))
            refine lv_iload_n hx hb dX6_readsStatement_130 rfl (lv_at hl 0 rfl) ?_
            refine lv_bipush (v := 104) hx hb dX6_readsStatement_131 (by decide) ?_
            refine lv_icmp_ne (tgt := 145) hx hb dX6_readsStatement_133 (by decide) (fun _ => ?_) (fun c => absurd (c19.symm.trans c) (by decide))
            refine lv_aload_n hx hb dX6_readsStatement_145 rfl (lv_at hl 1 rfl) ?_
            refine lv_bipush (v := 59) hx hb dX6_readsStatement_146 (by decide) ?_
            refine w_finj (w_runV (rm := ({ frames := 1, cells := 0, slots := 0, locals := 20 } : Room)) (As := [.int 59]) (rest := []) (n := 1) hx hb hml hts hown hK w (c_X6_takes l D cI cP cS cL L _ m 59 m_ss m_im m_re m_sa m_ke m_so m_si m_el m_kd m_kt m_hi m_th (m_po + 1) m_ba m_en 0 m_nu m_ca m_ha m_hs m_co m_el_f h_m h_m_el hpp hba hen (by decide)) gX6_readsStatement_X6_takes rfl rfl rfl (by decide +kernel) ⟨(Nat.le_of_ble_eq_true rfl), (Nat.le_of_ble_eq_true rfl)⟩ h_m rfl rfl hl.1 rfl (Nat.le_of_ble_eq_true rfl) dX6_readsStatement_148 ⟨(Nat.le_of_ble_eq_true rfl), (Nat.le_of_ble_eq_true rfl)⟩) w hA (fun r9 F1 H locs hp w => ?_)
            obtain ⟨x148, hx148, e148_0, e148_1, e148_2, hr9, hw0, hk9⟩ := hp
            subst hr9
            have hq := hq.trans (w_bnd hx148)
            have h_m_el := h_m_el.keep hk9 ⟨(wi.ne h_m_el h_m (by intro h; cases h)), trivial⟩
            have h_m_nu := h_m_nu.keep hk9 ⟨(wi.ne h_m_nu h_m (by intro h; cases h)), trivial⟩
            have h_m := h_m.new hw0
            have hk := hk.call hk9 (fun q h => ⟨h.1, trivial⟩)
            exact w_zret hx hb hr hlocks w (w_nb (by rw [hx148]; exact z_X6_takes _ _ _ _ _)) ⟨rfl, _, hq.symm, (by dsimp only; omega), (by first | exact Or.inl rfl | exact Or.inr (by dsimp only; omega) | exact Or.inr (by have := e148_2; dsimp only; omega)), (by dsimp only; omega), rfl, h_m.2, h_m_nu.2, hk⟩ (Nat.le_refl _) (Nat.le_refl _) dX6_readsStatement_151
          · skip
            have hq := hq.trans (if_neg c19)
            refine lv_iconst (v := 0) hx hb dX6_readsStatement_40 (by decide) ?_
            exact w_zret hx hb hr hlocks w rfl ⟨rfl, _, hq.symm, (by dsimp only; omega), (by first | exact Or.inl rfl | exact Or.inr (by dsimp only; omega) | exact Or.inr (by have := e148_2; dsimp only; omega)), (by dsimp only; omega), rfl, h_m.2, h_m_nu.2, hk⟩ (Nat.le_refl _) (Nat.le_refl _) dX6_readsStatement_41
theorem co_p {u f : Nat → Int32} {j : Nat} {v : Int32} (e : u 5 = f 5) (hj : j ≠ 5) (h : 0 ≤ (f 5).toInt ∧ (f 5).toInt ≤ 12) (hn : ¬ f 5 = 12) : 0 ≤ ((upd (upd u j v) 5 ((upd u j v) 5 + 1)) 5).toInt ∧ ((upd (upd u j v) 5 ((upd u j v) 5 + 1)) 5).toInt ≤ 12 := by
  have a : (upd (upd u j v) 5 ((upd u j v) 5 + 1)) 5 = f 5 + 1 := by
    rw [show (upd (upd u j v) 5 ((upd u j v) 5 + 1)) 5 = (upd u j v) 5 + 1 from if_pos rfl, show upd u j v 5 = u 5 from if_neg (Ne.symm hj), e]
  rw [a]
  have h1 : (1 : Int32).toInt = 1 := rfl
  have h12 : ¬ (f 5).toInt = 12 := fun q => hn (Int32.toInt_inj.mp (q.trans (rfl : (12 : Int32).toInt = 12).symm))
  rw [addI (by rw [h1]; omega), h1]
  omega
theorem cm_I {m : Int32} (h : 0 ≤ m.toInt ∧ m.toInt ≤ 12) (hn : ¬ m = 12) : 0 ≤ m.toInt ∧ m.toInt < 12 := by
  have h12 : ¬ m.toInt = 12 := fun q => hn (Int32.toInt_inj.mp (q.trans (rfl : (12 : Int32).toInt = 12).symm))
  omega
theorem cm_n {m : Int32} {k : Nat} (h : 0 ≤ m.toInt ∧ m.toInt < 12) (hk : k < 4) : ((7 + (4 * m)) + (nI k)).toNatClampNeg = 7 + 4 * m.toNatClampNeg + k := by
  show ((7 + (4 * m)) + nI k).toInt.toNat = 7 + 4 * m.toInt.toNat + k
  have e : (nI k).toInt = k := nI_toInt (by omega)
  rw [gixI h (by rw [e]; omega), e]
  omega
def f_X6_comes_L97 (m_re_f : Nat → Int32) (m_nu_f : Nat → Int32) : Nat → Nat → (Nat → Int32) → Int32 × (Nat → Int32)
  | 0, _, _ => (0, (fun _ => 0))
  | n + 1, k, u_m_re_f => if (3 : Int32) ≤ (nI k) then (1, (upd (upd u_m_re_f (7 + 4 * (m_re_f 5).toNatClampNeg + 3) (-1)) 5 (((upd u_m_re_f (7 + 4 * (m_re_f 5).toNatClampNeg + 3) (-1)) 5) + 1))) else (f_X6_comes_L97 m_re_f m_nu_f n ((k + 1)) (upd u_m_re_f (7 + 4 * (m_re_f 5).toNatClampNeg + k) (m_nu_f k)))
theorem f_X6_comes_L97_s (m_re_f : Nat → Int32) (m_nu_f : Nat → Int32) (n k : Nat) (u_m_re_f : Nat → Int32) : f_X6_comes_L97 m_re_f m_nu_f (n + 1) k u_m_re_f = (if (3 : Int32) ≤ (nI k) then (1, (upd (upd u_m_re_f (7 + 4 * (m_re_f 5).toNatClampNeg + 3) (-1)) 5 (((upd u_m_re_f (7 + 4 * (m_re_f 5).toNatClampNeg + 3) (-1)) 5) + 1))) else (f_X6_comes_L97 m_re_f m_nu_f n ((k + 1)) (upd u_m_re_f (7 + 4 * (m_re_f 5).toNatClampNeg + k) (m_nu_f k)))) := rfl
def f_X6_comes (c0 : Int32) (m_re_f : Nat → Int32) (m_nu_f : Nat → Int32) : Int32 × (Nat → Int32) := if (m_re_f 6) ≤ (0 : Int32) then (if c0 = (103 : Int32) then ((f_X6_isShare (m_nu_f 0) (m_nu_f 1)), (upd (upd m_re_f 0 (m_nu_f 0)) 1 (m_nu_f 1))) else (if c0 = (104 : Int32) then ((f_X6_isIn ((m_nu_f 0).toInt64) 1 1000), (upd m_re_f 2 (m_nu_f 0))) else (if c0 = (112 : Int32) then (if (7 : Int32) < (m_nu_f 0) then (0, m_re_f) else (if (20 : Int32) < (m_nu_f 2) then (0, m_re_f) else (if (m_re_f 5) = (12 : Int32) then (0, m_re_f) else (f_X6_comes_L97 m_re_f m_nu_f (3 + 1) 0 m_re_f)))) else (if c0 = (98 : Int32) then (1, (upd m_re_f 3 1)) else (1, (upd m_re_f 3 0)))))) else (0, m_re_f)
set_option maxHeartbeats 400000 in
set_option maxRecDepth 100000 in
theorem c_X6_comes (l : Launch) (D : va_G) (cI cP cS cL : ClassId) (L : List Nat) (F : Nat → va_E) (m : Nat) (c0 : Int32) (m_ss : Nat) (m_im : Nat) (m_re : Nat) (m_sa : Nat) (m_ke : Nat) (m_so : Nat) (m_si : Nat) (m_el : Nat) (m_kd : Nat) (m_kt : Nat) (m_hi : Int32) (m_th : Int32) (m_po : Int32) (m_ba : Int32) (m_en : Int32) (m_tl : Int32) (m_nu : Nat) (m_ca : Nat) (m_ha : Nat) (m_hs : Int32) (m_co : Nat) (m_re_f : Nat → Int32) (m_nu_f : Nat → Int32) (h_m : wi L F m (eM m_ss m_im m_re m_sa m_ke m_so m_si m_el m_kd m_kt m_hi m_th m_po m_ba m_en m_tl m_nu m_ca m_ha m_hs m_co)) (h_m_re : wi L F m_re (eI cI 55 m_re_f)) (h_m_nu : wi L F m_nu (eI cI 3 m_nu_f)) (hrm : 0 ≤ (m_re_f 5).toInt ∧ (m_re_f 5).toInt ≤ 12) (ne_m_nu_m_re : m_nu ≠ m_re) : wMj l D cI cP cS cL yX6_comes wsX6_comes ({ frames := 2, cells := 0, slots := 0, locals := 46 } : Room) [.ref m, .int c0] L F (fun r1 F1 => ∃ y9 : Int32 × (Nat → Int32), y9 = (f_X6_comes c0 m_re_f m_nu_f) ∧ (0 ≤ (y9.2 5).toInt ∧ (y9.2 5).toInt ≤ 12) ∧ r1 = y9.1 ∧ F1 m_re = (eI cI 55 y9.2) ∧ wk (fun q : Nat => q ≠ m_re ∧ True) F1 F) := by
  refine wM.of (cc := cX6_comes) (maxL := 4) (ret := (some .boolean)) (by decide) rfl (Nat.le_of_ble_eq_true rfl) ?_
  intro pZ eZ sZ mZ below meth cZ A ls C hl w
  obtain ⟨hx, hb, hr, hml, hts, hown, hlocks, hK, hA, hin⟩ := C
  have hown : sZ.vm.findClass RX6 = some mZ.cls := hown
  have hl : lv_has ls 4 [(0, .ref m), (1, .int c0)] := hl
  have m_0 : ((.fieldLink RX6 16 "TwoThirdsModel" "read" "[I") : Cond) ∈ wsX6_comes := by decide +kernel
  have i_X6 : ∀ w ∈ wsX60, w ∈ wsX6_comes := by decide +kernel
  have m_2 : ((.fieldLink RX6 40 "TwoThirdsModel" "numbers" "[I") : Cond) ∈ wsX6_comes := by decide +kernel
  have m_3 : ((.constantLong RX6 100 1000) : Cond) ∈ wsX6_comes := by decide +kernel
  have hk : wk (fun q : Nat => q ≠ m_re ∧ True) F F := wk.rf
  have hq : f_X6_comes c0 m_re_f m_nu_f = f_X6_comes c0 m_re_f m_nu_f := rfl
  refine lv_aload_n hx hb dX6_comes_0 rfl (lv_at hl 0 rfl) ?_
  refine w_get (v := .ref m_re) hx hb hts i_X6 hown hK w h_m rfl 2 (by decide) (hts _ m_0) rfl dX6_comes_1 ?_
  refine lv_bipush (v := 6) hx hb dX6_comes_4 (by decide) ?_
  refine w_ild (j := 6) hx hb hK w h_m_re (vp_in_nI (n := 6) (N := 55) (by decide) (by decide)) rfl dX6_comes_6 ?_
  refine lv_if_le (tgt := 12) hx hb dX6_comes_7 (by decide) (fun c1 => ?_) (fun c1 => ?_)
  · skip
    have hq := hq.trans (if_pos c1)
    refine lv_iload_n hx hb dX6_comes_12 rfl (lv_at hl 1 rfl) ?_
    by_cases c2 : c0 = (103 : Int32)
    · skip
      have hq := hq.trans (if_pos c2)
      refine lv_lookup (off := 130) (tgt := 143) hx hb dX6_comes_13 (by decide) (by rw [c2]; rfl) (by decide) ?_
      refine lv_aload_n hx hb dX6_comes_143 rfl (lv_at hl 0 rfl) ?_
      refine w_get (v := .ref m_re) hx hb hts i_X6 hown hK w h_m rfl 2 (by decide) (hts _ m_0) rfl dX6_comes_144 ?_
      refine lv_iconst (v := 0) hx hb dX6_comes_147 (by decide) ?_
      refine lv_aload_n hx hb dX6_comes_148 rfl (lv_at hl 0 rfl) ?_
      refine w_get (v := .ref m_nu) hx hb hts i_X6 hown hK w h_m rfl 16 (by decide) (hts _ m_2) rfl dX6_comes_149 ?_
      refine lv_iconst (v := 0) hx hb dX6_comes_152 (by decide) ?_
      refine w_ild (j := 0) hx hb hK w h_m_nu (vp_in_nI (n := 0) (N := 3) (by decide) (by decide)) rfl dX6_comes_153 ?_
      have ho3 := h_m_re
      refine w_ist (j := 0) hx hb hK w h_m_re (vp_in_nI (n := 0) (N := 55) (by decide) (by decide)) rfl dX6_comes_154 (fun H locs w h_m_re => ?_)
      have h_m := h_m.upw h_m_re (wi.ne h_m ho3 (by intro h; cases h))
      have h_m_nu := h_m_nu.upw h_m_re ne_m_nu_m_re
      have hk := hk.upw h_m_re (fun q h => h.1)
      refine lv_aload_n hx hb dX6_comes_155 rfl (lv_at hl 0 rfl) ?_
      refine w_get (v := .ref m_re) hx hb hts i_X6 hown hK w h_m rfl 2 (by decide) (hts _ m_0) rfl dX6_comes_156 ?_
      refine lv_iconst (v := 1) hx hb dX6_comes_159 (by decide) ?_
      refine lv_aload_n hx hb dX6_comes_160 rfl (lv_at hl 0 rfl) ?_
      refine w_get (v := .ref m_nu) hx hb hts i_X6 hown hK w h_m rfl 16 (by decide) (hts _ m_2) rfl dX6_comes_161 ?_
      refine lv_iconst (v := 1) hx hb dX6_comes_164 (by decide) ?_
      refine w_ild (j := 1) hx hb hK w h_m_nu (vp_in_nI (n := 1) (N := 3) (by decide) (by decide)) rfl dX6_comes_165 ?_
      have ho4 := h_m_re
      refine w_ist (j := 1) hx hb hK w h_m_re (vp_in_nI (n := 1) (N := 55) (by decide) (by decide)) rfl dX6_comes_166 (fun H locs w h_m_re => ?_)
      have h_m := h_m.upw h_m_re (wi.ne h_m ho4 (by intro h; cases h))
      have h_m_nu := h_m_nu.upw h_m_re ne_m_nu_m_re
      have hk := hk.upw h_m_re (fun q h => h.1)
      refine lv_aload_n hx hb dX6_comes_167 rfl (lv_at hl 0 rfl) ?_
      refine w_get (v := .ref m_nu) hx hb hts i_X6 hown hK w h_m rfl 16 (by decide) (hts _ m_2) rfl dX6_comes_168 ?_
      refine lv_iconst (v := 0) hx hb dX6_comes_171 (by decide) ?_
      refine w_ild (j := 0) hx hb hK w h_m_nu (vp_in_nI (n := 0) (N := 3) (by decide) (by decide)) rfl dX6_comes_172 ?_
      refine lv_aload_n hx hb dX6_comes_173 rfl (lv_at hl 0 rfl) ?_
      refine w_get (v := .ref m_nu) hx hb hts i_X6 hown hK w h_m rfl 16 (by decide) (hts _ m_2) rfl dX6_comes_174 ?_
      refine lv_iconst (v := 1) hx hb dX6_comes_177 (by decide) ?_
      refine w_ild (j := 1) hx hb hK w h_m_nu (vp_in_nI (n := 1) (N := 3) (by decide) (by decide)) rfl dX6_comes_178 ?_
      refine w_finI (w_runS (rm := ({ frames := 1, cells := 0, slots := 0, locals := 25 } : Room)) (As := [.int (m_nu_f 0), .int (m_nu_f 1)]) (rest := []) (n := 2) hx hb hml hts hown hK w (c_X6_isShare l D cI cP cS cL L _ (m_nu_f 0) (m_nu_f 1) ) gX6_comes_X6_isShare rfl rfl rfl (by decide +kernel) ⟨(Nat.le_of_ble_eq_true rfl), (Nat.le_of_ble_eq_true rfl)⟩ rfl hl.1 rfl (Nat.le_of_ble_eq_true rfl) dX6_comes_179 ⟨(Nat.le_of_ble_eq_true rfl), (Nat.le_of_ble_eq_true rfl)⟩) w hA (fun H locs w => ?_)
      exact w_zret hx hb hr hlocks w (w_nb (z_X6_isShare _ _)) ⟨rfl, _, hq.symm, (by first | exact hrm | exact co_p hi0 (by omega) hrm hmn), rfl, h_m_re.2, hk⟩ (Nat.le_refl _) (Nat.le_refl _) dX6_comes_182
    · skip
      have hq := hq.trans (if_neg c2)
      by_cases c5 : c0 = (104 : Int32)
      · skip
        have hq := hq.trans (if_pos c5)
        refine lv_lookup (off := 170) (tgt := 183) hx hb dX6_comes_13 (by decide) (by rw [c5]; rfl) (by decide) ?_
        refine lv_aload_n hx hb dX6_comes_183 rfl (lv_at hl 0 rfl) ?_
        refine w_get (v := .ref m_re) hx hb hts i_X6 hown hK w h_m rfl 2 (by decide) (hts _ m_0) rfl dX6_comes_184 ?_
        refine lv_iconst (v := 2) hx hb dX6_comes_187 (by decide) ?_
        refine lv_aload_n hx hb dX6_comes_188 rfl (lv_at hl 0 rfl) ?_
        refine w_get (v := .ref m_nu) hx hb hts i_X6 hown hK w h_m rfl 16 (by decide) (hts _ m_2) rfl dX6_comes_189 ?_
        refine lv_iconst (v := 0) hx hb dX6_comes_192 (by decide) ?_
        refine w_ild (j := 0) hx hb hK w h_m_nu (vp_in_nI (n := 0) (N := 3) (by decide) (by decide)) rfl dX6_comes_193 ?_
        have ho6 := h_m_re
        refine w_ist (j := 2) hx hb hK w h_m_re (vp_in_nI (n := 2) (N := 55) (by decide) (by decide)) rfl dX6_comes_194 (fun H locs w h_m_re => ?_)
        have h_m := h_m.upw h_m_re (wi.ne h_m ho6 (by intro h; cases h))
        have h_m_nu := h_m_nu.upw h_m_re ne_m_nu_m_re
        have hk := hk.upw h_m_re (fun q h => h.1)
        refine lv_aload_n hx hb dX6_comes_195 rfl (lv_at hl 0 rfl) ?_
        refine w_get (v := .ref m_nu) hx hb hts i_X6 hown hK w h_m rfl 16 (by decide) (hts _ m_2) rfl dX6_comes_196 ?_
        refine lv_iconst (v := 0) hx hb dX6_comes_199 (by decide) ?_
        refine w_ild (j := 0) hx hb hK w h_m_nu (vp_in_nI (n := 0) (N := 3) (by decide) (by decide)) rfl dX6_comes_200 ?_
        refine lv_i2l (v := ((m_nu_f 0).toInt64)) hx hb dX6_comes_201 rfl ?_
        refine lv_lconst (v := 1) hx hb dX6_comes_202 (by decide) ?_
        refine lv_ldc2 (v := 1000) hx hb hown (hts _ m_3) dX6_comes_203 ?_
        refine w_finI (w_runS (rm := ({ frames := 0, cells := 0, slots := 0, locals := 0 } : Room)) (As := [.long ((m_nu_f 0).toInt64), .long 1, .long 1000]) (rest := []) (n := 3) hx hb hml hts hown hK w (c_X6_isIn l D cI cP cS cL L _ ((m_nu_f 0).toInt64) 1 1000 ) gX6_comes_X6_isIn rfl rfl rfl (by decide +kernel) ⟨(Nat.le_of_ble_eq_true rfl), (Nat.le_of_ble_eq_true rfl)⟩ rfl hl.1 rfl (Nat.le_of_ble_eq_true rfl) dX6_comes_206 ⟨(Nat.le_of_ble_eq_true rfl), (Nat.le_of_ble_eq_true rfl)⟩) w hA (fun H locs w => ?_)
        exact w_zret hx hb hr hlocks w (w_nb (z_X6_isIn _ _ _)) ⟨rfl, _, hq.symm, (by first | exact hrm | exact co_p hi0 (by omega) hrm hmn), rfl, h_m_re.2, hk⟩ (Nat.le_refl _) (Nat.le_refl _) dX6_comes_209
      · skip
        have hq := hq.trans (if_neg c5)
        by_cases c7 : c0 = (112 : Int32)
        · skip
          have hq := hq.trans (if_pos c7)
          refine lv_lookup (off := 35) (tgt := 48) hx hb dX6_comes_13 (by decide) (by rw [c7]; rfl) (by decide) ?_
          refine lv_aload_n hx hb dX6_comes_48 rfl (lv_at hl 0 rfl) ?_
          refine w_get (v := .ref m_nu) hx hb hts i_X6 hown hK w h_m rfl 16 (by decide) (hts _ m_2) rfl dX6_comes_49 ?_
          refine lv_iconst (v := 0) hx hb dX6_comes_52 (by decide) ?_
          refine w_ild (j := 0) hx hb hK w h_m_nu (vp_in_nI (n := 0) (N := 3) (by decide) (by decide)) rfl dX6_comes_53 ?_
          refine lv_bipush (v := 7) hx hb dX6_comes_54 (by decide) ?_
          refine lv_icmp_gt (tgt := 81) hx hb dX6_comes_56 (by decide) (fun c8 => ?_) (fun c8 => ?_)
          · skip
            have hq := hq.trans (if_pos c8)
            refine lv_iconst (v := 0) hx hb dX6_comes_81 (by decide) ?_
            exact w_zret hx hb hr hlocks w rfl ⟨rfl, _, hq.symm, (by first | exact hrm | exact co_p hi0 (by omega) hrm hmn), rfl, h_m_re.2, hk⟩ (Nat.le_refl _) (Nat.le_refl _) dX6_comes_82
          · skip
            have hq := hq.trans (if_neg c8)
            refine lv_aload_n hx hb dX6_comes_59 rfl (lv_at hl 0 rfl) ?_
            refine w_get (v := .ref m_nu) hx hb hts i_X6 hown hK w h_m rfl 16 (by decide) (hts _ m_2) rfl dX6_comes_60 ?_
            refine lv_iconst (v := 2) hx hb dX6_comes_63 (by decide) ?_
            refine w_ild (j := 2) hx hb hK w h_m_nu (vp_in_nI (n := 2) (N := 3) (by decide) (by decide)) rfl dX6_comes_64 ?_
            refine lv_bipush (v := 20) hx hb dX6_comes_65 (by decide) ?_
            refine lv_icmp_gt (tgt := 81) hx hb dX6_comes_67 (by decide) (fun c9 => ?_) (fun c9 => ?_)
            · skip
              have hq := hq.trans (if_pos c9)
              refine lv_iconst (v := 0) hx hb dX6_comes_81 (by decide) ?_
              exact w_zret hx hb hr hlocks w rfl ⟨rfl, _, hq.symm, (by first | exact hrm | exact co_p hi0 (by omega) hrm hmn), rfl, h_m_re.2, hk⟩ (Nat.le_refl _) (Nat.le_refl _) dX6_comes_82
            · skip
              have hq := hq.trans (if_neg c9)
              refine lv_aload_n hx hb dX6_comes_70 rfl (lv_at hl 0 rfl) ?_
              refine w_get (v := .ref m_re) hx hb hts i_X6 hown hK w h_m rfl 2 (by decide) (hts _ m_0) rfl dX6_comes_71 ?_
              refine lv_iconst (v := 5) hx hb dX6_comes_74 (by decide) ?_
              refine w_ild (j := 5) hx hb hK w h_m_re (vp_in_nI (n := 5) (N := 55) (by decide) (by decide)) rfl dX6_comes_75 ?_
              refine lv_bipush (v := 12) hx hb dX6_comes_76 (by decide) ?_
              refine lv_icmp_ne (tgt := 83) hx hb dX6_comes_78 (by decide) (fun c10 => ?_) (fun c10 => ?_)
              · skip
                have hq := hq.trans (if_neg c10)
                have hm12 : 0 ≤ (m_re_f 5).toInt ∧ (m_re_f 5).toInt < 12 := cm_I hrm c10
                have hmn : ¬ (m_re_f 5) = 12 := c10
                refine lv_bipush (v := 7) hx hb dX6_comes_83 (by decide) ?_
                refine lv_iconst (v := 4) hx hb dX6_comes_85 (by decide) ?_
                refine lv_aload_n hx hb dX6_comes_86 rfl (lv_at hl 0 rfl) ?_
                refine w_get (v := .ref m_re) hx hb hts i_X6 hown hK w h_m rfl 2 (by decide) (hts _ m_0) rfl dX6_comes_87 ?_
                refine lv_iconst (v := 5) hx hb dX6_comes_90 (by decide) ?_
                refine w_ild (j := 5) hx hb hK w h_m_re (vp_in_nI (n := 5) (N := 55) (by decide) (by decide)) rfl dX6_comes_91 ?_
                refine lv_imul hx hb dX6_comes_92 ?_
                refine lv_iadd hx hb dX6_comes_93 ?_
                refine lv_istore_n (lv' := [(2, .int (7 + (4 * (m_re_f 5)))), (0, .ref m), (1, .int c0)]) hx hb dX6_comes_94 rfl hl (by decide) rfl (fun ls hl => ?_)
                refine lv_iconst (v := 0) hx hb dX6_comes_95 (by decide) ?_
                refine lv_istore_n (lv' := [(3, .int 0), (2, .int (7 + (4 * (m_re_f 5)))), (0, .ref m), (1, .int c0)]) hx hb dX6_comes_96 rfl hl (by decide) rfl (fun ls hl => ?_)
                have hL97 : ∀ (n k : Nat) (u_m_re_f : Nat → Int32) (F1 : Nat → va_E) (H : Heap) (locs : List Loc) (ls : Array Slot), (u_m_re_f 5 = m_re_f 5) → k ≤ 3 → 3 - k < n → f_X6_comes c0 m_re_f m_nu_f = f_X6_comes_L97 m_re_f m_nu_f n k u_m_re_f → lv_has ls 4 [(0, .ref m), (1, .int c0), (2, .int (7 + (4 * (m_re_f 5)))), (3, .int (nI k))] → ww D A sZ.heap L F1 H locs → (wi L F1 m (eM m_ss m_im m_re m_sa m_ke m_so m_si m_el m_kd m_kt m_hi m_th m_po m_ba m_en m_tl m_nu m_ca m_ha m_hs m_co)) → (wi L F1 m_re (eI cI 55 u_m_re_f)) → (wi L F1 m_nu (eI cI 3 m_nu_f)) → wk (fun q : Nat => q ≠ m_re ∧ True) F1 F → W pZ l eZ ({ frames := 2, cells := 0, slots := 0, locals := 46 } : Room) sZ mZ [.ref m, .int c0].toArray below meth cZ H locs 0 0 (MQ below (wQi D A (fun r1 L1 F1 => L1 = L ∧ ∃ y9 : Int32 × (Nat → Int32), y9 = (f_X6_comes c0 m_re_f m_nu_f) ∧ (0 ≤ (y9.2 5).toInt ∧ (y9.2 5).toInt ≤ 12) ∧ r1 = y9.1 ∧ F1 m_re = (eI cI 55 y9.2) ∧ wk (fun q : Nat => q ≠ m_re ∧ True) F1 F)) [.ref m, .int c0].toArray sZ 0 0 A) (F0 mZ 97 ls []) := by
                  intro n; induction n with
                  | zero => intro k u_m_re_f F1 H locs ls _ hkT hmeas; exact absurd hmeas (Nat.not_lt_zero _)
                  | succ n ih =>
                    intro k u_m_re_f F1 H locs ls hi0 hkT hmeas hq hl w h_m h_m_re h_m_nu hk
                    have hk31 : k < 2147483648 := by omega
                    have hq := hq.trans (f_X6_comes_L97_s m_re_f m_nu_f n k u_m_re_f)
                    refine lv_iload_n hx hb dX6_comes_97 rfl (lv_at hl 3 rfl) ?_
                    refine lv_iconst (v := 3) hx hb dX6_comes_98 (by decide) ?_
                    refine lv_icmp_ge (tgt := 122) hx hb dX6_comes_99 (by decide) (fun c11 => ?_) (fun c11 => ?_)
                    · skip
                      have hq := hq.trans (if_pos c11)
                      refine lv_aload_n hx hb dX6_comes_122 rfl (lv_at hl 0 rfl) ?_
                      refine w_get (v := .ref m_re) hx hb hts i_X6 hown hK w h_m rfl 2 (by decide) (hts _ m_0) rfl dX6_comes_123 ?_
                      refine lv_iload_n hx hb dX6_comes_126 rfl (lv_at hl 2 rfl) ?_
                      refine lv_iconst (v := 3) hx hb dX6_comes_127 (by decide) ?_
                      refine lv_iadd hx hb dX6_comes_128 ?_
                      refine lv_iconst (v := (-1)) hx hb dX6_comes_129 (by decide) ?_
                      have ho12 := h_m_re
                      refine w_ist (j := (7 + 4 * (m_re_f 5).toNatClampNeg + 3)) hx hb hK w h_m_re (gix2 hm12 (by decide)) (cm_n (k := 3) hm12 (by omega)) dX6_comes_130 (fun H locs w h_m_re => ?_)
                      have h_m := h_m.upw h_m_re (wi.ne h_m ho12 (by intro h; cases h))
                      have h_m_nu := h_m_nu.upw h_m_re ne_m_nu_m_re
                      have hk := hk.upw h_m_re (fun q h => h.1)
                      refine lv_aload_n hx hb dX6_comes_131 rfl (lv_at hl 0 rfl) ?_
                      refine w_get (v := .ref m_re) hx hb hts i_X6 hown hK w h_m rfl 2 (by decide) (hts _ m_0) rfl dX6_comes_132 ?_
                      refine lv_iconst (v := 5) hx hb dX6_comes_135 (by decide) ?_
                      refine lv_dup2_11 hx hb dX6_comes_136 rfl rfl ?_
                      refine w_ild (j := 5) hx hb hK w h_m_re (vp_in_nI (n := 5) (N := 55) (by decide) (by decide)) rfl dX6_comes_137 ?_
                      refine lv_iconst (v := 1) hx hb dX6_comes_138 (by decide) ?_
                      refine lv_iadd hx hb dX6_comes_139 ?_
                      have ho13 := h_m_re
                      refine w_ist (j := 5) hx hb hK w h_m_re (vp_in_nI (n := 5) (N := 55) (by decide) (by decide)) rfl dX6_comes_140 (fun H locs w h_m_re => ?_)
                      have h_m := h_m.upw h_m_re (wi.ne h_m ho13 (by intro h; cases h))
                      have h_m_nu := h_m_nu.upw h_m_re ne_m_nu_m_re
                      have hk := hk.upw h_m_re (fun q h => h.1)
                      refine lv_iconst (v := 1) hx hb dX6_comes_141 (by decide) ?_
                      exact w_zret hx hb hr hlocks w rfl ⟨rfl, _, hq.symm, (by first | exact hrm | exact co_p hi0 (by omega) hrm hmn), rfl, h_m_re.2, hk⟩ (Nat.le_refl _) (Nat.le_refl _) dX6_comes_142
                    · skip
                      have hq := hq.trans (if_neg c11)
                      have hlt99 : k < 3 := w_ltk hk31 c11
                      have hk3 : k < 4 := by omega
                      refine lv_aload_n hx hb dX6_comes_102 rfl (lv_at hl 0 rfl) ?_
                      refine w_get (v := .ref m_re) hx hb hts i_X6 hown hK w h_m rfl 2 (by decide) (hts _ m_0) rfl dX6_comes_103 ?_
                      refine lv_iload_n hx hb dX6_comes_106 rfl (lv_at hl 2 rfl) ?_
                      refine lv_iload_n hx hb dX6_comes_107 rfl (lv_at hl 3 rfl) ?_
                      refine lv_iadd hx hb dX6_comes_108 ?_
                      refine lv_aload_n hx hb dX6_comes_109 rfl (lv_at hl 0 rfl) ?_
                      refine w_get (v := .ref m_nu) hx hb hts i_X6 hown hK w h_m rfl 16 (by decide) (hts _ m_2) rfl dX6_comes_110 ?_
                      refine lv_iload_n hx hb dX6_comes_113 rfl (lv_at hl 3 rfl) ?_
                      refine w_ild (j := k) hx hb hK w h_m_nu (vp_in_nI (by omega) (by omega)) (nI_clamp (by omega)) dX6_comes_114 ?_
                      have ho14 := h_m_re
                      refine w_ist (j := (7 + 4 * (m_re_f 5).toNatClampNeg + k)) hx hb hK w h_m_re (gix2 hm12 (by rw [nI_toInt (by omega)]; omega)) (cm_n hm12 (by omega)) dX6_comes_115 (fun H locs w h_m_re => ?_)
                      have h_m := h_m.upw h_m_re (wi.ne h_m ho14 (by intro h; cases h))
                      have h_m_nu := h_m_nu.upw h_m_re ne_m_nu_m_re
                      have hk := hk.upw h_m_re (fun q h => h.1)
                      refine lv_iinc (v := (nI (k + 1))) (lv' := [(3, .int (nI (k + 1))), (0, .ref m), (1, .int c0), (2, .int (7 + (4 * (m_re_f 5))))]) hx hb dX6_comes_116 hl (k := 3) rfl (w_inc _) (by decide) rfl (fun ls hl => ?_)
                      refine lv_goto (tgt := 97) hx hb dX6_comes_119 (by decide) ?_
                      exact ih ((k + 1)) (upd u_m_re_f (7 + 4 * (m_re_f 5).toNatClampNeg + k) (m_nu_f k)) _ _ _ _ ((if_neg (by omega)).trans hi0) (by omega) (by omega) hq (lv_sub hl [1, 2, 3, 0] rfl) w h_m h_m_re h_m_nu hk
                exact hL97 (3 + 1) 0 m_re_f _ _ _ _ rfl (Nat.zero_le _) (by omega) hq (lv_sub hl [2, 3, 1, 0] rfl) w h_m h_m_re h_m_nu hk
              · skip
                have hq := hq.trans (if_pos c10)
                refine lv_iconst (v := 0) hx hb dX6_comes_81 (by decide) ?_
                exact w_zret hx hb hr hlocks w rfl ⟨rfl, _, hq.symm, (by first | exact hrm | exact co_p hi0 (by omega) hrm hmn), rfl, h_m_re.2, hk⟩ (Nat.le_refl _) (Nat.le_refl _) dX6_comes_82
        · skip
          have hq := hq.trans (if_neg c7)
          refine lv_lookup (off := 197) (tgt := 210) hx hb dX6_comes_13 (by decide) (by have q0 : ¬ c0.toInt = 103 := w_ne c2 rfl; have q1 : ¬ c0.toInt = 104 := w_ne c5 rfl; have q2 : ¬ c0.toInt = 112 := w_ne c7 rfl; simp [Op.lookupswitch.offset, q0, Ne.symm q0, q1, Ne.symm q1, q2, Ne.symm q2]) (by decide) ?_
          refine lv_aload_n hx hb dX6_comes_210 rfl (lv_at hl 0 rfl) ?_
          refine w_get (v := .ref m_re) hx hb hts i_X6 hown hK w h_m rfl 2 (by decide) (hts _ m_0) rfl dX6_comes_211 ?_
          refine lv_iconst (v := 3) hx hb dX6_comes_214 (by decide) ?_
          refine lv_iload_n hx hb dX6_comes_215 rfl (lv_at hl 1 rfl) ?_
          refine lv_bipush (v := 98) hx hb dX6_comes_216 (by decide) ?_
          refine lv_icmp_ne (tgt := 225) hx hb dX6_comes_218 (by decide) (fun c15 => ?_) (fun c15 => ?_)
          · skip
            have hq := hq.trans (if_neg c15)
            refine lv_iconst (v := 0) hx hb dX6_comes_225 (by decide) ?_
            have ho16 := h_m_re
            refine w_ist (j := 3) hx hb hK w h_m_re (vp_in_nI (n := 3) (N := 55) (by decide) (by decide)) rfl dX6_comes_226 (fun H locs w h_m_re => ?_)
            have h_m := h_m.upw h_m_re (wi.ne h_m ho16 (by intro h; cases h))
            have h_m_nu := h_m_nu.upw h_m_re ne_m_nu_m_re
            have hk := hk.upw h_m_re (fun q h => h.1)
            refine lv_iconst (v := 1) hx hb dX6_comes_227 (by decide) ?_
            exact w_zret hx hb hr hlocks w rfl ⟨rfl, _, hq.symm, (by first | exact hrm | exact co_p hi0 (by omega) hrm hmn), rfl, h_m_re.2, hk⟩ (Nat.le_refl _) (Nat.le_refl _) dX6_comes_228
          · skip
            have hq := hq.trans (if_pos c15)
            refine lv_iconst (v := 1) hx hb dX6_comes_221 (by decide) ?_
            refine lv_goto (tgt := 226) hx hb dX6_comes_222 (by decide) ?_
            have ho17 := h_m_re
            refine w_ist (j := 3) hx hb hK w h_m_re (vp_in_nI (n := 3) (N := 55) (by decide) (by decide)) rfl dX6_comes_226 (fun H locs w h_m_re => ?_)
            have h_m := h_m.upw h_m_re (wi.ne h_m ho17 (by intro h; cases h))
            have h_m_nu := h_m_nu.upw h_m_re ne_m_nu_m_re
            have hk := hk.upw h_m_re (fun q h => h.1)
            refine lv_iconst (v := 1) hx hb dX6_comes_227 (by decide) ?_
            exact w_zret hx hb hr hlocks w rfl ⟨rfl, _, hq.symm, (by first | exact hrm | exact co_p hi0 (by omega) hrm hmn), rfl, h_m_re.2, hk⟩ (Nat.le_refl _) (Nat.le_refl _) dX6_comes_228
  · skip
    have hq := hq.trans (if_neg c1)
    refine lv_iconst (v := 0) hx hb dX6_comes_10 (by decide) ?_
    exact w_zret hx hb hr hlocks w rfl ⟨rfl, _, hq.symm, (by first | exact hrm | exact co_p hi0 (by omega) hrm hmn), rfl, h_m_re.2, hk⟩ (Nat.le_refl _) (Nat.le_refl _) dX6_comes_11
