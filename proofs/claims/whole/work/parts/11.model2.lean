theorem bm64 {x : Int} (h : -9223372036854775808 ≤ x ∧ x < 9223372036854775808) : x.bmod (2 ^ 64) = x := by
  rw [Int.bmod_eq_of_le (by omega) (by omega)]
theorem addL {a b : Int64} (h : -9223372036854775808 ≤ a.toInt + b.toInt ∧ a.toInt + b.toInt < 9223372036854775808) : (a + b).toInt = a.toInt + b.toInt := by rw [Int64.toInt_add, bm64 h]
theorem subL {a b : Int64} (h : -9223372036854775808 ≤ a.toInt - b.toInt ∧ a.toInt - b.toInt < 9223372036854775808) : (a - b).toInt = a.toInt - b.toInt := by rw [Int64.toInt_sub, bm64 h]
theorem mulL {a b : Int64} (h : -9223372036854775808 ≤ a.toInt * b.toInt ∧ a.toInt * b.toInt < 9223372036854775808) : (a * b).toInt = a.toInt * b.toInt := by rw [Int64.toInt_mul, bm64 h]
theorem lremI (x y : Int64) : (x - x / y * y).toInt = x.toInt.tmod y.toInt := by
  rw [Int64.toInt_sub, Int64.toInt_mul, Int64.toInt_div, Int.sub_bmod_bmod]
  have e : (x.toInt - (x.toInt.tdiv y.toInt).bmod (2 ^ 64) * y.toInt).bmod (2 ^ 64) = (x.toInt - x.toInt.tdiv y.toInt * y.toInt).bmod (2 ^ 64) := by
    rw [← Int.sub_bmod_bmod, Int.bmod_mul_bmod, Int.sub_bmod_bmod]
  rw [e, Int.mul_comm, ← Int.tmod_def]
  have h1 := Int64.toInt_mod x y
  rw [← h1]
  exact bm64 ⟨Int64.le_toInt _, Int64.toInt_lt _⟩
theorem lg_ne {y : Int64} (c : ¬ lg_cmp y 0 = 0) : ¬ y = 0 := fun h => c ((lg_cmp_eq y 0).mpr h)
theorem lne_toInt {y : Int64} (c : ¬ y = 0) : y.toInt ≠ 0 := fun h => c (Int64.toInt_inj.mp (h.trans (rfl : (0 : Int64).toInt = 0).symm))
theorem lrem_lt {x y : Int64} {n : Nat} (c : ¬ lg_cmp y 0 = 0) (h : y.toInt.natAbs < n + 1) : (x - x / y * y).toInt.natAbs < n := by
  have hy := lne_toInt (lg_ne c)
  rw [lremI, Int.natAbs_tmod]
  have : x.toInt.natAbs % y.toInt.natAbs < y.toInt.natAbs := Nat.mod_lt _ (by omega)
  omega
def f_X6_common_L6  : Nat → Nat → Int64 → Int64 → Int64
  | 0, _, _, _ => 0
  | n + 1, k, v4, v6 => if (lg_cmp v6 0) = (0 : Int32) then (if (0 : Int32) ≤ (lg_cmp v4 0) then v4 else (-v4)) else (f_X6_common_L6 n 0 v6 (v4 - v4 / v6 * v6))
theorem f_X6_common_L6_s  (n k : Nat) (v4 : Int64) (v6 : Int64) : f_X6_common_L6 (n + 1) k v4 v6 = (if (lg_cmp v6 0) = (0 : Int32) then (if (0 : Int32) ≤ (lg_cmp v4 0) then v4 else (-v4)) else (f_X6_common_L6 n 0 v6 (v4 - v4 / v6 * v6))) := rfl
def f_X6_common (a0 : Int64) (b0 : Int64) : Int64 := f_X6_common_L6 (b0.toInt.natAbs + 1) 0 a0 b0
set_option maxHeartbeats 400000 in
set_option maxRecDepth 100000 in
theorem c_X6_common (l : Launch) (D : va_G) (cI cP cS cL : ClassId) (L : List Nat) (F : Nat → va_E) (a0 : Int64) (b0 : Int64)  : wML l D cI cP cS cL yX6_common wsX6_common ({ frames := 0, cells := 0, slots := 0, locals := 0 } : Room) [.long a0, .long b0] L F (f_X6_common a0 b0) F := by
  refine wM.of (cc := cX6_common) (maxL := 10) (ret := (some .long)) (by decide) rfl (Nat.le_of_ble_eq_true rfl) ?_
  intro pZ eZ sZ mZ below meth cZ A ls C hl w
  obtain ⟨hx, hb, hr, hml, hts, hown, hlocks, hK, hA, hin⟩ := C
  have hown : sZ.vm.findClass RX6 = some mZ.cls := hown
  have hl : lv_has ls 10 [(0, .long a0), (2, .long b0)] := hl
  have hq : f_X6_common a0 b0 = f_X6_common a0 b0 := rfl
  refine lv_lload_n hx hb dX6_common_0 rfl (lv_at hl 0 rfl) ?_
  refine lv_lstore (lv' := [(4, .long a0), (0, .long a0), (2, .long b0)]) hx hb dX6_common_1 hl (by decide) rfl (fun ls hl => ?_)
  refine lv_lload_n hx hb dX6_common_3 rfl (lv_at hl 2 rfl) ?_
  refine lv_lstore (lv' := [(6, .long b0), (4, .long a0), (0, .long a0), (2, .long b0)]) hx hb dX6_common_4 hl (by decide) rfl (fun ls hl => ?_)
  have hL6 : ∀ (n k : Nat) (v4 : Int64) (v6 : Int64) (H : Heap) (locs : List Loc) (ls : Array Slot), k ≤ 0 → v6.toInt.natAbs < n → f_X6_common a0 b0 = f_X6_common_L6 n k v4 v6 → lv_has ls 10 [(0, .long a0), (2, .long b0), (4, .long v4), (6, .long v6)] → ww D A sZ.heap L F H locs → W pZ l eZ ({ frames := 0, cells := 0, slots := 0, locals := 0 } : Room) sZ mZ [.long a0, .long b0].toArray below meth cZ H locs 0 0 (MQ below (wQl D A (fun r1 L1 F1 => r1 = (f_X6_common a0 b0) ∧ L1 = L ∧ F1 = F)) [.long a0, .long b0].toArray sZ 0 0 A) (F0 mZ 6 ls []) := by
    intro n; induction n with
    | zero => intro k v4 v6 H locs ls hkT hmeas; exact absurd hmeas (Nat.not_lt_zero _)
    | succ n ih =>
      intro k v4 v6 H locs ls hkT hmeas hq hl w
      have hk31 : k < 2147483648 := (by omega)
      have hq := hq.trans (f_X6_common_L6_s  n k v4 v6)
      refine lv_lload hx hb dX6_common_6 (lv_at hl 3 rfl) ?_
      refine lv_lconst (v := 0) hx hb dX6_common_8 (by decide) ?_
      refine W.lcmp hx hb dX6_common_9 ?_
      refine lv_if_eq (tgt := 31) hx hb dX6_common_10 (by decide) (fun c1 => ?_) (fun c1 => ?_)
      · skip
        have hq := hq.trans (if_pos c1)
        refine lv_lload hx hb dX6_common_31 (lv_at hl 2 rfl) ?_
        refine lv_lconst (v := 0) hx hb dX6_common_33 (by decide) ?_
        refine W.lcmp hx hb dX6_common_34 ?_
        refine lv_if_ge (tgt := 44) hx hb dX6_common_35 (by decide) (fun c2 => ?_) (fun c2 => ?_)
        · skip
          have hq := hq.trans (if_pos c2)
          refine lv_lload hx hb dX6_common_44 (lv_at hl 2 rfl) ?_
          exact w_lret hx hb hr hlocks w ⟨hq.symm, rfl, rfl⟩ (Nat.le_refl _) (Nat.le_refl _) dX6_common_46
        · skip
          have hq := hq.trans (if_neg c2)
          refine lv_lload hx hb dX6_common_38 (lv_at hl 2 rfl) ?_
          refine lv_lneg hx hb dX6_common_40 ?_
          refine lv_goto (tgt := 46) hx hb dX6_common_41 (by decide) ?_
          exact w_lret hx hb hr hlocks w ⟨hq.symm, rfl, rfl⟩ (Nat.le_refl _) (Nat.le_refl _) dX6_common_46
      · skip
        have hq := hq.trans (if_neg c1)
        refine lv_lload hx hb dX6_common_13 (lv_at hl 2 rfl) ?_
        refine lv_lload hx hb dX6_common_15 (lv_at hl 3 rfl) ?_
        refine lv_lrem hx hb dX6_common_17 (lg_ne (by assumption)) ?_
        refine lv_lstore (lv' := [(8, .long (v4 - v4 / v6 * v6)), (0, .long a0), (2, .long b0), (4, .long v4), (6, .long v6)]) hx hb dX6_common_18 hl (by decide) rfl (fun ls hl => ?_)
        refine lv_lload hx hb dX6_common_20 (lv_at hl 4 rfl) ?_
        refine lv_lstore (lv' := [(4, .long v6), (8, .long (v4 - v4 / v6 * v6)), (0, .long a0), (2, .long b0), (6, .long v6)]) hx hb dX6_common_22 hl (by decide) rfl (fun ls hl => ?_)
        refine lv_lload hx hb dX6_common_24 (lv_at hl 1 rfl) ?_
        refine lv_lstore (lv' := [(6, .long (v4 - v4 / v6 * v6)), (4, .long v6), (8, .long (v4 - v4 / v6 * v6)), (0, .long a0), (2, .long b0)]) hx hb dX6_common_26 hl (by decide) rfl (fun ls hl => ?_)
        refine lv_goto (tgt := 6) hx hb dX6_common_28 (by decide) ?_
        exact ih 0 v6 (v4 - v4 / v6 * v6) _ _ _ (Nat.le_refl _) (lrem_lt (by assumption) hmeas) hq (lv_sub hl [3, 4, 1, 0] rfl) w
  exact hL6 (b0.toInt.natAbs + 1) 0 a0 b0 _ _ _ (Nat.zero_le _) (Nat.lt_succ_self _) hq (lv_sub hl [2, 3, 1, 0] rfl) w
theorem common_loop : ∀ (n : Nat) (x y : Int64), y.toInt.natAbs < n → (¬ x = 0 ∨ ¬ y = 0) → ¬ f_X6_common_L6 n 0 x y = 0 := by
  intro n
  induction n with
  | zero => intro x y h; exact absurd h (Nat.not_lt_zero _)
  | succ n ih =>
    intro x y h hne
    rw [f_X6_common_L6_s]
    by_cases c : lg_cmp y 0 = 0
    · rw [if_pos c]
      have hy : y = 0 := (lg_cmp_eq y 0).mp c
      have hx : ¬ x = 0 := hne.resolve_right (fun q => q hy)
      by_cases c2 : 0 ≤ lg_cmp x 0
      · rw [if_pos c2]; exact hx
      · rw [if_neg c2]
        intro q
        exact hx (by rw [← Int64.neg_neg (a := x), q]; rfl)
    · rw [if_neg c]
      exact ih _ _ (lrem_lt c h) (Or.inl (lg_ne c))
theorem common_ne {a b : Int64} (h : ¬ b = 0) : ¬ f_X6_common a b = 0 := common_loop _ _ _ (Nat.lt_succ_self _) (Or.inr h)
theorem l_ne {b : Int32} (h : 1 ≤ b.toInt) : ¬ b.toInt64 = 0 := by
  intro q
  have := congrArg Int64.toInt q
  rw [i64] at this
  have h0 : (0 : Int64).toInt = 0 := rfl
  omega
theorem tb_ne {a b : Int32} (ha : 1 ≤ a.toInt ∧ a.toInt ≤ 20) (h1 : 1 ≤ b.toInt) (h2 : b.toInt ≤ 100) : ¬ ((a.toInt64) * (b.toInt64)) = 0 := by
  intro q
  have q2 := congrArg Int64.toInt q
  have hp : 1 * 1 ≤ a.toInt * b.toInt := Int.mul_le_mul ha.1 h1 (by decide) (by omega)
  have hq : a.toInt * b.toInt ≤ 20 * 100 := Int.mul_le_mul ha.2 h2 (by omega) (by decide)
  rw [mulL (by rw [i64, i64]; omega), i64, i64] at q2
  have h0 : (0 : Int64).toInt = 0 := rfl
  omega
theorem nI_neB {k : Nat} {B : Int32} (hk : k < 2147483648) (h0 : 0 ≤ B.toInt) (c : ¬ nI k = B) : ¬ k = B.toNatClampNeg := by
  intro q
  apply c
  apply Int32.toInt_inj.mp
  rw [nI_toInt (by omega), q]
  have h2 : B.toNatClampNeg = B.toInt.toNat := rfl
  omega
theorem w_pos {x : Int32} (h : 0 ≤ x.toInt) (c : ¬ x = 0) : 1 ≤ x.toInt := by
  rcases Int.lt_or_eq_of_le h with h1 | h1
  · omega
  · exact absurd (Int32.toInt_inj.mp (h1.symm.trans Int32.toInt_zero.symm)) c
theorem w_d8 {d : Int32} (h : 0 ≤ d.toInt ∧ d.toInt < 8) : d.toNatClampNeg < 8 := by
  have : d.toNatClampNeg = d.toInt.toNat := rfl
  omega
def f_X6_partOf (above : Int64) (bel : Int64) (part : Int32) : Int64 := if part = (0 : Int32) then (above / (f_X6_common above bel)) else (bel / (f_X6_common above bel))
set_option maxHeartbeats 400000 in
set_option maxRecDepth 100000 in
theorem c_X6_partOf (l : Launch) (D : va_G) (cI cP cS cL : ClassId) (L : List Nat) (F : Nat → va_E) (above : Int64) (bel : Int64) (part : Int32) (hb0 : ¬ bel = 0) : wML l D cI cP cS cL yX6_partOf wsX6_partOf ({ frames := 1, cells := 0, slots := 0, locals := 29 } : Room) [.long above, .long bel, .int part] L F (f_X6_partOf above bel part) F := by
  refine wM.of (cc := cX6_partOf) (maxL := 7) (ret := (some .long)) (by decide) rfl (Nat.le_of_ble_eq_true rfl) ?_
  intro pZ eZ sZ mZ below meth cZ A ls C hl w
  obtain ⟨hx, hb, hr, hml, hts, hown, hlocks, hK, hA, hin⟩ := C
  have hown : sZ.vm.findClass RX6 = some mZ.cls := hown
  have hl : lv_has ls 7 [(0, .long above), (2, .long bel), (4, .int part)] := hl
  have hq : f_X6_partOf above bel part = f_X6_partOf above bel part := rfl
  refine lv_lload_n hx hb dX6_partOf_0 rfl (lv_at hl 0 rfl) ?_
  refine lv_lload_n hx hb dX6_partOf_1 rfl (lv_at hl 1 rfl) ?_
  refine w_finL (w_runS (rm := ({ frames := 0, cells := 0, slots := 0, locals := 0 } : Room)) (As := [.long above, .long bel]) (rest := []) (n := 2) hx hb hml hts hown hK w (c_X6_common l D cI cP cS cL L _ above bel ) gX6_partOf_X6_common rfl rfl rfl (by decide +kernel) ⟨(Nat.le_of_ble_eq_true rfl), (Nat.le_of_ble_eq_true rfl)⟩ rfl hl.1 rfl (Nat.le_of_ble_eq_true rfl) dX6_partOf_2 ⟨(Nat.le_of_ble_eq_true rfl), (Nat.le_of_ble_eq_true rfl)⟩) w hA (fun H locs w => ?_)
  refine lv_lstore (lv' := [(5, .long (f_X6_common above bel)), (0, .long above), (2, .long bel), (4, .int part)]) hx hb dX6_partOf_5 hl (by decide) rfl (fun ls hl => ?_)
  refine lv_iload hx hb dX6_partOf_7 (lv_at hl 3 rfl) ?_
  refine lv_if_ne (tgt := 19) hx hb dX6_partOf_9 (by decide) (fun c1 => ?_) (fun c1 => ?_)
  · skip
    have hq := hq.trans (if_neg c1)
    refine lv_lload_n hx hb dX6_partOf_19 rfl (lv_at hl 2 rfl) ?_
    refine lv_lload hx hb dX6_partOf_20 (lv_at hl 0 rfl) ?_
    refine lv_ldiv hx hb dX6_partOf_22 (common_ne hb0) ?_
    exact w_lret hx hb hr hlocks w ⟨hq.symm, rfl, rfl⟩ (Nat.le_refl _) (Nat.le_refl _) dX6_partOf_23
  · skip
    have hq := hq.trans (if_pos c1)
    refine lv_lload_n hx hb dX6_partOf_12 rfl (lv_at hl 1 rfl) ?_
    refine lv_lload hx hb dX6_partOf_13 (lv_at hl 0 rfl) ?_
    refine lv_ldiv hx hb dX6_partOf_15 (common_ne hb0) ?_
    refine lv_goto (tgt := 23) hx hb dX6_partOf_16 (by decide) ?_
    exact w_lret hx hb hr hlocks w ⟨hq.symm, rfl, rfl⟩ (Nat.le_refl _) (Nat.le_refl _) dX6_partOf_23
def f_X6_targetOf (part : Int32) (m_hs : Int32) (m_ss_f : Nat → Int32) (m_ha_f : Nat → Int32) : Int64 := (f_X6_partOf (((m_ss_f 0).toInt64) * ((f_X6_sumOf m_hs m_ha_f).toInt64)) (((m_ss_f 1).toInt64) * (m_hs.toInt64)) part)
set_option maxHeartbeats 400000 in
set_option maxRecDepth 100000 in
theorem c_X6_targetOf (l : Launch) (D : va_G) (cI cP cS cL : ClassId) (L : List Nat) (F : Nat → va_E) (m : Nat) (part : Int32) (m_ss : Nat) (m_im : Nat) (m_re : Nat) (m_sa : Nat) (m_ke : Nat) (m_so : Nat) (m_si : Nat) (m_el : Nat) (m_kd : Nat) (m_kt : Nat) (m_hi : Int32) (m_th : Int32) (m_po : Int32) (m_ba : Int32) (m_en : Int32) (m_tl : Int32) (m_nu : Nat) (m_ca : Nat) (m_ha : Nat) (m_hs : Int32) (m_co : Nat) (m_ss_f : Nat → Int32) (m_ha_f : Nat → Int32) (h_m : wi L F m (eM m_ss m_im m_re m_sa m_ke m_so m_si m_el m_kd m_kt m_hi m_th m_po m_ba m_en m_tl m_nu m_ca m_ha m_hs m_co)) (h_m_ss : wi L F m_ss (eI cI 55 m_ss_f)) (h_m_ha : wi L F m_ha (eI cI 100 m_ha_f)) (hhs : m_hs.toInt ≤ 100) (hbn : ¬ (((m_ss_f 1).toInt64) * (m_hs.toInt64)) = 0) : wML l D cI cP cS cL yX6_targetOf wsX6_targetOf ({ frames := 2, cells := 0, slots := 0, locals := 55 } : Room) [.ref m, .int part] L F (f_X6_targetOf part m_hs m_ss_f m_ha_f) F := by
  refine wM.of (cc := cX6_targetOf) (maxL := 2) (ret := (some .long)) (by decide) rfl (Nat.le_of_ble_eq_true rfl) ?_
  intro pZ eZ sZ mZ below meth cZ A ls C hl w
  obtain ⟨hx, hb, hr, hml, hts, hown, hlocks, hK, hA, hin⟩ := C
  have hown : sZ.vm.findClass RX6 = some mZ.cls := hown
  have hl : lv_has ls 2 [(0, .ref m), (1, .int part)] := hl
  have m_0 : ((.fieldLink RX6 9 "TwoThirdsModel" "s" "[I") : Cond) ∈ wsX6_targetOf := by decide +kernel
  have i_X6 : ∀ w ∈ wsX60, w ∈ wsX6_targetOf := by decide +kernel
  have m_2 : ((.fieldLink RX6 171 "TwoThirdsModel" "hands" "I") : Cond) ∈ wsX6_targetOf := by decide +kernel
  have hq : f_X6_targetOf part m_hs m_ss_f m_ha_f = f_X6_targetOf part m_hs m_ss_f m_ha_f := rfl
  refine lv_aload_n hx hb dX6_targetOf_0 rfl (lv_at hl 0 rfl) ?_
  refine w_get (v := .ref m_ss) hx hb hts i_X6 hown hK w h_m rfl 0 (by decide) (hts _ m_0) rfl dX6_targetOf_1 ?_
  refine lv_iconst (v := 0) hx hb dX6_targetOf_4 (by decide) ?_
  refine w_ild (j := 0) hx hb hK w h_m_ss (vp_in_nI (n := 0) (N := 55) (by decide) (by decide)) rfl dX6_targetOf_5 ?_
  refine lv_i2l (v := ((m_ss_f 0).toInt64)) hx hb dX6_targetOf_6 rfl ?_
  refine lv_aload_n hx hb dX6_targetOf_7 rfl (lv_at hl 0 rfl) ?_
  refine w_finI (w_runV (rm := ({ frames := 0, cells := 0, slots := 0, locals := 0 } : Room)) (As := []) (rest := [.long ((m_ss_f 0).toInt64)]) (n := 0) hx hb hml hts hown hK w (c_X6_sumOf l D cI cP cS cL L _ m m_ss m_im m_re m_sa m_ke m_so m_si m_el m_kd m_kt m_hi m_th m_po m_ba m_en m_tl m_nu m_ca m_ha m_hs m_co m_ha_f h_m h_m_ha hhs) gX6_targetOf_X6_sumOf rfl rfl rfl (by decide +kernel) ⟨(Nat.le_of_ble_eq_true rfl), (Nat.le_of_ble_eq_true rfl)⟩ h_m rfl rfl hl.1 rfl (Nat.le_of_ble_eq_true rfl) dX6_targetOf_8 ⟨(Nat.le_of_ble_eq_true rfl), (Nat.le_of_ble_eq_true rfl)⟩) w hA (fun H locs w => ?_)
  refine lv_i2l (v := ((f_X6_sumOf m_hs m_ha_f).toInt64)) hx hb dX6_targetOf_11 rfl ?_
  refine lv_lmul hx hb dX6_targetOf_12 ?_
  refine lv_aload_n hx hb dX6_targetOf_13 rfl (lv_at hl 0 rfl) ?_
  refine w_get (v := .ref m_ss) hx hb hts i_X6 hown hK w h_m rfl 0 (by decide) (hts _ m_0) rfl dX6_targetOf_14 ?_
  refine lv_iconst (v := 1) hx hb dX6_targetOf_17 (by decide) ?_
  refine w_ild (j := 1) hx hb hK w h_m_ss (vp_in_nI (n := 1) (N := 55) (by decide) (by decide)) rfl dX6_targetOf_18 ?_
  refine lv_i2l (v := ((m_ss_f 1).toInt64)) hx hb dX6_targetOf_19 rfl ?_
  refine lv_aload_n hx hb dX6_targetOf_20 rfl (lv_at hl 0 rfl) ?_
  refine w_get (v := .int m_hs) hx hb hts i_X6 hown hK w h_m rfl 19 (by decide) (hts _ m_2) rfl dX6_targetOf_21 ?_
  refine lv_i2l (v := (m_hs.toInt64)) hx hb dX6_targetOf_24 rfl ?_
  refine lv_lmul hx hb dX6_targetOf_25 ?_
  refine lv_iload_n hx hb dX6_targetOf_26 rfl (lv_at hl 1 rfl) ?_
  refine w_finL (w_runS (rm := ({ frames := 1, cells := 0, slots := 0, locals := 29 } : Room)) (As := [.long (((m_ss_f 0).toInt64) * ((f_X6_sumOf m_hs m_ha_f).toInt64)), .long (((m_ss_f 1).toInt64) * (m_hs.toInt64)), .int part]) (rest := []) (n := 3) hx hb hml hts hown hK w (c_X6_partOf l D cI cP cS cL L _ (((m_ss_f 0).toInt64) * ((f_X6_sumOf m_hs m_ha_f).toInt64)) (((m_ss_f 1).toInt64) * (m_hs.toInt64)) part hbn) gX6_targetOf_X6_partOf rfl rfl rfl (by decide +kernel) ⟨(Nat.le_of_ble_eq_true rfl), (Nat.le_of_ble_eq_true rfl)⟩ rfl hl.1 rfl (Nat.le_of_ble_eq_true rfl) dX6_targetOf_27 ⟨(Nat.le_of_ble_eq_true rfl), (Nat.le_of_ble_eq_true rfl)⟩) w hA (fun H locs w => ?_)
  exact w_lret hx hb hr hlocks w ⟨hq.symm, rfl, rfl⟩ (Nat.le_refl _) (Nat.le_refl _) dX6_targetOf_30
def f_X6_target (part : Int32) (m_hs : Int32) (m_ss_f : Nat → Int32) (m_ha_f : Nat → Int32) : Int32 × (Nat → Int32) × Int32 := if (f_X6_isIn (part.toInt64) 0 1) = (0 : Int32) then ((-1), m_ha_f, m_hs) else (if (m_ss_f 6) = (0 : Int32) then ((-3), m_ha_f, m_hs) else (bnd (f_X6_takesLast m_ss_f m_ha_f) (fun x26 : (Nat → Int32) × Int32 => (((f_X6_targetOf part x26.2 m_ss_f x26.1).toInt32), x26.1, x26.2))))
set_option maxHeartbeats 400000 in
set_option maxRecDepth 100000 in
theorem c_X6_target (l : Launch) (D : va_G) (cI cP cS cL : ClassId) (L : List Nat) (F : Nat → va_E) (m : Nat) (part : Int32) (m_ss : Nat) (m_im : Nat) (m_re : Nat) (m_sa : Nat) (m_ke : Nat) (m_so : Nat) (m_si : Nat) (m_el : Nat) (m_kd : Nat) (m_kt : Nat) (m_hi : Int32) (m_th : Int32) (m_po : Int32) (m_ba : Int32) (m_en : Int32) (m_tl : Int32) (m_nu : Nat) (m_ca : Nat) (m_ha : Nat) (m_hs : Int32) (m_co : Nat) (m_ss_f : Nat → Int32) (m_ha_f : Nat → Int32) (h_m : wi L F m (eM m_ss m_im m_re m_sa m_ke m_so m_si m_el m_kd m_kt m_hi m_th m_po m_ba m_en m_tl m_nu m_ca m_ha m_hs m_co)) (h_m_ss : wi L F m_ss (eI cI 55 m_ss_f)) (h_m_ha : wi L F m_ha (eI cI 100 m_ha_f)) (h5 : 0 ≤ (m_ss_f 5).toInt ∧ (m_ss_f 5).toInt ≤ 12) (hd20 : 1 ≤ (m_ss_f 1).toInt ∧ (m_ss_f 1).toInt ≤ 20) (hr5 : ¬ (m_ss_f 6) = 0 → ¬ (m_ss_f 5) = 0) (ne_m_ss_m_ha : m_ss ≠ m_ha) : wMj l D cI cP cS cL yX6_target wsX6_target ({ frames := 3, cells := 0, slots := 0, locals := 76 } : Room) [.ref m, .int part] L F (fun r1 F1 => ∃ y9 : Int32 × (Nat → Int32) × Int32, y9 = (f_X6_target part m_hs m_ss_f m_ha_f) ∧ r1 = y9.1 ∧ F1 m = (eM m_ss m_im m_re m_sa m_ke m_so m_si m_el m_kd m_kt m_hi m_th m_po m_ba m_en m_tl m_nu m_ca m_ha y9.2.2 m_co) ∧ F1 m_ha = (eI cI 100 y9.2.1) ∧ wk (fun q : Nat => q ≠ m ∧ q ≠ m_ha ∧ True) F1 F) := by
  refine wM.of (cc := cX6_target) (maxL := 2) (ret := (some .int)) (by decide) rfl (Nat.le_of_ble_eq_true rfl) ?_
  intro pZ eZ sZ mZ below meth cZ A ls C hl w
  obtain ⟨hx, hb, hr, hml, hts, hown, hlocks, hK, hA, hin⟩ := C
  have hown : sZ.vm.findClass RX6 = some mZ.cls := hown
  have hl : lv_has ls 2 [(0, .ref m), (1, .int part)] := hl
  have m_0 : ((.fieldLink RX6 9 "TwoThirdsModel" "s" "[I") : Cond) ∈ wsX6_target := by decide +kernel
  have i_X6 : ∀ w ∈ wsX60, w ∈ wsX6_target := by decide +kernel
  have hk : wk (fun q : Nat => q ≠ m ∧ q ≠ m_ha ∧ True) F F := wk.rf
  have hq : f_X6_target part m_hs m_ss_f m_ha_f = f_X6_target part m_hs m_ss_f m_ha_f := rfl
  refine lv_iload_n hx hb dX6_target_0 rfl (lv_at hl 1 rfl) ?_
  refine lv_i2l (v := (part.toInt64)) hx hb dX6_target_1 rfl ?_
  refine lv_lconst (v := 0) hx hb dX6_target_2 (by decide) ?_
  refine lv_lconst (v := 1) hx hb dX6_target_3 (by decide) ?_
  refine w_finI (w_runS (rm := ({ frames := 0, cells := 0, slots := 0, locals := 0 } : Room)) (As := [.long (part.toInt64), .long 0, .long 1]) (rest := []) (n := 3) hx hb hml hts hown hK w (c_X6_isIn l D cI cP cS cL L _ (part.toInt64) 0 1 ) gX6_target_X6_isIn rfl rfl rfl (by decide +kernel) ⟨(Nat.le_of_ble_eq_true rfl), (Nat.le_of_ble_eq_true rfl)⟩ rfl hl.1 rfl (Nat.le_of_ble_eq_true rfl) dX6_target_4 ⟨(Nat.le_of_ble_eq_true rfl), (Nat.le_of_ble_eq_true rfl)⟩) w hA (fun H locs w => ?_)
  refine lv_if_ne (tgt := 12) hx hb dX6_target_7 (by decide) (fun c1 => ?_) (fun c1 => ?_)
  · skip
    have hq := hq.trans (if_neg c1)
    refine lv_aload_n hx hb dX6_target_12 rfl (lv_at hl 0 rfl) ?_
    refine w_get (v := .ref m_ss) hx hb hts i_X6 hown hK w h_m rfl 0 (by decide) (hts _ m_0) rfl dX6_target_13 ?_
    refine lv_bipush (v := 6) hx hb dX6_target_16 (by decide) ?_
    refine w_ild (j := 6) hx hb hK w h_m_ss (vp_in_nI (n := 6) (N := 55) (by decide) (by decide)) rfl dX6_target_18 ?_
    refine lv_if_ne (tgt := 25) hx hb dX6_target_19 (by decide) (fun c2 => ?_) (fun c2 => ?_)
    · skip
      have hq := hq.trans (if_neg c2)
      refine lv_aload_n hx hb dX6_target_25 rfl (lv_at hl 0 rfl) ?_
      refine w_finw (w_runV (rm := ({ frames := 1, cells := 0, slots := 0, locals := 22 } : Room)) (As := []) (rest := []) (n := 0) hx hb hml hts hown hK w (c_X6_takesLast l D cI cP cS cL L _ m m_ss m_im m_re m_sa m_ke m_so m_si m_el m_kd m_kt m_hi m_th m_po m_ba m_en m_tl m_nu m_ca m_ha m_hs m_co m_ss_f m_ha_f h_m h_m_ss h_m_ha h5 ne_m_ss_m_ha) gX6_target_X6_takesLast rfl rfl rfl (by decide +kernel) ⟨(Nat.le_of_ble_eq_true rfl), (Nat.le_of_ble_eq_true rfl)⟩ h_m rfl rfl hl.1 rfl (Nat.le_of_ble_eq_true rfl) dX6_target_26 ⟨(Nat.le_of_ble_eq_true rfl), (Nat.le_of_ble_eq_true rfl)⟩) w hA (fun F1 H locs hp w => ?_)
      obtain ⟨x26, hx26, e26_0, e26_1, hw0, hw1, hk9⟩ := hp
      have hq := hq.trans (w_bnd hx26)
      have h_m_ss := h_m_ss.keep hk9 ⟨(wi.ne h_m_ss h_m (by intro h; cases h)), ne_m_ss_m_ha, trivial⟩
      have h_m := h_m.new hw0
      have h_m_ha := h_m_ha.new hw1
      have hk := hk.call hk9 (fun q h => ⟨h.1, h.2.1, trivial⟩)
      have h1s : 1 ≤ x26.2.toInt := (by rw [e26_1]; exact w_pos h5.1 (hr5 (by assumption)))
      refine lv_aload_n hx hb dX6_target_29 rfl (lv_at hl 0 rfl) ?_
      refine lv_iload_n hx hb dX6_target_30 rfl (lv_at hl 1 rfl) ?_
      refine w_finL (w_runV (rm := ({ frames := 2, cells := 0, slots := 0, locals := 55 } : Room)) (As := [.int part]) (rest := []) (n := 1) hx hb hml hts hown hK w (c_X6_targetOf l D cI cP cS cL L _ m part m_ss m_im m_re m_sa m_ke m_so m_si m_el m_kd m_kt m_hi m_th m_po m_ba m_en m_tl m_nu m_ca m_ha x26.2 m_co m_ss_f x26.1 h_m h_m_ss h_m_ha e26_0 (tb_ne hd20 h1s e26_0)) gX6_target_X6_targetOf rfl rfl rfl (by decide +kernel) ⟨(Nat.le_of_ble_eq_true rfl), (Nat.le_of_ble_eq_true rfl)⟩ h_m rfl rfl hl.1 rfl (Nat.le_of_ble_eq_true rfl) dX6_target_31 ⟨(Nat.le_of_ble_eq_true rfl), (Nat.le_of_ble_eq_true rfl)⟩) w hA (fun H locs w => ?_)
      refine lv_l2i (v := ((f_X6_targetOf part x26.2 m_ss_f x26.1).toInt32)) hx hb dX6_target_34 rfl ?_
      exact w_iret hx hb hr hlocks w ⟨rfl, _, hq.symm, rfl, h_m.2, h_m_ha.2, hk⟩ (Nat.le_refl _) (Nat.le_refl _) dX6_target_35
    · skip
      have hq := hq.trans (if_pos c2)
      refine lv_bipush (v := (-3)) hx hb dX6_target_22 (by decide) ?_
      exact w_iret hx hb hr hlocks w ⟨rfl, _, hq.symm, rfl, h_m.2, h_m_ha.2, hk⟩ (Nat.le_refl _) (Nat.le_refl _) dX6_target_24
  · skip
    have hq := hq.trans (if_pos c1)
    refine lv_iconst (v := (-1)) hx hb dX6_target_10 (by decide) ?_
    exact w_iret hx hb hr hlocks w ⟨rfl, _, hq.symm, rfl, h_m.2, h_m_ha.2, hk⟩ (Nat.le_refl _) (Nat.le_refl _) dX6_target_11
theorem p_ne0 {p B : Int32} (h : 0 ≤ p.toInt ∧ p.toInt < B.toInt) : ¬ B = 0 := by
  intro q
  subst q
  rw [Int32.toInt_zero] at h
  omega
theorem w_in100 {p : Int32} (h : 0 ≤ p.toInt ∧ p.toInt < 12) : vp_in p 100 := vp_in_iff.mpr ⟨h.1, by omega⟩
theorem isShare_dn {up down : Int32} (c : ¬ f_X6_isShare up down = 0) : ¬ down = 0 := by
  intro q
  subst q
  apply c
  unfold f_X6_isShare
  have e : f_X6_isIn ((0 : Int32).toInt64) 1 20 = 0 := by decide
  split
  · rfl
  · first | exact if_pos e | rw [e] | simp [e]
theorem elix2 {d i : Int32} (h : 0 ≤ d.toInt ∧ d.toInt < 8) (hi : 0 ≤ i.toInt ∧ i.toInt < 100) : vp_in ((100 * d) + i) 800 := by
  have h4 : (100 : Int32).toInt = 100 := rfl
  have e1 : (100 * d).toInt = 100 * d.toInt := by rw [mulI (by rw [h4]; omega), h4]
  refine vp_in_iff.mpr ?_
  rw [addI (by rw [e1]; omega), e1]
  omega
theorem put_ok {i sz : Int32} (h : sz.toInt ≤ 100) (h0 : 0 ≤ sz.toInt) (c : ¬ f_X6_isIn (i.toInt64) 0 ((sz - 1).toInt64) = 0) : 0 ≤ i.toInt ∧ i.toInt < 100 := by
  have q := isIn_ok c
  rw [i64, i64] at q
  have a : (0 : Int64).toInt = 0 := rfl
  have h1 : (1 : Int32).toInt = 1 := rfl
  rw [subI (by rw [h1]; omega), h1] at q
  omega
theorem keep_dead {what : Int32} (c : ¬ f_X6_isIn (what.toInt64) 0 1 = 0) (c1 : ¬ what = 1) (c0 : ¬ what = 0) : False := by
  have q := isIn_ok c
  rw [i64] at q
  have a : (0 : Int64).toInt = 0 := rfl
  have b : (1 : Int64).toInt = 1 := rfl
  have d0 : ¬ what.toInt = 0 := fun h => c0 (Int32.toInt_inj.mp (h.trans Int32.toInt_zero.symm))
  have d1 : ¬ what.toInt = 1 := fun h => c1 (Int32.toInt_inj.mp (h.trans (rfl : (1 : Int32).toInt = 1).symm))
  omega
def f_X6_wins__L111 (u_m_sa_f : Nat → Int32) (v3 : Int32) (u_m_ca_f : Nat → Int32) (u_m_ha_f : Nat → Int32) (u_m_hs : Int32) : Nat → Nat → (Nat → Int32) → Int32 × (Nat → Int32) × (Nat → Int32) × (Nat → Int32) × (Nat → Int32) × Int32
  | 0, _, _ => (0, (fun _ => 0), (fun _ => 0), (fun _ => 0), (fun _ => 0), 0)
  | n + 1, k, u_m_ss_f => if (55 : Int32) ≤ (nI k) then (v3, u_m_ss_f, u_m_sa_f, u_m_ca_f, u_m_ha_f, u_m_hs) else (f_X6_wins__L111 u_m_sa_f v3 u_m_ca_f u_m_ha_f u_m_hs n ((k + 1)) (upd u_m_ss_f k (u_m_sa_f k)))
theorem f_X6_wins__L111_s (u_m_sa_f : Nat → Int32) (v3 : Int32) (u_m_ca_f : Nat → Int32) (u_m_ha_f : Nat → Int32) (u_m_hs : Int32) (n k : Nat) (u_m_ss_f : Nat → Int32) : f_X6_wins__L111 u_m_sa_f v3 u_m_ca_f u_m_ha_f u_m_hs (n + 1) k u_m_ss_f = (if (55 : Int32) ≤ (nI k) then (v3, u_m_ss_f, u_m_sa_f, u_m_ca_f, u_m_ha_f, u_m_hs) else (f_X6_wins__L111 u_m_sa_f v3 u_m_ca_f u_m_ha_f u_m_hs n ((k + 1)) (upd u_m_ss_f k (u_m_sa_f k)))) := rfl
def f_X6_wins__L53 (p0 : Int32) (n0 : Int32) (u_m_sa_f : Nat → Int32) : Nat → Nat → Int32 → (Nat → Int32) → (Nat → Int32) → (Nat → Int32) → (Int32) → Int32 × (Nat → Int32) × (Nat → Int32) × (Nat → Int32) × (Nat → Int32) × Int32
  | 0, _, _, _, _, _, _ => (0, (fun _ => 0), (fun _ => 0), (fun _ => 0), (fun _ => 0), 0)
  | n + 1, k, v3, u_m_ss_f, u_m_ca_f, u_m_ha_f, u_m_hs => if n0 ≤ (nI k) then (f_X6_wins__L111 u_m_sa_f v3 u_m_ca_f u_m_ha_f u_m_hs (55 + 1) 0 u_m_ss_f) else (bnd (f_X6_goesRound u_m_ss_f u_m_ca_f) (fun x60 : (Nat → Int32) × (Nat → Int32) => (bnd (f_X6_takesLast x60.1 u_m_ha_f) (fun x64 : (Nat → Int32) × Int32 => if (f_X6_wins (x64.1 (p0.toNatClampNeg)) (f_X6_sumOf x64.2 x64.1) (f_X6_bestOf (f_X6_sumOf x64.2 x64.1) x64.2 x60.1 x64.1) x64.2 x60.1) = (0 : Int32) then (f_X6_wins__L53 p0 n0 u_m_sa_f n ((k + 1)) (v3 + 0) x60.1 x60.2 x64.1 x64.2) else (f_X6_wins__L53 p0 n0 u_m_sa_f n ((k + 1)) (v3 + 1) x60.1 x60.2 x64.1 x64.2)))))
theorem f_X6_wins__L53_s (p0 : Int32) (n0 : Int32) (u_m_sa_f : Nat → Int32) (n k : Nat) (v3 : Int32) (u_m_ss_f : Nat → Int32) (u_m_ca_f : Nat → Int32) (u_m_ha_f : Nat → Int32) (u_m_hs : Int32) : f_X6_wins__L53 p0 n0 u_m_sa_f (n + 1) k v3 u_m_ss_f u_m_ca_f u_m_ha_f u_m_hs = (if n0 ≤ (nI k) then (f_X6_wins__L111 u_m_sa_f v3 u_m_ca_f u_m_ha_f u_m_hs (55 + 1) 0 u_m_ss_f) else (bnd (f_X6_goesRound u_m_ss_f u_m_ca_f) (fun x60 : (Nat → Int32) × (Nat → Int32) => (bnd (f_X6_takesLast x60.1 u_m_ha_f) (fun x64 : (Nat → Int32) × Int32 => if (f_X6_wins (x64.1 (p0.toNatClampNeg)) (f_X6_sumOf x64.2 x64.1) (f_X6_bestOf (f_X6_sumOf x64.2 x64.1) x64.2 x60.1 x64.1) x64.2 x60.1) = (0 : Int32) then (f_X6_wins__L53 p0 n0 u_m_sa_f n ((k + 1)) (v3 + 0) x60.1 x60.2 x64.1 x64.2) else (f_X6_wins__L53 p0 n0 u_m_sa_f n ((k + 1)) (v3 + 1) x60.1 x60.2 x64.1 x64.2)))))) := rfl
def f_X6_wins__L24 (p0 : Int32) (n0 : Int32) (m_hs : Int32) (m_ss_f : Nat → Int32) (m_ca_f : Nat → Int32) (m_ha_f : Nat → Int32) : Nat → Nat → (Nat → Int32) → Int32 × (Nat → Int32) × (Nat → Int32) × (Nat → Int32) × (Nat → Int32) × Int32
  | 0, _, _ => (0, (fun _ => 0), (fun _ => 0), (fun _ => 0), (fun _ => 0), 0)
  | n + 1, k, u_m_sa_f => if (55 : Int32) ≤ (nI k) then (f_X6_wins__L53 p0 n0 u_m_sa_f (n0.toNatClampNeg + 1) 0 0 m_ss_f m_ca_f m_ha_f m_hs) else (f_X6_wins__L24 p0 n0 m_hs m_ss_f m_ca_f m_ha_f n ((k + 1)) (upd u_m_sa_f k (m_ss_f k)))
theorem f_X6_wins__L24_s (p0 : Int32) (n0 : Int32) (m_hs : Int32) (m_ss_f : Nat → Int32) (m_ca_f : Nat → Int32) (m_ha_f : Nat → Int32) (n k : Nat) (u_m_sa_f : Nat → Int32) : f_X6_wins__L24 p0 n0 m_hs m_ss_f m_ca_f m_ha_f (n + 1) k u_m_sa_f = (if (55 : Int32) ≤ (nI k) then (f_X6_wins__L53 p0 n0 u_m_sa_f (n0.toNatClampNeg + 1) 0 0 m_ss_f m_ca_f m_ha_f m_hs) else (f_X6_wins__L24 p0 n0 m_hs m_ss_f m_ca_f m_ha_f n ((k + 1)) (upd u_m_sa_f k (m_ss_f k)))) := rfl
def f_X6_wins_ (p0 : Int32) (n0 : Int32) (m_hs : Int32) (m_ss_f : Nat → Int32) (m_sa_f : Nat → Int32) (m_ca_f : Nat → Int32) (m_ha_f : Nat → Int32) : Int32 × (Nat → Int32) × (Nat → Int32) × (Nat → Int32) × (Nat → Int32) × Int32 := if (f_X6_isPerson p0 m_ss_f) = (0 : Int32) then ((-1), m_ss_f, m_sa_f, m_ca_f, m_ha_f, m_hs) else (if (f_X6_isIn (n0.toInt64) 1 20) = (0 : Int32) then ((-1), m_ss_f, m_sa_f, m_ca_f, m_ha_f, m_hs) else (f_X6_wins__L24 p0 n0 m_hs m_ss_f m_ca_f m_ha_f (55 + 1) 0 m_sa_f))
set_option maxHeartbeats 400000 in
set_option maxRecDepth 100000 in
theorem c_X6_wins_ (l : Launch) (D : va_G) (cI cP cS cL : ClassId) (L : List Nat) (F : Nat → va_E) (m : Nat) (p0 : Int32) (n0 : Int32) (m_ss : Nat) (m_im : Nat) (m_re : Nat) (m_sa : Nat) (m_ke : Nat) (m_so : Nat) (m_si : Nat) (m_el : Nat) (m_kd : Nat) (m_kt : Nat) (m_hi : Int32) (m_th : Int32) (m_po : Int32) (m_ba : Int32) (m_en : Int32) (m_tl : Int32) (m_nu : Nat) (m_ca : Nat) (m_ha : Nat) (m_hs : Int32) (m_co : Nat) (m_ss_f : Nat → Int32) (m_sa_f : Nat → Int32) (m_ca_f : Nat → Int32) (m_ha_f : Nat → Int32) (h_m : wi L F m (eM m_ss m_im m_re m_sa m_ke m_so m_si m_el m_kd m_kt m_hi m_th m_po m_ba m_en m_tl m_nu m_ca m_ha m_hs m_co)) (h_m_ss : wi L F m_ss (eI cI 55 m_ss_f)) (h_m_sa : wi L F m_sa (eI cI 55 m_sa_f)) (h_m_ca : wi L F m_ca (eI cI 12 m_ca_f)) (h_m_ha : wi L F m_ha (eI cI 100 m_ha_f)) (h5 : 0 ≤ (m_ss_f 5).toInt ∧ (m_ss_f 5).toInt ≤ 12) (hhi : 0 ≤ (m_ss_f 2).toInt ∧ (m_ss_f 2).toInt ≤ 1000) (hd1 : ¬ (m_ss_f 1) = 0) (hst : ∀ p : Int32, 0 ≤ p.toInt ∧ p.toInt < 12 → (m_ss_f (((7 + (4 * p)) + 1).toNatClampNeg)).toInt ≤ 1000) (ne_m_sa_m_ss : m_sa ≠ m_ss) (ne_m_ca_m_ss : m_ca ≠ m_ss) (ne_m_ha_m_ss : m_ha ≠ m_ss) (ne_m_ss_m_ca : m_ss ≠ m_ca) (ne_m_sa_m_ca : m_sa ≠ m_ca) (ne_m_ha_m_ca : m_ha ≠ m_ca) (ne_m_ss_m_ha : m_ss ≠ m_ha) (ne_m_sa_m_ha : m_sa ≠ m_ha) (ne_m_ca_m_ha : m_ca ≠ m_ha) (ne_m_ss_m_sa : m_ss ≠ m_sa) (ne_m_ca_m_sa : m_ca ≠ m_sa) (ne_m_ha_m_sa : m_ha ≠ m_sa) : wMj l D cI cP cS cL yX6_wins_ wsX6_wins_ ({ frames := 7, cells := 0, slots := 0, locals := 162 } : Room) [.ref m, .int p0, .int n0] L F (fun r1 F1 => ∃ y9 : Int32 × (Nat → Int32) × (Nat → Int32) × (Nat → Int32) × (Nat → Int32) × Int32, y9 = (f_X6_wins_ p0 n0 m_hs m_ss_f m_sa_f m_ca_f m_ha_f) ∧ r1 = y9.1 ∧ F1 m = (eM m_ss m_im m_re m_sa m_ke m_so m_si m_el m_kd m_kt m_hi m_th m_po m_ba m_en m_tl m_nu m_ca m_ha y9.2.2.2.2.2 m_co) ∧ F1 m_ss = (eI cI 55 y9.2.1) ∧ F1 m_sa = (eI cI 55 y9.2.2.1) ∧ F1 m_ca = (eI cI 12 y9.2.2.2.1) ∧ F1 m_ha = (eI cI 100 y9.2.2.2.2.1) ∧ wk (fun q : Nat => q ≠ m ∧ q ≠ m_ss ∧ q ≠ m_sa ∧ q ≠ m_ca ∧ q ≠ m_ha ∧ True) F1 F) := by
  refine wM.of (cc := cX6_wins_) (maxL := 6) (ret := (some .int)) (by decide) rfl (Nat.le_of_ble_eq_true rfl) ?_
  intro pZ eZ sZ mZ below meth cZ A ls C hl w
  obtain ⟨hx, hb, hr, hml, hts, hown, hlocks, hK, hA, hin⟩ := C
  have hown : sZ.vm.findClass RX6 = some mZ.cls := hown
  have hl : lv_has ls 6 [(0, .ref m), (1, .int p0), (2, .int n0)] := hl
  have m_0 : ((.constantLong RX6 102 20) : Cond) ∈ wsX6_wins_ := by decide +kernel
  have m_1 : ((.fieldLink RX6 9 "TwoThirdsModel" "s" "[I") : Cond) ∈ wsX6_wins_ := by decide +kernel
  have i_X6 : ∀ w ∈ wsX60, w ∈ wsX6_wins_ := by decide +kernel
  have m_3 : ((.fieldLink RX6 19 "TwoThirdsModel" "saved" "[I") : Cond) ∈ wsX6_wins_ := by decide +kernel
  have m_4 : ((.fieldLink RX6 46 "TwoThirdsModel" "hand" "[I") : Cond) ∈ wsX6_wins_ := by decide +kernel
  have hk : wk (fun q : Nat => q ≠ m ∧ q ≠ m_ss ∧ q ≠ m_sa ∧ q ≠ m_ca ∧ q ≠ m_ha ∧ True) F F := wk.rf
  have hq : f_X6_wins_ p0 n0 m_hs m_ss_f m_sa_f m_ca_f m_ha_f = f_X6_wins_ p0 n0 m_hs m_ss_f m_sa_f m_ca_f m_ha_f := rfl
  refine lv_aload_n hx hb dX6_wins__0 rfl (lv_at hl 0 rfl) ?_
  refine lv_iload_n hx hb dX6_wins__1 rfl (lv_at hl 1 rfl) ?_
  refine w_finI (w_runV (rm := ({ frames := 1, cells := 0, slots := 0, locals := 25 } : Room)) (As := [.int p0]) (rest := []) (n := 1) hx hb hml hts hown hK w (c_X6_isPerson l D cI cP cS cL L _ m p0 m_ss m_im m_re m_sa m_ke m_so m_si m_el m_kd m_kt m_hi m_th m_po m_ba m_en m_tl m_nu m_ca m_ha m_hs m_co m_ss_f h_m h_m_ss) gX6_wins__X6_isPerson rfl rfl rfl (by decide +kernel) ⟨(Nat.le_of_ble_eq_true rfl), (Nat.le_of_ble_eq_true rfl)⟩ h_m rfl rfl hl.1 rfl (Nat.le_of_ble_eq_true rfl) dX6_wins__2 ⟨(Nat.le_of_ble_eq_true rfl), (Nat.le_of_ble_eq_true rfl)⟩) w hA (fun H locs w => ?_)
  refine lv_if_eq (tgt := 20) hx hb dX6_wins__5 (by decide) (fun c1 => ?_) (fun c1 => ?_)
  · skip
    have hq := hq.trans (if_pos c1)
    refine lv_iconst (v := (-1)) hx hb dX6_wins__20 (by decide) ?_
    exact w_iret hx hb hr hlocks w ⟨rfl, _, hq.symm, rfl, h_m.2, h_m_ss.2, h_m_sa.2, h_m_ca.2, h_m_ha.2, hk⟩ (Nat.le_refl _) (Nat.le_refl _) dX6_wins__21
  · skip
    have hq := hq.trans (if_neg c1)
    have hp0 : 0 ≤ p0.toInt ∧ p0.toInt < 12 := isPerson_12 h5 c1
    have h5n : ¬ (m_ss_f 5) = 0 := (p_ne0 (isPerson_ok h5 c1))
    refine lv_iload_n hx hb dX6_wins__8 rfl (lv_at hl 2 rfl) ?_
    refine lv_i2l (v := (n0.toInt64)) hx hb dX6_wins__9 rfl ?_
    refine lv_lconst (v := 1) hx hb dX6_wins__10 (by decide) ?_
    refine lv_ldc2 (v := 20) hx hb hown (hts _ m_0) dX6_wins__11 ?_
    refine w_finI (w_runS (rm := ({ frames := 0, cells := 0, slots := 0, locals := 0 } : Room)) (As := [.long (n0.toInt64), .long 1, .long 20]) (rest := []) (n := 3) hx hb hml hts hown hK w (c_X6_isIn l D cI cP cS cL L _ (n0.toInt64) 1 20 ) gX6_wins__X6_isIn rfl rfl rfl (by decide +kernel) ⟨(Nat.le_of_ble_eq_true rfl), (Nat.le_of_ble_eq_true rfl)⟩ rfl hl.1 rfl (Nat.le_of_ble_eq_true rfl) dX6_wins__14 ⟨(Nat.le_of_ble_eq_true rfl), (Nat.le_of_ble_eq_true rfl)⟩) w hA (fun H locs w => ?_)
    refine lv_if_ne (tgt := 22) hx hb dX6_wins__17 (by decide) (fun c2 => ?_) (fun c2 => ?_)
    · skip
      have hq := hq.trans (if_neg c2)
      refine lv_iconst (v := 0) hx hb dX6_wins__22 (by decide) ?_
      refine lv_istore_n (lv' := [(3, .int 0), (0, .ref m), (1, .int p0), (2, .int n0)]) hx hb dX6_wins__23 rfl hl (by decide) rfl (fun ls hl => ?_)
      have hL24 : ∀ (n k : Nat) (u_m_sa_f : Nat → Int32) (F1 : Nat → va_E) (H : Heap) (locs : List Loc) (ls : Array Slot), k ≤ 55 → 55 - k < n → f_X6_wins_ p0 n0 m_hs m_ss_f m_sa_f m_ca_f m_ha_f = f_X6_wins__L24 p0 n0 m_hs m_ss_f m_ca_f m_ha_f n k u_m_sa_f → lv_has ls 6 [(0, .ref m), (1, .int p0), (2, .int n0), (3, .int (nI k))] → ww D A sZ.heap L F1 H locs → (wi L F1 m (eM m_ss m_im m_re m_sa m_ke m_so m_si m_el m_kd m_kt m_hi m_th m_po m_ba m_en m_tl m_nu m_ca m_ha m_hs m_co)) → (wi L F1 m_ss (eI cI 55 m_ss_f)) → (wi L F1 m_sa (eI cI 55 u_m_sa_f)) → (wi L F1 m_ca (eI cI 12 m_ca_f)) → (wi L F1 m_ha (eI cI 100 m_ha_f)) → wk (fun q : Nat => q ≠ m ∧ q ≠ m_ss ∧ q ≠ m_sa ∧ q ≠ m_ca ∧ q ≠ m_ha ∧ True) F1 F → W pZ l eZ ({ frames := 7, cells := 0, slots := 0, locals := 162 } : Room) sZ mZ [.ref m, .int p0, .int n0].toArray below meth cZ H locs 0 0 (MQ below (wQi D A (fun r1 L1 F1 => L1 = L ∧ ∃ y9 : Int32 × (Nat → Int32) × (Nat → Int32) × (Nat → Int32) × (Nat → Int32) × Int32, y9 = (f_X6_wins_ p0 n0 m_hs m_ss_f m_sa_f m_ca_f m_ha_f) ∧ r1 = y9.1 ∧ F1 m = (eM m_ss m_im m_re m_sa m_ke m_so m_si m_el m_kd m_kt m_hi m_th m_po m_ba m_en m_tl m_nu m_ca m_ha y9.2.2.2.2.2 m_co) ∧ F1 m_ss = (eI cI 55 y9.2.1) ∧ F1 m_sa = (eI cI 55 y9.2.2.1) ∧ F1 m_ca = (eI cI 12 y9.2.2.2.1) ∧ F1 m_ha = (eI cI 100 y9.2.2.2.2.1) ∧ wk (fun q : Nat => q ≠ m ∧ q ≠ m_ss ∧ q ≠ m_sa ∧ q ≠ m_ca ∧ q ≠ m_ha ∧ True) F1 F)) [.ref m, .int p0, .int n0].toArray sZ 0 0 A) (F0 mZ 24 ls []) := by
        intro n; induction n with
        | zero => intro k u_m_sa_f F1 H locs ls hkT hmeas; exact absurd hmeas (Nat.not_lt_zero _)
        | succ n ih =>
          intro k u_m_sa_f F1 H locs ls hkT hmeas hq hl w h_m h_m_ss h_m_sa h_m_ca h_m_ha hk
          have hk31 : k < 2147483648 := by omega
          have hq := hq.trans (f_X6_wins__L24_s p0 n0 m_hs m_ss_f m_ca_f m_ha_f n k u_m_sa_f)
          refine lv_iload_n hx hb dX6_wins__24 rfl (lv_at hl 3 rfl) ?_
          refine lv_bipush (v := 55) hx hb dX6_wins__25 (by decide) ?_
          refine lv_icmp_ge (tgt := 48) hx hb dX6_wins__27 (by decide) (fun c3 => ?_) (fun c3 => ?_)
          · skip
            have hq := hq.trans (if_pos c3)
            refine lv_iconst (v := 0) hx hb dX6_wins__48 (by decide) ?_
            refine lv_istore_n (lv' := [(3, .int 0), (0, .ref m), (1, .int p0), (2, .int n0)]) hx hb dX6_wins__49 rfl hl (by decide) rfl (fun ls hl => ?_)
            refine lv_iconst (v := 0) hx hb dX6_wins__50 (by decide) ?_
            refine lv_istore (lv' := [(4, .int 0), (3, .int 0), (0, .ref m), (1, .int p0), (2, .int n0)]) hx hb dX6_wins__51 hl (by decide) rfl (fun ls hl => ?_)
            have hL53 : ∀ (n k : Nat) (v3 : Int32) (u_m_ss_f : Nat → Int32) (u_m_ca_f : Nat → Int32) (u_m_ha_f : Nat → Int32) (u_m_hs : Int32) (F1 : Nat → va_E) (H : Heap) (locs : List Loc) (ls : Array Slot), (gk u_m_ss_f m_ss_f) → k ≤ n0.toNatClampNeg → n0.toNatClampNeg - k < n → f_X6_wins_ p0 n0 m_hs m_ss_f m_sa_f m_ca_f m_ha_f = f_X6_wins__L53 p0 n0 u_m_sa_f n k v3 u_m_ss_f u_m_ca_f u_m_ha_f u_m_hs → lv_has ls 6 [(0, .ref m), (1, .int p0), (2, .int n0), (3, .int v3), (4, .int (nI k))] → ww D A sZ.heap L F1 H locs → (wi L F1 m (eM m_ss m_im m_re m_sa m_ke m_so m_si m_el m_kd m_kt m_hi m_th m_po m_ba m_en m_tl m_nu m_ca m_ha u_m_hs m_co)) → (wi L F1 m_ss (eI cI 55 u_m_ss_f)) → (wi L F1 m_sa (eI cI 55 u_m_sa_f)) → (wi L F1 m_ca (eI cI 12 u_m_ca_f)) → (wi L F1 m_ha (eI cI 100 u_m_ha_f)) → wk (fun q : Nat => q ≠ m ∧ q ≠ m_ss ∧ q ≠ m_sa ∧ q ≠ m_ca ∧ q ≠ m_ha ∧ True) F1 F → W pZ l eZ ({ frames := 7, cells := 0, slots := 0, locals := 162 } : Room) sZ mZ [.ref m, .int p0, .int n0].toArray below meth cZ H locs 0 0 (MQ below (wQi D A (fun r1 L1 F1 => L1 = L ∧ ∃ y9 : Int32 × (Nat → Int32) × (Nat → Int32) × (Nat → Int32) × (Nat → Int32) × Int32, y9 = (f_X6_wins_ p0 n0 m_hs m_ss_f m_sa_f m_ca_f m_ha_f) ∧ r1 = y9.1 ∧ F1 m = (eM m_ss m_im m_re m_sa m_ke m_so m_si m_el m_kd m_kt m_hi m_th m_po m_ba m_en m_tl m_nu m_ca m_ha y9.2.2.2.2.2 m_co) ∧ F1 m_ss = (eI cI 55 y9.2.1) ∧ F1 m_sa = (eI cI 55 y9.2.2.1) ∧ F1 m_ca = (eI cI 12 y9.2.2.2.1) ∧ F1 m_ha = (eI cI 100 y9.2.2.2.2.1) ∧ wk (fun q : Nat => q ≠ m ∧ q ≠ m_ss ∧ q ≠ m_sa ∧ q ≠ m_ca ∧ q ≠ m_ha ∧ True) F1 F)) [.ref m, .int p0, .int n0].toArray sZ 0 0 A) (F0 mZ 53 ls []) := by
              intro n; induction n with
              | zero => intro k v3 u_m_ss_f u_m_ca_f u_m_ha_f u_m_hs F1 H locs ls _ hkT hmeas; exact absurd hmeas (Nat.not_lt_zero _)
              | succ n ih =>
                intro k v3 u_m_ss_f u_m_ca_f u_m_ha_f u_m_hs F1 H locs ls hi0 hkT hmeas hq hl w h_m h_m_ss h_m_sa h_m_ca h_m_ha hk
                have hk31 : k < 2147483648 := Nat.lt_of_le_of_lt hkT (w_clamp_lt _)
                have h5u : 0 ≤ (u_m_ss_f 5).toInt ∧ (u_m_ss_f 5).toInt ≤ 12 := (by rw [hi0.i5]; exact h5)
                have hhiu : 0 ≤ (u_m_ss_f 2).toInt ∧ (u_m_ss_f 2).toInt ≤ 1000 := (by rw [hi0.i2]; exact hhi)
                have hd1u : ¬ (u_m_ss_f 1) = 0 := (by rw [hi0.i1]; exact hd1)
                have hr5u : ¬ (u_m_ss_f 6) = 0 → ¬ (u_m_ss_f 5) = 0 := (fun _ => by rw [hi0.i5]; exact h5n)
                have hstu : ∀ p : Int32, 0 ≤ p.toInt ∧ p.toInt < 12 → (u_m_ss_f (((7 + (4 * p)) + 1).toNatClampNeg)).toInt ≤ 1000 := (hi0.hst hst)
                have hq := hq.trans (f_X6_wins__L53_s p0 n0 u_m_sa_f n k v3 u_m_ss_f u_m_ca_f u_m_ha_f u_m_hs)
                refine lv_iload hx hb dX6_wins__53 (lv_at hl 4 rfl) ?_
                refine lv_iload_n hx hb dX6_wins__55 rfl (lv_at hl 2 rfl) ?_
                refine lv_icmp_ge (tgt := 108) hx hb dX6_wins__56 (by decide) (fun c4 => ?_) (fun c4 => ?_)
                · skip
                  have hq := hq.trans (if_pos c4)
                  refine lv_iconst (v := 0) hx hb dX6_wins__108 (by decide) ?_
                  refine lv_istore (lv' := [(4, .int 0), (0, .ref m), (1, .int p0), (2, .int n0), (3, .int v3)]) hx hb dX6_wins__109 hl (by decide) rfl (fun ls hl => ?_)
                  have hL111 : ∀ (n k : Nat) (u_m_ss_f : Nat → Int32) (F1 : Nat → va_E) (H : Heap) (locs : List Loc) (ls : Array Slot), k ≤ 55 → 55 - k < n → f_X6_wins_ p0 n0 m_hs m_ss_f m_sa_f m_ca_f m_ha_f = f_X6_wins__L111 u_m_sa_f v3 u_m_ca_f u_m_ha_f u_m_hs n k u_m_ss_f → lv_has ls 6 [(0, .ref m), (1, .int p0), (2, .int n0), (3, .int v3), (4, .int (nI k))] → ww D A sZ.heap L F1 H locs → (wi L F1 m (eM m_ss m_im m_re m_sa m_ke m_so m_si m_el m_kd m_kt m_hi m_th m_po m_ba m_en m_tl m_nu m_ca m_ha u_m_hs m_co)) → (wi L F1 m_ss (eI cI 55 u_m_ss_f)) → (wi L F1 m_sa (eI cI 55 u_m_sa_f)) → (wi L F1 m_ca (eI cI 12 u_m_ca_f)) → (wi L F1 m_ha (eI cI 100 u_m_ha_f)) → wk (fun q : Nat => q ≠ m ∧ q ≠ m_ss ∧ q ≠ m_sa ∧ q ≠ m_ca ∧ q ≠ m_ha ∧ True) F1 F → W pZ l eZ ({ frames := 7, cells := 0, slots := 0, locals := 162 } : Room) sZ mZ [.ref m, .int p0, .int n0].toArray below meth cZ H locs 0 0 (MQ below (wQi D A (fun r1 L1 F1 => L1 = L ∧ ∃ y9 : Int32 × (Nat → Int32) × (Nat → Int32) × (Nat → Int32) × (Nat → Int32) × Int32, y9 = (f_X6_wins_ p0 n0 m_hs m_ss_f m_sa_f m_ca_f m_ha_f) ∧ r1 = y9.1 ∧ F1 m = (eM m_ss m_im m_re m_sa m_ke m_so m_si m_el m_kd m_kt m_hi m_th m_po m_ba m_en m_tl m_nu m_ca m_ha y9.2.2.2.2.2 m_co) ∧ F1 m_ss = (eI cI 55 y9.2.1) ∧ F1 m_sa = (eI cI 55 y9.2.2.1) ∧ F1 m_ca = (eI cI 12 y9.2.2.2.1) ∧ F1 m_ha = (eI cI 100 y9.2.2.2.2.1) ∧ wk (fun q : Nat => q ≠ m ∧ q ≠ m_ss ∧ q ≠ m_sa ∧ q ≠ m_ca ∧ q ≠ m_ha ∧ True) F1 F)) [.ref m, .int p0, .int n0].toArray sZ 0 0 A) (F0 mZ 111 ls []) := by
                    intro n; induction n with
                    | zero => intro k u_m_ss_f F1 H locs ls hkT hmeas; exact absurd hmeas (Nat.not_lt_zero _)
                    | succ n ih =>
                      intro k u_m_ss_f F1 H locs ls hkT hmeas hq hl w h_m h_m_ss h_m_sa h_m_ca h_m_ha hk
                      have hk31 : k < 2147483648 := by omega
                      have hq := hq.trans (f_X6_wins__L111_s u_m_sa_f v3 u_m_ca_f u_m_ha_f u_m_hs n k u_m_ss_f)
                      refine lv_iload hx hb dX6_wins__111 (lv_at hl 4 rfl) ?_
                      refine lv_bipush (v := 55) hx hb dX6_wins__113 (by decide) ?_
                      refine lv_icmp_ge (tgt := 138) hx hb dX6_wins__115 (by decide) (fun c5 => ?_) (fun c5 => ?_)
                      · skip
                        have hq := hq.trans (if_pos c5)
                        refine lv_iload_n hx hb dX6_wins__138 rfl (lv_at hl 3 rfl) ?_
                        exact w_iret hx hb hr hlocks w ⟨rfl, _, hq.symm, rfl, h_m.2, h_m_ss.2, h_m_sa.2, h_m_ca.2, h_m_ha.2, hk⟩ (Nat.le_refl _) (Nat.le_refl _) dX6_wins__139
                      · skip
                        have hq := hq.trans (if_neg c5)
                        have hlt115 : k < 55 := w_ltk hk31 c5
                        refine lv_aload_n hx hb dX6_wins__118 rfl (lv_at hl 0 rfl) ?_
                        refine w_get (v := .ref m_ss) hx hb hts i_X6 hown hK w h_m rfl 0 (by decide) (hts _ m_1) rfl dX6_wins__119 ?_
                        refine lv_iload hx hb dX6_wins__122 (lv_at hl 4 rfl) ?_
                        refine lv_aload_n hx hb dX6_wins__124 rfl (lv_at hl 0 rfl) ?_
                        refine w_get (v := .ref m_sa) hx hb hts i_X6 hown hK w h_m rfl 3 (by decide) (hts _ m_3) rfl dX6_wins__125 ?_
                        refine lv_iload hx hb dX6_wins__128 (lv_at hl 4 rfl) ?_
                        refine w_ild (j := k) hx hb hK w h_m_sa (vp_in_nI (by omega) (by omega)) (nI_clamp (by omega)) dX6_wins__130 ?_
                        have ho6 := h_m_ss
                        refine w_ist (j := k) hx hb hK w h_m_ss (vp_in_nI (by omega) (by omega)) (nI_clamp (by omega)) dX6_wins__131 (fun H locs w h_m_ss => ?_)
                        have h_m := h_m.upw h_m_ss (wi.ne h_m ho6 (by intro h; cases h))
                        have h_m_sa := h_m_sa.upw h_m_ss ne_m_sa_m_ss
                        have h_m_ca := h_m_ca.upw h_m_ss ne_m_ca_m_ss
                        have h_m_ha := h_m_ha.upw h_m_ss ne_m_ha_m_ss
                        have hk := hk.upw h_m_ss (fun q h => h.2.1)
                        refine lv_iinc (v := (nI (k + 1))) (lv' := [(4, .int (nI (k + 1))), (0, .ref m), (1, .int p0), (2, .int n0), (3, .int v3)]) hx hb dX6_wins__132 hl (k := 4) rfl (w_inc _) (by decide) rfl (fun ls hl => ?_)
                        refine lv_goto (tgt := 111) hx hb dX6_wins__135 (by decide) ?_
                        exact ih ((k + 1)) (upd u_m_ss_f k (u_m_sa_f k)) _ _ _ _ (by omega) (by omega) hq (lv_sub hl [1, 2, 3, 4, 0] rfl) w h_m h_m_ss h_m_sa h_m_ca h_m_ha hk
                  exact hL111 (55 + 1) 0 u_m_ss_f _ _ _ _ (Nat.zero_le _) (by omega) hq (lv_sub hl [1, 2, 3, 4, 0] rfl) w h_m h_m_ss h_m_sa h_m_ca h_m_ha hk
                · skip
                  have hq := hq.trans (if_neg c4)
                  have hlt56 : k < n0.toNatClampNeg := w_ltk hk31 c4
                  refine lv_aload_n hx hb dX6_wins__59 rfl (lv_at hl 0 rfl) ?_
                  refine w_finw (w_runV (rm := ({ frames := 6, cells := 0, slots := 0, locals := 141 } : Room)) (As := []) (rest := []) (n := 0) hx hb hml hts hown hK w (c_X6_goesRound l D cI cP cS cL L _ m m_ss m_im m_re m_sa m_ke m_so m_si m_el m_kd m_kt m_hi m_th m_po m_ba m_en m_tl m_nu m_ca m_ha u_m_hs m_co u_m_ss_f u_m_ca_f h_m h_m_ss h_m_ca h5u hhiu hd1u hr5u hstu ne_m_ca_m_ss ne_m_ss_m_ca) gX6_wins__X6_goesRound rfl rfl rfl (by decide +kernel) ⟨(Nat.le_of_ble_eq_true rfl), (Nat.le_of_ble_eq_true rfl)⟩ h_m rfl rfl hl.1 rfl (Nat.le_of_ble_eq_true rfl) dX6_wins__60 ⟨(Nat.le_of_ble_eq_true rfl), (Nat.le_of_ble_eq_true rfl)⟩) w hA (fun F1 H locs hp w => ?_)
                  obtain ⟨x60, hx60, e60_0, hw0, hw1, hk9⟩ := hp
                  have hq := hq.trans (w_bnd hx60)
                  have h_m := h_m.keep hk9 ⟨(wi.ne h_m h_m_ss (by intro h; cases h)), (wi.ne h_m h_m_ca (by intro h; cases h)), trivial⟩
                  have h_m_sa := h_m_sa.keep hk9 ⟨ne_m_sa_m_ss, ne_m_sa_m_ca, trivial⟩
                  have h_m_ha := h_m_ha.keep hk9 ⟨ne_m_ha_m_ss, ne_m_ha_m_ca, trivial⟩
                  have h_m_ss := h_m_ss.new hw0
                  have h_m_ca := h_m_ca.new hw1
                  have hk := hk.call hk9 (fun q h => ⟨h.2.1, h.2.2.2.1, trivial⟩)
                  have gk60 : gk x60.1 m_ss_f := (e60_0.tr hi0)
                  have h5w : 0 ≤ (x60.1 5).toInt ∧ (x60.1 5).toInt ≤ 12 := (by rw [gk60.i5]; exact h5)
                  refine lv_aload_n hx hb dX6_wins__63 rfl (lv_at hl 0 rfl) ?_
                  refine w_finw (w_runV (rm := ({ frames := 1, cells := 0, slots := 0, locals := 22 } : Room)) (As := []) (rest := []) (n := 0) hx hb hml hts hown hK w (c_X6_takesLast l D cI cP cS cL L _ m m_ss m_im m_re m_sa m_ke m_so m_si m_el m_kd m_kt m_hi m_th m_po m_ba m_en m_tl m_nu m_ca m_ha u_m_hs m_co x60.1 u_m_ha_f h_m h_m_ss h_m_ha h5w ne_m_ss_m_ha) gX6_wins__X6_takesLast rfl rfl rfl (by decide +kernel) ⟨(Nat.le_of_ble_eq_true rfl), (Nat.le_of_ble_eq_true rfl)⟩ h_m rfl rfl hl.1 rfl (Nat.le_of_ble_eq_true rfl) dX6_wins__64 ⟨(Nat.le_of_ble_eq_true rfl), (Nat.le_of_ble_eq_true rfl)⟩) w hA (fun F1 H locs hp w => ?_)
                  obtain ⟨x64, hx64, e64_0, e64_1, hw0, hw1, hk9⟩ := hp
                  have hq := hq.trans (w_bnd hx64)
                  have h_m_ss := h_m_ss.keep hk9 ⟨(wi.ne h_m_ss h_m (by intro h; cases h)), ne_m_ss_m_ha, trivial⟩
                  have h_m_sa := h_m_sa.keep hk9 ⟨(wi.ne h_m_sa h_m (by intro h; cases h)), ne_m_sa_m_ha, trivial⟩
                  have h_m_ca := h_m_ca.keep hk9 ⟨(wi.ne h_m_ca h_m (by intro h; cases h)), ne_m_ca_m_ha, trivial⟩
                  have h_m := h_m.new hw0
                  have h_m_ha := h_m_ha.new hw1
                  have hk := hk.call hk9 (fun q h => ⟨h.1, h.2.2.2.2.1, trivial⟩)
                  refine lv_aload_n hx hb dX6_wins__67 rfl (lv_at hl 0 rfl) ?_
                  refine w_finI (w_runV (rm := ({ frames := 0, cells := 0, slots := 0, locals := 0 } : Room)) (As := []) (rest := []) (n := 0) hx hb hml hts hown hK w (c_X6_sumOf l D cI cP cS cL L _ m m_ss m_im m_re m_sa m_ke m_so m_si m_el m_kd m_kt m_hi m_th m_po m_ba m_en m_tl m_nu m_ca m_ha x64.2 m_co x64.1 h_m h_m_ha e64_0) gX6_wins__X6_sumOf rfl rfl rfl (by decide +kernel) ⟨(Nat.le_of_ble_eq_true rfl), (Nat.le_of_ble_eq_true rfl)⟩ h_m rfl rfl hl.1 rfl (Nat.le_of_ble_eq_true rfl) dX6_wins__68 ⟨(Nat.le_of_ble_eq_true rfl), (Nat.le_of_ble_eq_true rfl)⟩) w hA (fun H locs w => ?_)
                  refine lv_istore (lv' := [(5, .int (f_X6_sumOf x64.2 x64.1)), (0, .ref m), (1, .int p0), (2, .int n0), (3, .int v3), (4, .int (nI k))]) hx hb dX6_wins__71 hl (by decide) rfl (fun ls hl => ?_)
                  refine lv_iload_n hx hb dX6_wins__73 rfl (lv_at hl 4 rfl) ?_
                  refine lv_aload_n hx hb dX6_wins__74 rfl (lv_at hl 1 rfl) ?_
                  refine lv_aload_n hx hb dX6_wins__75 rfl (lv_at hl 1 rfl) ?_
                  refine w_get (v := .ref m_ha) hx hb hts i_X6 hown hK w h_m rfl 18 (by decide) (hts _ m_4) rfl dX6_wins__76 ?_
                  refine lv_iload_n hx hb dX6_wins__79 rfl (lv_at hl 2 rfl) ?_
                  refine w_ild (j := (p0.toNatClampNeg)) hx hb hK w h_m_ha (w_in100 hp0) rfl dX6_wins__80 ?_
                  refine lv_iload hx hb dX6_wins__81 (lv_at hl 0 rfl) ?_
                  refine lv_aload_n hx hb dX6_wins__83 rfl (lv_at hl 1 rfl) ?_
                  refine lv_iload hx hb dX6_wins__84 (lv_at hl 0 rfl) ?_
                  refine w_finI (w_runV (rm := ({ frames := 1, cells := 0, slots := 0, locals := 23 } : Room)) (As := [.int (f_X6_sumOf x64.2 x64.1)]) (rest := [.int (f_X6_sumOf x64.2 x64.1), .int (x64.1 (p0.toNatClampNeg)), .ref m, .int v3]) (n := 1) hx hb hml hts hown hK w (c_X6_bestOf l D cI cP cS cL L _ m (f_X6_sumOf x64.2 x64.1) m_ss m_im m_re m_sa m_ke m_so m_si m_el m_kd m_kt m_hi m_th m_po m_ba m_en m_tl m_nu m_ca m_ha x64.2 m_co x60.1 x64.1 h_m h_m_ss h_m_ha e64_0) gX6_wins__X6_bestOf rfl rfl rfl (by decide +kernel) ⟨(Nat.le_of_ble_eq_true rfl), (Nat.le_of_ble_eq_true rfl)⟩ h_m rfl rfl hl.1 rfl (Nat.le_of_ble_eq_true rfl) dX6_wins__86 ⟨(Nat.le_of_ble_eq_true rfl), (Nat.le_of_ble_eq_true rfl)⟩) w hA (fun H locs w => ?_)
                  refine w_finI (w_runV (rm := ({ frames := 1, cells := 0, slots := 0, locals := 23 } : Room)) (As := [.int (x64.1 (p0.toNatClampNeg)), .int (f_X6_sumOf x64.2 x64.1), .int (f_X6_bestOf (f_X6_sumOf x64.2 x64.1) x64.2 x60.1 x64.1)]) (rest := [.int v3]) (n := 3) hx hb hml hts hown hK w (c_X6_wins l D cI cP cS cL L _ m (x64.1 (p0.toNatClampNeg)) (f_X6_sumOf x64.2 x64.1) (f_X6_bestOf (f_X6_sumOf x64.2 x64.1) x64.2 x60.1 x64.1) m_ss m_im m_re m_sa m_ke m_so m_si m_el m_kd m_kt m_hi m_th m_po m_ba m_en m_tl m_nu m_ca m_ha x64.2 m_co x60.1 h_m h_m_ss) gX6_wins__X6_wins rfl rfl rfl (by decide +kernel) ⟨(Nat.le_of_ble_eq_true rfl), (Nat.le_of_ble_eq_true rfl)⟩ h_m rfl rfl hl.1 rfl (Nat.le_of_ble_eq_true rfl) dX6_wins__89 ⟨(Nat.le_of_ble_eq_true rfl), (Nat.le_of_ble_eq_true rfl)⟩) w hA (fun H locs w => ?_)
                  refine lv_if_eq (tgt := 99) hx hb dX6_wins__92 (by decide) (fun c7 => ?_) (fun c7 => ?_)
                  · skip
                    have hq := hq.trans (if_pos c7)
                    refine lv_iconst (v := 0) hx hb dX6_wins__99 (by decide) ?_
                    refine lv_iadd hx hb dX6_wins__100 ?_
                    refine lv_istore_n (lv' := [(3, .int (v3 + 0)), (5, .int (f_X6_sumOf x64.2 x64.1)), (0, .ref m), (1, .int p0), (2, .int n0), (4, .int (nI k))]) hx hb dX6_wins__101 rfl hl (by decide) rfl (fun ls hl => ?_)
                    refine lv_iinc (v := (nI (k + 1))) (lv' := [(4, .int (nI (k + 1))), (3, .int (v3 + 0)), (5, .int (f_X6_sumOf x64.2 x64.1)), (0, .ref m), (1, .int p0), (2, .int n0)]) hx hb dX6_wins__102 hl (k := 5) rfl (w_inc _) (by decide) rfl (fun ls hl => ?_)
                    refine lv_goto (tgt := 53) hx hb dX6_wins__105 (by decide) ?_
                    exact ih ((k + 1)) (v3 + 0) x60.1 x60.2 x64.1 x64.2 _ _ _ _ gk60 (by omega) (by omega) hq (lv_sub hl [3, 4, 5, 1, 0] rfl) w h_m h_m_ss h_m_sa h_m_ca h_m_ha hk
                  · skip
                    have hq := hq.trans (if_neg c7)
                    refine lv_iconst (v := 1) hx hb dX6_wins__95 (by decide) ?_
                    refine lv_goto (tgt := 100) hx hb dX6_wins__96 (by decide) ?_
                    refine lv_iadd hx hb dX6_wins__100 ?_
                    refine lv_istore_n (lv' := [(3, .int (v3 + 1)), (5, .int (f_X6_sumOf x64.2 x64.1)), (0, .ref m), (1, .int p0), (2, .int n0), (4, .int (nI k))]) hx hb dX6_wins__101 rfl hl (by decide) rfl (fun ls hl => ?_)
                    refine lv_iinc (v := (nI (k + 1))) (lv' := [(4, .int (nI (k + 1))), (3, .int (v3 + 1)), (5, .int (f_X6_sumOf x64.2 x64.1)), (0, .ref m), (1, .int p0), (2, .int n0)]) hx hb dX6_wins__102 hl (k := 5) rfl (w_inc _) (by decide) rfl (fun ls hl => ?_)
                    refine lv_goto (tgt := 53) hx hb dX6_wins__105 (by decide) ?_
                    exact ih ((k + 1)) (v3 + 1) x60.1 x60.2 x64.1 x64.2 _ _ _ _ gk60 (by omega) (by omega) hq (lv_sub hl [3, 4, 5, 1, 0] rfl) w h_m h_m_ss h_m_sa h_m_ca h_m_ha hk
            exact hL53 (n0.toNatClampNeg + 1) 0 0 m_ss_f m_ca_f m_ha_f m_hs _ _ _ _ gk.rf (Nat.zero_le _) (by omega) hq (lv_sub hl [2, 3, 4, 1, 0] rfl) w h_m h_m_ss h_m_sa h_m_ca h_m_ha hk
          · skip
            have hq := hq.trans (if_neg c3)
            have hlt27 : k < 55 := w_ltk hk31 c3
            refine lv_aload_n hx hb dX6_wins__30 rfl (lv_at hl 0 rfl) ?_
            refine w_get (v := .ref m_sa) hx hb hts i_X6 hown hK w h_m rfl 3 (by decide) (hts _ m_3) rfl dX6_wins__31 ?_
            refine lv_iload_n hx hb dX6_wins__34 rfl (lv_at hl 3 rfl) ?_
            refine lv_aload_n hx hb dX6_wins__35 rfl (lv_at hl 0 rfl) ?_
            refine w_get (v := .ref m_ss) hx hb hts i_X6 hown hK w h_m rfl 0 (by decide) (hts _ m_1) rfl dX6_wins__36 ?_
            refine lv_iload_n hx hb dX6_wins__39 rfl (lv_at hl 3 rfl) ?_
            refine w_ild (j := k) hx hb hK w h_m_ss (vp_in_nI (by omega) (by omega)) (nI_clamp (by omega)) dX6_wins__40 ?_
            have ho8 := h_m_sa
            refine w_ist (j := k) hx hb hK w h_m_sa (vp_in_nI (by omega) (by omega)) (nI_clamp (by omega)) dX6_wins__41 (fun H locs w h_m_sa => ?_)
            have h_m := h_m.upw h_m_sa (wi.ne h_m ho8 (by intro h; cases h))
            have h_m_ss := h_m_ss.upw h_m_sa ne_m_ss_m_sa
            have h_m_ca := h_m_ca.upw h_m_sa ne_m_ca_m_sa
            have h_m_ha := h_m_ha.upw h_m_sa ne_m_ha_m_sa
            have hk := hk.upw h_m_sa (fun q h => h.2.2.1)
            refine lv_iinc (v := (nI (k + 1))) (lv' := [(3, .int (nI (k + 1))), (0, .ref m), (1, .int p0), (2, .int n0)]) hx hb dX6_wins__42 hl (k := 3) rfl (w_inc _) (by decide) rfl (fun ls hl => ?_)
            refine lv_goto (tgt := 24) hx hb dX6_wins__45 (by decide) ?_
            exact ih ((k + 1)) (upd u_m_sa_f k (m_ss_f k)) _ _ _ _ (by omega) (by omega) hq (lv_sub hl [1, 2, 3, 0] rfl) w h_m h_m_ss h_m_sa h_m_ca h_m_ha hk
      exact hL24 (55 + 1) 0 m_sa_f _ _ _ _ (Nat.zero_le _) (by omega) hq (lv_sub hl [1, 2, 3, 0] rfl) w h_m h_m_ss h_m_sa h_m_ca h_m_ha hk
    · skip
      have hq := hq.trans (if_pos c2)
      refine lv_iconst (v := (-1)) hx hb dX6_wins__20 (by decide) ?_
      exact w_iret hx hb hr hlocks w ⟨rfl, _, hq.symm, rfl, h_m.2, h_m_ss.2, h_m_sa.2, h_m_ca.2, h_m_ha.2, hk⟩ (Nat.le_refl _) (Nat.le_refl _) dX6_wins__21
def f_X6_takesRow_L27 (d : Int32) (m_hs : Int32) (m_ss_f : Nat → Int32) (m_si_f : Nat → Int32) (m_el_f : Nat → Int32) : Nat → Nat → (Nat → Int32) → Int32 × (Nat → Int32) × Int32
  | 0, _, _ => (0, (fun _ => 0), 0)
  | n + 1, k, u_m_ha_f => if (m_si_f (d.toNatClampNeg)) ≤ (nI k) then (0, u_m_ha_f, (m_si_f (d.toNatClampNeg))) else (if (f_X6_isIn (((upd u_m_ha_f k (m_el_f (100 * d.toNatClampNeg + k))) k).toInt64) 0 ((m_ss_f 2).toInt64)) = (0 : Int32) then ((-13), (upd u_m_ha_f k (m_el_f (100 * d.toNatClampNeg + k))), m_hs) else (f_X6_takesRow_L27 d m_hs m_ss_f m_si_f m_el_f n ((k + 1)) (upd u_m_ha_f k (m_el_f (100 * d.toNatClampNeg + k)))))
theorem f_X6_takesRow_L27_s (d : Int32) (m_hs : Int32) (m_ss_f : Nat → Int32) (m_si_f : Nat → Int32) (m_el_f : Nat → Int32) (n k : Nat) (u_m_ha_f : Nat → Int32) : f_X6_takesRow_L27 d m_hs m_ss_f m_si_f m_el_f (n + 1) k u_m_ha_f = (if (m_si_f (d.toNatClampNeg)) ≤ (nI k) then (0, u_m_ha_f, (m_si_f (d.toNatClampNeg))) else (if (f_X6_isIn (((upd u_m_ha_f k (m_el_f (100 * d.toNatClampNeg + k))) k).toInt64) 0 ((m_ss_f 2).toInt64)) = (0 : Int32) then ((-13), (upd u_m_ha_f k (m_el_f (100 * d.toNatClampNeg + k))), m_hs) else (f_X6_takesRow_L27 d m_hs m_ss_f m_si_f m_el_f n ((k + 1)) (upd u_m_ha_f k (m_el_f (100 * d.toNatClampNeg + k)))))) := rfl
def f_X6_takesRow (d : Int32) (m_hs : Int32) (m_ss_f : Nat → Int32) (m_ke_f : Nat → Int32) (m_so_f : Nat → Int32) (m_si_f : Nat → Int32) (m_el_f : Nat → Int32) (m_ha_f : Nat → Int32) : Int32 × (Nat → Int32) × Int32 := if (f_X6_wrongRow d (-1) m_ke_f m_so_f) = (0 : Int32) then (if (m_si_f (d.toNatClampNeg)) = (0 : Int32) then ((-13), m_ha_f, m_hs) else (f_X6_takesRow_L27 d m_hs m_ss_f m_si_f m_el_f ((m_si_f (d.toNatClampNeg)).toNatClampNeg + 1) 0 m_ha_f)) else ((f_X6_wrongRow d (-1) m_ke_f m_so_f), m_ha_f, m_hs)
set_option maxHeartbeats 400000 in
set_option maxRecDepth 100000 in
theorem c_X6_takesRow (l : Launch) (D : va_G) (cI cP cS cL : ClassId) (L : List Nat) (F : Nat → va_E) (m : Nat) (d : Int32) (m_ss : Nat) (m_im : Nat) (m_re : Nat) (m_sa : Nat) (m_ke : Nat) (m_so : Nat) (m_si : Nat) (m_el : Nat) (m_kd : Nat) (m_kt : Nat) (m_hi : Int32) (m_th : Int32) (m_po : Int32) (m_ba : Int32) (m_en : Int32) (m_tl : Int32) (m_nu : Nat) (m_ca : Nat) (m_ha : Nat) (m_hs : Int32) (m_co : Nat) (m_ss_f : Nat → Int32) (m_ke_f : Nat → Int32) (m_so_f : Nat → Int32) (m_si_f : Nat → Int32) (m_el_f : Nat → Int32) (m_ha_f : Nat → Int32) (h_m : wi L F m (eM m_ss m_im m_re m_sa m_ke m_so m_si m_el m_kd m_kt m_hi m_th m_po m_ba m_en m_tl m_nu m_ca m_ha m_hs m_co)) (h_m_ss : wi L F m_ss (eI cI 55 m_ss_f)) (h_m_ke : wi L F m_ke (eI cI 8 m_ke_f)) (h_m_so : wi L F m_so (eI cI 8 m_so_f)) (h_m_si : wi L F m_si (eI cI 8 m_si_f)) (h_m_el : wi L F m_el (eI cI 800 m_el_f)) (h_m_ha : wi L F m_ha (eI cI 100 m_ha_f)) (hsi : ∀ i, i < 8 → (m_si_f i).toInt ≤ 100) (hsi0 : ∀ i, i < 8 → 0 ≤ (m_si_f i).toInt) (hhs : m_hs.toInt ≤ 100) (ne_m_ss_m_ha : m_ss ≠ m_ha) (ne_m_ke_m_ha : m_ke ≠ m_ha) (ne_m_so_m_ha : m_so ≠ m_ha) (ne_m_si_m_ha : m_si ≠ m_ha) (ne_m_el_m_ha : m_el ≠ m_ha) : wMj l D cI cP cS cL yX6_takesRow wsX6_takesRow ({ frames := 3, cells := 0, slots := 0, locals := 67 } : Room) [.ref m, .int d] L F (fun r1 F1 => ∃ y9 : Int32 × (Nat → Int32) × Int32, y9 = (f_X6_takesRow d m_hs m_ss_f m_ke_f m_so_f m_si_f m_el_f m_ha_f) ∧ (y9.2.2.toInt ≤ 100) ∧ (y9.1 = 0 → 1 ≤ y9.2.2.toInt) ∧ (y9.1 = 0 → 0 ≤ d.toInt ∧ d.toInt < 8) ∧ r1 = y9.1 ∧ F1 m = (eM m_ss m_im m_re m_sa m_ke m_so m_si m_el m_kd m_kt m_hi m_th m_po m_ba m_en m_tl m_nu m_ca m_ha y9.2.2 m_co) ∧ F1 m_ha = (eI cI 100 y9.2.1) ∧ wk (fun q : Nat => q ≠ m ∧ q ≠ m_ha ∧ True) F1 F) := by
  refine wM.of (cc := cX6_takesRow) (maxL := 4) (ret := (some .int)) (by decide) rfl (Nat.le_of_ble_eq_true rfl) ?_
  intro pZ eZ sZ mZ below meth cZ A ls C hl w
  obtain ⟨hx, hb, hr, hml, hts, hown, hlocks, hK, hA, hin⟩ := C
  have hown : sZ.vm.findClass RX6 = some mZ.cls := hown
  have hl : lv_has ls 4 [(0, .ref m), (1, .int d)] := hl
  have m_0 : ((.fieldLink RX6 28 "TwoThirdsModel" "size" "[I") : Cond) ∈ wsX6_takesRow := by decide +kernel
  have i_X6 : ∀ w ∈ wsX60, w ∈ wsX6_takesRow := by decide +kernel
  have m_2 : ((.fieldLink RX6 171 "TwoThirdsModel" "hands" "I") : Cond) ∈ wsX6_takesRow := by decide +kernel
  have m_3 : ((.fieldLink RX6 46 "TwoThirdsModel" "hand" "[I") : Cond) ∈ wsX6_takesRow := by decide +kernel
  have m_4 : ((.fieldLink RX6 31 "TwoThirdsModel" "element" "[I") : Cond) ∈ wsX6_takesRow := by decide +kernel
  have m_5 : ((.fieldLink RX6 9 "TwoThirdsModel" "s" "[I") : Cond) ∈ wsX6_takesRow := by decide +kernel
  have hk : wk (fun q : Nat => q ≠ m ∧ q ≠ m_ha ∧ True) F F := wk.rf
  have hq : f_X6_takesRow d m_hs m_ss_f m_ke_f m_so_f m_si_f m_el_f m_ha_f = f_X6_takesRow d m_hs m_ss_f m_ke_f m_so_f m_si_f m_el_f m_ha_f := rfl
  refine lv_aload_n hx hb dX6_takesRow_0 rfl (lv_at hl 0 rfl) ?_
  refine lv_iload_n hx hb dX6_takesRow_1 rfl (lv_at hl 1 rfl) ?_
  refine lv_iconst (v := (-1)) hx hb dX6_takesRow_2 (by decide) ?_
  refine w_finI (w_runV (rm := ({ frames := 2, cells := 0, slots := 0, locals := 45 } : Room)) (As := [.int d, .int (-1)]) (rest := []) (n := 2) hx hb hml hts hown hK w (c_X6_wrongRow l D cI cP cS cL L _ m d (-1) m_ss m_im m_re m_sa m_ke m_so m_si m_el m_kd m_kt m_hi m_th m_po m_ba m_en m_tl m_nu m_ca m_ha m_hs m_co m_ke_f m_so_f h_m h_m_ke h_m_so) gX6_takesRow_X6_wrongRow rfl rfl rfl (by decide +kernel) ⟨(Nat.le_of_ble_eq_true rfl), (Nat.le_of_ble_eq_true rfl)⟩ h_m rfl rfl hl.1 rfl (Nat.le_of_ble_eq_true rfl) dX6_takesRow_3 ⟨(Nat.le_of_ble_eq_true rfl), (Nat.le_of_ble_eq_true rfl)⟩) w hA (fun H locs w => ?_)
  refine lv_istore_n (lv' := [(2, .int (f_X6_wrongRow d (-1) m_ke_f m_so_f)), (0, .ref m), (1, .int d)]) hx hb dX6_takesRow_6 rfl hl (by decide) rfl (fun ls hl => ?_)
  refine lv_iload_n hx hb dX6_takesRow_7 rfl (lv_at hl 0 rfl) ?_
  refine lv_if_eq (tgt := 13) hx hb dX6_takesRow_8 (by decide) (fun c1 => ?_) (fun c1 => ?_)
  · skip
    have hq := hq.trans (if_pos c1)
    have hd : 0 ≤ d.toInt ∧ d.toInt < 8 := wrongRow_ok c1
    have hd8 : d.toNatClampNeg < 8 := w_d8 hd
    refine lv_aload_n hx hb dX6_takesRow_13 rfl (lv_at hl 1 rfl) ?_
    refine w_get (v := .ref m_si) hx hb hts i_X6 hown hK w h_m rfl 6 (by decide) (hts _ m_0) rfl dX6_takesRow_14 ?_
    refine lv_iload_n hx hb dX6_takesRow_17 rfl (lv_at hl 2 rfl) ?_
    refine w_ild (j := (d.toNatClampNeg)) hx hb hK w h_m_si (w_in8 hd) rfl dX6_takesRow_18 ?_
    refine lv_if_ne (tgt := 25) hx hb dX6_takesRow_19 (by decide) (fun c2 => ?_) (fun c2 => ?_)
    · skip
      have hq := hq.trans (if_neg c2)
      refine lv_iconst (v := 0) hx hb dX6_takesRow_25 (by decide) ?_
      refine lv_istore_n (lv' := [(3, .int 0), (2, .int (f_X6_wrongRow d (-1) m_ke_f m_so_f)), (0, .ref m), (1, .int d)]) hx hb dX6_takesRow_26 rfl hl (by decide) rfl (fun ls hl => ?_)
      have hL27 : ∀ (n k : Nat) (u_m_ha_f : Nat → Int32) (F1 : Nat → va_E) (H : Heap) (locs : List Loc) (ls : Array Slot), k ≤ (m_si_f (d.toNatClampNeg)).toNatClampNeg → (m_si_f (d.toNatClampNeg)).toNatClampNeg - k < n → f_X6_takesRow d m_hs m_ss_f m_ke_f m_so_f m_si_f m_el_f m_ha_f = f_X6_takesRow_L27 d m_hs m_ss_f m_si_f m_el_f n k u_m_ha_f → lv_has ls 4 [(0, .ref m), (1, .int d), (2, .int (f_X6_wrongRow d (-1) m_ke_f m_so_f)), (3, .int (nI k))] → ww D A sZ.heap L F1 H locs → (wi L F1 m (eM m_ss m_im m_re m_sa m_ke m_so m_si m_el m_kd m_kt m_hi m_th m_po m_ba m_en m_tl m_nu m_ca m_ha m_hs m_co)) → (wi L F1 m_ss (eI cI 55 m_ss_f)) → (wi L F1 m_ke (eI cI 8 m_ke_f)) → (wi L F1 m_so (eI cI 8 m_so_f)) → (wi L F1 m_si (eI cI 8 m_si_f)) → (wi L F1 m_el (eI cI 800 m_el_f)) → (wi L F1 m_ha (eI cI 100 u_m_ha_f)) → wk (fun q : Nat => q ≠ m ∧ q ≠ m_ha ∧ True) F1 F → W pZ l eZ ({ frames := 3, cells := 0, slots := 0, locals := 67 } : Room) sZ mZ [.ref m, .int d].toArray below meth cZ H locs 0 0 (MQ below (wQi D A (fun r1 L1 F1 => L1 = L ∧ ∃ y9 : Int32 × (Nat → Int32) × Int32, y9 = (f_X6_takesRow d m_hs m_ss_f m_ke_f m_so_f m_si_f m_el_f m_ha_f) ∧ (y9.2.2.toInt ≤ 100) ∧ (y9.1 = 0 → 1 ≤ y9.2.2.toInt) ∧ (y9.1 = 0 → 0 ≤ d.toInt ∧ d.toInt < 8) ∧ r1 = y9.1 ∧ F1 m = (eM m_ss m_im m_re m_sa m_ke m_so m_si m_el m_kd m_kt m_hi m_th m_po m_ba m_en m_tl m_nu m_ca m_ha y9.2.2 m_co) ∧ F1 m_ha = (eI cI 100 y9.2.1) ∧ wk (fun q : Nat => q ≠ m ∧ q ≠ m_ha ∧ True) F1 F)) [.ref m, .int d].toArray sZ 0 0 A) (F0 mZ 27 ls []) := by
        intro n; induction n with
        | zero => intro k u_m_ha_f F1 H locs ls hkT hmeas; exact absurd hmeas (Nat.not_lt_zero _)
        | succ n ih =>
          intro k u_m_ha_f F1 H locs ls hkT hmeas hq hl w h_m h_m_ss h_m_ke h_m_so h_m_si h_m_el h_m_ha hk
          have hk31 : k < 2147483648 := Nat.lt_of_le_of_lt hkT (w_clamp_lt _)
          have hq := hq.trans (f_X6_takesRow_L27_s d m_hs m_ss_f m_si_f m_el_f n k u_m_ha_f)
          refine lv_iload_n hx hb dX6_takesRow_27 rfl (lv_at hl 3 rfl) ?_
          refine lv_aload_n hx hb dX6_takesRow_28 rfl (lv_at hl 0 rfl) ?_
          refine w_get (v := .ref m_si) hx hb hts i_X6 hown hK w h_m rfl 6 (by decide) (hts _ m_0) rfl dX6_takesRow_29 ?_
          refine lv_iload_n hx hb dX6_takesRow_32 rfl (lv_at hl 1 rfl) ?_
          refine w_ild (j := (d.toNatClampNeg)) hx hb hK w h_m_si (w_in8 hd) rfl dX6_takesRow_33 ?_
          refine lv_icmp_ge (tgt := 84) hx hb dX6_takesRow_34 (by decide) (fun c3 => ?_) (fun c3 => ?_)
          · skip
            have hq := hq.trans (if_pos c3)
            refine lv_aload_n hx hb dX6_takesRow_84 rfl (lv_at hl 0 rfl) ?_
            refine lv_aload_n hx hb dX6_takesRow_85 rfl (lv_at hl 0 rfl) ?_
            refine w_get (v := .ref m_si) hx hb hts i_X6 hown hK w h_m rfl 6 (by decide) (hts _ m_0) rfl dX6_takesRow_86 ?_
            refine lv_iload_n hx hb dX6_takesRow_89 rfl (lv_at hl 1 rfl) ?_
            refine w_ild (j := (d.toNatClampNeg)) hx hb hK w h_m_si (w_in8 hd) rfl dX6_takesRow_90 ?_
            have ho4 := h_m
            refine w_put (fs2 := [.ref m_ss, .ref m_im, .ref m_re, .ref m_sa, .ref m_ke, .ref m_so, .ref m_si, .ref m_el, .ref m_kd, .ref m_kt, .int m_hi, .int m_th, .int m_po, .int m_ba, .int m_en, .int m_tl, .ref m_nu, .ref m_ca, .ref m_ha, .int (m_si_f (d.toNatClampNeg)), .ref m_co]) hx hb hts i_X6 tyX6 tyX6_ok nmX6 hown hK w h_m rfl 19 (by decide) (hts _ m_2) rfl rfl rfl (Nat.le_of_ble_eq_true rfl) rfl dX6_takesRow_91 (fun H locs w h_m => ?_)
            have h_m_ss := h_m_ss.upw h_m (wi.ne h_m_ss ho4 (by intro h; cases h))
            have h_m_ke := h_m_ke.upw h_m (wi.ne h_m_ke ho4 (by intro h; cases h))
            have h_m_so := h_m_so.upw h_m (wi.ne h_m_so ho4 (by intro h; cases h))
            have h_m_si := h_m_si.upw h_m (wi.ne h_m_si ho4 (by intro h; cases h))
            have h_m_el := h_m_el.upw h_m (wi.ne h_m_el ho4 (by intro h; cases h))
            have h_m_ha := h_m_ha.upw h_m (wi.ne h_m_ha ho4 (by intro h; cases h))
            have hk := hk.upw h_m (fun q h => h.1)
            refine lv_iconst (v := 0) hx hb dX6_takesRow_94 (by decide) ?_
            exact w_iret hx hb hr hlocks w ⟨rfl, _, hq.symm, (by first | exact hhs | exact hsi _ hd8), (by intro h; dsimp only at h; first | exact absurd h (by decide) | exact absurd h (by assumption) | exact w_pos (hsi0 _ hd8) (by assumption)), (by intro h; dsimp only at h; first | exact absurd h (by decide) | exact absurd h (by assumption) | exact hd), rfl, h_m.2, h_m_ha.2, hk⟩ (Nat.le_refl _) (Nat.le_refl _) dX6_takesRow_95
          · skip
            have hq := hq.trans (if_neg c3)
            have hlt34 : k < (m_si_f (d.toNatClampNeg)).toNatClampNeg := w_ltk hk31 c3
            have hk100 : k < 100 := w_k100 hlt34 (hsi _ hd8)
            refine lv_aload_n hx hb dX6_takesRow_37 rfl (lv_at hl 0 rfl) ?_
            refine w_get (v := .ref m_ha) hx hb hts i_X6 hown hK w h_m rfl 18 (by decide) (hts _ m_3) rfl dX6_takesRow_38 ?_
            refine lv_iload_n hx hb dX6_takesRow_41 rfl (lv_at hl 3 rfl) ?_
            refine lv_aload_n hx hb dX6_takesRow_42 rfl (lv_at hl 0 rfl) ?_
            refine w_get (v := .ref m_el) hx hb hts i_X6 hown hK w h_m rfl 7 (by decide) (hts _ m_4) rfl dX6_takesRow_43 ?_
            refine lv_bipush (v := 100) hx hb dX6_takesRow_46 (by decide) ?_
            refine lv_iload_n hx hb dX6_takesRow_48 rfl (lv_at hl 1 rfl) ?_
            refine lv_imul hx hb dX6_takesRow_49 ?_
            refine lv_iload_n hx hb dX6_takesRow_50 rfl (lv_at hl 3 rfl) ?_
            refine lv_iadd hx hb dX6_takesRow_51 ?_
            refine w_ild (j := (100 * d.toNatClampNeg + k)) hx hb hK w h_m_el (elix hd (by omega)) (elix_n (by assumption) (by omega)) dX6_takesRow_52 ?_
            have ho5 := h_m_ha
            refine w_ist (j := k) hx hb hK w h_m_ha (vp_in_nI (by omega) (by omega)) (nI_clamp (by omega)) dX6_takesRow_53 (fun H locs w h_m_ha => ?_)
            have h_m := h_m.upw h_m_ha (wi.ne h_m ho5 (by intro h; cases h))
            have h_m_ss := h_m_ss.upw h_m_ha ne_m_ss_m_ha
            have h_m_ke := h_m_ke.upw h_m_ha ne_m_ke_m_ha
            have h_m_so := h_m_so.upw h_m_ha ne_m_so_m_ha
            have h_m_si := h_m_si.upw h_m_ha ne_m_si_m_ha
            have h_m_el := h_m_el.upw h_m_ha ne_m_el_m_ha
            have hk := hk.upw h_m_ha (fun q h => h.2.1)
            refine lv_aload_n hx hb dX6_takesRow_54 rfl (lv_at hl 0 rfl) ?_
            refine w_get (v := .ref m_ha) hx hb hts i_X6 hown hK w h_m rfl 18 (by decide) (hts _ m_3) rfl dX6_takesRow_55 ?_
            refine lv_iload_n hx hb dX6_takesRow_58 rfl (lv_at hl 3 rfl) ?_
            refine w_ild (j := k) hx hb hK w h_m_ha (vp_in_nI (by omega) (by omega)) (nI_clamp (by omega)) dX6_takesRow_59 ?_
            refine lv_i2l (v := (((upd u_m_ha_f k (m_el_f (100 * d.toNatClampNeg + k))) k).toInt64)) hx hb dX6_takesRow_60 rfl ?_
            refine lv_lconst (v := 0) hx hb dX6_takesRow_61 (by decide) ?_
            refine lv_aload_n hx hb dX6_takesRow_62 rfl (lv_at hl 0 rfl) ?_
            refine w_get (v := .ref m_ss) hx hb hts i_X6 hown hK w h_m rfl 0 (by decide) (hts _ m_5) rfl dX6_takesRow_63 ?_
            refine lv_iconst (v := 2) hx hb dX6_takesRow_66 (by decide) ?_
            refine w_ild (j := 2) hx hb hK w h_m_ss (vp_in_nI (n := 2) (N := 55) (by decide) (by decide)) rfl dX6_takesRow_67 ?_
            refine lv_i2l (v := ((m_ss_f 2).toInt64)) hx hb dX6_takesRow_68 rfl ?_
            refine w_finI (w_runS (rm := ({ frames := 0, cells := 0, slots := 0, locals := 0 } : Room)) (As := [.long (((upd u_m_ha_f k (m_el_f (100 * d.toNatClampNeg + k))) k).toInt64), .long 0, .long ((m_ss_f 2).toInt64)]) (rest := []) (n := 3) hx hb hml hts hown hK w (c_X6_isIn l D cI cP cS cL L _ (((upd u_m_ha_f k (m_el_f (100 * d.toNatClampNeg + k))) k).toInt64) 0 ((m_ss_f 2).toInt64) ) gX6_takesRow_X6_isIn rfl rfl rfl (by decide +kernel) ⟨(Nat.le_of_ble_eq_true rfl), (Nat.le_of_ble_eq_true rfl)⟩ rfl hl.1 rfl (Nat.le_of_ble_eq_true rfl) dX6_takesRow_69 ⟨(Nat.le_of_ble_eq_true rfl), (Nat.le_of_ble_eq_true rfl)⟩) w hA (fun H locs w => ?_)
            refine lv_if_ne (tgt := 78) hx hb dX6_takesRow_72 (by decide) (fun c6 => ?_) (fun c6 => ?_)
            · skip
              have hq := hq.trans (if_neg c6)
              refine lv_iinc (v := (nI (k + 1))) (lv' := [(3, .int (nI (k + 1))), (0, .ref m), (1, .int d), (2, .int (f_X6_wrongRow d (-1) m_ke_f m_so_f))]) hx hb dX6_takesRow_78 hl (k := 3) rfl (w_inc _) (by decide) rfl (fun ls hl => ?_)
              refine lv_goto (tgt := 27) hx hb dX6_takesRow_81 (by decide) ?_
              exact ih ((k + 1)) (upd u_m_ha_f k (m_el_f (100 * d.toNatClampNeg + k))) _ _ _ _ (by omega) (by omega) hq (lv_sub hl [1, 2, 3, 0] rfl) w h_m h_m_ss h_m_ke h_m_so h_m_si h_m_el h_m_ha hk
            · skip
              have hq := hq.trans (if_pos c6)
              refine lv_bipush (v := (-13)) hx hb dX6_takesRow_75 (by decide) ?_
              exact w_iret hx hb hr hlocks w ⟨rfl, _, hq.symm, (by first | exact hhs | exact hsi _ hd8), (by intro h; dsimp only at h; first | exact absurd h (by decide) | exact absurd h (by assumption) | exact w_pos (hsi0 _ hd8) (by assumption)), (by intro h; dsimp only at h; first | exact absurd h (by decide) | exact absurd h (by assumption) | exact hd), rfl, h_m.2, h_m_ha.2, hk⟩ (Nat.le_refl _) (Nat.le_refl _) dX6_takesRow_77
      exact hL27 ((m_si_f (d.toNatClampNeg)).toNatClampNeg + 1) 0 m_ha_f _ _ _ _ (Nat.zero_le _) (by omega) hq (lv_sub hl [2, 3, 1, 0] rfl) w h_m h_m_ss h_m_ke h_m_so h_m_si h_m_el h_m_ha hk
    · skip
      have hq := hq.trans (if_pos c2)
      refine lv_bipush (v := (-13)) hx hb dX6_takesRow_22 (by decide) ?_
      exact w_iret hx hb hr hlocks w ⟨rfl, _, hq.symm, (by first | exact hhs | exact hsi _ hd8), (by intro h; dsimp only at h; first | exact absurd h (by decide) | exact absurd h (by assumption) | exact w_pos (hsi0 _ hd8) (by assumption)), (by intro h; dsimp only at h; first | exact absurd h (by decide) | exact absurd h (by assumption) | exact hd), rfl, h_m.2, h_m_ha.2, hk⟩ (Nat.le_refl _) (Nat.le_refl _) dX6_takesRow_24
  · skip
    have hq := hq.trans (if_neg c1)
    refine lv_iload_n hx hb dX6_takesRow_11 rfl (lv_at hl 0 rfl) ?_
    exact w_iret hx hb hr hlocks w ⟨rfl, _, hq.symm, (by first | exact hhs | exact hsi _ hd8), (by intro h; dsimp only at h; first | exact absurd h (by decide) | exact absurd h (by assumption) | exact w_pos (hsi0 _ hd8) (by assumption)), (by intro h; dsimp only at h; first | exact absurd h (by decide) | exact absurd h (by assumption) | exact hd), rfl, h_m.2, h_m_ha.2, hk⟩ (Nat.le_refl _) (Nat.le_refl _) dX6_takesRow_12
def f_X6_mean (d : Int32) (what : Int32) (part : Int32) (m_hs : Int32) (m_ss_f : Nat → Int32) (m_ke_f : Nat → Int32) (m_so_f : Nat → Int32) (m_si_f : Nat → Int32) (m_el_f : Nat → Int32) (m_ha_f : Nat → Int32) : Int32 × (Nat → Int32) × Int32 := if (f_X6_isShelf d) = (0 : Int32) then ((-1), m_ha_f, m_hs) else (if (f_X6_isIn (what.toInt64) 0 1) = (0 : Int32) then ((-1), m_ha_f, m_hs) else (if (f_X6_isIn (part.toInt64) 0 1) = (0 : Int32) then ((-1), m_ha_f, m_hs) else (bnd (f_X6_takesRow d m_hs m_ss_f m_ke_f m_so_f m_si_f m_el_f m_ha_f) (fun x31 : Int32 × (Nat → Int32) × Int32 => if x31.1 = (0 : Int32) then (if what = (0 : Int32) then (((f_X6_partOf ((f_X6_sumOf x31.2.2 x31.2.1).toInt64) (x31.2.2.toInt64) part).toInt32), x31.2.1, x31.2.2) else (((f_X6_targetOf part x31.2.2 m_ss_f x31.2.1).toInt32), x31.2.1, x31.2.2)) else (x31.1, x31.2.1, x31.2.2)))))
set_option maxHeartbeats 400000 in
set_option maxRecDepth 100000 in
theorem c_X6_mean (l : Launch) (D : va_G) (cI cP cS cL : ClassId) (L : List Nat) (F : Nat → va_E) (m : Nat) (d : Int32) (what : Int32) (part : Int32) (m_ss : Nat) (m_im : Nat) (m_re : Nat) (m_sa : Nat) (m_ke : Nat) (m_so : Nat) (m_si : Nat) (m_el : Nat) (m_kd : Nat) (m_kt : Nat) (m_hi : Int32) (m_th : Int32) (m_po : Int32) (m_ba : Int32) (m_en : Int32) (m_tl : Int32) (m_nu : Nat) (m_ca : Nat) (m_ha : Nat) (m_hs : Int32) (m_co : Nat) (m_ss_f : Nat → Int32) (m_ke_f : Nat → Int32) (m_so_f : Nat → Int32) (m_si_f : Nat → Int32) (m_el_f : Nat → Int32) (m_ha_f : Nat → Int32) (h_m : wi L F m (eM m_ss m_im m_re m_sa m_ke m_so m_si m_el m_kd m_kt m_hi m_th m_po m_ba m_en m_tl m_nu m_ca m_ha m_hs m_co)) (h_m_ss : wi L F m_ss (eI cI 55 m_ss_f)) (h_m_ke : wi L F m_ke (eI cI 8 m_ke_f)) (h_m_so : wi L F m_so (eI cI 8 m_so_f)) (h_m_si : wi L F m_si (eI cI 8 m_si_f)) (h_m_el : wi L F m_el (eI cI 800 m_el_f)) (h_m_ha : wi L F m_ha (eI cI 100 m_ha_f)) (hsi : ∀ i, i < 8 → (m_si_f i).toInt ≤ 100) (hsi0 : ∀ i, i < 8 → 0 ≤ (m_si_f i).toInt) (hhs : m_hs.toInt ≤ 100) (hd20 : 1 ≤ (m_ss_f 1).toInt ∧ (m_ss_f 1).toInt ≤ 20) (ne_m_ss_m_ha : m_ss ≠ m_ha) (ne_m_ke_m_ha : m_ke ≠ m_ha) (ne_m_so_m_ha : m_so ≠ m_ha) (ne_m_si_m_ha : m_si ≠ m_ha) (ne_m_el_m_ha : m_el ≠ m_ha) : wMj l D cI cP cS cL yX6_mean wsX6_mean ({ frames := 4, cells := 0, slots := 0, locals := 90 } : Room) [.ref m, .int d, .int what, .int part] L F (fun r1 F1 => ∃ y9 : Int32 × (Nat → Int32) × Int32, y9 = (f_X6_mean d what part m_hs m_ss_f m_ke_f m_so_f m_si_f m_el_f m_ha_f) ∧ r1 = y9.1 ∧ F1 m = (eM m_ss m_im m_re m_sa m_ke m_so m_si m_el m_kd m_kt m_hi m_th m_po m_ba m_en m_tl m_nu m_ca m_ha y9.2.2 m_co) ∧ F1 m_ha = (eI cI 100 y9.2.1) ∧ wk (fun q : Nat => q ≠ m ∧ q ≠ m_ha ∧ True) F1 F) := by
  refine wM.of (cc := cX6_mean) (maxL := 5) (ret := (some .int)) (by decide) rfl (Nat.le_of_ble_eq_true rfl) ?_
  intro pZ eZ sZ mZ below meth cZ A ls C hl w
  obtain ⟨hx, hb, hr, hml, hts, hown, hlocks, hK, hA, hin⟩ := C
  have hown : sZ.vm.findClass RX6 = some mZ.cls := hown
  have hl : lv_has ls 5 [(0, .ref m), (1, .int d), (2, .int what), (3, .int part)] := hl
  have m_0 : ((.fieldLink RX6 171 "TwoThirdsModel" "hands" "I") : Cond) ∈ wsX6_mean := by decide +kernel
  have i_X6 : ∀ w ∈ wsX60, w ∈ wsX6_mean := by decide +kernel
  have hk : wk (fun q : Nat => q ≠ m ∧ q ≠ m_ha ∧ True) F F := wk.rf
  have hq : f_X6_mean d what part m_hs m_ss_f m_ke_f m_so_f m_si_f m_el_f m_ha_f = f_X6_mean d what part m_hs m_ss_f m_ke_f m_so_f m_si_f m_el_f m_ha_f := rfl
  refine lv_iload_n hx hb dX6_mean_0 rfl (lv_at hl 1 rfl) ?_
  refine w_finI (w_runS (rm := ({ frames := 1, cells := 0, slots := 0, locals := 25 } : Room)) (As := [.int d]) (rest := []) (n := 1) hx hb hml hts hown hK w (c_X6_isShelf l D cI cP cS cL L _ d ) gX6_mean_X6_isShelf rfl rfl rfl (by decide +kernel) ⟨(Nat.le_of_ble_eq_true rfl), (Nat.le_of_ble_eq_true rfl)⟩ rfl hl.1 rfl (Nat.le_of_ble_eq_true rfl) dX6_mean_1 ⟨(Nat.le_of_ble_eq_true rfl), (Nat.le_of_ble_eq_true rfl)⟩) w hA (fun H locs w => ?_)
  refine lv_if_eq (tgt := 27) hx hb dX6_mean_4 (by decide) (fun c1 => ?_) (fun c1 => ?_)
  · skip
    have hq := hq.trans (if_pos c1)
    refine lv_iconst (v := (-1)) hx hb dX6_mean_27 (by decide) ?_
    exact w_iret hx hb hr hlocks w ⟨rfl, _, hq.symm, rfl, h_m.2, h_m_ha.2, hk⟩ (Nat.le_refl _) (Nat.le_refl _) dX6_mean_28
  · skip
    have hq := hq.trans (if_neg c1)
    refine lv_iload_n hx hb dX6_mean_7 rfl (lv_at hl 2 rfl) ?_
    refine lv_i2l (v := (what.toInt64)) hx hb dX6_mean_8 rfl ?_
    refine lv_lconst (v := 0) hx hb dX6_mean_9 (by decide) ?_
    refine lv_lconst (v := 1) hx hb dX6_mean_10 (by decide) ?_
    refine w_finI (w_runS (rm := ({ frames := 0, cells := 0, slots := 0, locals := 0 } : Room)) (As := [.long (what.toInt64), .long 0, .long 1]) (rest := []) (n := 3) hx hb hml hts hown hK w (c_X6_isIn l D cI cP cS cL L _ (what.toInt64) 0 1 ) gX6_mean_X6_isIn rfl rfl rfl (by decide +kernel) ⟨(Nat.le_of_ble_eq_true rfl), (Nat.le_of_ble_eq_true rfl)⟩ rfl hl.1 rfl (Nat.le_of_ble_eq_true rfl) dX6_mean_11 ⟨(Nat.le_of_ble_eq_true rfl), (Nat.le_of_ble_eq_true rfl)⟩) w hA (fun H locs w => ?_)
    refine lv_if_eq (tgt := 27) hx hb dX6_mean_14 (by decide) (fun c2 => ?_) (fun c2 => ?_)
    · skip
      have hq := hq.trans (if_pos c2)
      refine lv_iconst (v := (-1)) hx hb dX6_mean_27 (by decide) ?_
      exact w_iret hx hb hr hlocks w ⟨rfl, _, hq.symm, rfl, h_m.2, h_m_ha.2, hk⟩ (Nat.le_refl _) (Nat.le_refl _) dX6_mean_28
    · skip
      have hq := hq.trans (if_neg c2)
      refine lv_iload_n hx hb dX6_mean_17 rfl (lv_at hl 3 rfl) ?_
      refine lv_i2l (v := (part.toInt64)) hx hb dX6_mean_18 rfl ?_
      refine lv_lconst (v := 0) hx hb dX6_mean_19 (by decide) ?_
      refine lv_lconst (v := 1) hx hb dX6_mean_20 (by decide) ?_
      refine w_finI (w_runS (rm := ({ frames := 0, cells := 0, slots := 0, locals := 0 } : Room)) (As := [.long (part.toInt64), .long 0, .long 1]) (rest := []) (n := 3) hx hb hml hts hown hK w (c_X6_isIn l D cI cP cS cL L _ (part.toInt64) 0 1 ) gX6_mean_X6_isIn rfl rfl rfl (by decide +kernel) ⟨(Nat.le_of_ble_eq_true rfl), (Nat.le_of_ble_eq_true rfl)⟩ rfl hl.1 rfl (Nat.le_of_ble_eq_true rfl) dX6_mean_21 ⟨(Nat.le_of_ble_eq_true rfl), (Nat.le_of_ble_eq_true rfl)⟩) w hA (fun H locs w => ?_)
      refine lv_if_ne (tgt := 29) hx hb dX6_mean_24 (by decide) (fun c3 => ?_) (fun c3 => ?_)
      · skip
        have hq := hq.trans (if_neg c3)
        refine lv_aload_n hx hb dX6_mean_29 rfl (lv_at hl 0 rfl) ?_
        refine lv_iload_n hx hb dX6_mean_30 rfl (lv_at hl 1 rfl) ?_
        refine w_finj (w_runV (rm := ({ frames := 3, cells := 0, slots := 0, locals := 67 } : Room)) (As := [.int d]) (rest := []) (n := 1) hx hb hml hts hown hK w (c_X6_takesRow l D cI cP cS cL L _ m d m_ss m_im m_re m_sa m_ke m_so m_si m_el m_kd m_kt m_hi m_th m_po m_ba m_en m_tl m_nu m_ca m_ha m_hs m_co m_ss_f m_ke_f m_so_f m_si_f m_el_f m_ha_f h_m h_m_ss h_m_ke h_m_so h_m_si h_m_el h_m_ha hsi hsi0 hhs ne_m_ss_m_ha ne_m_ke_m_ha ne_m_so_m_ha ne_m_si_m_ha ne_m_el_m_ha) gX6_mean_X6_takesRow rfl rfl rfl (by decide +kernel) ⟨(Nat.le_of_ble_eq_true rfl), (Nat.le_of_ble_eq_true rfl)⟩ h_m rfl rfl hl.1 rfl (Nat.le_of_ble_eq_true rfl) dX6_mean_31 ⟨(Nat.le_of_ble_eq_true rfl), (Nat.le_of_ble_eq_true rfl)⟩) w hA (fun r9 F1 H locs hp w => ?_)
        obtain ⟨x31, hx31, e31_0, e31_1, e31_2, hr9, hw0, hw1, hk9⟩ := hp
        subst hr9
        have hq := hq.trans (w_bnd hx31)
        have h_m_ss := h_m_ss.keep hk9 ⟨(wi.ne h_m_ss h_m (by intro h; cases h)), ne_m_ss_m_ha, trivial⟩
        have h_m_ke := h_m_ke.keep hk9 ⟨(wi.ne h_m_ke h_m (by intro h; cases h)), ne_m_ke_m_ha, trivial⟩
        have h_m_so := h_m_so.keep hk9 ⟨(wi.ne h_m_so h_m (by intro h; cases h)), ne_m_so_m_ha, trivial⟩
        have h_m_si := h_m_si.keep hk9 ⟨(wi.ne h_m_si h_m (by intro h; cases h)), ne_m_si_m_ha, trivial⟩
        have h_m_el := h_m_el.keep hk9 ⟨(wi.ne h_m_el h_m (by intro h; cases h)), ne_m_el_m_ha, trivial⟩
        have h_m := h_m.new hw0
        have h_m_ha := h_m_ha.new hw1
        have hk := hk.call hk9 (fun q h => ⟨h.1, h.2.1, trivial⟩)
        refine lv_istore (lv' := [(4, .int x31.1), (0, .ref m), (1, .int d), (2, .int what), (3, .int part)]) hx hb dX6_mean_34 hl (by decide) rfl (fun ls hl => ?_)
        refine lv_iload hx hb dX6_mean_36 (lv_at hl 0 rfl) ?_
        refine lv_if_eq (tgt := 44) hx hb dX6_mean_38 (by decide) (fun c4 => ?_) (fun c4 => ?_)
        · skip
          have hq := hq.trans (if_pos c4)
          have h1s : 1 ≤ x31.2.2.toInt := e31_1 c4
          refine lv_iload_n hx hb dX6_mean_44 rfl (lv_at hl 3 rfl) ?_
          refine lv_if_ne (tgt := 65) hx hb dX6_mean_45 (by decide) (fun c5 => ?_) (fun c5 => ?_)
          · skip
            have hq := hq.trans (if_neg c5)
            refine lv_aload_n hx hb dX6_mean_65 rfl (lv_at hl 1 rfl) ?_
            refine lv_iload_n hx hb dX6_mean_66 rfl (lv_at hl 4 rfl) ?_
            refine w_finL (w_runV (rm := ({ frames := 2, cells := 0, slots := 0, locals := 55 } : Room)) (As := [.int part]) (rest := []) (n := 1) hx hb hml hts hown hK w (c_X6_targetOf l D cI cP cS cL L _ m part m_ss m_im m_re m_sa m_ke m_so m_si m_el m_kd m_kt m_hi m_th m_po m_ba m_en m_tl m_nu m_ca m_ha x31.2.2 m_co m_ss_f x31.2.1 h_m h_m_ss h_m_ha e31_0 (tb_ne hd20 h1s e31_0)) gX6_mean_X6_targetOf rfl rfl rfl (by decide +kernel) ⟨(Nat.le_of_ble_eq_true rfl), (Nat.le_of_ble_eq_true rfl)⟩ h_m rfl rfl hl.1 rfl (Nat.le_of_ble_eq_true rfl) dX6_mean_67 ⟨(Nat.le_of_ble_eq_true rfl), (Nat.le_of_ble_eq_true rfl)⟩) w hA (fun H locs w => ?_)
            refine lv_l2i (v := ((f_X6_targetOf part x31.2.2 m_ss_f x31.2.1).toInt32)) hx hb dX6_mean_70 rfl ?_
            exact w_iret hx hb hr hlocks w ⟨rfl, _, hq.symm, rfl, h_m.2, h_m_ha.2, hk⟩ (Nat.le_refl _) (Nat.le_refl _) dX6_mean_71
          · skip
            have hq := hq.trans (if_pos c5)
            refine lv_aload_n hx hb dX6_mean_48 rfl (lv_at hl 1 rfl) ?_
            refine w_finI (w_runV (rm := ({ frames := 0, cells := 0, slots := 0, locals := 0 } : Room)) (As := []) (rest := []) (n := 0) hx hb hml hts hown hK w (c_X6_sumOf l D cI cP cS cL L _ m m_ss m_im m_re m_sa m_ke m_so m_si m_el m_kd m_kt m_hi m_th m_po m_ba m_en m_tl m_nu m_ca m_ha x31.2.2 m_co x31.2.1 h_m h_m_ha e31_0) gX6_mean_X6_sumOf rfl rfl rfl (by decide +kernel) ⟨(Nat.le_of_ble_eq_true rfl), (Nat.le_of_ble_eq_true rfl)⟩ h_m rfl rfl hl.1 rfl (Nat.le_of_ble_eq_true rfl) dX6_mean_49 ⟨(Nat.le_of_ble_eq_true rfl), (Nat.le_of_ble_eq_true rfl)⟩) w hA (fun H locs w => ?_)
            refine lv_i2l (v := ((f_X6_sumOf x31.2.2 x31.2.1).toInt64)) hx hb dX6_mean_52 rfl ?_
            refine lv_aload_n hx hb dX6_mean_53 rfl (lv_at hl 1 rfl) ?_
            refine w_get (v := .int x31.2.2) hx hb hts i_X6 hown hK w h_m rfl 19 (by decide) (hts _ m_0) rfl dX6_mean_54 ?_
            refine lv_i2l (v := (x31.2.2.toInt64)) hx hb dX6_mean_57 rfl ?_
            refine lv_iload_n hx hb dX6_mean_58 rfl (lv_at hl 4 rfl) ?_
            refine w_finL (w_runS (rm := ({ frames := 1, cells := 0, slots := 0, locals := 29 } : Room)) (As := [.long ((f_X6_sumOf x31.2.2 x31.2.1).toInt64), .long (x31.2.2.toInt64), .int part]) (rest := []) (n := 3) hx hb hml hts hown hK w (c_X6_partOf l D cI cP cS cL L _ ((f_X6_sumOf x31.2.2 x31.2.1).toInt64) (x31.2.2.toInt64) part (l_ne h1s)) gX6_mean_X6_partOf rfl rfl rfl (by decide +kernel) ⟨(Nat.le_of_ble_eq_true rfl), (Nat.le_of_ble_eq_true rfl)⟩ rfl hl.1 rfl (Nat.le_of_ble_eq_true rfl) dX6_mean_59 ⟨(Nat.le_of_ble_eq_true rfl), (Nat.le_of_ble_eq_true rfl)⟩) w hA (fun H locs w => ?_)
            refine lv_goto (tgt := 70) hx hb dX6_mean_62 (by decide) ?_
            refine lv_l2i (v := ((f_X6_partOf ((f_X6_sumOf x31.2.2 x31.2.1).toInt64) (x31.2.2.toInt64) part).toInt32)) hx hb dX6_mean_70 rfl ?_
            exact w_iret hx hb hr hlocks w ⟨rfl, _, hq.symm, rfl, h_m.2, h_m_ha.2, hk⟩ (Nat.le_refl _) (Nat.le_refl _) dX6_mean_71
        · skip
          have hq := hq.trans (if_neg c4)
          refine lv_iload hx hb dX6_mean_41 (lv_at hl 0 rfl) ?_
          exact w_iret hx hb hr hlocks w ⟨rfl, _, hq.symm, rfl, h_m.2, h_m_ha.2, hk⟩ (Nat.le_refl _) (Nat.le_refl _) dX6_mean_43
      · skip
        have hq := hq.trans (if_pos c3)
        refine lv_iconst (v := (-1)) hx hb dX6_mean_27 (by decide) ?_
        exact w_iret hx hb hr hlocks w ⟨rfl, _, hq.symm, rfl, h_m.2, h_m_ha.2, hk⟩ (Nat.le_refl _) (Nat.le_refl _) dX6_mean_28
def f_X6_winners (d : Int32) (what : Int32) (m_hs : Int32) (m_ss_f : Nat → Int32) (m_ke_f : Nat → Int32) (m_so_f : Nat → Int32) (m_si_f : Nat → Int32) (m_el_f : Nat → Int32) (m_ha_f : Nat → Int32) : Int32 × (Nat → Int32) × Int32 := if (f_X6_isShelf d) = (0 : Int32) then ((-1), m_ha_f, m_hs) else (if (f_X6_isIn (what.toInt64) 0 1) = (0 : Int32) then ((-1), m_ha_f, m_hs) else (bnd (f_X6_takesRow d m_hs m_ss_f m_ke_f m_so_f m_si_f m_el_f m_ha_f) (fun x21 : Int32 × (Nat → Int32) × Int32 => if x21.1 = (0 : Int32) then ((f_X6_winnersOf what x21.2.2 m_ss_f x21.2.1), x21.2.1, x21.2.2) else (x21.1, x21.2.1, x21.2.2))))
set_option maxHeartbeats 400000 in
set_option maxRecDepth 100000 in
theorem c_X6_winners (l : Launch) (D : va_G) (cI cP cS cL : ClassId) (L : List Nat) (F : Nat → va_E) (m : Nat) (d : Int32) (what : Int32) (m_ss : Nat) (m_im : Nat) (m_re : Nat) (m_sa : Nat) (m_ke : Nat) (m_so : Nat) (m_si : Nat) (m_el : Nat) (m_kd : Nat) (m_kt : Nat) (m_hi : Int32) (m_th : Int32) (m_po : Int32) (m_ba : Int32) (m_en : Int32) (m_tl : Int32) (m_nu : Nat) (m_ca : Nat) (m_ha : Nat) (m_hs : Int32) (m_co : Nat) (m_ss_f : Nat → Int32) (m_ke_f : Nat → Int32) (m_so_f : Nat → Int32) (m_si_f : Nat → Int32) (m_el_f : Nat → Int32) (m_ha_f : Nat → Int32) (h_m : wi L F m (eM m_ss m_im m_re m_sa m_ke m_so m_si m_el m_kd m_kt m_hi m_th m_po m_ba m_en m_tl m_nu m_ca m_ha m_hs m_co)) (h_m_ss : wi L F m_ss (eI cI 55 m_ss_f)) (h_m_ke : wi L F m_ke (eI cI 8 m_ke_f)) (h_m_so : wi L F m_so (eI cI 8 m_so_f)) (h_m_si : wi L F m_si (eI cI 8 m_si_f)) (h_m_el : wi L F m_el (eI cI 800 m_el_f)) (h_m_ha : wi L F m_ha (eI cI 100 m_ha_f)) (hsi : ∀ i, i < 8 → (m_si_f i).toInt ≤ 100) (hsi0 : ∀ i, i < 8 → 0 ≤ (m_si_f i).toInt) (hhs : m_hs.toInt ≤ 100) (ne_m_ss_m_ha : m_ss ≠ m_ha) (ne_m_ke_m_ha : m_ke ≠ m_ha) (ne_m_so_m_ha : m_so ≠ m_ha) (ne_m_si_m_ha : m_si ≠ m_ha) (ne_m_el_m_ha : m_el ≠ m_ha) : wMj l D cI cP cS cL yX6_winners wsX6_winners ({ frames := 4, cells := 0, slots := 0, locals := 90 } : Room) [.ref m, .int d, .int what] L F (fun r1 F1 => ∃ y9 : Int32 × (Nat → Int32) × Int32, y9 = (f_X6_winners d what m_hs m_ss_f m_ke_f m_so_f m_si_f m_el_f m_ha_f) ∧ r1 = y9.1 ∧ F1 m = (eM m_ss m_im m_re m_sa m_ke m_so m_si m_el m_kd m_kt m_hi m_th m_po m_ba m_en m_tl m_nu m_ca m_ha y9.2.2 m_co) ∧ F1 m_ha = (eI cI 100 y9.2.1) ∧ wk (fun q : Nat => q ≠ m ∧ q ≠ m_ha ∧ True) F1 F) := by
  refine wM.of (cc := cX6_winners) (maxL := 4) (ret := (some .int)) (by decide) rfl (Nat.le_of_ble_eq_true rfl) ?_
  intro pZ eZ sZ mZ below meth cZ A ls C hl w
  obtain ⟨hx, hb, hr, hml, hts, hown, hlocks, hK, hA, hin⟩ := C
  have hown : sZ.vm.findClass RX6 = some mZ.cls := hown
  have hl : lv_has ls 4 [(0, .ref m), (1, .int d), (2, .int what)] := hl
  have hk : wk (fun q : Nat => q ≠ m ∧ q ≠ m_ha ∧ True) F F := wk.rf
  have hq : f_X6_winners d what m_hs m_ss_f m_ke_f m_so_f m_si_f m_el_f m_ha_f = f_X6_winners d what m_hs m_ss_f m_ke_f m_so_f m_si_f m_el_f m_ha_f := rfl
  refine lv_iload_n hx hb dX6_winners_0 rfl (lv_at hl 1 rfl) ?_
  refine w_finI (w_runS (rm := ({ frames := 1, cells := 0, slots := 0, locals := 25 } : Room)) (As := [.int d]) (rest := []) (n := 1) hx hb hml hts hown hK w (c_X6_isShelf l D cI cP cS cL L _ d ) gX6_winners_X6_isShelf rfl rfl rfl (by decide +kernel) ⟨(Nat.le_of_ble_eq_true rfl), (Nat.le_of_ble_eq_true rfl)⟩ rfl hl.1 rfl (Nat.le_of_ble_eq_true rfl) dX6_winners_1 ⟨(Nat.le_of_ble_eq_true rfl), (Nat.le_of_ble_eq_true rfl)⟩) w hA (fun H locs w => ?_)
  refine lv_if_eq (tgt := 17) hx hb dX6_winners_4 (by decide) (fun c1 => ?_) (fun c1 => ?_)
  · skip
    have hq := hq.trans (if_pos c1)
    refine lv_iconst (v := (-1)) hx hb dX6_winners_17 (by decide) ?_
    exact w_iret hx hb hr hlocks w ⟨rfl, _, hq.symm, rfl, h_m.2, h_m_ha.2, hk⟩ (Nat.le_refl _) (Nat.le_refl _) dX6_winners_18
  · skip
    have hq := hq.trans (if_neg c1)
    refine lv_iload_n hx hb dX6_winners_7 rfl (lv_at hl 2 rfl) ?_
    refine lv_i2l (v := (what.toInt64)) hx hb dX6_winners_8 rfl ?_
    refine lv_lconst (v := 0) hx hb dX6_winners_9 (by decide) ?_
    refine lv_lconst (v := 1) hx hb dX6_winners_10 (by decide) ?_
    refine w_finI (w_runS (rm := ({ frames := 0, cells := 0, slots := 0, locals := 0 } : Room)) (As := [.long (what.toInt64), .long 0, .long 1]) (rest := []) (n := 3) hx hb hml hts hown hK w (c_X6_isIn l D cI cP cS cL L _ (what.toInt64) 0 1 ) gX6_winners_X6_isIn rfl rfl rfl (by decide +kernel) ⟨(Nat.le_of_ble_eq_true rfl), (Nat.le_of_ble_eq_true rfl)⟩ rfl hl.1 rfl (Nat.le_of_ble_eq_true rfl) dX6_winners_11 ⟨(Nat.le_of_ble_eq_true rfl), (Nat.le_of_ble_eq_true rfl)⟩) w hA (fun H locs w => ?_)
    refine lv_if_ne (tgt := 19) hx hb dX6_winners_14 (by decide) (fun c2 => ?_) (fun c2 => ?_)
    · skip
      have hq := hq.trans (if_neg c2)
      refine lv_aload_n hx hb dX6_winners_19 rfl (lv_at hl 0 rfl) ?_
      refine lv_iload_n hx hb dX6_winners_20 rfl (lv_at hl 1 rfl) ?_
      refine w_finj (w_runV (rm := ({ frames := 3, cells := 0, slots := 0, locals := 67 } : Room)) (As := [.int d]) (rest := []) (n := 1) hx hb hml hts hown hK w (c_X6_takesRow l D cI cP cS cL L _ m d m_ss m_im m_re m_sa m_ke m_so m_si m_el m_kd m_kt m_hi m_th m_po m_ba m_en m_tl m_nu m_ca m_ha m_hs m_co m_ss_f m_ke_f m_so_f m_si_f m_el_f m_ha_f h_m h_m_ss h_m_ke h_m_so h_m_si h_m_el h_m_ha hsi hsi0 hhs ne_m_ss_m_ha ne_m_ke_m_ha ne_m_so_m_ha ne_m_si_m_ha ne_m_el_m_ha) gX6_winners_X6_takesRow rfl rfl rfl (by decide +kernel) ⟨(Nat.le_of_ble_eq_true rfl), (Nat.le_of_ble_eq_true rfl)⟩ h_m rfl rfl hl.1 rfl (Nat.le_of_ble_eq_true rfl) dX6_winners_21 ⟨(Nat.le_of_ble_eq_true rfl), (Nat.le_of_ble_eq_true rfl)⟩) w hA (fun r9 F1 H locs hp w => ?_)
      obtain ⟨x21, hx21, e21_0, e21_1, e21_2, hr9, hw0, hw1, hk9⟩ := hp
      subst hr9
      have hq := hq.trans (w_bnd hx21)
      have h_m_ss := h_m_ss.keep hk9 ⟨(wi.ne h_m_ss h_m (by intro h; cases h)), ne_m_ss_m_ha, trivial⟩
      have h_m_ke := h_m_ke.keep hk9 ⟨(wi.ne h_m_ke h_m (by intro h; cases h)), ne_m_ke_m_ha, trivial⟩
      have h_m_so := h_m_so.keep hk9 ⟨(wi.ne h_m_so h_m (by intro h; cases h)), ne_m_so_m_ha, trivial⟩
      have h_m_si := h_m_si.keep hk9 ⟨(wi.ne h_m_si h_m (by intro h; cases h)), ne_m_si_m_ha, trivial⟩
      have h_m_el := h_m_el.keep hk9 ⟨(wi.ne h_m_el h_m (by intro h; cases h)), ne_m_el_m_ha, trivial⟩
      have h_m := h_m.new hw0
      have h_m_ha := h_m_ha.new hw1
      have hk := hk.call hk9 (fun q h => ⟨h.1, h.2.1, trivial⟩)
      refine lv_istore_n (lv' := [(3, .int x21.1), (0, .ref m), (1, .int d), (2, .int what)]) hx hb dX6_winners_24 rfl hl (by decide) rfl (fun ls hl => ?_)
      refine lv_iload_n hx hb dX6_winners_25 rfl (lv_at hl 0 rfl) ?_
      refine lv_if_eq (tgt := 33) hx hb dX6_winners_26 (by decide) (fun c3 => ?_) (fun c3 => ?_)
      · skip
        have hq := hq.trans (if_pos c3)
        refine lv_aload_n hx hb dX6_winners_33 rfl (lv_at hl 1 rfl) ?_
        refine lv_iload_n hx hb dX6_winners_34 rfl (lv_at hl 3 rfl) ?_
        refine w_finI (w_runV (rm := ({ frames := 2, cells := 0, slots := 0, locals := 47 } : Room)) (As := [.int what]) (rest := []) (n := 1) hx hb hml hts hown hK w (c_X6_winnersOf l D cI cP cS cL L _ m what m_ss m_im m_re m_sa m_ke m_so m_si m_el m_kd m_kt m_hi m_th m_po m_ba m_en m_tl m_nu m_ca m_ha x21.2.2 m_co m_ss_f x21.2.1 h_m h_m_ss h_m_ha e21_0) gX6_winners_X6_winnersOf rfl rfl rfl (by decide +kernel) ⟨(Nat.le_of_ble_eq_true rfl), (Nat.le_of_ble_eq_true rfl)⟩ h_m rfl rfl hl.1 rfl (Nat.le_of_ble_eq_true rfl) dX6_winners_35 ⟨(Nat.le_of_ble_eq_true rfl), (Nat.le_of_ble_eq_true rfl)⟩) w hA (fun H locs w => ?_)
        exact w_iret hx hb hr hlocks w ⟨rfl, _, hq.symm, rfl, h_m.2, h_m_ha.2, hk⟩ (Nat.le_refl _) (Nat.le_refl _) dX6_winners_38
      · skip
        have hq := hq.trans (if_neg c3)
        refine lv_iload_n hx hb dX6_winners_29 rfl (lv_at hl 0 rfl) ?_
        refine lv_goto (tgt := 38) hx hb dX6_winners_30 (by decide) ?_
        exact w_iret hx hb hr hlocks w ⟨rfl, _, hq.symm, rfl, h_m.2, h_m_ha.2, hk⟩ (Nat.le_refl _) (Nat.le_refl _) dX6_winners_38
    · skip
      have hq := hq.trans (if_pos c2)
      refine lv_iconst (v := (-1)) hx hb dX6_winners_17 (by decide) ?_
      exact w_iret hx hb hr hlocks w ⟨rfl, _, hq.symm, rfl, h_m.2, h_m_ha.2, hk⟩ (Nat.le_refl _) (Nat.le_refl _) dX6_winners_18
def f_X6_best_L27 (m_ss_f : Nat → Int32) (x2 : Int32 × (Nat → Int32) × Int32) : Nat → Nat → Int32 → Int32 → Int32 × (Nat → Int32) × Int32
  | 0, _, _, _ => (0, (fun _ => 0), 0)
  | n + 1, k, v4, v5 => if (m_ss_f 2) < (nI k) then (v4, x2.2.1, x2.2.2) else (if (m_ss_f 3) = (1 : Int32) then (if (0 : Int32) < (f_X6_farOf (nI k) ((f_X6_sumOf x2.2.2 x2.2.1) + (nI k)) (x2.2.2 + 1) m_ss_f) then (f_X6_best_L27 m_ss_f x2 n ((k + 1)) v4 v5) else (f_X6_best_L27 m_ss_f x2 n ((k + 1)) (nI k) v5)) else (if v4 < (0 : Int32) then (f_X6_best_L27 m_ss_f x2 n ((k + 1)) (nI k) (f_X6_amount (f_X6_farOf (nI k) ((f_X6_sumOf x2.2.2 x2.2.1) + (nI k)) (x2.2.2 + 1) m_ss_f))) else (if v5 ≤ (f_X6_amount (f_X6_farOf (nI k) ((f_X6_sumOf x2.2.2 x2.2.1) + (nI k)) (x2.2.2 + 1) m_ss_f)) then (f_X6_best_L27 m_ss_f x2 n ((k + 1)) v4 v5) else (f_X6_best_L27 m_ss_f x2 n ((k + 1)) (nI k) (f_X6_amount (f_X6_farOf (nI k) ((f_X6_sumOf x2.2.2 x2.2.1) + (nI k)) (x2.2.2 + 1) m_ss_f))))))
theorem f_X6_best_L27_s (m_ss_f : Nat → Int32) (x2 : Int32 × (Nat → Int32) × Int32) (n k : Nat) (v4 : Int32) (v5 : Int32) : f_X6_best_L27 m_ss_f x2 (n + 1) k v4 v5 = (if (m_ss_f 2) < (nI k) then (v4, x2.2.1, x2.2.2) else (if (m_ss_f 3) = (1 : Int32) then (if (0 : Int32) < (f_X6_farOf (nI k) ((f_X6_sumOf x2.2.2 x2.2.1) + (nI k)) (x2.2.2 + 1) m_ss_f) then (f_X6_best_L27 m_ss_f x2 n ((k + 1)) v4 v5) else (f_X6_best_L27 m_ss_f x2 n ((k + 1)) (nI k) v5)) else (if v4 < (0 : Int32) then (f_X6_best_L27 m_ss_f x2 n ((k + 1)) (nI k) (f_X6_amount (f_X6_farOf (nI k) ((f_X6_sumOf x2.2.2 x2.2.1) + (nI k)) (x2.2.2 + 1) m_ss_f))) else (if v5 ≤ (f_X6_amount (f_X6_farOf (nI k) ((f_X6_sumOf x2.2.2 x2.2.1) + (nI k)) (x2.2.2 + 1) m_ss_f)) then (f_X6_best_L27 m_ss_f x2 n ((k + 1)) v4 v5) else (f_X6_best_L27 m_ss_f x2 n ((k + 1)) (nI k) (f_X6_amount (f_X6_farOf (nI k) ((f_X6_sumOf x2.2.2 x2.2.1) + (nI k)) (x2.2.2 + 1) m_ss_f))))))) := rfl
def f_X6_best (d : Int32) (m_hs : Int32) (m_ss_f : Nat → Int32) (m_ke_f : Nat → Int32) (m_so_f : Nat → Int32) (m_si_f : Nat → Int32) (m_el_f : Nat → Int32) (m_ha_f : Nat → Int32) : Int32 × (Nat → Int32) × Int32 := (bnd (f_X6_takesRow d m_hs m_ss_f m_ke_f m_so_f m_si_f m_el_f m_ha_f) (fun x2 : Int32 × (Nat → Int32) × Int32 => if x2.1 = (0 : Int32) then (f_X6_best_L27 m_ss_f x2 ((m_ss_f 2).toNatClampNeg + 1 + 1) 0 (-4) 0) else (x2.1, x2.2.1, x2.2.2)))
set_option maxHeartbeats 400000 in
set_option maxRecDepth 100000 in
theorem c_X6_best (l : Launch) (D : va_G) (cI cP cS cL : ClassId) (L : List Nat) (F : Nat → va_E) (m : Nat) (d : Int32) (m_ss : Nat) (m_im : Nat) (m_re : Nat) (m_sa : Nat) (m_ke : Nat) (m_so : Nat) (m_si : Nat) (m_el : Nat) (m_kd : Nat) (m_kt : Nat) (m_hi : Int32) (m_th : Int32) (m_po : Int32) (m_ba : Int32) (m_en : Int32) (m_tl : Int32) (m_nu : Nat) (m_ca : Nat) (m_ha : Nat) (m_hs : Int32) (m_co : Nat) (m_ss_f : Nat → Int32) (m_ke_f : Nat → Int32) (m_so_f : Nat → Int32) (m_si_f : Nat → Int32) (m_el_f : Nat → Int32) (m_ha_f : Nat → Int32) (h_m : wi L F m (eM m_ss m_im m_re m_sa m_ke m_so m_si m_el m_kd m_kt m_hi m_th m_po m_ba m_en m_tl m_nu m_ca m_ha m_hs m_co)) (h_m_ss : wi L F m_ss (eI cI 55 m_ss_f)) (h_m_ke : wi L F m_ke (eI cI 8 m_ke_f)) (h_m_so : wi L F m_so (eI cI 8 m_so_f)) (h_m_si : wi L F m_si (eI cI 8 m_si_f)) (h_m_el : wi L F m_el (eI cI 800 m_el_f)) (h_m_ha : wi L F m_ha (eI cI 100 m_ha_f)) (hsi : ∀ i, i < 8 → (m_si_f i).toInt ≤ 100) (hsi0 : ∀ i, i < 8 → 0 ≤ (m_si_f i).toInt) (hhs : m_hs.toInt ≤ 100) (hhi : 0 ≤ (m_ss_f 2).toInt ∧ (m_ss_f 2).toInt ≤ 1000) (ne_m_ss_m_ha : m_ss ≠ m_ha) (ne_m_ke_m_ha : m_ke ≠ m_ha) (ne_m_so_m_ha : m_so ≠ m_ha) (ne_m_si_m_ha : m_si ≠ m_ha) (ne_m_el_m_ha : m_el ≠ m_ha) : wMj l D cI cP cS cL yX6_best wsX6_best ({ frames := 4, cells := 0, slots := 0, locals := 90 } : Room) [.ref m, .int d] L F (fun r1 F1 => ∃ y9 : Int32 × (Nat → Int32) × Int32, y9 = (f_X6_best d m_hs m_ss_f m_ke_f m_so_f m_si_f m_el_f m_ha_f) ∧ r1 = y9.1 ∧ F1 m = (eM m_ss m_im m_re m_sa m_ke m_so m_si m_el m_kd m_kt m_hi m_th m_po m_ba m_en m_tl m_nu m_ca m_ha y9.2.2 m_co) ∧ F1 m_ha = (eI cI 100 y9.2.1) ∧ wk (fun q : Nat => q ≠ m ∧ q ≠ m_ha ∧ True) F1 F) := by
  refine wM.of (cc := cX6_best) (maxL := 8) (ret := (some .int)) (by decide) rfl (Nat.le_of_ble_eq_true rfl) ?_
  intro pZ eZ sZ mZ below meth cZ A ls C hl w
  obtain ⟨hx, hb, hr, hml, hts, hown, hlocks, hK, hA, hin⟩ := C
  have hown : sZ.vm.findClass RX6 = some mZ.cls := hown
  have hl : lv_has ls 8 [(0, .ref m), (1, .int d)] := hl
  have m_0 : ((.fieldLink RX6 9 "TwoThirdsModel" "s" "[I") : Cond) ∈ wsX6_best := by decide +kernel
  have i_X6 : ∀ w ∈ wsX60, w ∈ wsX6_best := by decide +kernel
  have m_2 : ((.fieldLink RX6 171 "TwoThirdsModel" "hands" "I") : Cond) ∈ wsX6_best := by decide +kernel
  have hk : wk (fun q : Nat => q ≠ m ∧ q ≠ m_ha ∧ True) F F := wk.rf
  have hq : f_X6_best d m_hs m_ss_f m_ke_f m_so_f m_si_f m_el_f m_ha_f = f_X6_best d m_hs m_ss_f m_ke_f m_so_f m_si_f m_el_f m_ha_f := rfl
  refine lv_aload_n hx hb dX6_best_0 rfl (lv_at hl 0 rfl) ?_
  refine lv_iload_n hx hb dX6_best_1 rfl (lv_at hl 1 rfl) ?_
  refine w_finj (w_runV (rm := ({ frames := 3, cells := 0, slots := 0, locals := 67 } : Room)) (As := [.int d]) (rest := []) (n := 1) hx hb hml hts hown hK w (c_X6_takesRow l D cI cP cS cL L _ m d m_ss m_im m_re m_sa m_ke m_so m_si m_el m_kd m_kt m_hi m_th m_po m_ba m_en m_tl m_nu m_ca m_ha m_hs m_co m_ss_f m_ke_f m_so_f m_si_f m_el_f m_ha_f h_m h_m_ss h_m_ke h_m_so h_m_si h_m_el h_m_ha hsi hsi0 hhs ne_m_ss_m_ha ne_m_ke_m_ha ne_m_so_m_ha ne_m_si_m_ha ne_m_el_m_ha) gX6_best_X6_takesRow rfl rfl rfl (by decide +kernel) ⟨(Nat.le_of_ble_eq_true rfl), (Nat.le_of_ble_eq_true rfl)⟩ h_m rfl rfl hl.1 rfl (Nat.le_of_ble_eq_true rfl) dX6_best_2 ⟨(Nat.le_of_ble_eq_true rfl), (Nat.le_of_ble_eq_true rfl)⟩) w hA (fun r9 F1 H locs hp w => ?_)
  obtain ⟨x2, hx2, e2_0, e2_1, e2_2, hr9, hw0, hw1, hk9⟩ := hp
  subst hr9
  have hq := hq.trans (w_bnd hx2)
  have h_m_ss := h_m_ss.keep hk9 ⟨(wi.ne h_m_ss h_m (by intro h; cases h)), ne_m_ss_m_ha, trivial⟩
  have h_m_ke := h_m_ke.keep hk9 ⟨(wi.ne h_m_ke h_m (by intro h; cases h)), ne_m_ke_m_ha, trivial⟩
  have h_m_so := h_m_so.keep hk9 ⟨(wi.ne h_m_so h_m (by intro h; cases h)), ne_m_so_m_ha, trivial⟩
  have h_m_si := h_m_si.keep hk9 ⟨(wi.ne h_m_si h_m (by intro h; cases h)), ne_m_si_m_ha, trivial⟩
  have h_m_el := h_m_el.keep hk9 ⟨(wi.ne h_m_el h_m (by intro h; cases h)), ne_m_el_m_ha, trivial⟩
  have h_m := h_m.new hw0
  have h_m_ha := h_m_ha.new hw1
  have hk := hk.call hk9 (fun q h => ⟨h.1, h.2.1, trivial⟩)
  refine lv_istore_n (lv' := [(2, .int x2.1), (0, .ref m), (1, .int d)]) hx hb dX6_best_5 rfl hl (by decide) rfl (fun ls hl => ?_)
  refine lv_iload_n hx hb dX6_best_6 rfl (lv_at hl 0 rfl) ?_
  refine lv_if_eq (tgt := 12) hx hb dX6_best_7 (by decide) (fun c1 => ?_) (fun c1 => ?_)
  · skip
    have hq := hq.trans (if_pos c1)
    refine lv_aload_n hx hb dX6_best_12 rfl (lv_at hl 1 rfl) ?_
    refine w_finI (w_runV (rm := ({ frames := 0, cells := 0, slots := 0, locals := 0 } : Room)) (As := []) (rest := []) (n := 0) hx hb hml hts hown hK w (c_X6_sumOf l D cI cP cS cL L _ m m_ss m_im m_re m_sa m_ke m_so m_si m_el m_kd m_kt m_hi m_th m_po m_ba m_en m_tl m_nu m_ca m_ha x2.2.2 m_co x2.2.1 h_m h_m_ha e2_0) gX6_best_X6_sumOf rfl rfl rfl (by decide +kernel) ⟨(Nat.le_of_ble_eq_true rfl), (Nat.le_of_ble_eq_true rfl)⟩ h_m rfl rfl hl.1 rfl (Nat.le_of_ble_eq_true rfl) dX6_best_13 ⟨(Nat.le_of_ble_eq_true rfl), (Nat.le_of_ble_eq_true rfl)⟩) w hA (fun H locs w => ?_)
    refine lv_istore_n (lv' := [(3, .int (f_X6_sumOf x2.2.2 x2.2.1)), (2, .int x2.1), (0, .ref m), (1, .int d)]) hx hb dX6_best_16 rfl hl (by decide) rfl (fun ls hl => ?_)
    refine lv_bipush (v := (-4)) hx hb dX6_best_17 (by decide) ?_
    refine lv_istore (lv' := [(4, .int (-4)), (3, .int (f_X6_sumOf x2.2.2 x2.2.1)), (2, .int x2.1), (0, .ref m), (1, .int d)]) hx hb dX6_best_19 hl (by decide) rfl (fun ls hl => ?_)
    refine lv_iconst (v := 0) hx hb dX6_best_21 (by decide) ?_
    refine lv_istore (lv' := [(5, .int 0), (4, .int (-4)), (3, .int (f_X6_sumOf x2.2.2 x2.2.1)), (2, .int x2.1), (0, .ref m), (1, .int d)]) hx hb dX6_best_22 hl (by decide) rfl (fun ls hl => ?_)
    refine lv_iconst (v := 0) hx hb dX6_best_24 (by decide) ?_
    refine lv_istore (lv' := [(6, .int 0), (5, .int 0), (4, .int (-4)), (3, .int (f_X6_sumOf x2.2.2 x2.2.1)), (2, .int x2.1), (0, .ref m), (1, .int d)]) hx hb dX6_best_25 hl (by decide) rfl (fun ls hl => ?_)
    have hL27 : ∀ (n k : Nat) (v4 : Int32) (v5 : Int32) (F1 : Nat → va_E) (H : Heap) (locs : List Loc) (ls : Array Slot), k ≤ (m_ss_f 2).toNatClampNeg + 1 → (m_ss_f 2).toNatClampNeg + 1 - k < n → f_X6_best d m_hs m_ss_f m_ke_f m_so_f m_si_f m_el_f m_ha_f = f_X6_best_L27 m_ss_f x2 n k v4 v5 → lv_has ls 8 [(0, .ref m), (1, .int d), (2, .int x2.1), (3, .int (f_X6_sumOf x2.2.2 x2.2.1)), (4, .int v4), (5, .int v5), (6, .int (nI k))] → ww D A sZ.heap L F1 H locs → (wi L F1 m (eM m_ss m_im m_re m_sa m_ke m_so m_si m_el m_kd m_kt m_hi m_th m_po m_ba m_en m_tl m_nu m_ca m_ha x2.2.2 m_co)) → (wi L F1 m_ss (eI cI 55 m_ss_f)) → (wi L F1 m_ke (eI cI 8 m_ke_f)) → (wi L F1 m_so (eI cI 8 m_so_f)) → (wi L F1 m_si (eI cI 8 m_si_f)) → (wi L F1 m_el (eI cI 800 m_el_f)) → (wi L F1 m_ha (eI cI 100 x2.2.1)) → wk (fun q : Nat => q ≠ m ∧ q ≠ m_ha ∧ True) F1 F → W pZ l eZ ({ frames := 4, cells := 0, slots := 0, locals := 90 } : Room) sZ mZ [.ref m, .int d].toArray below meth cZ H locs 0 0 (MQ below (wQi D A (fun r1 L1 F1 => L1 = L ∧ ∃ y9 : Int32 × (Nat → Int32) × Int32, y9 = (f_X6_best d m_hs m_ss_f m_ke_f m_so_f m_si_f m_el_f m_ha_f) ∧ r1 = y9.1 ∧ F1 m = (eM m_ss m_im m_re m_sa m_ke m_so m_si m_el m_kd m_kt m_hi m_th m_po m_ba m_en m_tl m_nu m_ca m_ha y9.2.2 m_co) ∧ F1 m_ha = (eI cI 100 y9.2.1) ∧ wk (fun q : Nat => q ≠ m ∧ q ≠ m_ha ∧ True) F1 F)) [.ref m, .int d].toArray sZ 0 0 A) (F0 mZ 27 ls []) := by
      intro n; induction n with
      | zero => intro k v4 v5 F1 H locs ls hkT hmeas; exact absurd hmeas (Nat.not_lt_zero _)
      | succ n ih =>
        intro k v4 v5 F1 H locs ls hkT hmeas hq hl w h_m h_m_ss h_m_ke h_m_so h_m_si h_m_el h_m_ha hk
        have hk31 : k < 2147483648 := (by have := hhi; have : (m_ss_f 2).toNatClampNeg = (m_ss_f 2).toInt.toNat := rfl; omega)
        have hq := hq.trans (f_X6_best_L27_s m_ss_f x2 n k v4 v5)
        refine lv_iload hx hb dX6_best_27 (lv_at hl 6 rfl) ?_
        refine lv_aload_n hx hb dX6_best_29 rfl (lv_at hl 0 rfl) ?_
        refine w_get (v := .ref m_ss) hx hb hts i_X6 hown hK w h_m rfl 0 (by decide) (hts _ m_0) rfl dX6_best_30 ?_
        refine lv_iconst (v := 2) hx hb dX6_best_33 (by decide) ?_
        refine w_ild (j := 2) hx hb hK w h_m_ss (vp_in_nI (n := 2) (N := 55) (by decide) (by decide)) rfl dX6_best_34 ?_
        refine lv_icmp_gt (tgt := 115) hx hb dX6_best_35 (by decide) (fun c2 => ?_) (fun c2 => ?_)
        · skip
          have hq := hq.trans (if_pos c2)
          refine lv_iload hx hb dX6_best_115 (lv_at hl 4 rfl) ?_
          exact w_iret hx hb hr hlocks w ⟨rfl, _, hq.symm, rfl, h_m.2, h_m_ha.2, hk⟩ (Nat.le_refl _) (Nat.le_refl _) dX6_best_117
        · skip
          have hq := hq.trans (if_neg c2)
          have hlt35 : k < (m_ss_f 2).toNatClampNeg + 1 := w_lek hk31 c2
          refine lv_aload_n hx hb dX6_best_38 rfl (lv_at hl 0 rfl) ?_
          refine lv_iload hx hb dX6_best_39 (lv_at hl 6 rfl) ?_
          refine lv_iload_n hx hb dX6_best_41 rfl (lv_at hl 3 rfl) ?_
          refine lv_iload hx hb dX6_best_42 (lv_at hl 6 rfl) ?_
          refine lv_iadd hx hb dX6_best_44 ?_
          refine lv_aload_n hx hb dX6_best_45 rfl (lv_at hl 0 rfl) ?_
          refine w_get (v := .int x2.2.2) hx hb hts i_X6 hown hK w h_m rfl 19 (by decide) (hts _ m_2) rfl dX6_best_46 ?_
          refine lv_iconst (v := 1) hx hb dX6_best_49 (by decide) ?_
          refine lv_iadd hx hb dX6_best_50 ?_
          refine w_finI (w_runV (rm := ({ frames := 0, cells := 0, slots := 0, locals := 0 } : Room)) (As := [.int (nI k), .int ((f_X6_sumOf x2.2.2 x2.2.1) + (nI k)), .int (x2.2.2 + 1)]) (rest := []) (n := 3) hx hb hml hts hown hK w (c_X6_farOf l D cI cP cS cL L _ m (nI k) ((f_X6_sumOf x2.2.2 x2.2.1) + (nI k)) (x2.2.2 + 1) m_ss m_im m_re m_sa m_ke m_so m_si m_el m_kd m_kt m_hi m_th m_po m_ba m_en m_tl m_nu m_ca m_ha x2.2.2 m_co m_ss_f h_m h_m_ss) gX6_best_X6_farOf rfl rfl rfl (by decide +kernel) ⟨(Nat.le_of_ble_eq_true rfl), (Nat.le_of_ble_eq_true rfl)⟩ h_m rfl rfl hl.1 rfl (Nat.le_of_ble_eq_true rfl) dX6_best_51 ⟨(Nat.le_of_ble_eq_true rfl), (Nat.le_of_ble_eq_true rfl)⟩) w hA (fun H locs w => ?_)
          refine lv_istore (lv' := [(7, .int (f_X6_farOf (nI k) ((f_X6_sumOf x2.2.2 x2.2.1) + (nI k)) (x2.2.2 + 1) m_ss_f)), (0, .ref m), (1, .int d), (2, .int x2.1), (3, .int (f_X6_sumOf x2.2.2 x2.2.1)), (4, .int v4), (5, .int v5), (6, .int (nI k))]) hx hb dX6_best_54 hl (by decide) rfl (fun ls hl => ?_)
          refine lv_aload_n hx hb dX6_best_56 rfl (lv_at hl 1 rfl) ?_
          refine w_get (v := .ref m_ss) hx hb hts i_X6 hown hK w h_m rfl 0 (by decide) (hts _ m_0) rfl dX6_best_57 ?_
          refine lv_iconst (v := 3) hx hb dX6_best_60 (by decide) ?_
          refine w_ild (j := 3) hx hb hK w h_m_ss (vp_in_nI (n := 3) (N := 55) (by decide) (by decide)) rfl dX6_best_61 ?_
          refine lv_iconst (v := 1) hx hb dX6_best_62 (by decide) ?_
          refine lv_icmp_ne (tgt := 83) hx hb dX6_best_63 (by decide) (fun c3 => ?_) (fun c3 => ?_)
          · skip
            have hq := hq.trans (if_neg c3)
            refine lv_iload hx hb dX6_best_83 (lv_at hl 5 rfl) ?_
            refine lv_if_lt (tgt := 98) hx hb dX6_best_85 (by decide) (fun c4 => ?_) (fun c4 => ?_)
            · skip
              have hq := hq.trans (if_pos c4)
              refine lv_iload hx hb dX6_best_98 (lv_at hl 7 rfl) ?_
              refine lv_istore (lv' := [(4, .int (nI k)), (7, .int (f_X6_farOf (nI k) ((f_X6_sumOf x2.2.2 x2.2.1) + (nI k)) (x2.2.2 + 1) m_ss_f)), (0, .ref m), (1, .int d), (2, .int x2.1), (3, .int (f_X6_sumOf x2.2.2 x2.2.1)), (5, .int v5), (6, .int (nI k))]) hx hb dX6_best_100 hl (by decide) rfl (fun ls hl => ?_)
              refine lv_iload hx hb dX6_best_102 (lv_at hl 1 rfl) ?_
              refine w_finI (w_runS (rm := ({ frames := 0, cells := 0, slots := 0, locals := 0 } : Room)) (As := [.int (f_X6_farOf (nI k) ((f_X6_sumOf x2.2.2 x2.2.1) + (nI k)) (x2.2.2 + 1) m_ss_f)]) (rest := []) (n := 1) hx hb hml hts hown hK w (c_X6_amount l D cI cP cS cL L _ (f_X6_farOf (nI k) ((f_X6_sumOf x2.2.2 x2.2.1) + (nI k)) (x2.2.2 + 1) m_ss_f) ) gX6_best_X6_amount rfl rfl rfl (by decide +kernel) ⟨(Nat.le_of_ble_eq_true rfl), (Nat.le_of_ble_eq_true rfl)⟩ rfl hl.1 rfl (Nat.le_of_ble_eq_true rfl) dX6_best_104 ⟨(Nat.le_of_ble_eq_true rfl), (Nat.le_of_ble_eq_true rfl)⟩) w hA (fun H locs w => ?_)
              refine lv_istore (lv' := [(5, .int (f_X6_amount (f_X6_farOf (nI k) ((f_X6_sumOf x2.2.2 x2.2.1) + (nI k)) (x2.2.2 + 1) m_ss_f))), (4, .int (nI k)), (7, .int (f_X6_farOf (nI k) ((f_X6_sumOf x2.2.2 x2.2.1) + (nI k)) (x2.2.2 + 1) m_ss_f)), (0, .ref m), (1, .int d), (2, .int x2.1), (3, .int (f_X6_sumOf x2.2.2 x2.2.1)), (6, .int (nI k))]) hx hb dX6_best_107 hl (by decide) rfl (fun ls hl => ?_)
              refine lv_iinc (v := (nI (k + 1))) (lv' := [(6, .int (nI (k + 1))), (5, .int (f_X6_amount (f_X6_farOf (nI k) ((f_X6_sumOf x2.2.2 x2.2.1) + (nI k)) (x2.2.2 + 1) m_ss_f))), (4, .int (nI k)), (7, .int (f_X6_farOf (nI k) ((f_X6_sumOf x2.2.2 x2.2.1) + (nI k)) (x2.2.2 + 1) m_ss_f)), (0, .ref m), (1, .int d), (2, .int x2.1), (3, .int (f_X6_sumOf x2.2.2 x2.2.1))]) hx hb dX6_best_109 hl (k := 7) rfl (w_inc _) (by decide) rfl (fun ls hl => ?_)
              refine lv_goto (tgt := 27) hx hb dX6_best_112 (by decide) ?_
              exact ih ((k + 1)) (nI k) (f_X6_amount (f_X6_farOf (nI k) ((f_X6_sumOf x2.2.2 x2.2.1) + (nI k)) (x2.2.2 + 1) m_ss_f)) _ _ _ _ (by omega) (by omega) hq (lv_sub hl [4, 5, 6, 7, 2, 1, 0] rfl) w h_m h_m_ss h_m_ke h_m_so h_m_si h_m_el h_m_ha hk
            · skip
              have hq := hq.trans (if_neg c4)
              refine lv_iload hx hb dX6_best_88 (lv_at hl 0 rfl) ?_
              refine w_finI (w_runS (rm := ({ frames := 0, cells := 0, slots := 0, locals := 0 } : Room)) (As := [.int (f_X6_farOf (nI k) ((f_X6_sumOf x2.2.2 x2.2.1) + (nI k)) (x2.2.2 + 1) m_ss_f)]) (rest := []) (n := 1) hx hb hml hts hown hK w (c_X6_amount l D cI cP cS cL L _ (f_X6_farOf (nI k) ((f_X6_sumOf x2.2.2 x2.2.1) + (nI k)) (x2.2.2 + 1) m_ss_f) ) gX6_best_X6_amount rfl rfl rfl (by decide +kernel) ⟨(Nat.le_of_ble_eq_true rfl), (Nat.le_of_ble_eq_true rfl)⟩ rfl hl.1 rfl (Nat.le_of_ble_eq_true rfl) dX6_best_90 ⟨(Nat.le_of_ble_eq_true rfl), (Nat.le_of_ble_eq_true rfl)⟩) w hA (fun H locs w => ?_)
              refine lv_iload hx hb dX6_best_93 (lv_at hl 6 rfl) ?_
              refine lv_icmp_ge (tgt := 109) hx hb dX6_best_95 (by decide) (fun c5 => ?_) (fun c5 => ?_)
              · skip
                have hq := hq.trans (if_pos c5)
                refine lv_iinc (v := (nI (k + 1))) (lv' := [(6, .int (nI (k + 1))), (7, .int (f_X6_farOf (nI k) ((f_X6_sumOf x2.2.2 x2.2.1) + (nI k)) (x2.2.2 + 1) m_ss_f)), (0, .ref m), (1, .int d), (2, .int x2.1), (3, .int (f_X6_sumOf x2.2.2 x2.2.1)), (4, .int v4), (5, .int v5)]) hx hb dX6_best_109 hl (k := 7) rfl (w_inc _) (by decide) rfl (fun ls hl => ?_)
                refine lv_goto (tgt := 27) hx hb dX6_best_112 (by decide) ?_
                exact ih ((k + 1)) v4 v5 _ _ _ _ (by omega) (by omega) hq (lv_sub hl [2, 3, 4, 5, 6, 7, 0] rfl) w h_m h_m_ss h_m_ke h_m_so h_m_si h_m_el h_m_ha hk
              · skip
                have hq := hq.trans (if_neg c5)
                refine lv_iload hx hb dX6_best_98 (lv_at hl 7 rfl) ?_
                refine lv_istore (lv' := [(4, .int (nI k)), (7, .int (f_X6_farOf (nI k) ((f_X6_sumOf x2.2.2 x2.2.1) + (nI k)) (x2.2.2 + 1) m_ss_f)), (0, .ref m), (1, .int d), (2, .int x2.1), (3, .int (f_X6_sumOf x2.2.2 x2.2.1)), (5, .int v5), (6, .int (nI k))]) hx hb dX6_best_100 hl (by decide) rfl (fun ls hl => ?_)
                refine lv_iload hx hb dX6_best_102 (lv_at hl 1 rfl) ?_
                refine w_finI (w_runS (rm := ({ frames := 0, cells := 0, slots := 0, locals := 0 } : Room)) (As := [.int (f_X6_farOf (nI k) ((f_X6_sumOf x2.2.2 x2.2.1) + (nI k)) (x2.2.2 + 1) m_ss_f)]) (rest := []) (n := 1) hx hb hml hts hown hK w (c_X6_amount l D cI cP cS cL L _ (f_X6_farOf (nI k) ((f_X6_sumOf x2.2.2 x2.2.1) + (nI k)) (x2.2.2 + 1) m_ss_f) ) gX6_best_X6_amount rfl rfl rfl (by decide +kernel) ⟨(Nat.le_of_ble_eq_true rfl), (Nat.le_of_ble_eq_true rfl)⟩ rfl hl.1 rfl (Nat.le_of_ble_eq_true rfl) dX6_best_104 ⟨(Nat.le_of_ble_eq_true rfl), (Nat.le_of_ble_eq_true rfl)⟩) w hA (fun H locs w => ?_)
                refine lv_istore (lv' := [(5, .int (f_X6_amount (f_X6_farOf (nI k) ((f_X6_sumOf x2.2.2 x2.2.1) + (nI k)) (x2.2.2 + 1) m_ss_f))), (4, .int (nI k)), (7, .int (f_X6_farOf (nI k) ((f_X6_sumOf x2.2.2 x2.2.1) + (nI k)) (x2.2.2 + 1) m_ss_f)), (0, .ref m), (1, .int d), (2, .int x2.1), (3, .int (f_X6_sumOf x2.2.2 x2.2.1)), (6, .int (nI k))]) hx hb dX6_best_107 hl (by decide) rfl (fun ls hl => ?_)
                refine lv_iinc (v := (nI (k + 1))) (lv' := [(6, .int (nI (k + 1))), (5, .int (f_X6_amount (f_X6_farOf (nI k) ((f_X6_sumOf x2.2.2 x2.2.1) + (nI k)) (x2.2.2 + 1) m_ss_f))), (4, .int (nI k)), (7, .int (f_X6_farOf (nI k) ((f_X6_sumOf x2.2.2 x2.2.1) + (nI k)) (x2.2.2 + 1) m_ss_f)), (0, .ref m), (1, .int d), (2, .int x2.1), (3, .int (f_X6_sumOf x2.2.2 x2.2.1))]) hx hb dX6_best_109 hl (k := 7) rfl (w_inc _) (by decide) rfl (fun ls hl => ?_)
                refine lv_goto (tgt := 27) hx hb dX6_best_112 (by decide) ?_
                exact ih ((k + 1)) (nI k) (f_X6_amount (f_X6_farOf (nI k) ((f_X6_sumOf x2.2.2 x2.2.1) + (nI k)) (x2.2.2 + 1) m_ss_f)) _ _ _ _ (by omega) (by omega) hq (lv_sub hl [4, 5, 6, 7, 2, 1, 0] rfl) w h_m h_m_ss h_m_ke h_m_so h_m_si h_m_el h_m_ha hk
          · skip
            have hq := hq.trans (if_pos c3)
            refine lv_iload hx hb dX6_best_66 (lv_at hl 0 rfl) ?_
            refine lv_if_gt (tgt := 76) hx hb dX6_best_68 (by decide) (fun c6 => ?_) (fun c6 => ?_)
            · skip
              have hq := hq.trans (if_pos c6)
              refine lv_iload hx hb dX6_best_76 (lv_at hl 5 rfl) ?_
              refine lv_istore (lv' := [(4, .int v4), (7, .int (f_X6_farOf (nI k) ((f_X6_sumOf x2.2.2 x2.2.1) + (nI k)) (x2.2.2 + 1) m_ss_f)), (0, .ref m), (1, .int d), (2, .int x2.1), (3, .int (f_X6_sumOf x2.2.2 x2.2.1)), (5, .int v5), (6, .int (nI k))]) hx hb dX6_best_78 hl (by decide) rfl (fun ls hl => ?_)
              refine lv_goto (tgt := 109) hx hb dX6_best_80 (by decide) ?_
              refine lv_iinc (v := (nI (k + 1))) (lv' := [(6, .int (nI (k + 1))), (4, .int v4), (7, .int (f_X6_farOf (nI k) ((f_X6_sumOf x2.2.2 x2.2.1) + (nI k)) (x2.2.2 + 1) m_ss_f)), (0, .ref m), (1, .int d), (2, .int x2.1), (3, .int (f_X6_sumOf x2.2.2 x2.2.1)), (5, .int v5)]) hx hb dX6_best_109 hl (k := 7) rfl (w_inc _) (by decide) rfl (fun ls hl => ?_)
              refine lv_goto (tgt := 27) hx hb dX6_best_112 (by decide) ?_
              exact ih ((k + 1)) v4 v5 _ _ _ _ (by omega) (by omega) hq (lv_sub hl [3, 4, 5, 6, 1, 7, 0] rfl) w h_m h_m_ss h_m_ke h_m_so h_m_si h_m_el h_m_ha hk
            · skip
              have hq := hq.trans (if_neg c6)
              refine lv_iload hx hb dX6_best_71 (lv_at hl 7 rfl) ?_
              refine lv_goto (tgt := 78) hx hb dX6_best_73 (by decide) ?_
              refine lv_istore (lv' := [(4, .int (nI k)), (7, .int (f_X6_farOf (nI k) ((f_X6_sumOf x2.2.2 x2.2.1) + (nI k)) (x2.2.2 + 1) m_ss_f)), (0, .ref m), (1, .int d), (2, .int x2.1), (3, .int (f_X6_sumOf x2.2.2 x2.2.1)), (5, .int v5), (6, .int (nI k))]) hx hb dX6_best_78 hl (by decide) rfl (fun ls hl => ?_)
              refine lv_goto (tgt := 109) hx hb dX6_best_80 (by decide) ?_
              refine lv_iinc (v := (nI (k + 1))) (lv' := [(6, .int (nI (k + 1))), (4, .int (nI k)), (7, .int (f_X6_farOf (nI k) ((f_X6_sumOf x2.2.2 x2.2.1) + (nI k)) (x2.2.2 + 1) m_ss_f)), (0, .ref m), (1, .int d), (2, .int x2.1), (3, .int (f_X6_sumOf x2.2.2 x2.2.1)), (5, .int v5)]) hx hb dX6_best_109 hl (k := 7) rfl (w_inc _) (by decide) rfl (fun ls hl => ?_)
              refine lv_goto (tgt := 27) hx hb dX6_best_112 (by decide) ?_
              exact ih ((k + 1)) (nI k) v5 _ _ _ _ (by omega) (by omega) hq (lv_sub hl [3, 4, 5, 6, 1, 7, 0] rfl) w h_m h_m_ss h_m_ke h_m_so h_m_si h_m_el h_m_ha hk
    exact hL27 ((m_ss_f 2).toNatClampNeg + 1 + 1) 0 (-4) 0 _ _ _ _ (Nat.zero_le _) (by omega) hq (lv_sub hl [5, 6, 4, 3, 2, 1, 0] rfl) w h_m h_m_ss h_m_ke h_m_so h_m_si h_m_el h_m_ha hk
  · skip
    have hq := hq.trans (if_neg c1)
    refine lv_iload_n hx hb dX6_best_10 rfl (lv_at hl 0 rfl) ?_
    exact w_iret hx hb hr hlocks w ⟨rfl, _, hq.symm, rfl, h_m.2, h_m_ha.2, hk⟩ (Nat.le_refl _) (Nat.le_refl _) dX6_best_11
def f_X6_levelOf (k0 : Int32) (m_ss_f : Nat → Int32) : Int32 := (f_X6_levelBy k0 (m_ss_f 0) (m_ss_f 1) m_ss_f)
set_option maxHeartbeats 400000 in
set_option maxRecDepth 100000 in
theorem c_X6_levelOf (l : Launch) (D : va_G) (cI cP cS cL : ClassId) (L : List Nat) (F : Nat → va_E) (m : Nat) (k0 : Int32) (m_ss : Nat) (m_im : Nat) (m_re : Nat) (m_sa : Nat) (m_ke : Nat) (m_so : Nat) (m_si : Nat) (m_el : Nat) (m_kd : Nat) (m_kt : Nat) (m_hi : Int32) (m_th : Int32) (m_po : Int32) (m_ba : Int32) (m_en : Int32) (m_tl : Int32) (m_nu : Nat) (m_ca : Nat) (m_ha : Nat) (m_hs : Int32) (m_co : Nat) (m_ss_f : Nat → Int32) (h_m : wi L F m (eM m_ss m_im m_re m_sa m_ke m_so m_si m_el m_kd m_kt m_hi m_th m_po m_ba m_en m_tl m_nu m_ca m_ha m_hs m_co)) (h_m_ss : wi L F m_ss (eI cI 55 m_ss_f)) (hd1 : ¬ (m_ss_f 1) = 0) : wMI l D cI cP cS cL yX6_levelOf wsX6_levelOf ({ frames := 3, cells := 0, slots := 0, locals := 69 } : Room) [.ref m, .int k0] L F (f_X6_levelOf k0 m_ss_f) F := by
  refine wM.of (cc := cX6_levelOf) (maxL := 2) (ret := (some .int)) (by decide) rfl (Nat.le_of_ble_eq_true rfl) ?_
  intro pZ eZ sZ mZ below meth cZ A ls C hl w
  obtain ⟨hx, hb, hr, hml, hts, hown, hlocks, hK, hA, hin⟩ := C
  have hown : sZ.vm.findClass RX6 = some mZ.cls := hown
  have hl : lv_has ls 2 [(0, .ref m), (1, .int k0)] := hl
  have m_0 : ((.fieldLink RX6 9 "TwoThirdsModel" "s" "[I") : Cond) ∈ wsX6_levelOf := by decide +kernel
  have i_X6 : ∀ w ∈ wsX60, w ∈ wsX6_levelOf := by decide +kernel
  have hq : f_X6_levelOf k0 m_ss_f = f_X6_levelOf k0 m_ss_f := rfl
  refine lv_aload_n hx hb dX6_levelOf_0 rfl (lv_at hl 0 rfl) ?_
  refine lv_iload_n hx hb dX6_levelOf_1 rfl (lv_at hl 1 rfl) ?_
  refine lv_aload_n hx hb dX6_levelOf_2 rfl (lv_at hl 0 rfl) ?_
  refine w_get (v := .ref m_ss) hx hb hts i_X6 hown hK w h_m rfl 0 (by decide) (hts _ m_0) rfl dX6_levelOf_3 ?_
  refine lv_iconst (v := 0) hx hb dX6_levelOf_6 (by decide) ?_
  refine w_ild (j := 0) hx hb hK w h_m_ss (vp_in_nI (n := 0) (N := 55) (by decide) (by decide)) rfl dX6_levelOf_7 ?_
  refine lv_aload_n hx hb dX6_levelOf_8 rfl (lv_at hl 0 rfl) ?_
  refine w_get (v := .ref m_ss) hx hb hts i_X6 hown hK w h_m rfl 0 (by decide) (hts _ m_0) rfl dX6_levelOf_9 ?_
  refine lv_iconst (v := 1) hx hb dX6_levelOf_12 (by decide) ?_
  refine w_ild (j := 1) hx hb hK w h_m_ss (vp_in_nI (n := 1) (N := 55) (by decide) (by decide)) rfl dX6_levelOf_13 ?_
  refine w_finI (w_runV (rm := ({ frames := 2, cells := 0, slots := 0, locals := 44 } : Room)) (As := [.int k0, .int (m_ss_f 0), .int (m_ss_f 1)]) (rest := []) (n := 3) hx hb hml hts hown hK w (c_X6_levelBy l D cI cP cS cL L _ m k0 (m_ss_f 0) (m_ss_f 1) m_ss m_im m_re m_sa m_ke m_so m_si m_el m_kd m_kt m_hi m_th m_po m_ba m_en m_tl m_nu m_ca m_ha m_hs m_co m_ss_f h_m h_m_ss hd1) gX6_levelOf_X6_levelBy rfl rfl rfl (by decide +kernel) ⟨(Nat.le_of_ble_eq_true rfl), (Nat.le_of_ble_eq_true rfl)⟩ h_m rfl rfl hl.1 rfl (Nat.le_of_ble_eq_true rfl) dX6_levelOf_14 ⟨(Nat.le_of_ble_eq_true rfl), (Nat.le_of_ble_eq_true rfl)⟩) w hA (fun H locs w => ?_)
  exact w_iret hx hb hr hlocks w ⟨hq.symm, rfl, rfl⟩ (Nat.le_refl _) (Nat.le_refl _) dX6_levelOf_17
def f_X6_level (k0 : Int32) (m_ss_f : Nat → Int32) : Int32 := if (f_X6_isIn (k0.toInt64) 0 9) = (0 : Int32) then (-1) else (f_X6_levelOf k0 m_ss_f)
set_option maxHeartbeats 400000 in
set_option maxRecDepth 100000 in
theorem c_X6_level (l : Launch) (D : va_G) (cI cP cS cL : ClassId) (L : List Nat) (F : Nat → va_E) (m : Nat) (k0 : Int32) (m_ss : Nat) (m_im : Nat) (m_re : Nat) (m_sa : Nat) (m_ke : Nat) (m_so : Nat) (m_si : Nat) (m_el : Nat) (m_kd : Nat) (m_kt : Nat) (m_hi : Int32) (m_th : Int32) (m_po : Int32) (m_ba : Int32) (m_en : Int32) (m_tl : Int32) (m_nu : Nat) (m_ca : Nat) (m_ha : Nat) (m_hs : Int32) (m_co : Nat) (m_ss_f : Nat → Int32) (h_m : wi L F m (eM m_ss m_im m_re m_sa m_ke m_so m_si m_el m_kd m_kt m_hi m_th m_po m_ba m_en m_tl m_nu m_ca m_ha m_hs m_co)) (h_m_ss : wi L F m_ss (eI cI 55 m_ss_f)) (hd1 : ¬ (m_ss_f 1) = 0) : wMI l D cI cP cS cL yX6_level wsX6_level ({ frames := 4, cells := 0, slots := 0, locals := 90 } : Room) [.ref m, .int k0] L F (f_X6_level k0 m_ss_f) F := by
  refine wM.of (cc := cX6_level) (maxL := 2) (ret := (some .int)) (by decide) rfl (Nat.le_of_ble_eq_true rfl) ?_
  intro pZ eZ sZ mZ below meth cZ A ls C hl w
  obtain ⟨hx, hb, hr, hml, hts, hown, hlocks, hK, hA, hin⟩ := C
  have hown : sZ.vm.findClass RX6 = some mZ.cls := hown
  have hl : lv_has ls 2 [(0, .ref m), (1, .int k0)] := hl
  have m_0 : ((.constantLong RX6 131 9) : Cond) ∈ wsX6_level := by decide +kernel
  have hq : f_X6_level k0 m_ss_f = f_X6_level k0 m_ss_f := rfl
  refine lv_iload_n hx hb dX6_level_0 rfl (lv_at hl 1 rfl) ?_
  refine lv_i2l (v := (k0.toInt64)) hx hb dX6_level_1 rfl ?_
  refine lv_lconst (v := 0) hx hb dX6_level_2 (by decide) ?_
  refine lv_ldc2 (v := 9) hx hb hown (hts _ m_0) dX6_level_3 ?_
  refine w_finI (w_runS (rm := ({ frames := 0, cells := 0, slots := 0, locals := 0 } : Room)) (As := [.long (k0.toInt64), .long 0, .long 9]) (rest := []) (n := 3) hx hb hml hts hown hK w (c_X6_isIn l D cI cP cS cL L _ (k0.toInt64) 0 9 ) gX6_level_X6_isIn rfl rfl rfl (by decide +kernel) ⟨(Nat.le_of_ble_eq_true rfl), (Nat.le_of_ble_eq_true rfl)⟩ rfl hl.1 rfl (Nat.le_of_ble_eq_true rfl) dX6_level_6 ⟨(Nat.le_of_ble_eq_true rfl), (Nat.le_of_ble_eq_true rfl)⟩) w hA (fun H locs w => ?_)
  refine lv_if_eq (tgt := 20) hx hb dX6_level_9 (by decide) (fun c1 => ?_) (fun c1 => ?_)
  · skip
    have hq := hq.trans (if_pos c1)
    refine lv_iconst (v := (-1)) hx hb dX6_level_20 (by decide) ?_
    exact w_iret hx hb hr hlocks w ⟨hq.symm, rfl, rfl⟩ (Nat.le_refl _) (Nat.le_refl _) dX6_level_21
  · skip
    have hq := hq.trans (if_neg c1)
    refine lv_aload_n hx hb dX6_level_12 rfl (lv_at hl 0 rfl) ?_
    refine lv_iload_n hx hb dX6_level_13 rfl (lv_at hl 1 rfl) ?_
    refine w_finI (w_runV (rm := ({ frames := 3, cells := 0, slots := 0, locals := 69 } : Room)) (As := [.int k0]) (rest := []) (n := 1) hx hb hml hts hown hK w (c_X6_levelOf l D cI cP cS cL L _ m k0 m_ss m_im m_re m_sa m_ke m_so m_si m_el m_kd m_kt m_hi m_th m_po m_ba m_en m_tl m_nu m_ca m_ha m_hs m_co m_ss_f h_m h_m_ss hd1) gX6_level_X6_levelOf rfl rfl rfl (by decide +kernel) ⟨(Nat.le_of_ble_eq_true rfl), (Nat.le_of_ble_eq_true rfl)⟩ h_m rfl rfl hl.1 rfl (Nat.le_of_ble_eq_true rfl) dX6_level_14 ⟨(Nat.le_of_ble_eq_true rfl), (Nat.le_of_ble_eq_true rfl)⟩) w hA (fun H locs w => ?_)
    refine lv_goto (tgt := 21) hx hb dX6_level_17 (by decide) ?_
    exact w_iret hx hb hr hlocks w ⟨hq.symm, rfl, rfl⟩ (Nat.le_refl _) (Nat.le_refl _) dX6_level_21
def f_X6_stepsFor_L4 (card : Int32) (m_ss_f : Nat → Int32) : Nat → Nat → Int32 → Int32
  | 0, _, _ => 0
  | n + 1, k, v2 => if (10 : Int32) ≤ (nI k) then v2 else (if (f_X6_amount ((f_X6_levelOf v2 m_ss_f) - card)) ≤ (f_X6_amount ((f_X6_levelOf (nI k) m_ss_f) - card)) then (f_X6_stepsFor_L4 card m_ss_f n ((k + 1)) v2) else (f_X6_stepsFor_L4 card m_ss_f n ((k + 1)) (nI k)))
theorem f_X6_stepsFor_L4_s (card : Int32) (m_ss_f : Nat → Int32) (n k : Nat) (v2 : Int32) : f_X6_stepsFor_L4 card m_ss_f (n + 1) k v2 = (if (10 : Int32) ≤ (nI k) then v2 else (if (f_X6_amount ((f_X6_levelOf v2 m_ss_f) - card)) ≤ (f_X6_amount ((f_X6_levelOf (nI k) m_ss_f) - card)) then (f_X6_stepsFor_L4 card m_ss_f n ((k + 1)) v2) else (f_X6_stepsFor_L4 card m_ss_f n ((k + 1)) (nI k)))) := rfl
def f_X6_stepsFor (card : Int32) (m_ss_f : Nat → Int32) : Int32 := f_X6_stepsFor_L4 card m_ss_f (10 + 1) 1 0
set_option maxHeartbeats 400000 in
set_option maxRecDepth 100000 in
theorem c_X6_stepsFor (l : Launch) (D : va_G) (cI cP cS cL : ClassId) (L : List Nat) (F : Nat → va_E) (m : Nat) (card : Int32) (m_ss : Nat) (m_im : Nat) (m_re : Nat) (m_sa : Nat) (m_ke : Nat) (m_so : Nat) (m_si : Nat) (m_el : Nat) (m_kd : Nat) (m_kt : Nat) (m_hi : Int32) (m_th : Int32) (m_po : Int32) (m_ba : Int32) (m_en : Int32) (m_tl : Int32) (m_nu : Nat) (m_ca : Nat) (m_ha : Nat) (m_hs : Int32) (m_co : Nat) (m_ss_f : Nat → Int32) (h_m : wi L F m (eM m_ss m_im m_re m_sa m_ke m_so m_si m_el m_kd m_kt m_hi m_th m_po m_ba m_en m_tl m_nu m_ca m_ha m_hs m_co)) (h_m_ss : wi L F m_ss (eI cI 55 m_ss_f)) (hd1 : ¬ (m_ss_f 1) = 0) : wMI l D cI cP cS cL yX6_stepsFor wsX6_stepsFor ({ frames := 4, cells := 0, slots := 0, locals := 90 } : Room) [.ref m, .int card] L F (f_X6_stepsFor card m_ss_f) F := by
  refine wM.of (cc := cX6_stepsFor) (maxL := 4) (ret := (some .int)) (by decide) rfl (Nat.le_of_ble_eq_true rfl) ?_
  intro pZ eZ sZ mZ below meth cZ A ls C hl w
  obtain ⟨hx, hb, hr, hml, hts, hown, hlocks, hK, hA, hin⟩ := C
  have hown : sZ.vm.findClass RX6 = some mZ.cls := hown
  have hl : lv_has ls 4 [(0, .ref m), (1, .int card)] := hl
  have hq : f_X6_stepsFor card m_ss_f = f_X6_stepsFor card m_ss_f := rfl
  refine lv_iconst (v := 0) hx hb dX6_stepsFor_0 (by decide) ?_
  refine lv_istore_n (lv' := [(2, .int 0), (0, .ref m), (1, .int card)]) hx hb dX6_stepsFor_1 rfl hl (by decide) rfl (fun ls hl => ?_)
  refine lv_iconst (v := 1) hx hb dX6_stepsFor_2 (by decide) ?_
  refine lv_istore_n (lv' := [(3, .int 1), (2, .int 0), (0, .ref m), (1, .int card)]) hx hb dX6_stepsFor_3 rfl hl (by decide) rfl (fun ls hl => ?_)
  have hL4 : ∀ (n k : Nat) (v2 : Int32) (H : Heap) (locs : List Loc) (ls : Array Slot), k ≤ 10 → 10 - k < n → f_X6_stepsFor card m_ss_f = f_X6_stepsFor_L4 card m_ss_f n k v2 → lv_has ls 4 [(0, .ref m), (1, .int card), (2, .int v2), (3, .int (nI k))] → ww D A sZ.heap L F H locs → W pZ l eZ ({ frames := 4, cells := 0, slots := 0, locals := 90 } : Room) sZ mZ [.ref m, .int card].toArray below meth cZ H locs 0 0 (MQ below (wQi D A (fun r1 L1 F1 => r1 = (f_X6_stepsFor card m_ss_f) ∧ L1 = L ∧ F1 = F)) [.ref m, .int card].toArray sZ 0 0 A) (F0 mZ 4 ls []) := by
    intro n; induction n with
    | zero => intro k v2 H locs ls hkT hmeas; exact absurd hmeas (Nat.not_lt_zero _)
    | succ n ih =>
      intro k v2 H locs ls hkT hmeas hq hl w
      have hk31 : k < 2147483648 := by omega
      have hq := hq.trans (f_X6_stepsFor_L4_s card m_ss_f n k v2)
      refine lv_iload_n hx hb dX6_stepsFor_4 rfl (lv_at hl 3 rfl) ?_
      refine lv_bipush (v := 10) hx hb dX6_stepsFor_5 (by decide) ?_
      refine lv_icmp_ge (tgt := 45) hx hb dX6_stepsFor_7 (by decide) (fun c1 => ?_) (fun c1 => ?_)
      · skip
        have hq := hq.trans (if_pos c1)
        refine lv_iload_n hx hb dX6_stepsFor_45 rfl (lv_at hl 2 rfl) ?_
        exact w_iret hx hb hr hlocks w ⟨hq.symm, rfl, rfl⟩ (Nat.le_refl _) (Nat.le_refl _) dX6_stepsFor_46
      · skip
        have hq := hq.trans (if_neg c1)
        have hlt7 : k < 10 := w_ltk hk31 c1
        refine lv_aload_n hx hb dX6_stepsFor_10 rfl (lv_at hl 0 rfl) ?_
        refine lv_iload_n hx hb dX6_stepsFor_11 rfl (lv_at hl 3 rfl) ?_
        refine w_finI (w_runV (rm := ({ frames := 3, cells := 0, slots := 0, locals := 69 } : Room)) (As := [.int (nI k)]) (rest := []) (n := 1) hx hb hml hts hown hK w (c_X6_levelOf l D cI cP cS cL L _ m (nI k) m_ss m_im m_re m_sa m_ke m_so m_si m_el m_kd m_kt m_hi m_th m_po m_ba m_en m_tl m_nu m_ca m_ha m_hs m_co m_ss_f h_m h_m_ss hd1) gX6_stepsFor_X6_levelOf rfl rfl rfl (by decide +kernel) ⟨(Nat.le_of_ble_eq_true rfl), (Nat.le_of_ble_eq_true rfl)⟩ h_m rfl rfl hl.1 rfl (Nat.le_of_ble_eq_true rfl) dX6_stepsFor_12 ⟨(Nat.le_of_ble_eq_true rfl), (Nat.le_of_ble_eq_true rfl)⟩) w hA (fun H locs w => ?_)
        refine lv_iload_n hx hb dX6_stepsFor_15 rfl (lv_at hl 1 rfl) ?_
        refine lv_isub hx hb dX6_stepsFor_16 ?_
        refine w_finI (w_runS (rm := ({ frames := 0, cells := 0, slots := 0, locals := 0 } : Room)) (As := [.int ((f_X6_levelOf (nI k) m_ss_f) - card)]) (rest := []) (n := 1) hx hb hml hts hown hK w (c_X6_amount l D cI cP cS cL L _ ((f_X6_levelOf (nI k) m_ss_f) - card) ) gX6_stepsFor_X6_amount rfl rfl rfl (by decide +kernel) ⟨(Nat.le_of_ble_eq_true rfl), (Nat.le_of_ble_eq_true rfl)⟩ rfl hl.1 rfl (Nat.le_of_ble_eq_true rfl) dX6_stepsFor_17 ⟨(Nat.le_of_ble_eq_true rfl), (Nat.le_of_ble_eq_true rfl)⟩) w hA (fun H locs w => ?_)
        refine lv_aload_n hx hb dX6_stepsFor_20 rfl (lv_at hl 0 rfl) ?_
        refine lv_iload_n hx hb dX6_stepsFor_21 rfl (lv_at hl 2 rfl) ?_
        refine w_finI (w_runV (rm := ({ frames := 3, cells := 0, slots := 0, locals := 69 } : Room)) (As := [.int v2]) (rest := [.int (f_X6_amount ((f_X6_levelOf (nI k) m_ss_f) - card))]) (n := 1) hx hb hml hts hown hK w (c_X6_levelOf l D cI cP cS cL L _ m v2 m_ss m_im m_re m_sa m_ke m_so m_si m_el m_kd m_kt m_hi m_th m_po m_ba m_en m_tl m_nu m_ca m_ha m_hs m_co m_ss_f h_m h_m_ss hd1) gX6_stepsFor_X6_levelOf rfl rfl rfl (by decide +kernel) ⟨(Nat.le_of_ble_eq_true rfl), (Nat.le_of_ble_eq_true rfl)⟩ h_m rfl rfl hl.1 rfl (Nat.le_of_ble_eq_true rfl) dX6_stepsFor_22 ⟨(Nat.le_of_ble_eq_true rfl), (Nat.le_of_ble_eq_true rfl)⟩) w hA (fun H locs w => ?_)
        refine lv_iload_n hx hb dX6_stepsFor_25 rfl (lv_at hl 1 rfl) ?_
        refine lv_isub hx hb dX6_stepsFor_26 ?_
        refine w_finI (w_runS (rm := ({ frames := 0, cells := 0, slots := 0, locals := 0 } : Room)) (As := [.int ((f_X6_levelOf v2 m_ss_f) - card)]) (rest := [.int (f_X6_amount ((f_X6_levelOf (nI k) m_ss_f) - card))]) (n := 1) hx hb hml hts hown hK w (c_X6_amount l D cI cP cS cL L _ ((f_X6_levelOf v2 m_ss_f) - card) ) gX6_stepsFor_X6_amount rfl rfl rfl (by decide +kernel) ⟨(Nat.le_of_ble_eq_true rfl), (Nat.le_of_ble_eq_true rfl)⟩ rfl hl.1 rfl (Nat.le_of_ble_eq_true rfl) dX6_stepsFor_27 ⟨(Nat.le_of_ble_eq_true rfl), (Nat.le_of_ble_eq_true rfl)⟩) w hA (fun H locs w => ?_)
        refine lv_icmp_ge (tgt := 37) hx hb dX6_stepsFor_30 (by decide) (fun c2 => ?_) (fun c2 => ?_)
        · skip
          have hq := hq.trans (if_pos c2)
          refine lv_iload_n hx hb dX6_stepsFor_37 rfl (lv_at hl 2 rfl) ?_
          refine lv_istore_n (lv' := [(2, .int v2), (0, .ref m), (1, .int card), (3, .int (nI k))]) hx hb dX6_stepsFor_38 rfl hl (by decide) rfl (fun ls hl => ?_)
          refine lv_iinc (v := (nI (k + 1))) (lv' := [(3, .int (nI (k + 1))), (2, .int v2), (0, .ref m), (1, .int card)]) hx hb dX6_stepsFor_39 hl (k := 3) rfl (w_inc _) (by decide) rfl (fun ls hl => ?_)
          refine lv_goto (tgt := 4) hx hb dX6_stepsFor_42 (by decide) ?_
          exact ih ((k + 1)) v2 _ _ _ (by omega) (by omega) hq (lv_sub hl [2, 3, 1, 0] rfl) w
        · skip
          have hq := hq.trans (if_neg c2)
          refine lv_iload_n hx hb dX6_stepsFor_33 rfl (lv_at hl 3 rfl) ?_
          refine lv_goto (tgt := 38) hx hb dX6_stepsFor_34 (by decide) ?_
          refine lv_istore_n (lv' := [(2, .int (nI k)), (0, .ref m), (1, .int card), (3, .int (nI k))]) hx hb dX6_stepsFor_38 rfl hl (by decide) rfl (fun ls hl => ?_)
          refine lv_iinc (v := (nI (k + 1))) (lv' := [(3, .int (nI (k + 1))), (2, .int (nI k)), (0, .ref m), (1, .int card)]) hx hb dX6_stepsFor_39 hl (k := 3) rfl (w_inc _) (by decide) rfl (fun ls hl => ?_)
          refine lv_goto (tgt := 4) hx hb dX6_stepsFor_42 (by decide) ?_
          exact ih ((k + 1)) (nI k) _ _ _ (by omega) (by omega) hq (lv_sub hl [2, 3, 1, 0] rfl) w
  exact hL4 (10 + 1) 1 0 _ _ _ (by omega) (by omega) hq (lv_sub hl [2, 3, 1, 0] rfl) w
def f_X6_stepsOf (card : Int32) (m_ss_f : Nat → Int32) : Int32 := if (f_X6_isIn (card.toInt64) 0 ((m_ss_f 2).toInt64)) = (0 : Int32) then (-1) else (f_X6_stepsFor card m_ss_f)
set_option maxHeartbeats 400000 in
set_option maxRecDepth 100000 in
theorem c_X6_stepsOf (l : Launch) (D : va_G) (cI cP cS cL : ClassId) (L : List Nat) (F : Nat → va_E) (m : Nat) (card : Int32) (m_ss : Nat) (m_im : Nat) (m_re : Nat) (m_sa : Nat) (m_ke : Nat) (m_so : Nat) (m_si : Nat) (m_el : Nat) (m_kd : Nat) (m_kt : Nat) (m_hi : Int32) (m_th : Int32) (m_po : Int32) (m_ba : Int32) (m_en : Int32) (m_tl : Int32) (m_nu : Nat) (m_ca : Nat) (m_ha : Nat) (m_hs : Int32) (m_co : Nat) (m_ss_f : Nat → Int32) (h_m : wi L F m (eM m_ss m_im m_re m_sa m_ke m_so m_si m_el m_kd m_kt m_hi m_th m_po m_ba m_en m_tl m_nu m_ca m_ha m_hs m_co)) (h_m_ss : wi L F m_ss (eI cI 55 m_ss_f)) (hd1 : ¬ (m_ss_f 1) = 0) : wMI l D cI cP cS cL yX6_stepsOf wsX6_stepsOf ({ frames := 5, cells := 0, slots := 0, locals := 113 } : Room) [.ref m, .int card] L F (f_X6_stepsOf card m_ss_f) F := by
  refine wM.of (cc := cX6_stepsOf) (maxL := 2) (ret := (some .int)) (by decide) rfl (Nat.le_of_ble_eq_true rfl) ?_
  intro pZ eZ sZ mZ below meth cZ A ls C hl w
  obtain ⟨hx, hb, hr, hml, hts, hown, hlocks, hK, hA, hin⟩ := C
  have hown : sZ.vm.findClass RX6 = some mZ.cls := hown
  have hl : lv_has ls 2 [(0, .ref m), (1, .int card)] := hl
  have m_0 : ((.fieldLink RX6 9 "TwoThirdsModel" "s" "[I") : Cond) ∈ wsX6_stepsOf := by decide +kernel
  have i_X6 : ∀ w ∈ wsX60, w ∈ wsX6_stepsOf := by decide +kernel
  have hq : f_X6_stepsOf card m_ss_f = f_X6_stepsOf card m_ss_f := rfl
  refine lv_iload_n hx hb dX6_stepsOf_0 rfl (lv_at hl 1 rfl) ?_
  refine lv_i2l (v := (card.toInt64)) hx hb dX6_stepsOf_1 rfl ?_
  refine lv_lconst (v := 0) hx hb dX6_stepsOf_2 (by decide) ?_
  refine lv_aload_n hx hb dX6_stepsOf_3 rfl (lv_at hl 0 rfl) ?_
  refine w_get (v := .ref m_ss) hx hb hts i_X6 hown hK w h_m rfl 0 (by decide) (hts _ m_0) rfl dX6_stepsOf_4 ?_
  refine lv_iconst (v := 2) hx hb dX6_stepsOf_7 (by decide) ?_
  refine w_ild (j := 2) hx hb hK w h_m_ss (vp_in_nI (n := 2) (N := 55) (by decide) (by decide)) rfl dX6_stepsOf_8 ?_
  refine lv_i2l (v := ((m_ss_f 2).toInt64)) hx hb dX6_stepsOf_9 rfl ?_
  refine w_finI (w_runS (rm := ({ frames := 0, cells := 0, slots := 0, locals := 0 } : Room)) (As := [.long (card.toInt64), .long 0, .long ((m_ss_f 2).toInt64)]) (rest := []) (n := 3) hx hb hml hts hown hK w (c_X6_isIn l D cI cP cS cL L _ (card.toInt64) 0 ((m_ss_f 2).toInt64) ) gX6_stepsOf_X6_isIn rfl rfl rfl (by decide +kernel) ⟨(Nat.le_of_ble_eq_true rfl), (Nat.le_of_ble_eq_true rfl)⟩ rfl hl.1 rfl (Nat.le_of_ble_eq_true rfl) dX6_stepsOf_10 ⟨(Nat.le_of_ble_eq_true rfl), (Nat.le_of_ble_eq_true rfl)⟩) w hA (fun H locs w => ?_)
  refine lv_if_eq (tgt := 24) hx hb dX6_stepsOf_13 (by decide) (fun c1 => ?_) (fun c1 => ?_)
  · skip
    have hq := hq.trans (if_pos c1)
    refine lv_iconst (v := (-1)) hx hb dX6_stepsOf_24 (by decide) ?_
    exact w_iret hx hb hr hlocks w ⟨hq.symm, rfl, rfl⟩ (Nat.le_refl _) (Nat.le_refl _) dX6_stepsOf_25
  · skip
    have hq := hq.trans (if_neg c1)
    refine lv_aload_n hx hb dX6_stepsOf_16 rfl (lv_at hl 0 rfl) ?_
    refine lv_iload_n hx hb dX6_stepsOf_17 rfl (lv_at hl 1 rfl) ?_
    refine w_finI (w_runV (rm := ({ frames := 4, cells := 0, slots := 0, locals := 90 } : Room)) (As := [.int card]) (rest := []) (n := 1) hx hb hml hts hown hK w (c_X6_stepsFor l D cI cP cS cL L _ m card m_ss m_im m_re m_sa m_ke m_so m_si m_el m_kd m_kt m_hi m_th m_po m_ba m_en m_tl m_nu m_ca m_ha m_hs m_co m_ss_f h_m h_m_ss hd1) gX6_stepsOf_X6_stepsFor rfl rfl rfl (by decide +kernel) ⟨(Nat.le_of_ble_eq_true rfl), (Nat.le_of_ble_eq_true rfl)⟩ h_m rfl rfl hl.1 rfl (Nat.le_of_ble_eq_true rfl) dX6_stepsOf_18 ⟨(Nat.le_of_ble_eq_true rfl), (Nat.le_of_ble_eq_true rfl)⟩) w hA (fun H locs w => ?_)
    refine lv_goto (tgt := 25) hx hb dX6_stepsOf_21 (by decide) ?_
    exact w_iret hx hb hr hlocks w ⟨hq.symm, rfl, rfl⟩ (Nat.le_refl _) (Nat.le_refl _) dX6_stepsOf_25
def f_X6_sharesOf_L4 (k0 : Int32) (m_hs : Int32) (m_ss_f : Nat → Int32) (m_ha_f : Nat → Int32) : Nat → Nat → Int32 → Int32
  | 0, _, _ => 0
  | n + 1, k, v2 => if m_hs ≤ (nI k) then v2 else (if (f_X6_stepsFor (m_ha_f k) m_ss_f) = k0 then (f_X6_sharesOf_L4 k0 m_hs m_ss_f m_ha_f n ((k + 1)) (v2 + 1)) else (f_X6_sharesOf_L4 k0 m_hs m_ss_f m_ha_f n ((k + 1)) (v2 + 0)))
theorem f_X6_sharesOf_L4_s (k0 : Int32) (m_hs : Int32) (m_ss_f : Nat → Int32) (m_ha_f : Nat → Int32) (n k : Nat) (v2 : Int32) : f_X6_sharesOf_L4 k0 m_hs m_ss_f m_ha_f (n + 1) k v2 = (if m_hs ≤ (nI k) then v2 else (if (f_X6_stepsFor (m_ha_f k) m_ss_f) = k0 then (f_X6_sharesOf_L4 k0 m_hs m_ss_f m_ha_f n ((k + 1)) (v2 + 1)) else (f_X6_sharesOf_L4 k0 m_hs m_ss_f m_ha_f n ((k + 1)) (v2 + 0)))) := rfl
def f_X6_sharesOf (k0 : Int32) (m_hs : Int32) (m_ss_f : Nat → Int32) (m_ha_f : Nat → Int32) : Int32 := f_X6_sharesOf_L4 k0 m_hs m_ss_f m_ha_f (m_hs.toNatClampNeg + 1) 0 0
set_option maxHeartbeats 400000 in
set_option maxRecDepth 100000 in
theorem c_X6_sharesOf (l : Launch) (D : va_G) (cI cP cS cL : ClassId) (L : List Nat) (F : Nat → va_E) (m : Nat) (k0 : Int32) (m_ss : Nat) (m_im : Nat) (m_re : Nat) (m_sa : Nat) (m_ke : Nat) (m_so : Nat) (m_si : Nat) (m_el : Nat) (m_kd : Nat) (m_kt : Nat) (m_hi : Int32) (m_th : Int32) (m_po : Int32) (m_ba : Int32) (m_en : Int32) (m_tl : Int32) (m_nu : Nat) (m_ca : Nat) (m_ha : Nat) (m_hs : Int32) (m_co : Nat) (m_ss_f : Nat → Int32) (m_ha_f : Nat → Int32) (h_m : wi L F m (eM m_ss m_im m_re m_sa m_ke m_so m_si m_el m_kd m_kt m_hi m_th m_po m_ba m_en m_tl m_nu m_ca m_ha m_hs m_co)) (h_m_ss : wi L F m_ss (eI cI 55 m_ss_f)) (h_m_ha : wi L F m_ha (eI cI 100 m_ha_f)) (hd1 : ¬ (m_ss_f 1) = 0) (hhs : m_hs.toInt ≤ 100) : wMI l D cI cP cS cL yX6_sharesOf wsX6_sharesOf ({ frames := 5, cells := 0, slots := 0, locals := 113 } : Room) [.ref m, .int k0] L F (f_X6_sharesOf k0 m_hs m_ss_f m_ha_f) F := by
  refine wM.of (cc := cX6_sharesOf) (maxL := 4) (ret := (some .int)) (by decide) rfl (Nat.le_of_ble_eq_true rfl) ?_
  intro pZ eZ sZ mZ below meth cZ A ls C hl w
  obtain ⟨hx, hb, hr, hml, hts, hown, hlocks, hK, hA, hin⟩ := C
  have hown : sZ.vm.findClass RX6 = some mZ.cls := hown
  have hl : lv_has ls 4 [(0, .ref m), (1, .int k0)] := hl
  have m_0 : ((.fieldLink RX6 171 "TwoThirdsModel" "hands" "I") : Cond) ∈ wsX6_sharesOf := by decide +kernel
  have i_X6 : ∀ w ∈ wsX60, w ∈ wsX6_sharesOf := by decide +kernel
  have m_2 : ((.fieldLink RX6 46 "TwoThirdsModel" "hand" "[I") : Cond) ∈ wsX6_sharesOf := by decide +kernel
  have hq : f_X6_sharesOf k0 m_hs m_ss_f m_ha_f = f_X6_sharesOf k0 m_hs m_ss_f m_ha_f := rfl
  refine lv_iconst (v := 0) hx hb dX6_sharesOf_0 (by decide) ?_
  refine lv_istore_n (lv' := [(2, .int 0), (0, .ref m), (1, .int k0)]) hx hb dX6_sharesOf_1 rfl hl (by decide) rfl (fun ls hl => ?_)
  refine lv_iconst (v := 0) hx hb dX6_sharesOf_2 (by decide) ?_
  refine lv_istore_n (lv' := [(3, .int 0), (2, .int 0), (0, .ref m), (1, .int k0)]) hx hb dX6_sharesOf_3 rfl hl (by decide) rfl (fun ls hl => ?_)
  have hL4 : ∀ (n k : Nat) (v2 : Int32) (H : Heap) (locs : List Loc) (ls : Array Slot), k ≤ m_hs.toNatClampNeg → m_hs.toNatClampNeg - k < n → f_X6_sharesOf k0 m_hs m_ss_f m_ha_f = f_X6_sharesOf_L4 k0 m_hs m_ss_f m_ha_f n k v2 → lv_has ls 4 [(0, .ref m), (1, .int k0), (2, .int v2), (3, .int (nI k))] → ww D A sZ.heap L F H locs → W pZ l eZ ({ frames := 5, cells := 0, slots := 0, locals := 113 } : Room) sZ mZ [.ref m, .int k0].toArray below meth cZ H locs 0 0 (MQ below (wQi D A (fun r1 L1 F1 => r1 = (f_X6_sharesOf k0 m_hs m_ss_f m_ha_f) ∧ L1 = L ∧ F1 = F)) [.ref m, .int k0].toArray sZ 0 0 A) (F0 mZ 4 ls []) := by
    intro n; induction n with
    | zero => intro k v2 H locs ls hkT hmeas; exact absurd hmeas (Nat.not_lt_zero _)
    | succ n ih =>
      intro k v2 H locs ls hkT hmeas hq hl w
      have hk31 : k < 2147483648 := Nat.lt_of_le_of_lt hkT (w_clamp_lt _)
      have hq := hq.trans (f_X6_sharesOf_L4_s k0 m_hs m_ss_f m_ha_f n k v2)
      refine lv_iload_n hx hb dX6_sharesOf_4 rfl (lv_at hl 3 rfl) ?_
      refine lv_aload_n hx hb dX6_sharesOf_5 rfl (lv_at hl 0 rfl) ?_
      refine w_get (v := .int m_hs) hx hb hts i_X6 hown hK w h_m rfl 19 (by decide) (hts _ m_0) rfl dX6_sharesOf_6 ?_
      refine lv_icmp_ge (tgt := 40) hx hb dX6_sharesOf_9 (by decide) (fun c1 => ?_) (fun c1 => ?_)
      · skip
        have hq := hq.trans (if_pos c1)
        refine lv_iload_n hx hb dX6_sharesOf_40 rfl (lv_at hl 2 rfl) ?_
        exact w_iret hx hb hr hlocks w ⟨hq.symm, rfl, rfl⟩ (Nat.le_refl _) (Nat.le_refl _) dX6_sharesOf_41
      · skip
        have hq := hq.trans (if_neg c1)
        have hlt9 : k < m_hs.toNatClampNeg := w_ltk hk31 c1
        have hk100 : k < 100 := w_k100 hlt9 hhs
        refine lv_iload_n hx hb dX6_sharesOf_12 rfl (lv_at hl 2 rfl) ?_
        refine lv_aload_n hx hb dX6_sharesOf_13 rfl (lv_at hl 0 rfl) ?_
        refine lv_aload_n hx hb dX6_sharesOf_14 rfl (lv_at hl 0 rfl) ?_
        refine w_get (v := .ref m_ha) hx hb hts i_X6 hown hK w h_m rfl 18 (by decide) (hts _ m_2) rfl dX6_sharesOf_15 ?_
        refine lv_iload_n hx hb dX6_sharesOf_18 rfl (lv_at hl 3 rfl) ?_
        refine w_ild (j := k) hx hb hK w h_m_ha (vp_in_nI (by omega) (by omega)) (nI_clamp (by omega)) dX6_sharesOf_19 ?_
        refine w_finI (w_runV (rm := ({ frames := 4, cells := 0, slots := 0, locals := 90 } : Room)) (As := [.int (m_ha_f k)]) (rest := [.int v2]) (n := 1) hx hb hml hts hown hK w (c_X6_stepsFor l D cI cP cS cL L _ m (m_ha_f k) m_ss m_im m_re m_sa m_ke m_so m_si m_el m_kd m_kt m_hi m_th m_po m_ba m_en m_tl m_nu m_ca m_ha m_hs m_co m_ss_f h_m h_m_ss hd1) gX6_sharesOf_X6_stepsFor rfl rfl rfl (by decide +kernel) ⟨(Nat.le_of_ble_eq_true rfl), (Nat.le_of_ble_eq_true rfl)⟩ h_m rfl rfl hl.1 rfl (Nat.le_of_ble_eq_true rfl) dX6_sharesOf_20 ⟨(Nat.le_of_ble_eq_true rfl), (Nat.le_of_ble_eq_true rfl)⟩) w hA (fun H locs w => ?_)
        refine lv_iload_n hx hb dX6_sharesOf_23 rfl (lv_at hl 1 rfl) ?_
        refine lv_icmp_ne (tgt := 31) hx hb dX6_sharesOf_24 (by decide) (fun c2 => ?_) (fun c2 => ?_)
        · skip
          have hq := hq.trans (if_neg c2)
          refine lv_iconst (v := 0) hx hb dX6_sharesOf_31 (by decide) ?_
          refine lv_iadd hx hb dX6_sharesOf_32 ?_
          refine lv_istore_n (lv' := [(2, .int (v2 + 0)), (0, .ref m), (1, .int k0), (3, .int (nI k))]) hx hb dX6_sharesOf_33 rfl hl (by decide) rfl (fun ls hl => ?_)
          refine lv_iinc (v := (nI (k + 1))) (lv' := [(3, .int (nI (k + 1))), (2, .int (v2 + 0)), (0, .ref m), (1, .int k0)]) hx hb dX6_sharesOf_34 hl (k := 3) rfl (w_inc _) (by decide) rfl (fun ls hl => ?_)
          refine lv_goto (tgt := 4) hx hb dX6_sharesOf_37 (by decide) ?_
          exact ih ((k + 1)) (v2 + 0) _ _ _ (by omega) (by omega) hq (lv_sub hl [2, 3, 1, 0] rfl) w
        · skip
          have hq := hq.trans (if_pos c2)
          refine lv_iconst (v := 1) hx hb dX6_sharesOf_27 (by decide) ?_
          refine lv_goto (tgt := 32) hx hb dX6_sharesOf_28 (by decide) ?_
          refine lv_iadd hx hb dX6_sharesOf_32 ?_
          refine lv_istore_n (lv' := [(2, .int (v2 + 1)), (0, .ref m), (1, .int k0), (3, .int (nI k))]) hx hb dX6_sharesOf_33 rfl hl (by decide) rfl (fun ls hl => ?_)
          refine lv_iinc (v := (nI (k + 1))) (lv' := [(3, .int (nI (k + 1))), (2, .int (v2 + 1)), (0, .ref m), (1, .int k0)]) hx hb dX6_sharesOf_34 hl (k := 3) rfl (w_inc _) (by decide) rfl (fun ls hl => ?_)
          refine lv_goto (tgt := 4) hx hb dX6_sharesOf_37 (by decide) ?_
          exact ih ((k + 1)) (v2 + 1) _ _ _ (by omega) (by omega) hq (lv_sub hl [2, 3, 1, 0] rfl) w
  exact hL4 (m_hs.toNatClampNeg + 1) 0 0 _ _ _ (Nat.zero_le _) (by omega) hq (lv_sub hl [2, 3, 1, 0] rfl) w
def f_X6_shares (d : Int32) (k0 : Int32) (m_hs : Int32) (m_ss_f : Nat → Int32) (m_ke_f : Nat → Int32) (m_so_f : Nat → Int32) (m_si_f : Nat → Int32) (m_el_f : Nat → Int32) (m_ha_f : Nat → Int32) : Int32 × (Nat → Int32) × Int32 := if (f_X6_isShelf d) = (0 : Int32) then ((-1), m_ha_f, m_hs) else (if (f_X6_isIn (k0.toInt64) 0 9) = (0 : Int32) then ((-1), m_ha_f, m_hs) else (bnd (f_X6_takesRow d m_hs m_ss_f m_ke_f m_so_f m_si_f m_el_f m_ha_f) (fun x23 : Int32 × (Nat → Int32) × Int32 => if x23.1 = (0 : Int32) then ((f_X6_sharesOf k0 x23.2.2 m_ss_f x23.2.1), x23.2.1, x23.2.2) else (x23.1, x23.2.1, x23.2.2))))
set_option maxHeartbeats 400000 in
set_option maxRecDepth 100000 in
theorem c_X6_shares (l : Launch) (D : va_G) (cI cP cS cL : ClassId) (L : List Nat) (F : Nat → va_E) (m : Nat) (d : Int32) (k0 : Int32) (m_ss : Nat) (m_im : Nat) (m_re : Nat) (m_sa : Nat) (m_ke : Nat) (m_so : Nat) (m_si : Nat) (m_el : Nat) (m_kd : Nat) (m_kt : Nat) (m_hi : Int32) (m_th : Int32) (m_po : Int32) (m_ba : Int32) (m_en : Int32) (m_tl : Int32) (m_nu : Nat) (m_ca : Nat) (m_ha : Nat) (m_hs : Int32) (m_co : Nat) (m_ss_f : Nat → Int32) (m_ke_f : Nat → Int32) (m_so_f : Nat → Int32) (m_si_f : Nat → Int32) (m_el_f : Nat → Int32) (m_ha_f : Nat → Int32) (h_m : wi L F m (eM m_ss m_im m_re m_sa m_ke m_so m_si m_el m_kd m_kt m_hi m_th m_po m_ba m_en m_tl m_nu m_ca m_ha m_hs m_co)) (h_m_ss : wi L F m_ss (eI cI 55 m_ss_f)) (h_m_ke : wi L F m_ke (eI cI 8 m_ke_f)) (h_m_so : wi L F m_so (eI cI 8 m_so_f)) (h_m_si : wi L F m_si (eI cI 8 m_si_f)) (h_m_el : wi L F m_el (eI cI 800 m_el_f)) (h_m_ha : wi L F m_ha (eI cI 100 m_ha_f)) (hsi : ∀ i, i < 8 → (m_si_f i).toInt ≤ 100) (hsi0 : ∀ i, i < 8 → 0 ≤ (m_si_f i).toInt) (hhs : m_hs.toInt ≤ 100) (hd1 : ¬ (m_ss_f 1) = 0) (ne_m_ss_m_ha : m_ss ≠ m_ha) (ne_m_ke_m_ha : m_ke ≠ m_ha) (ne_m_so_m_ha : m_so ≠ m_ha) (ne_m_si_m_ha : m_si ≠ m_ha) (ne_m_el_m_ha : m_el ≠ m_ha) : wMj l D cI cP cS cL yX6_shares wsX6_shares ({ frames := 6, cells := 0, slots := 0, locals := 136 } : Room) [.ref m, .int d, .int k0] L F (fun r1 F1 => ∃ y9 : Int32 × (Nat → Int32) × Int32, y9 = (f_X6_shares d k0 m_hs m_ss_f m_ke_f m_so_f m_si_f m_el_f m_ha_f) ∧ r1 = y9.1 ∧ F1 m = (eM m_ss m_im m_re m_sa m_ke m_so m_si m_el m_kd m_kt m_hi m_th m_po m_ba m_en m_tl m_nu m_ca m_ha y9.2.2 m_co) ∧ F1 m_ha = (eI cI 100 y9.2.1) ∧ wk (fun q : Nat => q ≠ m ∧ q ≠ m_ha ∧ True) F1 F) := by
  refine wM.of (cc := cX6_shares) (maxL := 4) (ret := (some .int)) (by decide) rfl (Nat.le_of_ble_eq_true rfl) ?_
  intro pZ eZ sZ mZ below meth cZ A ls C hl w
  obtain ⟨hx, hb, hr, hml, hts, hown, hlocks, hK, hA, hin⟩ := C
  have hown : sZ.vm.findClass RX6 = some mZ.cls := hown
  have hl : lv_has ls 4 [(0, .ref m), (1, .int d), (2, .int k0)] := hl
  have m_0 : ((.constantLong RX6 131 9) : Cond) ∈ wsX6_shares := by decide +kernel
  have hk : wk (fun q : Nat => q ≠ m ∧ q ≠ m_ha ∧ True) F F := wk.rf
  have hq : f_X6_shares d k0 m_hs m_ss_f m_ke_f m_so_f m_si_f m_el_f m_ha_f = f_X6_shares d k0 m_hs m_ss_f m_ke_f m_so_f m_si_f m_el_f m_ha_f := rfl
  refine lv_iload_n hx hb dX6_shares_0 rfl (lv_at hl 1 rfl) ?_
  refine w_finI (w_runS (rm := ({ frames := 1, cells := 0, slots := 0, locals := 25 } : Room)) (As := [.int d]) (rest := []) (n := 1) hx hb hml hts hown hK w (c_X6_isShelf l D cI cP cS cL L _ d ) gX6_shares_X6_isShelf rfl rfl rfl (by decide +kernel) ⟨(Nat.le_of_ble_eq_true rfl), (Nat.le_of_ble_eq_true rfl)⟩ rfl hl.1 rfl (Nat.le_of_ble_eq_true rfl) dX6_shares_1 ⟨(Nat.le_of_ble_eq_true rfl), (Nat.le_of_ble_eq_true rfl)⟩) w hA (fun H locs w => ?_)
  refine lv_if_eq (tgt := 19) hx hb dX6_shares_4 (by decide) (fun c1 => ?_) (fun c1 => ?_)
  · skip
    have hq := hq.trans (if_pos c1)
    refine lv_iconst (v := (-1)) hx hb dX6_shares_19 (by decide) ?_
    exact w_iret hx hb hr hlocks w ⟨rfl, _, hq.symm, rfl, h_m.2, h_m_ha.2, hk⟩ (Nat.le_refl _) (Nat.le_refl _) dX6_shares_20
  · skip
    have hq := hq.trans (if_neg c1)
    refine lv_iload_n hx hb dX6_shares_7 rfl (lv_at hl 2 rfl) ?_
    refine lv_i2l (v := (k0.toInt64)) hx hb dX6_shares_8 rfl ?_
    refine lv_lconst (v := 0) hx hb dX6_shares_9 (by decide) ?_
    refine lv_ldc2 (v := 9) hx hb hown (hts _ m_0) dX6_shares_10 ?_
    refine w_finI (w_runS (rm := ({ frames := 0, cells := 0, slots := 0, locals := 0 } : Room)) (As := [.long (k0.toInt64), .long 0, .long 9]) (rest := []) (n := 3) hx hb hml hts hown hK w (c_X6_isIn l D cI cP cS cL L _ (k0.toInt64) 0 9 ) gX6_shares_X6_isIn rfl rfl rfl (by decide +kernel) ⟨(Nat.le_of_ble_eq_true rfl), (Nat.le_of_ble_eq_true rfl)⟩ rfl hl.1 rfl (Nat.le_of_ble_eq_true rfl) dX6_shares_13 ⟨(Nat.le_of_ble_eq_true rfl), (Nat.le_of_ble_eq_true rfl)⟩) w hA (fun H locs w => ?_)
    refine lv_if_ne (tgt := 21) hx hb dX6_shares_16 (by decide) (fun c2 => ?_) (fun c2 => ?_)
    · skip
      have hq := hq.trans (if_neg c2)
      refine lv_aload_n hx hb dX6_shares_21 rfl (lv_at hl 0 rfl) ?_
      refine lv_iload_n hx hb dX6_shares_22 rfl (lv_at hl 1 rfl) ?_
      refine w_finj (w_runV (rm := ({ frames := 3, cells := 0, slots := 0, locals := 67 } : Room)) (As := [.int d]) (rest := []) (n := 1) hx hb hml hts hown hK w (c_X6_takesRow l D cI cP cS cL L _ m d m_ss m_im m_re m_sa m_ke m_so m_si m_el m_kd m_kt m_hi m_th m_po m_ba m_en m_tl m_nu m_ca m_ha m_hs m_co m_ss_f m_ke_f m_so_f m_si_f m_el_f m_ha_f h_m h_m_ss h_m_ke h_m_so h_m_si h_m_el h_m_ha hsi hsi0 hhs ne_m_ss_m_ha ne_m_ke_m_ha ne_m_so_m_ha ne_m_si_m_ha ne_m_el_m_ha) gX6_shares_X6_takesRow rfl rfl rfl (by decide +kernel) ⟨(Nat.le_of_ble_eq_true rfl), (Nat.le_of_ble_eq_true rfl)⟩ h_m rfl rfl hl.1 rfl (Nat.le_of_ble_eq_true rfl) dX6_shares_23 ⟨(Nat.le_of_ble_eq_true rfl), (Nat.le_of_ble_eq_true rfl)⟩) w hA (fun r9 F1 H locs hp w => ?_)
      obtain ⟨x23, hx23, e23_0, e23_1, e23_2, hr9, hw0, hw1, hk9⟩ := hp
      subst hr9
      have hq := hq.trans (w_bnd hx23)
      have h_m_ss := h_m_ss.keep hk9 ⟨(wi.ne h_m_ss h_m (by intro h; cases h)), ne_m_ss_m_ha, trivial⟩
      have h_m_ke := h_m_ke.keep hk9 ⟨(wi.ne h_m_ke h_m (by intro h; cases h)), ne_m_ke_m_ha, trivial⟩
      have h_m_so := h_m_so.keep hk9 ⟨(wi.ne h_m_so h_m (by intro h; cases h)), ne_m_so_m_ha, trivial⟩
      have h_m_si := h_m_si.keep hk9 ⟨(wi.ne h_m_si h_m (by intro h; cases h)), ne_m_si_m_ha, trivial⟩
      have h_m_el := h_m_el.keep hk9 ⟨(wi.ne h_m_el h_m (by intro h; cases h)), ne_m_el_m_ha, trivial⟩
      have h_m := h_m.new hw0
      have h_m_ha := h_m_ha.new hw1
      have hk := hk.call hk9 (fun q h => ⟨h.1, h.2.1, trivial⟩)
      refine lv_istore_n (lv' := [(3, .int x23.1), (0, .ref m), (1, .int d), (2, .int k0)]) hx hb dX6_shares_26 rfl hl (by decide) rfl (fun ls hl => ?_)
      refine lv_iload_n hx hb dX6_shares_27 rfl (lv_at hl 0 rfl) ?_
      refine lv_if_eq (tgt := 35) hx hb dX6_shares_28 (by decide) (fun c3 => ?_) (fun c3 => ?_)
      · skip
        have hq := hq.trans (if_pos c3)
        refine lv_aload_n hx hb dX6_shares_35 rfl (lv_at hl 1 rfl) ?_
        refine lv_iload_n hx hb dX6_shares_36 rfl (lv_at hl 3 rfl) ?_
        refine w_finI (w_runV (rm := ({ frames := 5, cells := 0, slots := 0, locals := 113 } : Room)) (As := [.int k0]) (rest := []) (n := 1) hx hb hml hts hown hK w (c_X6_sharesOf l D cI cP cS cL L _ m k0 m_ss m_im m_re m_sa m_ke m_so m_si m_el m_kd m_kt m_hi m_th m_po m_ba m_en m_tl m_nu m_ca m_ha x23.2.2 m_co m_ss_f x23.2.1 h_m h_m_ss h_m_ha hd1 e23_0) gX6_shares_X6_sharesOf rfl rfl rfl (by decide +kernel) ⟨(Nat.le_of_ble_eq_true rfl), (Nat.le_of_ble_eq_true rfl)⟩ h_m rfl rfl hl.1 rfl (Nat.le_of_ble_eq_true rfl) dX6_shares_37 ⟨(Nat.le_of_ble_eq_true rfl), (Nat.le_of_ble_eq_true rfl)⟩) w hA (fun H locs w => ?_)
        exact w_iret hx hb hr hlocks w ⟨rfl, _, hq.symm, rfl, h_m.2, h_m_ha.2, hk⟩ (Nat.le_refl _) (Nat.le_refl _) dX6_shares_40
      · skip
        have hq := hq.trans (if_neg c3)
        refine lv_iload_n hx hb dX6_shares_31 rfl (lv_at hl 0 rfl) ?_
        refine lv_goto (tgt := 40) hx hb dX6_shares_32 (by decide) ?_
        exact w_iret hx hb hr hlocks w ⟨rfl, _, hq.symm, rfl, h_m.2, h_m_ha.2, hk⟩ (Nat.le_refl _) (Nat.le_refl _) dX6_shares_40
    · skip
      have hq := hq.trans (if_pos c2)
      refine lv_iconst (v := (-1)) hx hb dX6_shares_19 (by decide) ?_
      exact w_iret hx hb hr hlocks w ⟨rfl, _, hq.symm, rfl, h_m.2, h_m_ha.2, hk⟩ (Nat.le_refl _) (Nat.le_refl _) dX6_shares_20
