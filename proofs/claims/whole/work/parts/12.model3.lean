abbrev wMk (l : Launch) (D : va_G) (cI cP cS cL : ClassId) (y : MethodName) (ws : List Cond) (rm : Room) (av : List Value) (L : List Nat) (F : Nat → va_E) (post : Int64 → (Nat → va_E) → Prop) : Prop := wMl l D cI cP cS cL y ws rm av L F (fun r1 L1 F1 => L1 = L ∧ post r1 F1) 0 0
theorem w_fink {p : Program} {l : Launch} {e : Env} {R : Room} {s : State} {m : MethodId} {args : Array Value} {below : List Frame} {meth : Method} {c : Code} {H : Heap} {locs : List Loc} {cells slots : Nat} {Q : State → Prop} {pc : Nat} {ls : Array Slot} {D : va_G} {A : Nat → Prop} {L : List Nat} {F : Nat → va_E} {st0 rest : List Value} {av : Array Value} {post : Int64 → (Nat → va_E) → Prop} (hr : w_R p l e R s m args below meth c H locs cells slots 0 0 (F0 m pc ls st0) rest (fun A => wQl D A (fun r1 L1 F1 => L1 = L ∧ post r1 F1)) L F av) (w : ww D A s.heap L F H locs) (hA : ∀ q : Nat, s.heap.size ≤ q → A q)
    (kk : ∀ (r : Int64) (F1 : Nat → va_E) (H1 : Heap) (locs1 : List Loc), post r F1 → ww D A s.heap L F1 H1 locs1 → W p l e R s m args below meth c H1 locs1 cells slots Q (F0 m (pc + 3) ls (.long r :: rest))) : W p l e R s m args below meth c H locs cells slots Q (F0 m pc ls st0) :=
  w_finl hr w hA (fun r1 L1 F1 H1 locs1 hp w1 => by obtain ⟨hL, hp⟩ := hp; subst hL; exact kk r1 F1 H1 locs1 hp w1)
theorem l_inc {v : Int64} {k : Nat} (h : 0 ≤ v.toInt ∧ v.toInt ≤ k) (hk : k < 100) : 0 ≤ (v + 1).toInt ∧ (v + 1).toInt ≤ ((k + 1 : Nat) : Int) := by
  have h1 : (1 : Int64).toInt = 1 := rfl
  rw [addL (by rw [h1]; omega), h1]
  omega
theorem jok_ne {a b : Int32} {n : Int64} (ha : 1 ≤ a.toInt ∧ a.toInt ≤ 20) (h1 : 1 ≤ b.toInt) (h2 : b.toInt ≤ 100) (hn : 1 ≤ n.toInt ∧ n.toInt ≤ 100) : ¬ ((a * b).toInt64 * n) = 0 := by
  intro q
  have hp : 1 * 1 ≤ a.toInt * b.toInt := Int.mul_le_mul ha.1 h1 (by decide) (by omega)
  have hq : a.toInt * b.toInt ≤ 20 * 100 := Int.mul_le_mul ha.2 h2 (by omega) (by decide)
  have e : ((a * b).toInt64).toInt = a.toInt * b.toInt := by rw [i64, mulI (by omega)]
  have hp2 : 1 * 1 ≤ (a.toInt * b.toInt) * n.toInt := Int.mul_le_mul (by omega) hn.1 (by decide) (by omega)
  have hq2 : (a.toInt * b.toInt) * n.toInt ≤ 2000 * 100 := Int.mul_le_mul (by omega) hn.2 (by omega) (by decide)
  have q2 := congrArg Int64.toInt q
  rw [mulL (by rw [e]; omega), e] at q2
  have h0 : (0 : Int64).toInt = 0 := rfl
  omega
theorem jok_n {v : Int64} {k : Nat} (h : 0 ≤ v.toInt ∧ v.toInt ≤ k) (hk : k ≤ 100) (c : ¬ lg_cmp v 0 = 0) : 1 ≤ v.toInt ∧ v.toInt ≤ 100 := by
  have := lne_toInt (lg_ne c)
  omega
theorem k_le100 {k : Nat} {B : Int32} (h : k ≤ B.toNatClampNeg) (hB : B.toInt ≤ 100) : k ≤ 100 := by
  have h2 : B.toNatClampNeg = B.toInt.toNat := rfl
  omega
theorem w_cnt {what v : Int32} {n : Nat} (c : what = v) (h : (v - 2) = nI n) (hn : n < 55) : vp_in (what - 2) 55 := by rw [c, h]; exact vp_in_nI hn (by omega)
theorem cp_ok {i n sz : Int32} (hi : ¬ i < 0) (hn : ¬ n < 0) (h0 : 0 ≤ sz.toInt) (h1 : sz.toInt ≤ 100) (c : ¬ (sz - i) < n) : 0 ≤ i.toInt ∧ 0 ≤ n.toInt ∧ i.toInt + n.toInt ≤ 100 := by
  rw [Int32.lt_iff_toInt_lt, Int32.toInt_zero] at hi hn
  have hb := Int32.toInt_lt i
  rw [Int32.lt_iff_toInt_lt, subI (by omega)] at c
  omega
theorem cpI {d i j : Int32} (hd : 0 ≤ d.toInt ∧ d.toInt < 8) (hi : 0 ≤ i.toInt ∧ i.toInt ≤ 100) (hj : 0 ≤ j.toInt ∧ j.toInt ≤ 100) : ((((100 * d) + i) + j)).toInt = 100 * d.toInt + i.toInt + j.toInt := by
  have h4 : (100 : Int32).toInt = 100 := rfl
  have e1 : (100 * d).toInt = 100 * d.toInt := by rw [mulI (by rw [h4]; omega), h4]
  have e2 : ((100 * d) + i).toInt = 100 * d.toInt + i.toInt := by rw [addI (by rw [e1]; omega), e1]
  rw [addI (by rw [e2]; omega), e2]
theorem cpA {d i n : Int32} {k : Nat} (hd : 0 ≤ d.toInt ∧ d.toInt < 8) (h : 0 ≤ i.toInt ∧ 0 ≤ n.toInt ∧ i.toInt + n.toInt ≤ 100) (hk : k < n.toNatClampNeg) : vp_in (((100 * d) + i) + (nI k)) 800 := by
  have h2 : n.toNatClampNeg = n.toInt.toNat := rfl
  have e : (nI k).toInt = k := nI_toInt (by omega)
  refine vp_in_iff.mpr ?_
  rw [cpI hd (by omega) (by rw [e]; omega), e]
  omega
theorem cpRev {n : Int32} {k : Nat} (h : n.toInt ≤ 100) (hk : k < n.toNatClampNeg) : ((n - 1) - (nI k)).toInt = n.toInt - 1 - k := by
  have h2 : n.toNatClampNeg = n.toInt.toNat := rfl
  have e : (nI k).toInt = k := nI_toInt (by omega)
  have h1 : (1 : Int32).toInt = 1 := rfl
  have e1 : (n - 1).toInt = n.toInt - 1 := by rw [subI (by rw [h1]; omega), h1]
  rw [subI (by rw [e1, e]; omega), e1, e]
theorem cpB {d i n : Int32} {k : Nat} (hd : 0 ≤ d.toInt ∧ d.toInt < 8) (h : 0 ≤ i.toInt ∧ 0 ≤ n.toInt ∧ i.toInt + n.toInt ≤ 100) (hk : k < n.toNatClampNeg) : vp_in (((100 * d) + i) + ((n - 1) - (nI k))) 800 := by
  have h2 : n.toNatClampNeg = n.toInt.toNat := rfl
  have e := cpRev (n := n) (by omega) hk
  refine vp_in_iff.mpr ?_
  rw [cpI hd (by omega) (by rw [e]; omega), e]
  omega
def f_X6_words_L118 (e0 : Int32) (what : Int32) (m_ss_f : Nat → Int32) (m_el_f : Nat → Int32) (x81 : Int32 × (Nat → Int32) × Int32) : Nat → Nat → Int32 → Int32 × (Nat → Int32) × Int32
  | 0, _, _ => (0, (fun _ => 0), 0)
  | n + 1, k, v5 => if x81.2.2 ≤ (nI k) then (v5, x81.2.1, x81.2.2) else (if what = (0 : Int32) then (if ((m_el_f (100 * e0.toNatClampNeg + k)) - (f_X6_stepsFor (x81.2.1 k) m_ss_f)) = (0 : Int32) then (f_X6_words_L118 e0 what m_ss_f m_el_f x81 n ((k + 1)) (v5 + 1)) else (f_X6_words_L118 e0 what m_ss_f m_el_f x81 n ((k + 1)) (v5 + 0))) else (if ((m_el_f (100 * e0.toNatClampNeg + k)) - (f_X6_stepsFor (x81.2.1 k) m_ss_f)) ≤ (0 : Int32) then (f_X6_words_L118 e0 what m_ss_f m_el_f x81 n ((k + 1)) (v5 + 0)) else (f_X6_words_L118 e0 what m_ss_f m_el_f x81 n ((k + 1)) (v5 + 1))))
theorem f_X6_words_L118_s (e0 : Int32) (what : Int32) (m_ss_f : Nat → Int32) (m_el_f : Nat → Int32) (x81 : Int32 × (Nat → Int32) × Int32) (n k : Nat) (v5 : Int32) : f_X6_words_L118 e0 what m_ss_f m_el_f x81 (n + 1) k v5 = (if x81.2.2 ≤ (nI k) then (v5, x81.2.1, x81.2.2) else (if what = (0 : Int32) then (if ((m_el_f (100 * e0.toNatClampNeg + k)) - (f_X6_stepsFor (x81.2.1 k) m_ss_f)) = (0 : Int32) then (f_X6_words_L118 e0 what m_ss_f m_el_f x81 n ((k + 1)) (v5 + 1)) else (f_X6_words_L118 e0 what m_ss_f m_el_f x81 n ((k + 1)) (v5 + 0))) else (if ((m_el_f (100 * e0.toNatClampNeg + k)) - (f_X6_stepsFor (x81.2.1 k) m_ss_f)) ≤ (0 : Int32) then (f_X6_words_L118 e0 what m_ss_f m_el_f x81 n ((k + 1)) (v5 + 0)) else (f_X6_words_L118 e0 what m_ss_f m_el_f x81 n ((k + 1)) (v5 + 1))))) := rfl
def f_X6_words (d : Int32) (e0 : Int32) (what : Int32) (m_hs : Int32) (m_ss_f : Nat → Int32) (m_ke_f : Nat → Int32) (m_so_f : Nat → Int32) (m_si_f : Nat → Int32) (m_el_f : Nat → Int32) (m_ha_f : Nat → Int32) : Int32 × (Nat → Int32) × Int32 := if (f_X6_isShelf d) = (0 : Int32) then ((-1), m_ha_f, m_hs) else (if (f_X6_isShelf e0) = (0 : Int32) then ((-1), m_ha_f, m_hs) else (if (f_X6_isIn (what.toInt64) 0 1) = (0 : Int32) then ((-1), m_ha_f, m_hs) else (if (m_ke_f (d.toNatClampNeg)) = (0 : Int32) then ((-11), m_ha_f, m_hs) else (if (m_ke_f (e0.toNatClampNeg)) = (0 : Int32) then ((-11), m_ha_f, m_hs) else (if (m_ke_f (d.toNatClampNeg)) = (2 : Int32) then (if (m_ke_f (e0.toNatClampNeg)) = (2 : Int32) then (if (m_so_f (e0.toNatClampNeg)) = (0 : Int32) then (bnd (f_X6_takesRow d m_hs m_ss_f m_ke_f m_so_f m_si_f m_el_f m_ha_f) (fun x81 : Int32 × (Nat → Int32) × Int32 => if x81.1 = (0 : Int32) then (if (m_si_f (e0.toNatClampNeg)) = (m_si_f (d.toNatClampNeg)) then (f_X6_words_L118 e0 what m_ss_f m_el_f x81 (x81.2.2.toNatClampNeg + 1) 0 0) else ((-13), x81.2.1, x81.2.2)) else (x81.1, x81.2.1, x81.2.2))) else ((-12), m_ha_f, m_hs)) else ((-12), m_ha_f, m_hs)) else ((-12), m_ha_f, m_hs))))))
set_option maxHeartbeats 400000 in
set_option maxRecDepth 100000 in
theorem c_X6_words (l : Launch) (D : va_G) (cI cP cS cL : ClassId) (L : List Nat) (F : Nat → va_E) (m : Nat) (d : Int32) (e0 : Int32) (what : Int32) (m_ss : Nat) (m_im : Nat) (m_re : Nat) (m_sa : Nat) (m_ke : Nat) (m_so : Nat) (m_si : Nat) (m_el : Nat) (m_kd : Nat) (m_kt : Nat) (m_hi : Int32) (m_th : Int32) (m_po : Int32) (m_ba : Int32) (m_en : Int32) (m_tl : Int32) (m_nu : Nat) (m_ca : Nat) (m_ha : Nat) (m_hs : Int32) (m_co : Nat) (m_ss_f : Nat → Int32) (m_ke_f : Nat → Int32) (m_so_f : Nat → Int32) (m_si_f : Nat → Int32) (m_el_f : Nat → Int32) (m_ha_f : Nat → Int32) (h_m : wi L F m (eM m_ss m_im m_re m_sa m_ke m_so m_si m_el m_kd m_kt m_hi m_th m_po m_ba m_en m_tl m_nu m_ca m_ha m_hs m_co)) (h_m_ss : wi L F m_ss (eI cI 55 m_ss_f)) (h_m_ke : wi L F m_ke (eI cI 8 m_ke_f)) (h_m_so : wi L F m_so (eI cI 8 m_so_f)) (h_m_si : wi L F m_si (eI cI 8 m_si_f)) (h_m_el : wi L F m_el (eI cI 800 m_el_f)) (h_m_ha : wi L F m_ha (eI cI 100 m_ha_f)) (hsi : ∀ i, i < 8 → (m_si_f i).toInt ≤ 100) (hsi0 : ∀ i, i < 8 → 0 ≤ (m_si_f i).toInt) (hhs : m_hs.toInt ≤ 100) (hd1 : ¬ (m_ss_f 1) = 0) (ne_m_ss_m_ha : m_ss ≠ m_ha) (ne_m_ke_m_ha : m_ke ≠ m_ha) (ne_m_so_m_ha : m_so ≠ m_ha) (ne_m_si_m_ha : m_si ≠ m_ha) (ne_m_el_m_ha : m_el ≠ m_ha) : wMj l D cI cP cS cL yX6_words wsX6_words ({ frames := 5, cells := 0, slots := 0, locals := 113 } : Room) [.ref m, .int d, .int e0, .int what] L F (fun r1 F1 => ∃ y9 : Int32 × (Nat → Int32) × Int32, y9 = (f_X6_words d e0 what m_hs m_ss_f m_ke_f m_so_f m_si_f m_el_f m_ha_f) ∧ r1 = y9.1 ∧ F1 m = (eM m_ss m_im m_re m_sa m_ke m_so m_si m_el m_kd m_kt m_hi m_th m_po m_ba m_en m_tl m_nu m_ca m_ha y9.2.2 m_co) ∧ F1 m_ha = (eI cI 100 y9.2.1) ∧ wk (fun q : Nat => q ≠ m ∧ q ≠ m_ha ∧ True) F1 F) := by
  refine wM.of (cc := cX6_words) (maxL := 8) (ret := (some .int)) (by decide) rfl (Nat.le_of_ble_eq_true rfl) ?_
  intro pZ eZ sZ mZ below meth cZ A ls C hl w
  obtain ⟨hx, hb, hr, hml, hts, hown, hlocks, hK, hA, hin⟩ := C
  have hown : sZ.vm.findClass RX6 = some mZ.cls := hown
  have hl : lv_has ls 8 [(0, .ref m), (1, .int d), (2, .int e0), (3, .int what)] := hl
  have m_0 : ((.fieldLink RX6 22 "TwoThirdsModel" "kept" "[I") : Cond) ∈ wsX6_words := by decide +kernel
  have i_X6 : ∀ w ∈ wsX60, w ∈ wsX6_words := by decide +kernel
  have m_2 : ((.fieldLink RX6 25 "TwoThirdsModel" "sort" "[I") : Cond) ∈ wsX6_words := by decide +kernel
  have m_3 : ((.fieldLink RX6 28 "TwoThirdsModel" "size" "[I") : Cond) ∈ wsX6_words := by decide +kernel
  have m_4 : ((.fieldLink RX6 171 "TwoThirdsModel" "hands" "I") : Cond) ∈ wsX6_words := by decide +kernel
  have m_5 : ((.fieldLink RX6 31 "TwoThirdsModel" "element" "[I") : Cond) ∈ wsX6_words := by decide +kernel
  have m_6 : ((.fieldLink RX6 46 "TwoThirdsModel" "hand" "[I") : Cond) ∈ wsX6_words := by decide +kernel
  have hk : wk (fun q : Nat => q ≠ m ∧ q ≠ m_ha ∧ True) F F := wk.rf
  have hq : f_X6_words d e0 what m_hs m_ss_f m_ke_f m_so_f m_si_f m_el_f m_ha_f = f_X6_words d e0 what m_hs m_ss_f m_ke_f m_so_f m_si_f m_el_f m_ha_f := rfl
  refine lv_iload_n hx hb dX6_words_0 rfl (lv_at hl 1 rfl) ?_
  refine w_finI (w_runS (rm := ({ frames := 1, cells := 0, slots := 0, locals := 25 } : Room)) (As := [.int d]) (rest := []) (n := 1) hx hb hml hts hown hK w (c_X6_isShelf l D cI cP cS cL L _ d ) gX6_words_X6_isShelf rfl rfl rfl (by decide +kernel) ⟨(Nat.le_of_ble_eq_true rfl), (Nat.le_of_ble_eq_true rfl)⟩ rfl hl.1 rfl (Nat.le_of_ble_eq_true rfl) dX6_words_1 ⟨(Nat.le_of_ble_eq_true rfl), (Nat.le_of_ble_eq_true rfl)⟩) w hA (fun H locs w => ?_)
  refine lv_if_eq (tgt := 24) hx hb dX6_words_4 (by decide) (fun c1 => ?_) (fun c1 => ?_)
  · skip
    have hq := hq.trans (if_pos c1)
    refine lv_iconst (v := (-1)) hx hb dX6_words_24 (by decide) ?_
    exact w_iret hx hb hr hlocks w ⟨rfl, _, hq.symm, rfl, h_m.2, h_m_ha.2, hk⟩ (Nat.le_refl _) (Nat.le_refl _) dX6_words_25
  · skip
    have hq := hq.trans (if_neg c1)
    have hd0 : 0 ≤ d.toInt ∧ d.toInt < 8 := isShelf_ok c1
    refine lv_iload_n hx hb dX6_words_7 rfl (lv_at hl 2 rfl) ?_
    refine w_finI (w_runS (rm := ({ frames := 1, cells := 0, slots := 0, locals := 25 } : Room)) (As := [.int e0]) (rest := []) (n := 1) hx hb hml hts hown hK w (c_X6_isShelf l D cI cP cS cL L _ e0 ) gX6_words_X6_isShelf rfl rfl rfl (by decide +kernel) ⟨(Nat.le_of_ble_eq_true rfl), (Nat.le_of_ble_eq_true rfl)⟩ rfl hl.1 rfl (Nat.le_of_ble_eq_true rfl) dX6_words_8 ⟨(Nat.le_of_ble_eq_true rfl), (Nat.le_of_ble_eq_true rfl)⟩) w hA (fun H locs w => ?_)
    refine lv_if_eq (tgt := 24) hx hb dX6_words_11 (by decide) (fun c2 => ?_) (fun c2 => ?_)
    · skip
      have hq := hq.trans (if_pos c2)
      refine lv_iconst (v := (-1)) hx hb dX6_words_24 (by decide) ?_
      exact w_iret hx hb hr hlocks w ⟨rfl, _, hq.symm, rfl, h_m.2, h_m_ha.2, hk⟩ (Nat.le_refl _) (Nat.le_refl _) dX6_words_25
    · skip
      have hq := hq.trans (if_neg c2)
      have hde : 0 ≤ e0.toInt ∧ e0.toInt < 8 := isShelf_ok c2
      refine lv_iload_n hx hb dX6_words_14 rfl (lv_at hl 3 rfl) ?_
      refine lv_i2l (v := (what.toInt64)) hx hb dX6_words_15 rfl ?_
      refine lv_lconst (v := 0) hx hb dX6_words_16 (by decide) ?_
      refine lv_lconst (v := 1) hx hb dX6_words_17 (by decide) ?_
      refine w_finI (w_runS (rm := ({ frames := 0, cells := 0, slots := 0, locals := 0 } : Room)) (As := [.long (what.toInt64), .long 0, .long 1]) (rest := []) (n := 3) hx hb hml hts hown hK w (c_X6_isIn l D cI cP cS cL L _ (what.toInt64) 0 1 ) gX6_words_X6_isIn rfl rfl rfl (by decide +kernel) ⟨(Nat.le_of_ble_eq_true rfl), (Nat.le_of_ble_eq_true rfl)⟩ rfl hl.1 rfl (Nat.le_of_ble_eq_true rfl) dX6_words_18 ⟨(Nat.le_of_ble_eq_true rfl), (Nat.le_of_ble_eq_true rfl)⟩) w hA (fun H locs w => ?_)
      refine lv_if_ne (tgt := 26) hx hb dX6_words_21 (by decide) (fun c3 => ?_) (fun c3 => ?_)
      · skip
        have hq := hq.trans (if_neg c3)
        refine lv_aload_n hx hb dX6_words_26 rfl (lv_at hl 0 rfl) ?_
        refine w_get (v := .ref m_ke) hx hb hts i_X6 hown hK w h_m rfl 4 (by decide) (hts _ m_0) rfl dX6_words_27 ?_
        refine lv_iload_n hx hb dX6_words_30 rfl (lv_at hl 1 rfl) ?_
        refine w_ild (j := (d.toNatClampNeg)) hx hb hK w h_m_ke (w_in8 hd0) rfl dX6_words_31 ?_
        refine lv_if_eq (tgt := 44) hx hb dX6_words_32 (by decide) (fun c4 => ?_) (fun c4 => ?_)
        · skip
          have hq := hq.trans (if_pos c4)
          refine lv_bipush (v := (-11)) hx hb dX6_words_44 (by decide) ?_
          exact w_iret hx hb hr hlocks w ⟨rfl, _, hq.symm, rfl, h_m.2, h_m_ha.2, hk⟩ (Nat.le_refl _) (Nat.le_refl _) dX6_words_46
        · skip
          have hq := hq.trans (if_neg c4)
          refine lv_aload_n hx hb dX6_words_35 rfl (lv_at hl 0 rfl) ?_
          refine w_get (v := .ref m_ke) hx hb hts i_X6 hown hK w h_m rfl 4 (by decide) (hts _ m_0) rfl dX6_words_36 ?_
          refine lv_iload_n hx hb dX6_words_39 rfl (lv_at hl 2 rfl) ?_
          refine w_ild (j := (e0.toNatClampNeg)) hx hb hK w h_m_ke (w_in8 hde) rfl dX6_words_40 ?_
          refine lv_if_ne (tgt := 47) hx hb dX6_words_41 (by decide) (fun c5 => ?_) (fun c5 => ?_)
          · skip
            have hq := hq.trans (if_neg c5)
            refine lv_aload_n hx hb dX6_words_47 rfl (lv_at hl 0 rfl) ?_
            refine w_get (v := .ref m_ke) hx hb hts i_X6 hown hK w h_m rfl 4 (by decide) (hts _ m_0) rfl dX6_words_48 ?_
            refine lv_iload_n hx hb dX6_words_51 rfl (lv_at hl 1 rfl) ?_
            refine w_ild (j := (d.toNatClampNeg)) hx hb hK w h_m_ke (w_in8 hd0) rfl dX6_words_52 ?_
            refine lv_iconst (v := 2) hx hb dX6_words_53 (by decide) ?_
            refine lv_icmp_ne (tgt := 76) hx hb dX6_words_54 (by decide) (fun c6 => ?_) (fun c6 => ?_)
            · skip
              have hq := hq.trans (if_neg c6)
              refine lv_bipush (v := (-12)) hx hb dX6_words_76 (by decide) ?_
              exact w_iret hx hb hr hlocks w ⟨rfl, _, hq.symm, rfl, h_m.2, h_m_ha.2, hk⟩ (Nat.le_refl _) (Nat.le_refl _) dX6_words_78
            · skip
              have hq := hq.trans (if_pos c6)
              refine lv_aload_n hx hb dX6_words_57 rfl (lv_at hl 0 rfl) ?_
              refine w_get (v := .ref m_ke) hx hb hts i_X6 hown hK w h_m rfl 4 (by decide) (hts _ m_0) rfl dX6_words_58 ?_
              refine lv_iload_n hx hb dX6_words_61 rfl (lv_at hl 2 rfl) ?_
              refine w_ild (j := (e0.toNatClampNeg)) hx hb hK w h_m_ke (w_in8 hde) rfl dX6_words_62 ?_
              refine lv_iconst (v := 2) hx hb dX6_words_63 (by decide) ?_
              refine lv_icmp_ne (tgt := 76) hx hb dX6_words_64 (by decide) (fun c7 => ?_) (fun c7 => ?_)
              · skip
                have hq := hq.trans (if_neg c7)
                refine lv_bipush (v := (-12)) hx hb dX6_words_76 (by decide) ?_
                exact w_iret hx hb hr hlocks w ⟨rfl, _, hq.symm, rfl, h_m.2, h_m_ha.2, hk⟩ (Nat.le_refl _) (Nat.le_refl _) dX6_words_78
              · skip
                have hq := hq.trans (if_pos c7)
                refine lv_aload_n hx hb dX6_words_67 rfl (lv_at hl 0 rfl) ?_
                refine w_get (v := .ref m_so) hx hb hts i_X6 hown hK w h_m rfl 5 (by decide) (hts _ m_2) rfl dX6_words_68 ?_
                refine lv_iload_n hx hb dX6_words_71 rfl (lv_at hl 2 rfl) ?_
                refine w_ild (j := (e0.toNatClampNeg)) hx hb hK w h_m_so (w_in8 hde) rfl dX6_words_72 ?_
                refine lv_if_eq (tgt := 79) hx hb dX6_words_73 (by decide) (fun c8 => ?_) (fun c8 => ?_)
                · skip
                  have hq := hq.trans (if_pos c8)
                  refine lv_aload_n hx hb dX6_words_79 rfl (lv_at hl 0 rfl) ?_
                  refine lv_iload_n hx hb dX6_words_80 rfl (lv_at hl 1 rfl) ?_
                  refine w_finj (w_runV (rm := ({ frames := 3, cells := 0, slots := 0, locals := 67 } : Room)) (As := [.int d]) (rest := []) (n := 1) hx hb hml hts hown hK w (c_X6_takesRow l D cI cP cS cL L _ m d m_ss m_im m_re m_sa m_ke m_so m_si m_el m_kd m_kt m_hi m_th m_po m_ba m_en m_tl m_nu m_ca m_ha m_hs m_co m_ss_f m_ke_f m_so_f m_si_f m_el_f m_ha_f h_m h_m_ss h_m_ke h_m_so h_m_si h_m_el h_m_ha hsi hsi0 hhs ne_m_ss_m_ha ne_m_ke_m_ha ne_m_so_m_ha ne_m_si_m_ha ne_m_el_m_ha) gX6_words_X6_takesRow rfl rfl rfl (by decide +kernel) ⟨(Nat.le_of_ble_eq_true rfl), (Nat.le_of_ble_eq_true rfl)⟩ h_m rfl rfl hl.1 rfl (Nat.le_of_ble_eq_true rfl) dX6_words_81 ⟨(Nat.le_of_ble_eq_true rfl), (Nat.le_of_ble_eq_true rfl)⟩) w hA (fun r9 F1 H locs hp w => ?_)
                  obtain ⟨x81, hx81, e81_0, e81_1, e81_2, hr9, hw0, hw1, hk9⟩ := hp
                  subst hr9
                  have hq := hq.trans (w_bnd hx81)
                  have h_m_ss := h_m_ss.keep hk9 ⟨(wi.ne h_m_ss h_m (by intro h; cases h)), ne_m_ss_m_ha, trivial⟩
                  have h_m_ke := h_m_ke.keep hk9 ⟨(wi.ne h_m_ke h_m (by intro h; cases h)), ne_m_ke_m_ha, trivial⟩
                  have h_m_so := h_m_so.keep hk9 ⟨(wi.ne h_m_so h_m (by intro h; cases h)), ne_m_so_m_ha, trivial⟩
                  have h_m_si := h_m_si.keep hk9 ⟨(wi.ne h_m_si h_m (by intro h; cases h)), ne_m_si_m_ha, trivial⟩
                  have h_m_el := h_m_el.keep hk9 ⟨(wi.ne h_m_el h_m (by intro h; cases h)), ne_m_el_m_ha, trivial⟩
                  have h_m := h_m.new hw0
                  have h_m_ha := h_m_ha.new hw1
                  have hk := hk.call hk9 (fun q h => ⟨h.1, h.2.1, trivial⟩)
                  refine lv_istore (lv' := [(4, .int x81.1), (0, .ref m), (1, .int d), (2, .int e0), (3, .int what)]) hx hb dX6_words_84 hl (by decide) rfl (fun ls hl => ?_)
                  refine lv_iload hx hb dX6_words_86 (lv_at hl 0 rfl) ?_
                  refine lv_if_eq (tgt := 94) hx hb dX6_words_88 (by decide) (fun c9 => ?_) (fun c9 => ?_)
                  · skip
                    have hq := hq.trans (if_pos c9)
                    refine lv_aload_n hx hb dX6_words_94 rfl (lv_at hl 1 rfl) ?_
                    refine w_get (v := .ref m_si) hx hb hts i_X6 hown hK w h_m rfl 6 (by decide) (hts _ m_3) rfl dX6_words_95 ?_
                    refine lv_iload_n hx hb dX6_words_98 rfl (lv_at hl 3 rfl) ?_
                    refine w_ild (j := (e0.toNatClampNeg)) hx hb hK w h_m_si (w_in8 hde) rfl dX6_words_99 ?_
                    refine lv_aload_n hx hb dX6_words_100 rfl (lv_at hl 1 rfl) ?_
                    refine w_get (v := .ref m_si) hx hb hts i_X6 hown hK w h_m rfl 6 (by decide) (hts _ m_3) rfl dX6_words_101 ?_
                    refine lv_iload_n hx hb dX6_words_104 rfl (lv_at hl 2 rfl) ?_
                    refine w_ild (j := (d.toNatClampNeg)) hx hb hK w h_m_si (w_in8 hd0) rfl dX6_words_105 ?_
                    refine lv_icmp_eq (tgt := 112) hx hb dX6_words_106 (by decide) (fun c10 => ?_) (fun c10 => ?_)
                    · skip
                      have hq := hq.trans (if_pos c10)
                      refine lv_iconst (v := 0) hx hb dX6_words_112 (by decide) ?_
                      refine lv_istore (lv' := [(5, .int 0), (4, .int x81.1), (0, .ref m), (1, .int d), (2, .int e0), (3, .int what)]) hx hb dX6_words_113 hl (by decide) rfl (fun ls hl => ?_)
                      refine lv_iconst (v := 0) hx hb dX6_words_115 (by decide) ?_
                      refine lv_istore (lv' := [(6, .int 0), (5, .int 0), (4, .int x81.1), (0, .ref m), (1, .int d), (2, .int e0), (3, .int what)]) hx hb dX6_words_116 hl (by decide) rfl (fun ls hl => ?_)
                      have hL118 : ∀ (n k : Nat) (v5 : Int32) (F1 : Nat → va_E) (H : Heap) (locs : List Loc) (ls : Array Slot), k ≤ x81.2.2.toNatClampNeg → x81.2.2.toNatClampNeg - k < n → f_X6_words d e0 what m_hs m_ss_f m_ke_f m_so_f m_si_f m_el_f m_ha_f = f_X6_words_L118 e0 what m_ss_f m_el_f x81 n k v5 → lv_has ls 8 [(0, .ref m), (1, .int d), (2, .int e0), (3, .int what), (4, .int x81.1), (5, .int v5), (6, .int (nI k))] → ww D A sZ.heap L F1 H locs → (wi L F1 m (eM m_ss m_im m_re m_sa m_ke m_so m_si m_el m_kd m_kt m_hi m_th m_po m_ba m_en m_tl m_nu m_ca m_ha x81.2.2 m_co)) → (wi L F1 m_ss (eI cI 55 m_ss_f)) → (wi L F1 m_ke (eI cI 8 m_ke_f)) → (wi L F1 m_so (eI cI 8 m_so_f)) → (wi L F1 m_si (eI cI 8 m_si_f)) → (wi L F1 m_el (eI cI 800 m_el_f)) → (wi L F1 m_ha (eI cI 100 x81.2.1)) → wk (fun q : Nat => q ≠ m ∧ q ≠ m_ha ∧ True) F1 F → W pZ l eZ ({ frames := 5, cells := 0, slots := 0, locals := 113 } : Room) sZ mZ [.ref m, .int d, .int e0, .int what].toArray below meth cZ H locs 0 0 (MQ below (wQi D A (fun r1 L1 F1 => L1 = L ∧ ∃ y9 : Int32 × (Nat → Int32) × Int32, y9 = (f_X6_words d e0 what m_hs m_ss_f m_ke_f m_so_f m_si_f m_el_f m_ha_f) ∧ r1 = y9.1 ∧ F1 m = (eM m_ss m_im m_re m_sa m_ke m_so m_si m_el m_kd m_kt m_hi m_th m_po m_ba m_en m_tl m_nu m_ca m_ha y9.2.2 m_co) ∧ F1 m_ha = (eI cI 100 y9.2.1) ∧ wk (fun q : Nat => q ≠ m ∧ q ≠ m_ha ∧ True) F1 F)) [.ref m, .int d, .int e0, .int what].toArray sZ 0 0 A) (F0 mZ 118 ls []) := by
                        intro n; induction n with
                        | zero => intro k v5 F1 H locs ls hkT hmeas; exact absurd hmeas (Nat.not_lt_zero _)
                        | succ n ih =>
                          intro k v5 F1 H locs ls hkT hmeas hq hl w h_m h_m_ss h_m_ke h_m_so h_m_si h_m_el h_m_ha hk
                          have hk31 : k < 2147483648 := Nat.lt_of_le_of_lt hkT (w_clamp_lt _)
                          have hq := hq.trans (f_X6_words_L118_s e0 what m_ss_f m_el_f x81 n k v5)
                          refine lv_iload hx hb dX6_words_118 (lv_at hl 6 rfl) ?_
                          refine lv_aload_n hx hb dX6_words_120 rfl (lv_at hl 0 rfl) ?_
                          refine w_get (v := .int x81.2.2) hx hb hts i_X6 hown hK w h_m rfl 19 (by decide) (hts _ m_4) rfl dX6_words_121 ?_
                          refine lv_icmp_ge (tgt := 191) hx hb dX6_words_124 (by decide) (fun c11 => ?_) (fun c11 => ?_)
                          · skip
                            have hq := hq.trans (if_pos c11)
                            refine lv_iload hx hb dX6_words_191 (lv_at hl 5 rfl) ?_
                            exact w_iret hx hb hr hlocks w ⟨rfl, _, hq.symm, rfl, h_m.2, h_m_ha.2, hk⟩ (Nat.le_refl _) (Nat.le_refl _) dX6_words_193
                          · skip
                            have hq := hq.trans (if_neg c11)
                            have hlt124 : k < x81.2.2.toNatClampNeg := w_ltk hk31 c11
                            have hk100 : k < 100 := w_k100 hlt124 e81_0
                            refine lv_aload_n hx hb dX6_words_127 rfl (lv_at hl 0 rfl) ?_
                            refine w_get (v := .ref m_el) hx hb hts i_X6 hown hK w h_m rfl 7 (by decide) (hts _ m_5) rfl dX6_words_128 ?_
                            refine lv_bipush (v := 100) hx hb dX6_words_131 (by decide) ?_
                            refine lv_iload_n hx hb dX6_words_133 rfl (lv_at hl 2 rfl) ?_
                            refine lv_imul hx hb dX6_words_134 ?_
                            refine lv_iload hx hb dX6_words_135 (lv_at hl 6 rfl) ?_
                            refine lv_iadd hx hb dX6_words_137 ?_
                            refine w_ild (j := (100 * e0.toNatClampNeg + k)) hx hb hK w h_m_el (elix hde (by omega)) (elix_n (by assumption) (by omega)) dX6_words_138 ?_
                            refine lv_aload_n hx hb dX6_words_139 rfl (lv_at hl 0 rfl) ?_
                            refine lv_aload_n hx hb dX6_words_140 rfl (lv_at hl 0 rfl) ?_
                            refine w_get (v := .ref m_ha) hx hb hts i_X6 hown hK w h_m rfl 18 (by decide) (hts _ m_6) rfl dX6_words_141 ?_
                            refine lv_iload hx hb dX6_words_144 (lv_at hl 6 rfl) ?_
                            refine w_ild (j := k) hx hb hK w h_m_ha (vp_in_nI (by omega) (by omega)) (nI_clamp (by omega)) dX6_words_146 ?_
                            refine w_finI (w_runV (rm := ({ frames := 4, cells := 0, slots := 0, locals := 90 } : Room)) (As := [.int (x81.2.1 k)]) (rest := [.int (m_el_f (100 * e0.toNatClampNeg + k))]) (n := 1) hx hb hml hts hown hK w (c_X6_stepsFor l D cI cP cS cL L _ m (x81.2.1 k) m_ss m_im m_re m_sa m_ke m_so m_si m_el m_kd m_kt m_hi m_th m_po m_ba m_en m_tl m_nu m_ca m_ha x81.2.2 m_co m_ss_f h_m h_m_ss hd1) gX6_words_X6_stepsFor rfl rfl rfl (by decide +kernel) ⟨(Nat.le_of_ble_eq_true rfl), (Nat.le_of_ble_eq_true rfl)⟩ h_m rfl rfl hl.1 rfl (Nat.le_of_ble_eq_true rfl) dX6_words_147 ⟨(Nat.le_of_ble_eq_true rfl), (Nat.le_of_ble_eq_true rfl)⟩) w hA (fun H locs w => ?_)
                            refine lv_isub hx hb dX6_words_150 ?_
                            refine lv_istore (lv' := [(7, .int ((m_el_f (100 * e0.toNatClampNeg + k)) - (f_X6_stepsFor (x81.2.1 k) m_ss_f))), (0, .ref m), (1, .int d), (2, .int e0), (3, .int what), (4, .int x81.1), (5, .int v5), (6, .int (nI k))]) hx hb dX6_words_151 hl (by decide) rfl (fun ls hl => ?_)
                            refine lv_iload hx hb dX6_words_153 (lv_at hl 6 rfl) ?_
                            refine lv_iload_n hx hb dX6_words_155 rfl (lv_at hl 4 rfl) ?_
                            refine lv_if_ne (tgt := 172) hx hb dX6_words_156 (by decide) (fun c12 => ?_) (fun c12 => ?_)
                            · skip
                              have hq := hq.trans (if_neg c12)
                              refine lv_iload hx hb dX6_words_172 (lv_at hl 0 rfl) ?_
                              refine lv_if_le (tgt := 181) hx hb dX6_words_174 (by decide) (fun c13 => ?_) (fun c13 => ?_)
                              · skip
                                have hq := hq.trans (if_pos c13)
                                refine lv_iconst (v := 0) hx hb dX6_words_181 (by decide) ?_
                                refine lv_iadd hx hb dX6_words_182 ?_
                                refine lv_istore (lv' := [(5, .int (v5 + 0)), (7, .int ((m_el_f (100 * e0.toNatClampNeg + k)) - (f_X6_stepsFor (x81.2.1 k) m_ss_f))), (0, .ref m), (1, .int d), (2, .int e0), (3, .int what), (4, .int x81.1), (6, .int (nI k))]) hx hb dX6_words_183 hl (by decide) rfl (fun ls hl => ?_)
                                refine lv_iinc (v := (nI (k + 1))) (lv' := [(6, .int (nI (k + 1))), (5, .int (v5 + 0)), (7, .int ((m_el_f (100 * e0.toNatClampNeg + k)) - (f_X6_stepsFor (x81.2.1 k) m_ss_f))), (0, .ref m), (1, .int d), (2, .int e0), (3, .int what), (4, .int x81.1)]) hx hb dX6_words_185 hl (k := 7) rfl (w_inc _) (by decide) rfl (fun ls hl => ?_)
                                refine lv_goto (tgt := 118) hx hb dX6_words_188 (by decide) ?_
                                exact ih ((k + 1)) (v5 + 0) _ _ _ _ (by omega) (by omega) hq (lv_sub hl [3, 4, 5, 6, 7, 1, 0] rfl) w h_m h_m_ss h_m_ke h_m_so h_m_si h_m_el h_m_ha hk
                              · skip
                                have hq := hq.trans (if_neg c13)
                                refine lv_iconst (v := 1) hx hb dX6_words_177 (by decide) ?_
                                refine lv_goto (tgt := 182) hx hb dX6_words_178 (by decide) ?_
                                refine lv_iadd hx hb dX6_words_182 ?_
                                refine lv_istore (lv' := [(5, .int (v5 + 1)), (7, .int ((m_el_f (100 * e0.toNatClampNeg + k)) - (f_X6_stepsFor (x81.2.1 k) m_ss_f))), (0, .ref m), (1, .int d), (2, .int e0), (3, .int what), (4, .int x81.1), (6, .int (nI k))]) hx hb dX6_words_183 hl (by decide) rfl (fun ls hl => ?_)
                                refine lv_iinc (v := (nI (k + 1))) (lv' := [(6, .int (nI (k + 1))), (5, .int (v5 + 1)), (7, .int ((m_el_f (100 * e0.toNatClampNeg + k)) - (f_X6_stepsFor (x81.2.1 k) m_ss_f))), (0, .ref m), (1, .int d), (2, .int e0), (3, .int what), (4, .int x81.1)]) hx hb dX6_words_185 hl (k := 7) rfl (w_inc _) (by decide) rfl (fun ls hl => ?_)
                                refine lv_goto (tgt := 118) hx hb dX6_words_188 (by decide) ?_
                                exact ih ((k + 1)) (v5 + 1) _ _ _ _ (by omega) (by omega) hq (lv_sub hl [3, 4, 5, 6, 7, 1, 0] rfl) w h_m h_m_ss h_m_ke h_m_so h_m_si h_m_el h_m_ha hk
                            · skip
                              have hq := hq.trans (if_pos c12)
                              refine lv_iload hx hb dX6_words_159 (lv_at hl 0 rfl) ?_
                              refine lv_if_ne (tgt := 168) hx hb dX6_words_161 (by decide) (fun c14 => ?_) (fun c14 => ?_)
                              · skip
                                have hq := hq.trans (if_neg c14)
                                refine lv_iconst (v := 0) hx hb dX6_words_168 (by decide) ?_
                                refine lv_goto (tgt := 182) hx hb dX6_words_169 (by decide) ?_
                                refine lv_iadd hx hb dX6_words_182 ?_
                                refine lv_istore (lv' := [(5, .int (v5 + 0)), (7, .int ((m_el_f (100 * e0.toNatClampNeg + k)) - (f_X6_stepsFor (x81.2.1 k) m_ss_f))), (0, .ref m), (1, .int d), (2, .int e0), (3, .int what), (4, .int x81.1), (6, .int (nI k))]) hx hb dX6_words_183 hl (by decide) rfl (fun ls hl => ?_)
                                refine lv_iinc (v := (nI (k + 1))) (lv' := [(6, .int (nI (k + 1))), (5, .int (v5 + 0)), (7, .int ((m_el_f (100 * e0.toNatClampNeg + k)) - (f_X6_stepsFor (x81.2.1 k) m_ss_f))), (0, .ref m), (1, .int d), (2, .int e0), (3, .int what), (4, .int x81.1)]) hx hb dX6_words_185 hl (k := 7) rfl (w_inc _) (by decide) rfl (fun ls hl => ?_)
                                refine lv_goto (tgt := 118) hx hb dX6_words_188 (by decide) ?_
                                exact ih ((k + 1)) (v5 + 0) _ _ _ _ (by omega) (by omega) hq (lv_sub hl [3, 4, 5, 6, 7, 1, 0] rfl) w h_m h_m_ss h_m_ke h_m_so h_m_si h_m_el h_m_ha hk
                              · skip
                                have hq := hq.trans (if_pos c14)
                                refine lv_iconst (v := 1) hx hb dX6_words_164 (by decide) ?_
                                refine lv_goto (tgt := 182) hx hb dX6_words_165 (by decide) ?_
                                refine lv_iadd hx hb dX6_words_182 ?_
                                refine lv_istore (lv' := [(5, .int (v5 + 1)), (7, .int ((m_el_f (100 * e0.toNatClampNeg + k)) - (f_X6_stepsFor (x81.2.1 k) m_ss_f))), (0, .ref m), (1, .int d), (2, .int e0), (3, .int what), (4, .int x81.1), (6, .int (nI k))]) hx hb dX6_words_183 hl (by decide) rfl (fun ls hl => ?_)
                                refine lv_iinc (v := (nI (k + 1))) (lv' := [(6, .int (nI (k + 1))), (5, .int (v5 + 1)), (7, .int ((m_el_f (100 * e0.toNatClampNeg + k)) - (f_X6_stepsFor (x81.2.1 k) m_ss_f))), (0, .ref m), (1, .int d), (2, .int e0), (3, .int what), (4, .int x81.1)]) hx hb dX6_words_185 hl (k := 7) rfl (w_inc _) (by decide) rfl (fun ls hl => ?_)
                                refine lv_goto (tgt := 118) hx hb dX6_words_188 (by decide) ?_
                                exact ih ((k + 1)) (v5 + 1) _ _ _ _ (by omega) (by omega) hq (lv_sub hl [3, 4, 5, 6, 7, 1, 0] rfl) w h_m h_m_ss h_m_ke h_m_so h_m_si h_m_el h_m_ha hk
                      exact hL118 (x81.2.2.toNatClampNeg + 1) 0 0 _ _ _ _ (Nat.zero_le _) (by omega) hq (lv_sub hl [3, 4, 5, 6, 2, 1, 0] rfl) w h_m h_m_ss h_m_ke h_m_so h_m_si h_m_el h_m_ha hk
                    · skip
                      have hq := hq.trans (if_neg c10)
                      refine lv_bipush (v := (-13)) hx hb dX6_words_109 (by decide) ?_
                      exact w_iret hx hb hr hlocks w ⟨rfl, _, hq.symm, rfl, h_m.2, h_m_ha.2, hk⟩ (Nat.le_refl _) (Nat.le_refl _) dX6_words_111
                  · skip
                    have hq := hq.trans (if_neg c9)
                    refine lv_iload hx hb dX6_words_91 (lv_at hl 0 rfl) ?_
                    exact w_iret hx hb hr hlocks w ⟨rfl, _, hq.symm, rfl, h_m.2, h_m_ha.2, hk⟩ (Nat.le_refl _) (Nat.le_refl _) dX6_words_93
                · skip
                  have hq := hq.trans (if_neg c8)
                  refine lv_bipush (v := (-12)) hx hb dX6_words_76 (by decide) ?_
                  exact w_iret hx hb hr hlocks w ⟨rfl, _, hq.symm, rfl, h_m.2, h_m_ha.2, hk⟩ (Nat.le_refl _) (Nat.le_refl _) dX6_words_78
          · skip
            have hq := hq.trans (if_pos c5)
            refine lv_bipush (v := (-11)) hx hb dX6_words_44 (by decide) ?_
            exact w_iret hx hb hr hlocks w ⟨rfl, _, hq.symm, rfl, h_m.2, h_m_ha.2, hk⟩ (Nat.le_refl _) (Nat.le_refl _) dX6_words_46
      · skip
        have hq := hq.trans (if_pos c3)
        refine lv_iconst (v := (-1)) hx hb dX6_words_24 (by decide) ?_
        exact w_iret hx hb hr hlocks w ⟨rfl, _, hq.symm, rfl, h_m.2, h_m_ha.2, hk⟩ (Nat.le_refl _) (Nat.le_refl _) dX6_words_25
def f_X6_ahead_L38 (up : Int32) (down : Int32) (m_ss_f : Nat → Int32) (x19 : Int32 × (Nat → Int32) × Int32) : Nat → Nat → Int32 → Int32 × (Nat → Int32) × Int32
  | 0, _, _ => (0, (fun _ => 0), 0)
  | n + 1, k, v5 => if x19.2.2 ≤ (nI k) then (v5, x19.2.1, x19.2.2) else (f_X6_ahead_L38 up down m_ss_f x19 n ((k + 1)) (v5 + (f_X6_levelBy (f_X6_stepsFor (x19.2.1 k) m_ss_f) up down m_ss_f)))
theorem f_X6_ahead_L38_s (up : Int32) (down : Int32) (m_ss_f : Nat → Int32) (x19 : Int32 × (Nat → Int32) × Int32) (n k : Nat) (v5 : Int32) : f_X6_ahead_L38 up down m_ss_f x19 (n + 1) k v5 = (if x19.2.2 ≤ (nI k) then (v5, x19.2.1, x19.2.2) else (f_X6_ahead_L38 up down m_ss_f x19 n ((k + 1)) (v5 + (f_X6_levelBy (f_X6_stepsFor (x19.2.1 k) m_ss_f) up down m_ss_f)))) := rfl
def f_X6_ahead (d : Int32) (up : Int32) (down : Int32) (m_hs : Int32) (m_ss_f : Nat → Int32) (m_ke_f : Nat → Int32) (m_so_f : Nat → Int32) (m_si_f : Nat → Int32) (m_el_f : Nat → Int32) (m_ha_f : Nat → Int32) : Int32 × (Nat → Int32) × Int32 := if (f_X6_isShelf d) = (0 : Int32) then ((-1), m_ha_f, m_hs) else (if (f_X6_isShare up down) = (0 : Int32) then ((-1), m_ha_f, m_hs) else (bnd (f_X6_takesRow d m_hs m_ss_f m_ke_f m_so_f m_si_f m_el_f m_ha_f) (fun x19 : Int32 × (Nat → Int32) × Int32 => if x19.1 = (0 : Int32) then (f_X6_ahead_L38 up down m_ss_f x19 (x19.2.2.toNatClampNeg + 1) 0 0) else (x19.1, x19.2.1, x19.2.2))))
set_option maxHeartbeats 400000 in
set_option maxRecDepth 100000 in
theorem c_X6_ahead (l : Launch) (D : va_G) (cI cP cS cL : ClassId) (L : List Nat) (F : Nat → va_E) (m : Nat) (d : Int32) (up : Int32) (down : Int32) (m_ss : Nat) (m_im : Nat) (m_re : Nat) (m_sa : Nat) (m_ke : Nat) (m_so : Nat) (m_si : Nat) (m_el : Nat) (m_kd : Nat) (m_kt : Nat) (m_hi : Int32) (m_th : Int32) (m_po : Int32) (m_ba : Int32) (m_en : Int32) (m_tl : Int32) (m_nu : Nat) (m_ca : Nat) (m_ha : Nat) (m_hs : Int32) (m_co : Nat) (m_ss_f : Nat → Int32) (m_ke_f : Nat → Int32) (m_so_f : Nat → Int32) (m_si_f : Nat → Int32) (m_el_f : Nat → Int32) (m_ha_f : Nat → Int32) (h_m : wi L F m (eM m_ss m_im m_re m_sa m_ke m_so m_si m_el m_kd m_kt m_hi m_th m_po m_ba m_en m_tl m_nu m_ca m_ha m_hs m_co)) (h_m_ss : wi L F m_ss (eI cI 55 m_ss_f)) (h_m_ke : wi L F m_ke (eI cI 8 m_ke_f)) (h_m_so : wi L F m_so (eI cI 8 m_so_f)) (h_m_si : wi L F m_si (eI cI 8 m_si_f)) (h_m_el : wi L F m_el (eI cI 800 m_el_f)) (h_m_ha : wi L F m_ha (eI cI 100 m_ha_f)) (hsi : ∀ i, i < 8 → (m_si_f i).toInt ≤ 100) (hsi0 : ∀ i, i < 8 → 0 ≤ (m_si_f i).toInt) (hhs : m_hs.toInt ≤ 100) (hd1 : ¬ (m_ss_f 1) = 0) (ne_m_ss_m_ha : m_ss ≠ m_ha) (ne_m_ke_m_ha : m_ke ≠ m_ha) (ne_m_so_m_ha : m_so ≠ m_ha) (ne_m_si_m_ha : m_si ≠ m_ha) (ne_m_el_m_ha : m_el ≠ m_ha) : wMj l D cI cP cS cL yX6_ahead wsX6_ahead ({ frames := 5, cells := 0, slots := 0, locals := 113 } : Room) [.ref m, .int d, .int up, .int down] L F (fun r1 F1 => ∃ y9 : Int32 × (Nat → Int32) × Int32, y9 = (f_X6_ahead d up down m_hs m_ss_f m_ke_f m_so_f m_si_f m_el_f m_ha_f) ∧ r1 = y9.1 ∧ F1 m = (eM m_ss m_im m_re m_sa m_ke m_so m_si m_el m_kd m_kt m_hi m_th m_po m_ba m_en m_tl m_nu m_ca m_ha y9.2.2 m_co) ∧ F1 m_ha = (eI cI 100 y9.2.1) ∧ wk (fun q : Nat => q ≠ m ∧ q ≠ m_ha ∧ True) F1 F) := by
  refine wM.of (cc := cX6_ahead) (maxL := 7) (ret := (some .int)) (by decide) rfl (Nat.le_of_ble_eq_true rfl) ?_
  intro pZ eZ sZ mZ below meth cZ A ls C hl w
  obtain ⟨hx, hb, hr, hml, hts, hown, hlocks, hK, hA, hin⟩ := C
  have hown : sZ.vm.findClass RX6 = some mZ.cls := hown
  have hl : lv_has ls 7 [(0, .ref m), (1, .int d), (2, .int up), (3, .int down)] := hl
  have m_0 : ((.fieldLink RX6 171 "TwoThirdsModel" "hands" "I") : Cond) ∈ wsX6_ahead := by decide +kernel
  have i_X6 : ∀ w ∈ wsX60, w ∈ wsX6_ahead := by decide +kernel
  have m_2 : ((.fieldLink RX6 46 "TwoThirdsModel" "hand" "[I") : Cond) ∈ wsX6_ahead := by decide +kernel
  have hk : wk (fun q : Nat => q ≠ m ∧ q ≠ m_ha ∧ True) F F := wk.rf
  have hq : f_X6_ahead d up down m_hs m_ss_f m_ke_f m_so_f m_si_f m_el_f m_ha_f = f_X6_ahead d up down m_hs m_ss_f m_ke_f m_so_f m_si_f m_el_f m_ha_f := rfl
  refine lv_iload_n hx hb dX6_ahead_0 rfl (lv_at hl 1 rfl) ?_
  refine w_finI (w_runS (rm := ({ frames := 1, cells := 0, slots := 0, locals := 25 } : Room)) (As := [.int d]) (rest := []) (n := 1) hx hb hml hts hown hK w (c_X6_isShelf l D cI cP cS cL L _ d ) gX6_ahead_X6_isShelf rfl rfl rfl (by decide +kernel) ⟨(Nat.le_of_ble_eq_true rfl), (Nat.le_of_ble_eq_true rfl)⟩ rfl hl.1 rfl (Nat.le_of_ble_eq_true rfl) dX6_ahead_1 ⟨(Nat.le_of_ble_eq_true rfl), (Nat.le_of_ble_eq_true rfl)⟩) w hA (fun H locs w => ?_)
  refine lv_if_eq (tgt := 15) hx hb dX6_ahead_4 (by decide) (fun c1 => ?_) (fun c1 => ?_)
  · skip
    have hq := hq.trans (if_pos c1)
    refine lv_iconst (v := (-1)) hx hb dX6_ahead_15 (by decide) ?_
    exact w_iret hx hb hr hlocks w ⟨rfl, _, hq.symm, rfl, h_m.2, h_m_ha.2, hk⟩ (Nat.le_refl _) (Nat.le_refl _) dX6_ahead_16
  · skip
    have hq := hq.trans (if_neg c1)
    refine lv_iload_n hx hb dX6_ahead_7 rfl (lv_at hl 2 rfl) ?_
    refine lv_iload_n hx hb dX6_ahead_8 rfl (lv_at hl 3 rfl) ?_
    refine w_finI (w_runS (rm := ({ frames := 1, cells := 0, slots := 0, locals := 25 } : Room)) (As := [.int up, .int down]) (rest := []) (n := 2) hx hb hml hts hown hK w (c_X6_isShare l D cI cP cS cL L _ up down ) gX6_ahead_X6_isShare rfl rfl rfl (by decide +kernel) ⟨(Nat.le_of_ble_eq_true rfl), (Nat.le_of_ble_eq_true rfl)⟩ rfl hl.1 rfl (Nat.le_of_ble_eq_true rfl) dX6_ahead_9 ⟨(Nat.le_of_ble_eq_true rfl), (Nat.le_of_ble_eq_true rfl)⟩) w hA (fun H locs w => ?_)
    refine lv_if_ne (tgt := 17) hx hb dX6_ahead_12 (by decide) (fun c2 => ?_) (fun c2 => ?_)
    · skip
      have hq := hq.trans (if_neg c2)
      have hdn : ¬ down = 0 := isShare_dn c2
      refine lv_aload_n hx hb dX6_ahead_17 rfl (lv_at hl 0 rfl) ?_
      refine lv_iload_n hx hb dX6_ahead_18 rfl (lv_at hl 1 rfl) ?_
      refine w_finj (w_runV (rm := ({ frames := 3, cells := 0, slots := 0, locals := 67 } : Room)) (As := [.int d]) (rest := []) (n := 1) hx hb hml hts hown hK w (c_X6_takesRow l D cI cP cS cL L _ m d m_ss m_im m_re m_sa m_ke m_so m_si m_el m_kd m_kt m_hi m_th m_po m_ba m_en m_tl m_nu m_ca m_ha m_hs m_co m_ss_f m_ke_f m_so_f m_si_f m_el_f m_ha_f h_m h_m_ss h_m_ke h_m_so h_m_si h_m_el h_m_ha hsi hsi0 hhs ne_m_ss_m_ha ne_m_ke_m_ha ne_m_so_m_ha ne_m_si_m_ha ne_m_el_m_ha) gX6_ahead_X6_takesRow rfl rfl rfl (by decide +kernel) ⟨(Nat.le_of_ble_eq_true rfl), (Nat.le_of_ble_eq_true rfl)⟩ h_m rfl rfl hl.1 rfl (Nat.le_of_ble_eq_true rfl) dX6_ahead_19 ⟨(Nat.le_of_ble_eq_true rfl), (Nat.le_of_ble_eq_true rfl)⟩) w hA (fun r9 F1 H locs hp w => ?_)
      obtain ⟨x19, hx19, e19_0, e19_1, e19_2, hr9, hw0, hw1, hk9⟩ := hp
      subst hr9
      have hq := hq.trans (w_bnd hx19)
      have h_m_ss := h_m_ss.keep hk9 ⟨(wi.ne h_m_ss h_m (by intro h; cases h)), ne_m_ss_m_ha, trivial⟩
      have h_m_ke := h_m_ke.keep hk9 ⟨(wi.ne h_m_ke h_m (by intro h; cases h)), ne_m_ke_m_ha, trivial⟩
      have h_m_so := h_m_so.keep hk9 ⟨(wi.ne h_m_so h_m (by intro h; cases h)), ne_m_so_m_ha, trivial⟩
      have h_m_si := h_m_si.keep hk9 ⟨(wi.ne h_m_si h_m (by intro h; cases h)), ne_m_si_m_ha, trivial⟩
      have h_m_el := h_m_el.keep hk9 ⟨(wi.ne h_m_el h_m (by intro h; cases h)), ne_m_el_m_ha, trivial⟩
      have h_m := h_m.new hw0
      have h_m_ha := h_m_ha.new hw1
      have hk := hk.call hk9 (fun q h => ⟨h.1, h.2.1, trivial⟩)
      refine lv_istore (lv' := [(4, .int x19.1), (0, .ref m), (1, .int d), (2, .int up), (3, .int down)]) hx hb dX6_ahead_22 hl (by decide) rfl (fun ls hl => ?_)
      refine lv_iload hx hb dX6_ahead_24 (lv_at hl 0 rfl) ?_
      refine lv_if_eq (tgt := 32) hx hb dX6_ahead_26 (by decide) (fun c3 => ?_) (fun c3 => ?_)
      · skip
        have hq := hq.trans (if_pos c3)
        refine lv_iconst (v := 0) hx hb dX6_ahead_32 (by decide) ?_
        refine lv_istore (lv' := [(5, .int 0), (4, .int x19.1), (0, .ref m), (1, .int d), (2, .int up), (3, .int down)]) hx hb dX6_ahead_33 hl (by decide) rfl (fun ls hl => ?_)
        refine lv_iconst (v := 0) hx hb dX6_ahead_35 (by decide) ?_
        refine lv_istore (lv' := [(6, .int 0), (5, .int 0), (4, .int x19.1), (0, .ref m), (1, .int d), (2, .int up), (3, .int down)]) hx hb dX6_ahead_36 hl (by decide) rfl (fun ls hl => ?_)
        have hL38 : ∀ (n k : Nat) (v5 : Int32) (F1 : Nat → va_E) (H : Heap) (locs : List Loc) (ls : Array Slot), k ≤ x19.2.2.toNatClampNeg → x19.2.2.toNatClampNeg - k < n → f_X6_ahead d up down m_hs m_ss_f m_ke_f m_so_f m_si_f m_el_f m_ha_f = f_X6_ahead_L38 up down m_ss_f x19 n k v5 → lv_has ls 7 [(0, .ref m), (1, .int d), (2, .int up), (3, .int down), (4, .int x19.1), (5, .int v5), (6, .int (nI k))] → ww D A sZ.heap L F1 H locs → (wi L F1 m (eM m_ss m_im m_re m_sa m_ke m_so m_si m_el m_kd m_kt m_hi m_th m_po m_ba m_en m_tl m_nu m_ca m_ha x19.2.2 m_co)) → (wi L F1 m_ss (eI cI 55 m_ss_f)) → (wi L F1 m_ke (eI cI 8 m_ke_f)) → (wi L F1 m_so (eI cI 8 m_so_f)) → (wi L F1 m_si (eI cI 8 m_si_f)) → (wi L F1 m_el (eI cI 800 m_el_f)) → (wi L F1 m_ha (eI cI 100 x19.2.1)) → wk (fun q : Nat => q ≠ m ∧ q ≠ m_ha ∧ True) F1 F → W pZ l eZ ({ frames := 5, cells := 0, slots := 0, locals := 113 } : Room) sZ mZ [.ref m, .int d, .int up, .int down].toArray below meth cZ H locs 0 0 (MQ below (wQi D A (fun r1 L1 F1 => L1 = L ∧ ∃ y9 : Int32 × (Nat → Int32) × Int32, y9 = (f_X6_ahead d up down m_hs m_ss_f m_ke_f m_so_f m_si_f m_el_f m_ha_f) ∧ r1 = y9.1 ∧ F1 m = (eM m_ss m_im m_re m_sa m_ke m_so m_si m_el m_kd m_kt m_hi m_th m_po m_ba m_en m_tl m_nu m_ca m_ha y9.2.2 m_co) ∧ F1 m_ha = (eI cI 100 y9.2.1) ∧ wk (fun q : Nat => q ≠ m ∧ q ≠ m_ha ∧ True) F1 F)) [.ref m, .int d, .int up, .int down].toArray sZ 0 0 A) (F0 mZ 38 ls []) := by
          intro n; induction n with
          | zero => intro k v5 F1 H locs ls hkT hmeas; exact absurd hmeas (Nat.not_lt_zero _)
          | succ n ih =>
            intro k v5 F1 H locs ls hkT hmeas hq hl w h_m h_m_ss h_m_ke h_m_so h_m_si h_m_el h_m_ha hk
            have hk31 : k < 2147483648 := Nat.lt_of_le_of_lt hkT (w_clamp_lt _)
            have hq := hq.trans (f_X6_ahead_L38_s up down m_ss_f x19 n k v5)
            refine lv_iload hx hb dX6_ahead_38 (lv_at hl 6 rfl) ?_
            refine lv_aload_n hx hb dX6_ahead_40 rfl (lv_at hl 0 rfl) ?_
            refine w_get (v := .int x19.2.2) hx hb hts i_X6 hown hK w h_m rfl 19 (by decide) (hts _ m_0) rfl dX6_ahead_41 ?_
            refine lv_icmp_ge (tgt := 75) hx hb dX6_ahead_44 (by decide) (fun c4 => ?_) (fun c4 => ?_)
            · skip
              have hq := hq.trans (if_pos c4)
              refine lv_iload hx hb dX6_ahead_75 (lv_at hl 5 rfl) ?_
              exact w_iret hx hb hr hlocks w ⟨rfl, _, hq.symm, rfl, h_m.2, h_m_ha.2, hk⟩ (Nat.le_refl _) (Nat.le_refl _) dX6_ahead_77
            · skip
              have hq := hq.trans (if_neg c4)
              have hlt44 : k < x19.2.2.toNatClampNeg := w_ltk hk31 c4
              have hk100 : k < 100 := w_k100 hlt44 e19_0
              refine lv_iload hx hb dX6_ahead_47 (lv_at hl 5 rfl) ?_
              refine lv_aload_n hx hb dX6_ahead_49 rfl (lv_at hl 0 rfl) ?_
              refine lv_aload_n hx hb dX6_ahead_50 rfl (lv_at hl 0 rfl) ?_
              refine lv_aload_n hx hb dX6_ahead_51 rfl (lv_at hl 0 rfl) ?_
              refine w_get (v := .ref m_ha) hx hb hts i_X6 hown hK w h_m rfl 18 (by decide) (hts _ m_2) rfl dX6_ahead_52 ?_
              refine lv_iload hx hb dX6_ahead_55 (lv_at hl 6 rfl) ?_
              refine w_ild (j := k) hx hb hK w h_m_ha (vp_in_nI (by omega) (by omega)) (nI_clamp (by omega)) dX6_ahead_57 ?_
              refine w_finI (w_runV (rm := ({ frames := 4, cells := 0, slots := 0, locals := 90 } : Room)) (As := [.int (x19.2.1 k)]) (rest := [.ref m, .int v5]) (n := 1) hx hb hml hts hown hK w (c_X6_stepsFor l D cI cP cS cL L _ m (x19.2.1 k) m_ss m_im m_re m_sa m_ke m_so m_si m_el m_kd m_kt m_hi m_th m_po m_ba m_en m_tl m_nu m_ca m_ha x19.2.2 m_co m_ss_f h_m h_m_ss hd1) gX6_ahead_X6_stepsFor rfl rfl rfl (by decide +kernel) ⟨(Nat.le_of_ble_eq_true rfl), (Nat.le_of_ble_eq_true rfl)⟩ h_m rfl rfl hl.1 rfl (Nat.le_of_ble_eq_true rfl) dX6_ahead_58 ⟨(Nat.le_of_ble_eq_true rfl), (Nat.le_of_ble_eq_true rfl)⟩) w hA (fun H locs w => ?_)
              refine lv_iload_n hx hb dX6_ahead_61 rfl (lv_at hl 2 rfl) ?_
              refine lv_iload_n hx hb dX6_ahead_62 rfl (lv_at hl 3 rfl) ?_
              refine w_finI (w_runV (rm := ({ frames := 2, cells := 0, slots := 0, locals := 44 } : Room)) (As := [.int (f_X6_stepsFor (x19.2.1 k) m_ss_f), .int up, .int down]) (rest := [.int v5]) (n := 3) hx hb hml hts hown hK w (c_X6_levelBy l D cI cP cS cL L _ m (f_X6_stepsFor (x19.2.1 k) m_ss_f) up down m_ss m_im m_re m_sa m_ke m_so m_si m_el m_kd m_kt m_hi m_th m_po m_ba m_en m_tl m_nu m_ca m_ha x19.2.2 m_co m_ss_f h_m h_m_ss hdn) gX6_ahead_X6_levelBy rfl rfl rfl (by decide +kernel) ⟨(Nat.le_of_ble_eq_true rfl), (Nat.le_of_ble_eq_true rfl)⟩ h_m rfl rfl hl.1 rfl (Nat.le_of_ble_eq_true rfl) dX6_ahead_63 ⟨(Nat.le_of_ble_eq_true rfl), (Nat.le_of_ble_eq_true rfl)⟩) w hA (fun H locs w => ?_)
              refine lv_iadd hx hb dX6_ahead_66 ?_
              refine lv_istore (lv' := [(5, .int (v5 + (f_X6_levelBy (f_X6_stepsFor (x19.2.1 k) m_ss_f) up down m_ss_f))), (0, .ref m), (1, .int d), (2, .int up), (3, .int down), (4, .int x19.1), (6, .int (nI k))]) hx hb dX6_ahead_67 hl (by decide) rfl (fun ls hl => ?_)
              refine lv_iinc (v := (nI (k + 1))) (lv' := [(6, .int (nI (k + 1))), (5, .int (v5 + (f_X6_levelBy (f_X6_stepsFor (x19.2.1 k) m_ss_f) up down m_ss_f))), (0, .ref m), (1, .int d), (2, .int up), (3, .int down), (4, .int x19.1)]) hx hb dX6_ahead_69 hl (k := 6) rfl (w_inc _) (by decide) rfl (fun ls hl => ?_)
              refine lv_goto (tgt := 38) hx hb dX6_ahead_72 (by decide) ?_
              exact ih ((k + 1)) (v5 + (f_X6_levelBy (f_X6_stepsFor (x19.2.1 k) m_ss_f) up down m_ss_f)) _ _ _ _ (by omega) (by omega) hq (lv_sub hl [2, 3, 4, 5, 6, 1, 0] rfl) w h_m h_m_ss h_m_ke h_m_so h_m_si h_m_el h_m_ha hk
        exact hL38 (x19.2.2.toNatClampNeg + 1) 0 0 _ _ _ _ (Nat.zero_le _) (by omega) hq (lv_sub hl [3, 4, 5, 6, 2, 1, 0] rfl) w h_m h_m_ss h_m_ke h_m_so h_m_si h_m_el h_m_ha hk
      · skip
        have hq := hq.trans (if_neg c3)
        refine lv_iload hx hb dX6_ahead_29 (lv_at hl 0 rfl) ?_
        exact w_iret hx hb hr hlocks w ⟨rfl, _, hq.symm, rfl, h_m.2, h_m_ha.2, hk⟩ (Nat.le_refl _) (Nat.le_refl _) dX6_ahead_31
    · skip
      have hq := hq.trans (if_pos c2)
      refine lv_iconst (v := (-1)) hx hb dX6_ahead_15 (by decide) ?_
      exact w_iret hx hb hr hlocks w ⟨rfl, _, hq.symm, rfl, h_m.2, h_m_ha.2, hk⟩ (Nat.le_refl _) (Nat.le_refl _) dX6_ahead_16
def f_X6_worth (d : Int32) (k0 : Int32) (m_hs : Int32) (m_ss_f : Nat → Int32) (m_ke_f : Nat → Int32) (m_so_f : Nat → Int32) (m_si_f : Nat → Int32) (m_el_f : Nat → Int32) (m_ha_f : Nat → Int32) : Int64 × (Nat → Int32) × Int32 := if (f_X6_isShelf d) = (0 : Int32) then ((-4000000000000000001), m_ha_f, m_hs) else (if (f_X6_isIn (k0.toInt64) 0 8) = (0 : Int32) then ((-4000000000000000001), m_ha_f, m_hs) else (bnd (f_X6_takesRow d m_hs m_ss_f m_ke_f m_so_f m_si_f m_el_f m_ha_f) (fun x25 : Int32 × (Nat → Int32) × Int32 => if x25.1 = (0 : Int32) then (if (0 : Int32) ≤ (lg_cmp ((((f_X6_levelOf k0 m_ss_f).toInt64) * (f_X6_targetOf 1 x25.2.2 m_ss_f x25.2.1)) - (f_X6_targetOf 0 x25.2.2 m_ss_f x25.2.1)) 0) then (if (0 : Int32) ≤ (lg_cmp ((((f_X6_levelOf (k0 + 1) m_ss_f).toInt64) * (f_X6_targetOf 1 x25.2.2 m_ss_f x25.2.1)) - (f_X6_targetOf 0 x25.2.2 m_ss_f x25.2.1)) 0) then ((((((f_X6_levelOf k0 m_ss_f).toInt64) * (f_X6_targetOf 1 x25.2.2 m_ss_f x25.2.1)) - (f_X6_targetOf 0 x25.2.2 m_ss_f x25.2.1)) - ((((f_X6_levelOf (k0 + 1) m_ss_f).toInt64) * (f_X6_targetOf 1 x25.2.2 m_ss_f x25.2.1)) - (f_X6_targetOf 0 x25.2.2 m_ss_f x25.2.1))), x25.2.1, x25.2.2) else ((((((f_X6_levelOf k0 m_ss_f).toInt64) * (f_X6_targetOf 1 x25.2.2 m_ss_f x25.2.1)) - (f_X6_targetOf 0 x25.2.2 m_ss_f x25.2.1)) - (-((((f_X6_levelOf (k0 + 1) m_ss_f).toInt64) * (f_X6_targetOf 1 x25.2.2 m_ss_f x25.2.1)) - (f_X6_targetOf 0 x25.2.2 m_ss_f x25.2.1)))), x25.2.1, x25.2.2)) else (if (0 : Int32) ≤ (lg_cmp ((((f_X6_levelOf (k0 + 1) m_ss_f).toInt64) * (f_X6_targetOf 1 x25.2.2 m_ss_f x25.2.1)) - (f_X6_targetOf 0 x25.2.2 m_ss_f x25.2.1)) 0) then (((-((((f_X6_levelOf k0 m_ss_f).toInt64) * (f_X6_targetOf 1 x25.2.2 m_ss_f x25.2.1)) - (f_X6_targetOf 0 x25.2.2 m_ss_f x25.2.1))) - ((((f_X6_levelOf (k0 + 1) m_ss_f).toInt64) * (f_X6_targetOf 1 x25.2.2 m_ss_f x25.2.1)) - (f_X6_targetOf 0 x25.2.2 m_ss_f x25.2.1))), x25.2.1, x25.2.2) else (((-((((f_X6_levelOf k0 m_ss_f).toInt64) * (f_X6_targetOf 1 x25.2.2 m_ss_f x25.2.1)) - (f_X6_targetOf 0 x25.2.2 m_ss_f x25.2.1))) - (-((((f_X6_levelOf (k0 + 1) m_ss_f).toInt64) * (f_X6_targetOf 1 x25.2.2 m_ss_f x25.2.1)) - (f_X6_targetOf 0 x25.2.2 m_ss_f x25.2.1)))), x25.2.1, x25.2.2))) else (((-4000000000000000000) + (x25.1.toInt64)), x25.2.1, x25.2.2))))
set_option maxHeartbeats 400000 in
set_option maxRecDepth 100000 in
theorem c_X6_worth (l : Launch) (D : va_G) (cI cP cS cL : ClassId) (L : List Nat) (F : Nat → va_E) (m : Nat) (d : Int32) (k0 : Int32) (m_ss : Nat) (m_im : Nat) (m_re : Nat) (m_sa : Nat) (m_ke : Nat) (m_so : Nat) (m_si : Nat) (m_el : Nat) (m_kd : Nat) (m_kt : Nat) (m_hi : Int32) (m_th : Int32) (m_po : Int32) (m_ba : Int32) (m_en : Int32) (m_tl : Int32) (m_nu : Nat) (m_ca : Nat) (m_ha : Nat) (m_hs : Int32) (m_co : Nat) (m_ss_f : Nat → Int32) (m_ke_f : Nat → Int32) (m_so_f : Nat → Int32) (m_si_f : Nat → Int32) (m_el_f : Nat → Int32) (m_ha_f : Nat → Int32) (h_m : wi L F m (eM m_ss m_im m_re m_sa m_ke m_so m_si m_el m_kd m_kt m_hi m_th m_po m_ba m_en m_tl m_nu m_ca m_ha m_hs m_co)) (h_m_ss : wi L F m_ss (eI cI 55 m_ss_f)) (h_m_ke : wi L F m_ke (eI cI 8 m_ke_f)) (h_m_so : wi L F m_so (eI cI 8 m_so_f)) (h_m_si : wi L F m_si (eI cI 8 m_si_f)) (h_m_el : wi L F m_el (eI cI 800 m_el_f)) (h_m_ha : wi L F m_ha (eI cI 100 m_ha_f)) (hsi : ∀ i, i < 8 → (m_si_f i).toInt ≤ 100) (hsi0 : ∀ i, i < 8 → 0 ≤ (m_si_f i).toInt) (hhs : m_hs.toInt ≤ 100) (hd1 : ¬ (m_ss_f 1) = 0) (hd20 : 1 ≤ (m_ss_f 1).toInt ∧ (m_ss_f 1).toInt ≤ 20) (ne_m_ss_m_ha : m_ss ≠ m_ha) (ne_m_ke_m_ha : m_ke ≠ m_ha) (ne_m_so_m_ha : m_so ≠ m_ha) (ne_m_si_m_ha : m_si ≠ m_ha) (ne_m_el_m_ha : m_el ≠ m_ha) : wMk l D cI cP cS cL yX6_worth wsX6_worth ({ frames := 4, cells := 0, slots := 0, locals := 90 } : Room) [.ref m, .int d, .int k0] L F (fun r1 F1 => ∃ y9 : Int64 × (Nat → Int32) × Int32, y9 = (f_X6_worth d k0 m_hs m_ss_f m_ke_f m_so_f m_si_f m_el_f m_ha_f) ∧ r1 = y9.1 ∧ F1 m = (eM m_ss m_im m_re m_sa m_ke m_so m_si m_el m_kd m_kt m_hi m_th m_po m_ba m_en m_tl m_nu m_ca m_ha y9.2.2 m_co) ∧ F1 m_ha = (eI cI 100 y9.2.1) ∧ wk (fun q : Nat => q ≠ m ∧ q ≠ m_ha ∧ True) F1 F) := by
  refine wM.of (cc := cX6_worth) (maxL := 12) (ret := (some .long)) (by decide) rfl (Nat.le_of_ble_eq_true rfl) ?_
  intro pZ eZ sZ mZ below meth cZ A ls C hl w
  obtain ⟨hx, hb, hr, hml, hts, hown, hlocks, hK, hA, hin⟩ := C
  have hown : sZ.vm.findClass RX6 = some mZ.cls := hown
  have hl : lv_has ls 12 [(0, .ref m), (1, .int d), (2, .int k0)] := hl
  have m_0 : ((.constantLong RX6 224 (-4000000000000000001)) : Cond) ∈ wsX6_worth := by decide +kernel
  have m_1 : ((.constantLong RX6 222 8) : Cond) ∈ wsX6_worth := by decide +kernel
  have m_2 : ((.constantLong RX6 226 (-4000000000000000000)) : Cond) ∈ wsX6_worth := by decide +kernel
  have hk : wk (fun q : Nat => q ≠ m ∧ q ≠ m_ha ∧ True) F F := wk.rf
  have hq : f_X6_worth d k0 m_hs m_ss_f m_ke_f m_so_f m_si_f m_el_f m_ha_f = f_X6_worth d k0 m_hs m_ss_f m_ke_f m_so_f m_si_f m_el_f m_ha_f := rfl
  refine lv_iload_n hx hb dX6_worth_0 rfl (lv_at hl 1 rfl) ?_
  refine w_finI (w_runS (rm := ({ frames := 1, cells := 0, slots := 0, locals := 25 } : Room)) (As := [.int d]) (rest := []) (n := 1) hx hb hml hts hown hK w (c_X6_isShelf l D cI cP cS cL L _ d ) gX6_worth_X6_isShelf rfl rfl rfl (by decide +kernel) ⟨(Nat.le_of_ble_eq_true rfl), (Nat.le_of_ble_eq_true rfl)⟩ rfl hl.1 rfl (Nat.le_of_ble_eq_true rfl) dX6_worth_1 ⟨(Nat.le_of_ble_eq_true rfl), (Nat.le_of_ble_eq_true rfl)⟩) w hA (fun H locs w => ?_)
  refine lv_if_eq (tgt := 19) hx hb dX6_worth_4 (by decide) (fun c1 => ?_) (fun c1 => ?_)
  · skip
    have hq := hq.trans (if_pos c1)
    refine lv_ldc2 (v := (-4000000000000000001)) hx hb hown (hts _ m_0) dX6_worth_19 ?_
    exact w_lret hx hb hr hlocks w ⟨rfl, _, hq.symm, rfl, h_m.2, h_m_ha.2, hk⟩ (Nat.le_refl _) (Nat.le_refl _) dX6_worth_22
  · skip
    have hq := hq.trans (if_neg c1)
    refine lv_iload_n hx hb dX6_worth_7 rfl (lv_at hl 2 rfl) ?_
    refine lv_i2l (v := (k0.toInt64)) hx hb dX6_worth_8 rfl ?_
    refine lv_lconst (v := 0) hx hb dX6_worth_9 (by decide) ?_
    refine lv_ldc2 (v := 8) hx hb hown (hts _ m_1) dX6_worth_10 ?_
    refine w_finI (w_runS (rm := ({ frames := 0, cells := 0, slots := 0, locals := 0 } : Room)) (As := [.long (k0.toInt64), .long 0, .long 8]) (rest := []) (n := 3) hx hb hml hts hown hK w (c_X6_isIn l D cI cP cS cL L _ (k0.toInt64) 0 8 ) gX6_worth_X6_isIn rfl rfl rfl (by decide +kernel) ⟨(Nat.le_of_ble_eq_true rfl), (Nat.le_of_ble_eq_true rfl)⟩ rfl hl.1 rfl (Nat.le_of_ble_eq_true rfl) dX6_worth_13 ⟨(Nat.le_of_ble_eq_true rfl), (Nat.le_of_ble_eq_true rfl)⟩) w hA (fun H locs w => ?_)
    refine lv_if_ne (tgt := 23) hx hb dX6_worth_16 (by decide) (fun c2 => ?_) (fun c2 => ?_)
    · skip
      have hq := hq.trans (if_neg c2)
      refine lv_aload_n hx hb dX6_worth_23 rfl (lv_at hl 0 rfl) ?_
      refine lv_iload_n hx hb dX6_worth_24 rfl (lv_at hl 1 rfl) ?_
      refine w_finj (w_runV (rm := ({ frames := 3, cells := 0, slots := 0, locals := 67 } : Room)) (As := [.int d]) (rest := []) (n := 1) hx hb hml hts hown hK w (c_X6_takesRow l D cI cP cS cL L _ m d m_ss m_im m_re m_sa m_ke m_so m_si m_el m_kd m_kt m_hi m_th m_po m_ba m_en m_tl m_nu m_ca m_ha m_hs m_co m_ss_f m_ke_f m_so_f m_si_f m_el_f m_ha_f h_m h_m_ss h_m_ke h_m_so h_m_si h_m_el h_m_ha hsi hsi0 hhs ne_m_ss_m_ha ne_m_ke_m_ha ne_m_so_m_ha ne_m_si_m_ha ne_m_el_m_ha) gX6_worth_X6_takesRow rfl rfl rfl (by decide +kernel) ⟨(Nat.le_of_ble_eq_true rfl), (Nat.le_of_ble_eq_true rfl)⟩ h_m rfl rfl hl.1 rfl (Nat.le_of_ble_eq_true rfl) dX6_worth_25 ⟨(Nat.le_of_ble_eq_true rfl), (Nat.le_of_ble_eq_true rfl)⟩) w hA (fun r9 F1 H locs hp w => ?_)
      obtain ⟨x25, hx25, e25_0, e25_1, e25_2, hr9, hw0, hw1, hk9⟩ := hp
      subst hr9
      have hq := hq.trans (w_bnd hx25)
      have h_m_ss := h_m_ss.keep hk9 ⟨(wi.ne h_m_ss h_m (by intro h; cases h)), ne_m_ss_m_ha, trivial⟩
      have h_m_ke := h_m_ke.keep hk9 ⟨(wi.ne h_m_ke h_m (by intro h; cases h)), ne_m_ke_m_ha, trivial⟩
      have h_m_so := h_m_so.keep hk9 ⟨(wi.ne h_m_so h_m (by intro h; cases h)), ne_m_so_m_ha, trivial⟩
      have h_m_si := h_m_si.keep hk9 ⟨(wi.ne h_m_si h_m (by intro h; cases h)), ne_m_si_m_ha, trivial⟩
      have h_m_el := h_m_el.keep hk9 ⟨(wi.ne h_m_el h_m (by intro h; cases h)), ne_m_el_m_ha, trivial⟩
      have h_m := h_m.new hw0
      have h_m_ha := h_m_ha.new hw1
      have hk := hk.call hk9 (fun q h => ⟨h.1, h.2.1, trivial⟩)
      refine lv_istore_n (lv' := [(3, .int x25.1), (0, .ref m), (1, .int d), (2, .int k0)]) hx hb dX6_worth_28 rfl hl (by decide) rfl (fun ls hl => ?_)
      refine lv_iload_n hx hb dX6_worth_29 rfl (lv_at hl 0 rfl) ?_
      refine lv_if_eq (tgt := 40) hx hb dX6_worth_30 (by decide) (fun c3 => ?_) (fun c3 => ?_)
      · skip
        have hq := hq.trans (if_pos c3)
        have h1s : 1 ≤ x25.2.2.toInt := e25_1 c3
        refine lv_aload_n hx hb dX6_worth_40 rfl (lv_at hl 1 rfl) ?_
        refine lv_iconst (v := 0) hx hb dX6_worth_41 (by decide) ?_
        refine w_finL (w_runV (rm := ({ frames := 2, cells := 0, slots := 0, locals := 55 } : Room)) (As := [.int 0]) (rest := []) (n := 1) hx hb hml hts hown hK w (c_X6_targetOf l D cI cP cS cL L _ m 0 m_ss m_im m_re m_sa m_ke m_so m_si m_el m_kd m_kt m_hi m_th m_po m_ba m_en m_tl m_nu m_ca m_ha x25.2.2 m_co m_ss_f x25.2.1 h_m h_m_ss h_m_ha e25_0 (tb_ne hd20 h1s e25_0)) gX6_worth_X6_targetOf rfl rfl rfl (by decide +kernel) ⟨(Nat.le_of_ble_eq_true rfl), (Nat.le_of_ble_eq_true rfl)⟩ h_m rfl rfl hl.1 rfl (Nat.le_of_ble_eq_true rfl) dX6_worth_42 ⟨(Nat.le_of_ble_eq_true rfl), (Nat.le_of_ble_eq_true rfl)⟩) w hA (fun H locs w => ?_)
        refine lv_lstore (lv' := [(4, .long (f_X6_targetOf 0 x25.2.2 m_ss_f x25.2.1)), (3, .int x25.1), (0, .ref m), (1, .int d), (2, .int k0)]) hx hb dX6_worth_45 hl (by decide) rfl (fun ls hl => ?_)
        refine lv_aload_n hx hb dX6_worth_47 rfl (lv_at hl 2 rfl) ?_
        refine lv_iconst (v := 1) hx hb dX6_worth_48 (by decide) ?_
        refine w_finL (w_runV (rm := ({ frames := 2, cells := 0, slots := 0, locals := 55 } : Room)) (As := [.int 1]) (rest := []) (n := 1) hx hb hml hts hown hK w (c_X6_targetOf l D cI cP cS cL L _ m 1 m_ss m_im m_re m_sa m_ke m_so m_si m_el m_kd m_kt m_hi m_th m_po m_ba m_en m_tl m_nu m_ca m_ha x25.2.2 m_co m_ss_f x25.2.1 h_m h_m_ss h_m_ha e25_0 (tb_ne hd20 h1s e25_0)) gX6_worth_X6_targetOf rfl rfl rfl (by decide +kernel) ⟨(Nat.le_of_ble_eq_true rfl), (Nat.le_of_ble_eq_true rfl)⟩ h_m rfl rfl hl.1 rfl (Nat.le_of_ble_eq_true rfl) dX6_worth_49 ⟨(Nat.le_of_ble_eq_true rfl), (Nat.le_of_ble_eq_true rfl)⟩) w hA (fun H locs w => ?_)
        refine lv_lstore (lv' := [(6, .long (f_X6_targetOf 1 x25.2.2 m_ss_f x25.2.1)), (4, .long (f_X6_targetOf 0 x25.2.2 m_ss_f x25.2.1)), (3, .int x25.1), (0, .ref m), (1, .int d), (2, .int k0)]) hx hb dX6_worth_52 hl (by decide) rfl (fun ls hl => ?_)
        refine lv_aload_n hx hb dX6_worth_54 rfl (lv_at hl 3 rfl) ?_
        refine lv_iload_n hx hb dX6_worth_55 rfl (lv_at hl 5 rfl) ?_
        refine w_finI (w_runV (rm := ({ frames := 3, cells := 0, slots := 0, locals := 69 } : Room)) (As := [.int k0]) (rest := []) (n := 1) hx hb hml hts hown hK w (c_X6_levelOf l D cI cP cS cL L _ m k0 m_ss m_im m_re m_sa m_ke m_so m_si m_el m_kd m_kt m_hi m_th m_po m_ba m_en m_tl m_nu m_ca m_ha x25.2.2 m_co m_ss_f h_m h_m_ss hd1) gX6_worth_X6_levelOf rfl rfl rfl (by decide +kernel) ⟨(Nat.le_of_ble_eq_true rfl), (Nat.le_of_ble_eq_true rfl)⟩ h_m rfl rfl hl.1 rfl (Nat.le_of_ble_eq_true rfl) dX6_worth_56 ⟨(Nat.le_of_ble_eq_true rfl), (Nat.le_of_ble_eq_true rfl)⟩) w hA (fun H locs w => ?_)
        refine lv_i2l (v := ((f_X6_levelOf k0 m_ss_f).toInt64)) hx hb dX6_worth_59 rfl ?_
        refine lv_lload hx hb dX6_worth_60 (lv_at hl 0 rfl) ?_
        refine lv_lmul hx hb dX6_worth_62 ?_
        refine lv_lload hx hb dX6_worth_63 (lv_at hl 1 rfl) ?_
        refine lv_lsub hx hb dX6_worth_65 ?_
        refine lv_lstore (lv' := [(8, .long ((((f_X6_levelOf k0 m_ss_f).toInt64) * (f_X6_targetOf 1 x25.2.2 m_ss_f x25.2.1)) - (f_X6_targetOf 0 x25.2.2 m_ss_f x25.2.1))), (6, .long (f_X6_targetOf 1 x25.2.2 m_ss_f x25.2.1)), (4, .long (f_X6_targetOf 0 x25.2.2 m_ss_f x25.2.1)), (3, .int x25.1), (0, .ref m), (1, .int d), (2, .int k0)]) hx hb dX6_worth_66 hl (by decide) rfl (fun ls hl => ?_)
        refine lv_aload_n hx hb dX6_worth_68 rfl (lv_at hl 4 rfl) ?_
        refine lv_iload_n hx hb dX6_worth_69 rfl (lv_at hl 6 rfl) ?_
        refine lv_iconst (v := 1) hx hb dX6_worth_70 (by decide) ?_
        refine lv_iadd hx hb dX6_worth_71 ?_
        refine w_finI (w_runV (rm := ({ frames := 3, cells := 0, slots := 0, locals := 69 } : Room)) (As := [.int (k0 + 1)]) (rest := []) (n := 1) hx hb hml hts hown hK w (c_X6_levelOf l D cI cP cS cL L _ m (k0 + 1) m_ss m_im m_re m_sa m_ke m_so m_si m_el m_kd m_kt m_hi m_th m_po m_ba m_en m_tl m_nu m_ca m_ha x25.2.2 m_co m_ss_f h_m h_m_ss hd1) gX6_worth_X6_levelOf rfl rfl rfl (by decide +kernel) ⟨(Nat.le_of_ble_eq_true rfl), (Nat.le_of_ble_eq_true rfl)⟩ h_m rfl rfl hl.1 rfl (Nat.le_of_ble_eq_true rfl) dX6_worth_72 ⟨(Nat.le_of_ble_eq_true rfl), (Nat.le_of_ble_eq_true rfl)⟩) w hA (fun H locs w => ?_)
        refine lv_i2l (v := ((f_X6_levelOf (k0 + 1) m_ss_f).toInt64)) hx hb dX6_worth_75 rfl ?_
        refine lv_lload hx hb dX6_worth_76 (lv_at hl 1 rfl) ?_
        refine lv_lmul hx hb dX6_worth_78 ?_
        refine lv_lload hx hb dX6_worth_79 (lv_at hl 2 rfl) ?_
        refine lv_lsub hx hb dX6_worth_81 ?_
        refine lv_lstore (lv' := [(10, .long ((((f_X6_levelOf (k0 + 1) m_ss_f).toInt64) * (f_X6_targetOf 1 x25.2.2 m_ss_f x25.2.1)) - (f_X6_targetOf 0 x25.2.2 m_ss_f x25.2.1))), (8, .long ((((f_X6_levelOf k0 m_ss_f).toInt64) * (f_X6_targetOf 1 x25.2.2 m_ss_f x25.2.1)) - (f_X6_targetOf 0 x25.2.2 m_ss_f x25.2.1))), (6, .long (f_X6_targetOf 1 x25.2.2 m_ss_f x25.2.1)), (4, .long (f_X6_targetOf 0 x25.2.2 m_ss_f x25.2.1)), (3, .int x25.1), (0, .ref m), (1, .int d), (2, .int k0)]) hx hb dX6_worth_82 hl (by decide) rfl (fun ls hl => ?_)
        refine lv_lload hx hb dX6_worth_84 (lv_at hl 1 rfl) ?_
        refine lv_lconst (v := 0) hx hb dX6_worth_86 (by decide) ?_
        refine W.lcmp hx hb dX6_worth_87 ?_
        refine lv_if_ge (tgt := 97) hx hb dX6_worth_88 (by decide) (fun c4 => ?_) (fun c4 => ?_)
        · skip
          have hq := hq.trans (if_pos c4)
          refine lv_lload hx hb dX6_worth_97 (lv_at hl 1 rfl) ?_
          refine lv_lload hx hb dX6_worth_99 (lv_at hl 0 rfl) ?_
          refine lv_lconst (v := 0) hx hb dX6_worth_101 (by decide) ?_
          refine W.lcmp hx hb dX6_worth_102 ?_
          refine lv_if_ge (tgt := 112) hx hb dX6_worth_103 (by decide) (fun c5 => ?_) (fun c5 => ?_)
          · skip
            have hq := hq.trans (if_pos c5)
            refine lv_lload hx hb dX6_worth_112 (lv_at hl 0 rfl) ?_
            refine lv_lsub hx hb dX6_worth_114 ?_
            exact w_lret hx hb hr hlocks w ⟨rfl, _, hq.symm, rfl, h_m.2, h_m_ha.2, hk⟩ (Nat.le_refl _) (Nat.le_refl _) dX6_worth_115
          · skip
            have hq := hq.trans (if_neg c5)
            refine lv_lload hx hb dX6_worth_106 (lv_at hl 0 rfl) ?_
            refine lv_lneg hx hb dX6_worth_108 ?_
            refine lv_goto (tgt := 114) hx hb dX6_worth_109 (by decide) ?_
            refine lv_lsub hx hb dX6_worth_114 ?_
            exact w_lret hx hb hr hlocks w ⟨rfl, _, hq.symm, rfl, h_m.2, h_m_ha.2, hk⟩ (Nat.le_refl _) (Nat.le_refl _) dX6_worth_115
        · skip
          have hq := hq.trans (if_neg c4)
          refine lv_lload hx hb dX6_worth_91 (lv_at hl 1 rfl) ?_
          refine lv_lneg hx hb dX6_worth_93 ?_
          refine lv_goto (tgt := 99) hx hb dX6_worth_94 (by decide) ?_
          refine lv_lload hx hb dX6_worth_99 (lv_at hl 0 rfl) ?_
          refine lv_lconst (v := 0) hx hb dX6_worth_101 (by decide) ?_
          refine W.lcmp hx hb dX6_worth_102 ?_
          refine lv_if_ge (tgt := 112) hx hb dX6_worth_103 (by decide) (fun c6 => ?_) (fun c6 => ?_)
          · skip
            have hq := hq.trans (if_pos c6)
            refine lv_lload hx hb dX6_worth_112 (lv_at hl 0 rfl) ?_
            refine lv_lsub hx hb dX6_worth_114 ?_
            exact w_lret hx hb hr hlocks w ⟨rfl, _, hq.symm, rfl, h_m.2, h_m_ha.2, hk⟩ (Nat.le_refl _) (Nat.le_refl _) dX6_worth_115
          · skip
            have hq := hq.trans (if_neg c6)
            refine lv_lload hx hb dX6_worth_106 (lv_at hl 0 rfl) ?_
            refine lv_lneg hx hb dX6_worth_108 ?_
            refine lv_goto (tgt := 114) hx hb dX6_worth_109 (by decide) ?_
            refine lv_lsub hx hb dX6_worth_114 ?_
            exact w_lret hx hb hr hlocks w ⟨rfl, _, hq.symm, rfl, h_m.2, h_m_ha.2, hk⟩ (Nat.le_refl _) (Nat.le_refl _) dX6_worth_115
      · skip
        have hq := hq.trans (if_neg c3)
        refine lv_ldc2 (v := (-4000000000000000000)) hx hb hown (hts _ m_2) dX6_worth_33 ?_
        refine lv_iload_n hx hb dX6_worth_36 rfl (lv_at hl 0 rfl) ?_
        refine lv_i2l (v := (x25.1.toInt64)) hx hb dX6_worth_37 rfl ?_
        refine lv_ladd hx hb dX6_worth_38 ?_
        exact w_lret hx hb hr hlocks w ⟨rfl, _, hq.symm, rfl, h_m.2, h_m_ha.2, hk⟩ (Nat.le_refl _) (Nat.le_refl _) dX6_worth_39
    · skip
      have hq := hq.trans (if_pos c2)
      refine lv_ldc2 (v := (-4000000000000000001)) hx hb hown (hts _ m_0) dX6_worth_19 ?_
      exact w_lret hx hb hr hlocks w ⟨rfl, _, hq.symm, rfl, h_m.2, h_m_ha.2, hk⟩ (Nat.le_refl _) (Nat.le_refl _) dX6_worth_22
def f_X6_jokers_L40 (part : Int32) (m_ss_f : Nat → Int32) (x21 : Int32 × (Nat → Int32) × Int32) : Nat → Nat → Int64 → Int64 → Int32 × (Nat → Int32) × Int32
  | 0, _, _, _ => (0, (fun _ => 0), 0)
  | n + 1, k, v4, v6 => if x21.2.2 ≤ (nI k) then (if (lg_cmp v6 0) = (0 : Int32) then (((f_X6_partOf (((m_ss_f 0).toInt64) * ((((f_X6_sumOf x21.2.2 x21.2.1).toInt64) * 1) - (v4 * (x21.2.2.toInt64)))) ((((m_ss_f 1) * x21.2.2).toInt64) * 1) part).toInt32), x21.2.1, x21.2.2) else (((f_X6_partOf (((m_ss_f 0).toInt64) * ((((f_X6_sumOf x21.2.2 x21.2.1).toInt64) * v6) - (v4 * (x21.2.2.toInt64)))) ((((m_ss_f 1) * x21.2.2).toInt64) * v6) part).toInt32), x21.2.1, x21.2.2)) else (if (x21.2.1 k) = (m_ss_f 2) then (f_X6_jokers_L40 part m_ss_f x21 n ((k + 1)) v4 v6) else (f_X6_jokers_L40 part m_ss_f x21 n ((k + 1)) (v4 + ((x21.2.1 k).toInt64)) (v6 + 1)))
theorem f_X6_jokers_L40_s (part : Int32) (m_ss_f : Nat → Int32) (x21 : Int32 × (Nat → Int32) × Int32) (n k : Nat) (v4 : Int64) (v6 : Int64) : f_X6_jokers_L40 part m_ss_f x21 (n + 1) k v4 v6 = (if x21.2.2 ≤ (nI k) then (if (lg_cmp v6 0) = (0 : Int32) then (((f_X6_partOf (((m_ss_f 0).toInt64) * ((((f_X6_sumOf x21.2.2 x21.2.1).toInt64) * 1) - (v4 * (x21.2.2.toInt64)))) ((((m_ss_f 1) * x21.2.2).toInt64) * 1) part).toInt32), x21.2.1, x21.2.2) else (((f_X6_partOf (((m_ss_f 0).toInt64) * ((((f_X6_sumOf x21.2.2 x21.2.1).toInt64) * v6) - (v4 * (x21.2.2.toInt64)))) ((((m_ss_f 1) * x21.2.2).toInt64) * v6) part).toInt32), x21.2.1, x21.2.2)) else (if (x21.2.1 k) = (m_ss_f 2) then (f_X6_jokers_L40 part m_ss_f x21 n ((k + 1)) v4 v6) else (f_X6_jokers_L40 part m_ss_f x21 n ((k + 1)) (v4 + ((x21.2.1 k).toInt64)) (v6 + 1)))) := rfl
def f_X6_jokers (d : Int32) (part : Int32) (m_hs : Int32) (m_ss_f : Nat → Int32) (m_ke_f : Nat → Int32) (m_so_f : Nat → Int32) (m_si_f : Nat → Int32) (m_el_f : Nat → Int32) (m_ha_f : Nat → Int32) : Int32 × (Nat → Int32) × Int32 := if (f_X6_isShelf d) = (0 : Int32) then ((-1), m_ha_f, m_hs) else (if (f_X6_isIn (part.toInt64) 0 1) = (0 : Int32) then ((-1), m_ha_f, m_hs) else (bnd (f_X6_takesRow d m_hs m_ss_f m_ke_f m_so_f m_si_f m_el_f m_ha_f) (fun x21 : Int32 × (Nat → Int32) × Int32 => if x21.1 = (0 : Int32) then (f_X6_jokers_L40 part m_ss_f x21 (x21.2.2.toNatClampNeg + 1) 0 0 0) else (x21.1, x21.2.1, x21.2.2))))
set_option maxHeartbeats 400000 in
set_option maxRecDepth 100000 in
theorem c_X6_jokers (l : Launch) (D : va_G) (cI cP cS cL : ClassId) (L : List Nat) (F : Nat → va_E) (m : Nat) (d : Int32) (part : Int32) (m_ss : Nat) (m_im : Nat) (m_re : Nat) (m_sa : Nat) (m_ke : Nat) (m_so : Nat) (m_si : Nat) (m_el : Nat) (m_kd : Nat) (m_kt : Nat) (m_hi : Int32) (m_th : Int32) (m_po : Int32) (m_ba : Int32) (m_en : Int32) (m_tl : Int32) (m_nu : Nat) (m_ca : Nat) (m_ha : Nat) (m_hs : Int32) (m_co : Nat) (m_ss_f : Nat → Int32) (m_ke_f : Nat → Int32) (m_so_f : Nat → Int32) (m_si_f : Nat → Int32) (m_el_f : Nat → Int32) (m_ha_f : Nat → Int32) (h_m : wi L F m (eM m_ss m_im m_re m_sa m_ke m_so m_si m_el m_kd m_kt m_hi m_th m_po m_ba m_en m_tl m_nu m_ca m_ha m_hs m_co)) (h_m_ss : wi L F m_ss (eI cI 55 m_ss_f)) (h_m_ke : wi L F m_ke (eI cI 8 m_ke_f)) (h_m_so : wi L F m_so (eI cI 8 m_so_f)) (h_m_si : wi L F m_si (eI cI 8 m_si_f)) (h_m_el : wi L F m_el (eI cI 800 m_el_f)) (h_m_ha : wi L F m_ha (eI cI 100 m_ha_f)) (hsi : ∀ i, i < 8 → (m_si_f i).toInt ≤ 100) (hsi0 : ∀ i, i < 8 → 0 ≤ (m_si_f i).toInt) (hhs : m_hs.toInt ≤ 100) (hd20 : 1 ≤ (m_ss_f 1).toInt ∧ (m_ss_f 1).toInt ≤ 20) (ne_m_ss_m_ha : m_ss ≠ m_ha) (ne_m_ke_m_ha : m_ke ≠ m_ha) (ne_m_so_m_ha : m_so ≠ m_ha) (ne_m_si_m_ha : m_si ≠ m_ha) (ne_m_el_m_ha : m_el ≠ m_ha) : wMj l D cI cP cS cL yX6_jokers wsX6_jokers ({ frames := 4, cells := 0, slots := 0, locals := 90 } : Room) [.ref m, .int d, .int part] L F (fun r1 F1 => ∃ y9 : Int32 × (Nat → Int32) × Int32, y9 = (f_X6_jokers d part m_hs m_ss_f m_ke_f m_so_f m_si_f m_el_f m_ha_f) ∧ r1 = y9.1 ∧ F1 m = (eM m_ss m_im m_re m_sa m_ke m_so m_si m_el m_kd m_kt m_hi m_th m_po m_ba m_en m_tl m_nu m_ca m_ha y9.2.2 m_co) ∧ F1 m_ha = (eI cI 100 y9.2.1) ∧ wk (fun q : Nat => q ≠ m ∧ q ≠ m_ha ∧ True) F1 F) := by
  refine wM.of (cc := cX6_jokers) (maxL := 10) (ret := (some .int)) (by decide) rfl (Nat.le_of_ble_eq_true rfl) ?_
  intro pZ eZ sZ mZ below meth cZ A ls C hl w
  obtain ⟨hx, hb, hr, hml, hts, hown, hlocks, hK, hA, hin⟩ := C
  have hown : sZ.vm.findClass RX6 = some mZ.cls := hown
  have hl : lv_has ls 10 [(0, .ref m), (1, .int d), (2, .int part)] := hl
  have m_0 : ((.fieldLink RX6 171 "TwoThirdsModel" "hands" "I") : Cond) ∈ wsX6_jokers := by decide +kernel
  have i_X6 : ∀ w ∈ wsX60, w ∈ wsX6_jokers := by decide +kernel
  have m_2 : ((.fieldLink RX6 9 "TwoThirdsModel" "s" "[I") : Cond) ∈ wsX6_jokers := by decide +kernel
  have m_3 : ((.fieldLink RX6 46 "TwoThirdsModel" "hand" "[I") : Cond) ∈ wsX6_jokers := by decide +kernel
  have hk : wk (fun q : Nat => q ≠ m ∧ q ≠ m_ha ∧ True) F F := wk.rf
  have hq : f_X6_jokers d part m_hs m_ss_f m_ke_f m_so_f m_si_f m_el_f m_ha_f = f_X6_jokers d part m_hs m_ss_f m_ke_f m_so_f m_si_f m_el_f m_ha_f := rfl
  refine lv_iload_n hx hb dX6_jokers_0 rfl (lv_at hl 1 rfl) ?_
  refine w_finI (w_runS (rm := ({ frames := 1, cells := 0, slots := 0, locals := 25 } : Room)) (As := [.int d]) (rest := []) (n := 1) hx hb hml hts hown hK w (c_X6_isShelf l D cI cP cS cL L _ d ) gX6_jokers_X6_isShelf rfl rfl rfl (by decide +kernel) ⟨(Nat.le_of_ble_eq_true rfl), (Nat.le_of_ble_eq_true rfl)⟩ rfl hl.1 rfl (Nat.le_of_ble_eq_true rfl) dX6_jokers_1 ⟨(Nat.le_of_ble_eq_true rfl), (Nat.le_of_ble_eq_true rfl)⟩) w hA (fun H locs w => ?_)
  refine lv_if_eq (tgt := 17) hx hb dX6_jokers_4 (by decide) (fun c1 => ?_) (fun c1 => ?_)
  · skip
    have hq := hq.trans (if_pos c1)
    refine lv_iconst (v := (-1)) hx hb dX6_jokers_17 (by decide) ?_
    exact w_iret hx hb hr hlocks w ⟨rfl, _, hq.symm, rfl, h_m.2, h_m_ha.2, hk⟩ (Nat.le_refl _) (Nat.le_refl _) dX6_jokers_18
  · skip
    have hq := hq.trans (if_neg c1)
    refine lv_iload_n hx hb dX6_jokers_7 rfl (lv_at hl 2 rfl) ?_
    refine lv_i2l (v := (part.toInt64)) hx hb dX6_jokers_8 rfl ?_
    refine lv_lconst (v := 0) hx hb dX6_jokers_9 (by decide) ?_
    refine lv_lconst (v := 1) hx hb dX6_jokers_10 (by decide) ?_
    refine w_finI (w_runS (rm := ({ frames := 0, cells := 0, slots := 0, locals := 0 } : Room)) (As := [.long (part.toInt64), .long 0, .long 1]) (rest := []) (n := 3) hx hb hml hts hown hK w (c_X6_isIn l D cI cP cS cL L _ (part.toInt64) 0 1 ) gX6_jokers_X6_isIn rfl rfl rfl (by decide +kernel) ⟨(Nat.le_of_ble_eq_true rfl), (Nat.le_of_ble_eq_true rfl)⟩ rfl hl.1 rfl (Nat.le_of_ble_eq_true rfl) dX6_jokers_11 ⟨(Nat.le_of_ble_eq_true rfl), (Nat.le_of_ble_eq_true rfl)⟩) w hA (fun H locs w => ?_)
    refine lv_if_ne (tgt := 19) hx hb dX6_jokers_14 (by decide) (fun c2 => ?_) (fun c2 => ?_)
    · skip
      have hq := hq.trans (if_neg c2)
      refine lv_aload_n hx hb dX6_jokers_19 rfl (lv_at hl 0 rfl) ?_
      refine lv_iload_n hx hb dX6_jokers_20 rfl (lv_at hl 1 rfl) ?_
      refine w_finj (w_runV (rm := ({ frames := 3, cells := 0, slots := 0, locals := 67 } : Room)) (As := [.int d]) (rest := []) (n := 1) hx hb hml hts hown hK w (c_X6_takesRow l D cI cP cS cL L _ m d m_ss m_im m_re m_sa m_ke m_so m_si m_el m_kd m_kt m_hi m_th m_po m_ba m_en m_tl m_nu m_ca m_ha m_hs m_co m_ss_f m_ke_f m_so_f m_si_f m_el_f m_ha_f h_m h_m_ss h_m_ke h_m_so h_m_si h_m_el h_m_ha hsi hsi0 hhs ne_m_ss_m_ha ne_m_ke_m_ha ne_m_so_m_ha ne_m_si_m_ha ne_m_el_m_ha) gX6_jokers_X6_takesRow rfl rfl rfl (by decide +kernel) ⟨(Nat.le_of_ble_eq_true rfl), (Nat.le_of_ble_eq_true rfl)⟩ h_m rfl rfl hl.1 rfl (Nat.le_of_ble_eq_true rfl) dX6_jokers_21 ⟨(Nat.le_of_ble_eq_true rfl), (Nat.le_of_ble_eq_true rfl)⟩) w hA (fun r9 F1 H locs hp w => ?_)
      obtain ⟨x21, hx21, e21_0, e21_1, e21_2, hr9, hw0, hw1, hk9⟩ := hp
      subst hr9
      have hq := hq.trans (w_bnd hx21)
      have h_m_ss := h_m_ss.keep hk9 ⟨(wi.ne h_m_ss h_m (by intro h; cases h)), ne_m_ss_m_ha, trivial⟩
      have h_m_ke := h_m_ke.keep hk9 ⟨(wi.ne h_m_ke h_m (by intro h; cases h)), ne_m_ke_m_ha, trivial⟩
      have h_m_so := h_m_so.keep hk9 ⟨(wi.ne h_m_so h_m (by intro h; cases h)), ne_m_so_m_ha, trivial⟩
      have h_m_si := h_m_si.keep hk9 ⟨(wi.ne h_m_si h_m (by intro h; cases h)), ne_m_si_m_ha, trivial⟩
      have h_m_el := h_m_el.keep hk9 ⟨(wi.ne h_m_el h_m (by intro h; cases h)), ne_m_el_m_ha, trivial⟩
      have h_m := h_m.new hw0
      have h_m_ha := h_m_ha.new hw1
      have hk := hk.call hk9 (fun q h => ⟨h.1, h.2.1, trivial⟩)
      refine lv_istore_n (lv' := [(3, .int x21.1), (0, .ref m), (1, .int d), (2, .int part)]) hx hb dX6_jokers_24 rfl hl (by decide) rfl (fun ls hl => ?_)
      refine lv_iload_n hx hb dX6_jokers_25 rfl (lv_at hl 0 rfl) ?_
      refine lv_if_eq (tgt := 31) hx hb dX6_jokers_26 (by decide) (fun c3 => ?_) (fun c3 => ?_)
      · skip
        have hq := hq.trans (if_pos c3)
        have h1s : 1 ≤ x21.2.2.toInt := e21_1 c3
        refine lv_lconst (v := 0) hx hb dX6_jokers_31 (by decide) ?_
        refine lv_lstore (lv' := [(4, .long 0), (3, .int x21.1), (0, .ref m), (1, .int d), (2, .int part)]) hx hb dX6_jokers_32 hl (by decide) rfl (fun ls hl => ?_)
        refine lv_lconst (v := 0) hx hb dX6_jokers_34 (by decide) ?_
        refine lv_lstore (lv' := [(6, .long 0), (4, .long 0), (3, .int x21.1), (0, .ref m), (1, .int d), (2, .int part)]) hx hb dX6_jokers_35 hl (by decide) rfl (fun ls hl => ?_)
        refine lv_iconst (v := 0) hx hb dX6_jokers_37 (by decide) ?_
        refine lv_istore (lv' := [(8, .int 0), (6, .long 0), (4, .long 0), (3, .int x21.1), (0, .ref m), (1, .int d), (2, .int part)]) hx hb dX6_jokers_38 hl (by decide) rfl (fun ls hl => ?_)
        have hL40 : ∀ (n k : Nat) (v4 : Int64) (v6 : Int64) (F1 : Nat → va_E) (H : Heap) (locs : List Loc) (ls : Array Slot), (0 ≤ v6.toInt ∧ v6.toInt ≤ (k : Int)) → k ≤ x21.2.2.toNatClampNeg → x21.2.2.toNatClampNeg - k < n → f_X6_jokers d part m_hs m_ss_f m_ke_f m_so_f m_si_f m_el_f m_ha_f = f_X6_jokers_L40 part m_ss_f x21 n k v4 v6 → lv_has ls 10 [(0, .ref m), (1, .int d), (2, .int part), (3, .int x21.1), (4, .long v4), (6, .long v6), (8, .int (nI k))] → ww D A sZ.heap L F1 H locs → (wi L F1 m (eM m_ss m_im m_re m_sa m_ke m_so m_si m_el m_kd m_kt m_hi m_th m_po m_ba m_en m_tl m_nu m_ca m_ha x21.2.2 m_co)) → (wi L F1 m_ss (eI cI 55 m_ss_f)) → (wi L F1 m_ke (eI cI 8 m_ke_f)) → (wi L F1 m_so (eI cI 8 m_so_f)) → (wi L F1 m_si (eI cI 8 m_si_f)) → (wi L F1 m_el (eI cI 800 m_el_f)) → (wi L F1 m_ha (eI cI 100 x21.2.1)) → wk (fun q : Nat => q ≠ m ∧ q ≠ m_ha ∧ True) F1 F → W pZ l eZ ({ frames := 4, cells := 0, slots := 0, locals := 90 } : Room) sZ mZ [.ref m, .int d, .int part].toArray below meth cZ H locs 0 0 (MQ below (wQi D A (fun r1 L1 F1 => L1 = L ∧ ∃ y9 : Int32 × (Nat → Int32) × Int32, y9 = (f_X6_jokers d part m_hs m_ss_f m_ke_f m_so_f m_si_f m_el_f m_ha_f) ∧ r1 = y9.1 ∧ F1 m = (eM m_ss m_im m_re m_sa m_ke m_so m_si m_el m_kd m_kt m_hi m_th m_po m_ba m_en m_tl m_nu m_ca m_ha y9.2.2 m_co) ∧ F1 m_ha = (eI cI 100 y9.2.1) ∧ wk (fun q : Nat => q ≠ m ∧ q ≠ m_ha ∧ True) F1 F)) [.ref m, .int d, .int part].toArray sZ 0 0 A) (F0 mZ 40 ls []) := by
          intro n; induction n with
          | zero => intro k v4 v6 F1 H locs ls _ hkT hmeas; exact absurd hmeas (Nat.not_lt_zero _)
          | succ n ih =>
            intro k v4 v6 F1 H locs ls hi0 hkT hmeas hq hl w h_m h_m_ss h_m_ke h_m_so h_m_si h_m_el h_m_ha hk
            have hk31 : k < 2147483648 := Nat.lt_of_le_of_lt hkT (w_clamp_lt _)
            have hq := hq.trans (f_X6_jokers_L40_s part m_ss_f x21 n k v4 v6)
            refine lv_iload hx hb dX6_jokers_40 (lv_at hl 6 rfl) ?_
            refine lv_aload_n hx hb dX6_jokers_42 rfl (lv_at hl 0 rfl) ?_
            refine w_get (v := .int x21.2.2) hx hb hts i_X6 hown hK w h_m rfl 19 (by decide) (hts _ m_0) rfl dX6_jokers_43 ?_
            refine lv_icmp_ge (tgt := 93) hx hb dX6_jokers_46 (by decide) (fun c4 => ?_) (fun c4 => ?_)
            · skip
              have hq := hq.trans (if_pos c4)
              have hk101 : k ≤ 100 := k_le100 hkT e21_0
              refine lv_lload hx hb dX6_jokers_93 (lv_at hl 5 rfl) ?_
              refine lv_lconst (v := 0) hx hb dX6_jokers_95 (by decide) ?_
              refine W.lcmp hx hb dX6_jokers_96 ?_
              refine lv_if_ne (tgt := 103) hx hb dX6_jokers_97 (by decide) (fun c5 => ?_) (fun c5 => ?_)
              · skip
                have hq := hq.trans (if_neg c5)
                have hjn : 1 ≤ v6.toInt ∧ v6.toInt ≤ 100 := jok_n hi0 hk101 c5
                refine lv_aload_n hx hb dX6_jokers_103 rfl (lv_at hl 0 rfl) ?_
                refine w_get (v := .ref m_ss) hx hb hts i_X6 hown hK w h_m rfl 0 (by decide) (hts _ m_2) rfl dX6_jokers_104 ?_
                refine lv_iconst (v := 0) hx hb dX6_jokers_107 (by decide) ?_
                refine w_ild (j := 0) hx hb hK w h_m_ss (vp_in_nI (n := 0) (N := 55) (by decide) (by decide)) rfl dX6_jokers_108 ?_
                refine lv_i2l (v := ((m_ss_f 0).toInt64)) hx hb dX6_jokers_109 rfl ?_
                refine lv_aload_n hx hb dX6_jokers_110 rfl (lv_at hl 0 rfl) ?_
                refine w_finI (w_runV (rm := ({ frames := 0, cells := 0, slots := 0, locals := 0 } : Room)) (As := []) (rest := [.long ((m_ss_f 0).toInt64)]) (n := 0) hx hb hml hts hown hK w (c_X6_sumOf l D cI cP cS cL L _ m m_ss m_im m_re m_sa m_ke m_so m_si m_el m_kd m_kt m_hi m_th m_po m_ba m_en m_tl m_nu m_ca m_ha x21.2.2 m_co x21.2.1 h_m h_m_ha e21_0) gX6_jokers_X6_sumOf rfl rfl rfl (by decide +kernel) ⟨(Nat.le_of_ble_eq_true rfl), (Nat.le_of_ble_eq_true rfl)⟩ h_m rfl rfl hl.1 rfl (Nat.le_of_ble_eq_true rfl) dX6_jokers_111 ⟨(Nat.le_of_ble_eq_true rfl), (Nat.le_of_ble_eq_true rfl)⟩) w hA (fun H locs w => ?_)
                refine lv_i2l (v := ((f_X6_sumOf x21.2.2 x21.2.1).toInt64)) hx hb dX6_jokers_114 rfl ?_
                refine lv_lload hx hb dX6_jokers_115 (lv_at hl 5 rfl) ?_
                refine lv_lmul hx hb dX6_jokers_117 ?_
                refine lv_lload hx hb dX6_jokers_118 (lv_at hl 4 rfl) ?_
                refine lv_aload_n hx hb dX6_jokers_120 rfl (lv_at hl 0 rfl) ?_
                refine w_get (v := .int x21.2.2) hx hb hts i_X6 hown hK w h_m rfl 19 (by decide) (hts _ m_0) rfl dX6_jokers_121 ?_
                refine lv_i2l (v := (x21.2.2.toInt64)) hx hb dX6_jokers_124 rfl ?_
                refine lv_lmul hx hb dX6_jokers_125 ?_
                refine lv_lsub hx hb dX6_jokers_126 ?_
                refine lv_lmul hx hb dX6_jokers_127 ?_
                refine lv_lstore (lv' := [(8, .long (((m_ss_f 0).toInt64) * ((((f_X6_sumOf x21.2.2 x21.2.1).toInt64) * v6) - (v4 * (x21.2.2.toInt64))))), (0, .ref m), (1, .int d), (2, .int part), (3, .int x21.1), (4, .long v4), (6, .long v6)]) hx hb dX6_jokers_128 hl (by decide) rfl (fun ls hl => ?_)
                refine lv_lload hx hb dX6_jokers_130 (lv_at hl 0 rfl) ?_
                refine lv_aload_n hx hb dX6_jokers_132 rfl (lv_at hl 1 rfl) ?_
                refine w_get (v := .ref m_ss) hx hb hts i_X6 hown hK w h_m rfl 0 (by decide) (hts _ m_2) rfl dX6_jokers_133 ?_
                refine lv_iconst (v := 1) hx hb dX6_jokers_136 (by decide) ?_
                refine w_ild (j := 1) hx hb hK w h_m_ss (vp_in_nI (n := 1) (N := 55) (by decide) (by decide)) rfl dX6_jokers_137 ?_
                refine lv_aload_n hx hb dX6_jokers_138 rfl (lv_at hl 1 rfl) ?_
                refine w_get (v := .int x21.2.2) hx hb hts i_X6 hown hK w h_m rfl 19 (by decide) (hts _ m_0) rfl dX6_jokers_139 ?_
                refine lv_imul hx hb dX6_jokers_142 ?_
                refine lv_i2l (v := (((m_ss_f 1) * x21.2.2).toInt64)) hx hb dX6_jokers_143 rfl ?_
                refine lv_lload hx hb dX6_jokers_144 (lv_at hl 6 rfl) ?_
                refine lv_lmul hx hb dX6_jokers_146 ?_
                refine lv_iload_n hx hb dX6_jokers_147 rfl (lv_at hl 3 rfl) ?_
                refine w_finL (w_runS (rm := ({ frames := 1, cells := 0, slots := 0, locals := 29 } : Room)) (As := [.long (((m_ss_f 0).toInt64) * ((((f_X6_sumOf x21.2.2 x21.2.1).toInt64) * v6) - (v4 * (x21.2.2.toInt64)))), .long ((((m_ss_f 1) * x21.2.2).toInt64) * v6), .int part]) (rest := []) (n := 3) hx hb hml hts hown hK w (c_X6_partOf l D cI cP cS cL L _ (((m_ss_f 0).toInt64) * ((((f_X6_sumOf x21.2.2 x21.2.1).toInt64) * v6) - (v4 * (x21.2.2.toInt64)))) ((((m_ss_f 1) * x21.2.2).toInt64) * v6) part (by first | exact jok_ne hd20 h1s e21_0 hjn | exact jok_ne hd20 h1s e21_0 (by decide))) gX6_jokers_X6_partOf rfl rfl rfl (by decide +kernel) ⟨(Nat.le_of_ble_eq_true rfl), (Nat.le_of_ble_eq_true rfl)⟩ rfl hl.1 rfl (Nat.le_of_ble_eq_true rfl) dX6_jokers_148 ⟨(Nat.le_of_ble_eq_true rfl), (Nat.le_of_ble_eq_true rfl)⟩) w hA (fun H locs w => ?_)
                refine lv_l2i (v := ((f_X6_partOf (((m_ss_f 0).toInt64) * ((((f_X6_sumOf x21.2.2 x21.2.1).toInt64) * v6) - (v4 * (x21.2.2.toInt64)))) ((((m_ss_f 1) * x21.2.2).toInt64) * v6) part).toInt32)) hx hb dX6_jokers_151 rfl ?_
                exact w_iret hx hb hr hlocks w ⟨rfl, _, hq.symm, rfl, h_m.2, h_m_ha.2, hk⟩ (Nat.le_refl _) (Nat.le_refl _) dX6_jokers_152
              · skip
                have hq := hq.trans (if_pos c5)
                refine lv_lconst (v := 1) hx hb dX6_jokers_100 (by decide) ?_
                refine lv_lstore (lv' := [(6, .long 1), (0, .ref m), (1, .int d), (2, .int part), (3, .int x21.1), (4, .long v4), (8, .int (nI k))]) hx hb dX6_jokers_101 hl (by decide) rfl (fun ls hl => ?_)
                refine lv_aload_n hx hb dX6_jokers_103 rfl (lv_at hl 1 rfl) ?_
                refine w_get (v := .ref m_ss) hx hb hts i_X6 hown hK w h_m rfl 0 (by decide) (hts _ m_2) rfl dX6_jokers_104 ?_
                refine lv_iconst (v := 0) hx hb dX6_jokers_107 (by decide) ?_
                refine w_ild (j := 0) hx hb hK w h_m_ss (vp_in_nI (n := 0) (N := 55) (by decide) (by decide)) rfl dX6_jokers_108 ?_
                refine lv_i2l (v := ((m_ss_f 0).toInt64)) hx hb dX6_jokers_109 rfl ?_
                refine lv_aload_n hx hb dX6_jokers_110 rfl (lv_at hl 1 rfl) ?_
                refine w_finI (w_runV (rm := ({ frames := 0, cells := 0, slots := 0, locals := 0 } : Room)) (As := []) (rest := [.long ((m_ss_f 0).toInt64)]) (n := 0) hx hb hml hts hown hK w (c_X6_sumOf l D cI cP cS cL L _ m m_ss m_im m_re m_sa m_ke m_so m_si m_el m_kd m_kt m_hi m_th m_po m_ba m_en m_tl m_nu m_ca m_ha x21.2.2 m_co x21.2.1 h_m h_m_ha e21_0) gX6_jokers_X6_sumOf rfl rfl rfl (by decide +kernel) ⟨(Nat.le_of_ble_eq_true rfl), (Nat.le_of_ble_eq_true rfl)⟩ h_m rfl rfl hl.1 rfl (Nat.le_of_ble_eq_true rfl) dX6_jokers_111 ⟨(Nat.le_of_ble_eq_true rfl), (Nat.le_of_ble_eq_true rfl)⟩) w hA (fun H locs w => ?_)
                refine lv_i2l (v := ((f_X6_sumOf x21.2.2 x21.2.1).toInt64)) hx hb dX6_jokers_114 rfl ?_
                refine lv_lload hx hb dX6_jokers_115 (lv_at hl 0 rfl) ?_
                refine lv_lmul hx hb dX6_jokers_117 ?_
                refine lv_lload hx hb dX6_jokers_118 (lv_at hl 5 rfl) ?_
                refine lv_aload_n hx hb dX6_jokers_120 rfl (lv_at hl 1 rfl) ?_
                refine w_get (v := .int x21.2.2) hx hb hts i_X6 hown hK w h_m rfl 19 (by decide) (hts _ m_0) rfl dX6_jokers_121 ?_
                refine lv_i2l (v := (x21.2.2.toInt64)) hx hb dX6_jokers_124 rfl ?_
                refine lv_lmul hx hb dX6_jokers_125 ?_
                refine lv_lsub hx hb dX6_jokers_126 ?_
                refine lv_lmul hx hb dX6_jokers_127 ?_
                refine lv_lstore (lv' := [(8, .long (((m_ss_f 0).toInt64) * ((((f_X6_sumOf x21.2.2 x21.2.1).toInt64) * 1) - (v4 * (x21.2.2.toInt64))))), (6, .long 1), (0, .ref m), (1, .int d), (2, .int part), (3, .int x21.1), (4, .long v4)]) hx hb dX6_jokers_128 hl (by decide) rfl (fun ls hl => ?_)
                refine lv_lload hx hb dX6_jokers_130 (lv_at hl 0 rfl) ?_
                refine lv_aload_n hx hb dX6_jokers_132 rfl (lv_at hl 2 rfl) ?_
                refine w_get (v := .ref m_ss) hx hb hts i_X6 hown hK w h_m rfl 0 (by decide) (hts _ m_2) rfl dX6_jokers_133 ?_
                refine lv_iconst (v := 1) hx hb dX6_jokers_136 (by decide) ?_
                refine w_ild (j := 1) hx hb hK w h_m_ss (vp_in_nI (n := 1) (N := 55) (by decide) (by decide)) rfl dX6_jokers_137 ?_
                refine lv_aload_n hx hb dX6_jokers_138 rfl (lv_at hl 2 rfl) ?_
                refine w_get (v := .int x21.2.2) hx hb hts i_X6 hown hK w h_m rfl 19 (by decide) (hts _ m_0) rfl dX6_jokers_139 ?_
                refine lv_imul hx hb dX6_jokers_142 ?_
                refine lv_i2l (v := (((m_ss_f 1) * x21.2.2).toInt64)) hx hb dX6_jokers_143 rfl ?_
                refine lv_lload hx hb dX6_jokers_144 (lv_at hl 1 rfl) ?_
                refine lv_lmul hx hb dX6_jokers_146 ?_
                refine lv_iload_n hx hb dX6_jokers_147 rfl (lv_at hl 4 rfl) ?_
                refine w_finL (w_runS (rm := ({ frames := 1, cells := 0, slots := 0, locals := 29 } : Room)) (As := [.long (((m_ss_f 0).toInt64) * ((((f_X6_sumOf x21.2.2 x21.2.1).toInt64) * 1) - (v4 * (x21.2.2.toInt64)))), .long ((((m_ss_f 1) * x21.2.2).toInt64) * 1), .int part]) (rest := []) (n := 3) hx hb hml hts hown hK w (c_X6_partOf l D cI cP cS cL L _ (((m_ss_f 0).toInt64) * ((((f_X6_sumOf x21.2.2 x21.2.1).toInt64) * 1) - (v4 * (x21.2.2.toInt64)))) ((((m_ss_f 1) * x21.2.2).toInt64) * 1) part (by first | exact jok_ne hd20 h1s e21_0 hjn | exact jok_ne hd20 h1s e21_0 (by decide))) gX6_jokers_X6_partOf rfl rfl rfl (by decide +kernel) ⟨(Nat.le_of_ble_eq_true rfl), (Nat.le_of_ble_eq_true rfl)⟩ rfl hl.1 rfl (Nat.le_of_ble_eq_true rfl) dX6_jokers_148 ⟨(Nat.le_of_ble_eq_true rfl), (Nat.le_of_ble_eq_true rfl)⟩) w hA (fun H locs w => ?_)
                refine lv_l2i (v := ((f_X6_partOf (((m_ss_f 0).toInt64) * ((((f_X6_sumOf x21.2.2 x21.2.1).toInt64) * 1) - (v4 * (x21.2.2.toInt64)))) ((((m_ss_f 1) * x21.2.2).toInt64) * 1) part).toInt32)) hx hb dX6_jokers_151 rfl ?_
                exact w_iret hx hb hr hlocks w ⟨rfl, _, hq.symm, rfl, h_m.2, h_m_ha.2, hk⟩ (Nat.le_refl _) (Nat.le_refl _) dX6_jokers_152
            · skip
              have hq := hq.trans (if_neg c4)
              have hlt46 : k < x21.2.2.toNatClampNeg := w_ltk hk31 c4
              have hk100 : k < 100 := w_k100 hlt46 e21_0
              refine lv_aload_n hx hb dX6_jokers_49 rfl (lv_at hl 0 rfl) ?_
              refine w_get (v := .ref m_ha) hx hb hts i_X6 hown hK w h_m rfl 18 (by decide) (hts _ m_3) rfl dX6_jokers_50 ?_
              refine lv_iload hx hb dX6_jokers_53 (lv_at hl 6 rfl) ?_
              refine w_ild (j := k) hx hb hK w h_m_ha (vp_in_nI (by omega) (by omega)) (nI_clamp (by omega)) dX6_jokers_55 ?_
              refine lv_aload_n hx hb dX6_jokers_56 rfl (lv_at hl 0 rfl) ?_
              refine w_get (v := .ref m_ss) hx hb hts i_X6 hown hK w h_m rfl 0 (by decide) (hts _ m_2) rfl dX6_jokers_57 ?_
              refine lv_iconst (v := 2) hx hb dX6_jokers_60 (by decide) ?_
              refine w_ild (j := 2) hx hb hK w h_m_ss (vp_in_nI (n := 2) (N := 55) (by decide) (by decide)) rfl dX6_jokers_61 ?_
              refine lv_icmp_ne (tgt := 68) hx hb dX6_jokers_62 (by decide) (fun c6 => ?_) (fun c6 => ?_)
              · skip
                have hq := hq.trans (if_neg c6)
                refine lv_lload hx hb dX6_jokers_68 (lv_at hl 4 rfl) ?_
                refine lv_aload_n hx hb dX6_jokers_70 rfl (lv_at hl 0 rfl) ?_
                refine w_get (v := .ref m_ha) hx hb hts i_X6 hown hK w h_m rfl 18 (by decide) (hts _ m_3) rfl dX6_jokers_71 ?_
                refine lv_iload hx hb dX6_jokers_74 (lv_at hl 6 rfl) ?_
                refine w_ild (j := k) hx hb hK w h_m_ha (vp_in_nI (by omega) (by omega)) (nI_clamp (by omega)) dX6_jokers_76 ?_
                refine lv_i2l (v := ((x21.2.1 k).toInt64)) hx hb dX6_jokers_77 rfl ?_
                refine lv_ladd hx hb dX6_jokers_78 ?_
                refine lv_lstore (lv' := [(4, .long (v4 + ((x21.2.1 k).toInt64))), (0, .ref m), (1, .int d), (2, .int part), (3, .int x21.1), (6, .long v6), (8, .int (nI k))]) hx hb dX6_jokers_79 hl (by decide) rfl (fun ls hl => ?_)
                refine lv_lload hx hb dX6_jokers_81 (lv_at hl 5 rfl) ?_
                refine lv_lconst (v := 1) hx hb dX6_jokers_83 (by decide) ?_
                refine lv_ladd hx hb dX6_jokers_84 ?_
                refine lv_lstore (lv' := [(6, .long (v6 + 1)), (4, .long (v4 + ((x21.2.1 k).toInt64))), (0, .ref m), (1, .int d), (2, .int part), (3, .int x21.1), (8, .int (nI k))]) hx hb dX6_jokers_85 hl (by decide) rfl (fun ls hl => ?_)
                refine lv_iinc (v := (nI (k + 1))) (lv' := [(8, .int (nI (k + 1))), (6, .long (v6 + 1)), (4, .long (v4 + ((x21.2.1 k).toInt64))), (0, .ref m), (1, .int d), (2, .int part), (3, .int x21.1)]) hx hb dX6_jokers_87 hl (k := 6) rfl (w_inc _) (by decide) rfl (fun ls hl => ?_)
                refine lv_goto (tgt := 40) hx hb dX6_jokers_90 (by decide) ?_
                exact ih ((k + 1)) (v4 + ((x21.2.1 k).toInt64)) (v6 + 1) _ _ _ _ (by first | exact l_inc hi0 hk100 | exact ⟨hi0.1, by omega⟩) (by omega) (by omega) hq (lv_sub hl [3, 4, 5, 6, 2, 1, 0] rfl) w h_m h_m_ss h_m_ke h_m_so h_m_si h_m_el h_m_ha hk
              · skip
                have hq := hq.trans (if_pos c6)
                refine lv_goto (tgt := 87) hx hb dX6_jokers_65 (by decide) ?_
                refine lv_iinc (v := (nI (k + 1))) (lv' := [(8, .int (nI (k + 1))), (0, .ref m), (1, .int d), (2, .int part), (3, .int x21.1), (4, .long v4), (6, .long v6)]) hx hb dX6_jokers_87 hl (k := 6) rfl (w_inc _) (by decide) rfl (fun ls hl => ?_)
                refine lv_goto (tgt := 40) hx hb dX6_jokers_90 (by decide) ?_
                exact ih ((k + 1)) v4 v6 _ _ _ _ (by first | exact l_inc hi0 hk100 | exact ⟨hi0.1, by omega⟩) (by omega) (by omega) hq (lv_sub hl [1, 2, 3, 4, 5, 6, 0] rfl) w h_m h_m_ss h_m_ke h_m_so h_m_si h_m_el h_m_ha hk
        exact hL40 (x21.2.2.toNatClampNeg + 1) 0 0 0 _ _ _ _ (by decide) (Nat.zero_le _) (by omega) hq (lv_sub hl [4, 5, 6, 3, 2, 1, 0] rfl) w h_m h_m_ss h_m_ke h_m_so h_m_si h_m_el h_m_ha hk
      · skip
        have hq := hq.trans (if_neg c3)
        refine lv_iload_n hx hb dX6_jokers_29 rfl (lv_at hl 0 rfl) ?_
        exact w_iret hx hb hr hlocks w ⟨rfl, _, hq.symm, rfl, h_m.2, h_m_ha.2, hk⟩ (Nat.le_refl _) (Nat.le_refl _) dX6_jokers_30
    · skip
      have hq := hq.trans (if_pos c2)
      refine lv_iconst (v := (-1)) hx hb dX6_jokers_17 (by decide) ?_
      exact w_iret hx hb hr hlocks w ⟨rfl, _, hq.symm, rfl, h_m.2, h_m_ha.2, hk⟩ (Nat.le_refl _) (Nat.le_refl _) dX6_jokers_18
def f_X6_differ_L119 (d : Int32) (e0 : Int32) (m_ss_f : Nat → Int32) (m_si_f : Nat → Int32) (u_m_co_f : Nat → Int32) (x103 : Int32 × (Nat → Int32) × Int32) : Nat → Nat → Int32 → Int32 × (Nat → Int32) × Int32 × (Nat → Int32)
  | 0, _, _ => (0, (fun _ => 0), 0, (fun _ => 0))
  | n + 1, k, v4 => if (10 : Int32) ≤ (nI k) then (v4, x103.2.1, x103.2.2, u_m_co_f) else (f_X6_differ_L119 d e0 m_ss_f m_si_f u_m_co_f x103 n ((k + 1)) (v4 + (f_X6_amount (((u_m_co_f k) * (m_si_f (e0.toNatClampNeg))) - ((f_X6_sharesOf (nI k) x103.2.2 m_ss_f x103.2.1) * (m_si_f (d.toNatClampNeg)))))))
theorem f_X6_differ_L119_s (d : Int32) (e0 : Int32) (m_ss_f : Nat → Int32) (m_si_f : Nat → Int32) (u_m_co_f : Nat → Int32) (x103 : Int32 × (Nat → Int32) × Int32) (n k : Nat) (v4 : Int32) : f_X6_differ_L119 d e0 m_ss_f m_si_f u_m_co_f x103 (n + 1) k v4 = (if (10 : Int32) ≤ (nI k) then (v4, x103.2.1, x103.2.2, u_m_co_f) else (f_X6_differ_L119 d e0 m_ss_f m_si_f u_m_co_f x103 n ((k + 1)) (v4 + (f_X6_amount (((u_m_co_f k) * (m_si_f (e0.toNatClampNeg))) - ((f_X6_sharesOf (nI k) x103.2.2 m_ss_f x103.2.1) * (m_si_f (d.toNatClampNeg)))))))) := rfl
def f_X6_differ_L75 (d : Int32) (e0 : Int32) (m_ss_f : Nat → Int32) (m_ke_f : Nat → Int32) (m_so_f : Nat → Int32) (m_si_f : Nat → Int32) (m_el_f : Nat → Int32) (x62 : Int32 × (Nat → Int32) × Int32) : Nat → Nat → (Nat → Int32) → Int32 × (Nat → Int32) × Int32 × (Nat → Int32)
  | 0, _, _ => (0, (fun _ => 0), 0, (fun _ => 0))
  | n + 1, k, u_m_co_f => if (10 : Int32) ≤ (nI k) then (bnd (f_X6_takesRow e0 x62.2.2 m_ss_f m_ke_f m_so_f m_si_f m_el_f x62.2.1) (fun x103 : Int32 × (Nat → Int32) × Int32 => if x103.1 = (0 : Int32) then (f_X6_differ_L119 d e0 m_ss_f m_si_f u_m_co_f x103 (10 + 1) 0 0) else (x103.1, x103.2.1, x103.2.2, u_m_co_f))) else (f_X6_differ_L75 d e0 m_ss_f m_ke_f m_so_f m_si_f m_el_f x62 n ((k + 1)) (upd u_m_co_f k (f_X6_sharesOf (nI k) x62.2.2 m_ss_f x62.2.1)))
theorem f_X6_differ_L75_s (d : Int32) (e0 : Int32) (m_ss_f : Nat → Int32) (m_ke_f : Nat → Int32) (m_so_f : Nat → Int32) (m_si_f : Nat → Int32) (m_el_f : Nat → Int32) (x62 : Int32 × (Nat → Int32) × Int32) (n k : Nat) (u_m_co_f : Nat → Int32) : f_X6_differ_L75 d e0 m_ss_f m_ke_f m_so_f m_si_f m_el_f x62 (n + 1) k u_m_co_f = (if (10 : Int32) ≤ (nI k) then (bnd (f_X6_takesRow e0 x62.2.2 m_ss_f m_ke_f m_so_f m_si_f m_el_f x62.2.1) (fun x103 : Int32 × (Nat → Int32) × Int32 => if x103.1 = (0 : Int32) then (f_X6_differ_L119 d e0 m_ss_f m_si_f u_m_co_f x103 (10 + 1) 0 0) else (x103.1, x103.2.1, x103.2.2, u_m_co_f))) else (f_X6_differ_L75 d e0 m_ss_f m_ke_f m_so_f m_si_f m_el_f x62 n ((k + 1)) (upd u_m_co_f k (f_X6_sharesOf (nI k) x62.2.2 m_ss_f x62.2.1)))) := rfl
def f_X6_differ (d : Int32) (e0 : Int32) (m_hs : Int32) (m_ss_f : Nat → Int32) (m_ke_f : Nat → Int32) (m_so_f : Nat → Int32) (m_si_f : Nat → Int32) (m_el_f : Nat → Int32) (m_ha_f : Nat → Int32) (m_co_f : Nat → Int32) : Int32 × (Nat → Int32) × Int32 × (Nat → Int32) := if (f_X6_isShelf d) = (0 : Int32) then ((-1), m_ha_f, m_hs, m_co_f) else (if (f_X6_isShelf e0) = (0 : Int32) then ((-1), m_ha_f, m_hs, m_co_f) else (if (m_ke_f (d.toNatClampNeg)) = (0 : Int32) then ((-11), m_ha_f, m_hs, m_co_f) else (if (m_ke_f (e0.toNatClampNeg)) = (0 : Int32) then ((-11), m_ha_f, m_hs, m_co_f) else (if (m_ke_f (d.toNatClampNeg)) = (2 : Int32) then (if (m_ke_f (e0.toNatClampNeg)) = (2 : Int32) then (bnd (f_X6_takesRow d m_hs m_ss_f m_ke_f m_so_f m_si_f m_el_f m_ha_f) (fun x62 : Int32 × (Nat → Int32) × Int32 => if x62.1 = (0 : Int32) then (f_X6_differ_L75 d e0 m_ss_f m_ke_f m_so_f m_si_f m_el_f x62 (10 + 1) 0 m_co_f) else (x62.1, x62.2.1, x62.2.2, m_co_f))) else ((-12), m_ha_f, m_hs, m_co_f)) else ((-12), m_ha_f, m_hs, m_co_f)))))
set_option maxHeartbeats 400000 in
set_option maxRecDepth 100000 in
theorem c_X6_differ (l : Launch) (D : va_G) (cI cP cS cL : ClassId) (L : List Nat) (F : Nat → va_E) (m : Nat) (d : Int32) (e0 : Int32) (m_ss : Nat) (m_im : Nat) (m_re : Nat) (m_sa : Nat) (m_ke : Nat) (m_so : Nat) (m_si : Nat) (m_el : Nat) (m_kd : Nat) (m_kt : Nat) (m_hi : Int32) (m_th : Int32) (m_po : Int32) (m_ba : Int32) (m_en : Int32) (m_tl : Int32) (m_nu : Nat) (m_ca : Nat) (m_ha : Nat) (m_hs : Int32) (m_co : Nat) (m_ss_f : Nat → Int32) (m_ke_f : Nat → Int32) (m_so_f : Nat → Int32) (m_si_f : Nat → Int32) (m_el_f : Nat → Int32) (m_ha_f : Nat → Int32) (m_co_f : Nat → Int32) (h_m : wi L F m (eM m_ss m_im m_re m_sa m_ke m_so m_si m_el m_kd m_kt m_hi m_th m_po m_ba m_en m_tl m_nu m_ca m_ha m_hs m_co)) (h_m_ss : wi L F m_ss (eI cI 55 m_ss_f)) (h_m_ke : wi L F m_ke (eI cI 8 m_ke_f)) (h_m_so : wi L F m_so (eI cI 8 m_so_f)) (h_m_si : wi L F m_si (eI cI 8 m_si_f)) (h_m_el : wi L F m_el (eI cI 800 m_el_f)) (h_m_ha : wi L F m_ha (eI cI 100 m_ha_f)) (h_m_co : wi L F m_co (eI cI 10 m_co_f)) (hsi : ∀ i, i < 8 → (m_si_f i).toInt ≤ 100) (hsi0 : ∀ i, i < 8 → 0 ≤ (m_si_f i).toInt) (hhs : m_hs.toInt ≤ 100) (hd1 : ¬ (m_ss_f 1) = 0) (ne_m_ss_m_ha : m_ss ≠ m_ha) (ne_m_ke_m_ha : m_ke ≠ m_ha) (ne_m_so_m_ha : m_so ≠ m_ha) (ne_m_si_m_ha : m_si ≠ m_ha) (ne_m_el_m_ha : m_el ≠ m_ha) (ne_m_co_m_ha : m_co ≠ m_ha) (ne_m_ss_m_co : m_ss ≠ m_co) (ne_m_ke_m_co : m_ke ≠ m_co) (ne_m_so_m_co : m_so ≠ m_co) (ne_m_si_m_co : m_si ≠ m_co) (ne_m_el_m_co : m_el ≠ m_co) (ne_m_ha_m_co : m_ha ≠ m_co) : wMj l D cI cP cS cL yX6_differ wsX6_differ ({ frames := 6, cells := 0, slots := 0, locals := 136 } : Room) [.ref m, .int d, .int e0] L F (fun r1 F1 => ∃ y9 : Int32 × (Nat → Int32) × Int32 × (Nat → Int32), y9 = (f_X6_differ d e0 m_hs m_ss_f m_ke_f m_so_f m_si_f m_el_f m_ha_f m_co_f) ∧ r1 = y9.1 ∧ F1 m = (eM m_ss m_im m_re m_sa m_ke m_so m_si m_el m_kd m_kt m_hi m_th m_po m_ba m_en m_tl m_nu m_ca m_ha y9.2.2.1 m_co) ∧ F1 m_ha = (eI cI 100 y9.2.1) ∧ F1 m_co = (eI cI 10 y9.2.2.2) ∧ wk (fun q : Nat => q ≠ m ∧ q ≠ m_ha ∧ q ≠ m_co ∧ True) F1 F) := by
  refine wM.of (cc := cX6_differ) (maxL := 6) (ret := (some .int)) (by decide) rfl (Nat.le_of_ble_eq_true rfl) ?_
  intro pZ eZ sZ mZ below meth cZ A ls C hl w
  obtain ⟨hx, hb, hr, hml, hts, hown, hlocks, hK, hA, hin⟩ := C
  have hown : sZ.vm.findClass RX6 = some mZ.cls := hown
  have hl : lv_has ls 6 [(0, .ref m), (1, .int d), (2, .int e0)] := hl
  have m_0 : ((.fieldLink RX6 22 "TwoThirdsModel" "kept" "[I") : Cond) ∈ wsX6_differ := by decide +kernel
  have i_X6 : ∀ w ∈ wsX60, w ∈ wsX6_differ := by decide +kernel
  have m_2 : ((.fieldLink RX6 49 "TwoThirdsModel" "counts" "[I") : Cond) ∈ wsX6_differ := by decide +kernel
  have m_3 : ((.fieldLink RX6 28 "TwoThirdsModel" "size" "[I") : Cond) ∈ wsX6_differ := by decide +kernel
  have hk : wk (fun q : Nat => q ≠ m ∧ q ≠ m_ha ∧ q ≠ m_co ∧ True) F F := wk.rf
  have hq : f_X6_differ d e0 m_hs m_ss_f m_ke_f m_so_f m_si_f m_el_f m_ha_f m_co_f = f_X6_differ d e0 m_hs m_ss_f m_ke_f m_so_f m_si_f m_el_f m_ha_f m_co_f := rfl
  refine lv_iload_n hx hb dX6_differ_0 rfl (lv_at hl 1 rfl) ?_
  refine w_finI (w_runS (rm := ({ frames := 1, cells := 0, slots := 0, locals := 25 } : Room)) (As := [.int d]) (rest := []) (n := 1) hx hb hml hts hown hK w (c_X6_isShelf l D cI cP cS cL L _ d ) gX6_differ_X6_isShelf rfl rfl rfl (by decide +kernel) ⟨(Nat.le_of_ble_eq_true rfl), (Nat.le_of_ble_eq_true rfl)⟩ rfl hl.1 rfl (Nat.le_of_ble_eq_true rfl) dX6_differ_1 ⟨(Nat.le_of_ble_eq_true rfl), (Nat.le_of_ble_eq_true rfl)⟩) w hA (fun H locs w => ?_)
  refine lv_if_eq (tgt := 14) hx hb dX6_differ_4 (by decide) (fun c1 => ?_) (fun c1 => ?_)
  · skip
    have hq := hq.trans (if_pos c1)
    refine lv_iconst (v := (-1)) hx hb dX6_differ_14 (by decide) ?_
    exact w_iret hx hb hr hlocks w ⟨rfl, _, hq.symm, rfl, h_m.2, h_m_ha.2, h_m_co.2, hk⟩ (Nat.le_refl _) (Nat.le_refl _) dX6_differ_15
  · skip
    have hq := hq.trans (if_neg c1)
    have hd0 : 0 ≤ d.toInt ∧ d.toInt < 8 := isShelf_ok c1
    refine lv_iload_n hx hb dX6_differ_7 rfl (lv_at hl 2 rfl) ?_
    refine w_finI (w_runS (rm := ({ frames := 1, cells := 0, slots := 0, locals := 25 } : Room)) (As := [.int e0]) (rest := []) (n := 1) hx hb hml hts hown hK w (c_X6_isShelf l D cI cP cS cL L _ e0 ) gX6_differ_X6_isShelf rfl rfl rfl (by decide +kernel) ⟨(Nat.le_of_ble_eq_true rfl), (Nat.le_of_ble_eq_true rfl)⟩ rfl hl.1 rfl (Nat.le_of_ble_eq_true rfl) dX6_differ_8 ⟨(Nat.le_of_ble_eq_true rfl), (Nat.le_of_ble_eq_true rfl)⟩) w hA (fun H locs w => ?_)
    refine lv_if_ne (tgt := 16) hx hb dX6_differ_11 (by decide) (fun c2 => ?_) (fun c2 => ?_)
    · skip
      have hq := hq.trans (if_neg c2)
      have hde : 0 ≤ e0.toInt ∧ e0.toInt < 8 := isShelf_ok c2
      refine lv_aload_n hx hb dX6_differ_16 rfl (lv_at hl 0 rfl) ?_
      refine w_get (v := .ref m_ke) hx hb hts i_X6 hown hK w h_m rfl 4 (by decide) (hts _ m_0) rfl dX6_differ_17 ?_
      refine lv_iload_n hx hb dX6_differ_20 rfl (lv_at hl 1 rfl) ?_
      refine w_ild (j := (d.toNatClampNeg)) hx hb hK w h_m_ke (w_in8 hd0) rfl dX6_differ_21 ?_
      refine lv_if_eq (tgt := 34) hx hb dX6_differ_22 (by decide) (fun c3 => ?_) (fun c3 => ?_)
      · skip
        have hq := hq.trans (if_pos c3)
        refine lv_bipush (v := (-11)) hx hb dX6_differ_34 (by decide) ?_
        exact w_iret hx hb hr hlocks w ⟨rfl, _, hq.symm, rfl, h_m.2, h_m_ha.2, h_m_co.2, hk⟩ (Nat.le_refl _) (Nat.le_refl _) dX6_differ_36
      · skip
        have hq := hq.trans (if_neg c3)
        refine lv_aload_n hx hb dX6_differ_25 rfl (lv_at hl 0 rfl) ?_
        refine w_get (v := .ref m_ke) hx hb hts i_X6 hown hK w h_m rfl 4 (by decide) (hts _ m_0) rfl dX6_differ_26 ?_
        refine lv_iload_n hx hb dX6_differ_29 rfl (lv_at hl 2 rfl) ?_
        refine w_ild (j := (e0.toNatClampNeg)) hx hb hK w h_m_ke (w_in8 hde) rfl dX6_differ_30 ?_
        refine lv_if_ne (tgt := 37) hx hb dX6_differ_31 (by decide) (fun c4 => ?_) (fun c4 => ?_)
        · skip
          have hq := hq.trans (if_neg c4)
          refine lv_aload_n hx hb dX6_differ_37 rfl (lv_at hl 0 rfl) ?_
          refine w_get (v := .ref m_ke) hx hb hts i_X6 hown hK w h_m rfl 4 (by decide) (hts _ m_0) rfl dX6_differ_38 ?_
          refine lv_iload_n hx hb dX6_differ_41 rfl (lv_at hl 1 rfl) ?_
          refine w_ild (j := (d.toNatClampNeg)) hx hb hK w h_m_ke (w_in8 hd0) rfl dX6_differ_42 ?_
          refine lv_iconst (v := 2) hx hb dX6_differ_43 (by decide) ?_
          refine lv_icmp_ne (tgt := 57) hx hb dX6_differ_44 (by decide) (fun c5 => ?_) (fun c5 => ?_)
          · skip
            have hq := hq.trans (if_neg c5)
            refine lv_bipush (v := (-12)) hx hb dX6_differ_57 (by decide) ?_
            exact w_iret hx hb hr hlocks w ⟨rfl, _, hq.symm, rfl, h_m.2, h_m_ha.2, h_m_co.2, hk⟩ (Nat.le_refl _) (Nat.le_refl _) dX6_differ_59
          · skip
            have hq := hq.trans (if_pos c5)
            refine lv_aload_n hx hb dX6_differ_47 rfl (lv_at hl 0 rfl) ?_
            refine w_get (v := .ref m_ke) hx hb hts i_X6 hown hK w h_m rfl 4 (by decide) (hts _ m_0) rfl dX6_differ_48 ?_
            refine lv_iload_n hx hb dX6_differ_51 rfl (lv_at hl 2 rfl) ?_
            refine w_ild (j := (e0.toNatClampNeg)) hx hb hK w h_m_ke (w_in8 hde) rfl dX6_differ_52 ?_
            refine lv_iconst (v := 2) hx hb dX6_differ_53 (by decide) ?_
            refine lv_icmp_eq (tgt := 60) hx hb dX6_differ_54 (by decide) (fun c6 => ?_) (fun c6 => ?_)
            · skip
              have hq := hq.trans (if_pos c6)
              refine lv_aload_n hx hb dX6_differ_60 rfl (lv_at hl 0 rfl) ?_
              refine lv_iload_n hx hb dX6_differ_61 rfl (lv_at hl 1 rfl) ?_
              refine w_finj (w_runV (rm := ({ frames := 3, cells := 0, slots := 0, locals := 67 } : Room)) (As := [.int d]) (rest := []) (n := 1) hx hb hml hts hown hK w (c_X6_takesRow l D cI cP cS cL L _ m d m_ss m_im m_re m_sa m_ke m_so m_si m_el m_kd m_kt m_hi m_th m_po m_ba m_en m_tl m_nu m_ca m_ha m_hs m_co m_ss_f m_ke_f m_so_f m_si_f m_el_f m_ha_f h_m h_m_ss h_m_ke h_m_so h_m_si h_m_el h_m_ha hsi hsi0 hhs ne_m_ss_m_ha ne_m_ke_m_ha ne_m_so_m_ha ne_m_si_m_ha ne_m_el_m_ha) gX6_differ_X6_takesRow rfl rfl rfl (by decide +kernel) ⟨(Nat.le_of_ble_eq_true rfl), (Nat.le_of_ble_eq_true rfl)⟩ h_m rfl rfl hl.1 rfl (Nat.le_of_ble_eq_true rfl) dX6_differ_62 ⟨(Nat.le_of_ble_eq_true rfl), (Nat.le_of_ble_eq_true rfl)⟩) w hA (fun r9 F1 H locs hp w => ?_)
              obtain ⟨x62, hx62, e62_0, e62_1, e62_2, hr9, hw0, hw1, hk9⟩ := hp
              subst hr9
              have hq := hq.trans (w_bnd hx62)
              have h_m_ss := h_m_ss.keep hk9 ⟨(wi.ne h_m_ss h_m (by intro h; cases h)), ne_m_ss_m_ha, trivial⟩
              have h_m_ke := h_m_ke.keep hk9 ⟨(wi.ne h_m_ke h_m (by intro h; cases h)), ne_m_ke_m_ha, trivial⟩
              have h_m_so := h_m_so.keep hk9 ⟨(wi.ne h_m_so h_m (by intro h; cases h)), ne_m_so_m_ha, trivial⟩
              have h_m_si := h_m_si.keep hk9 ⟨(wi.ne h_m_si h_m (by intro h; cases h)), ne_m_si_m_ha, trivial⟩
              have h_m_el := h_m_el.keep hk9 ⟨(wi.ne h_m_el h_m (by intro h; cases h)), ne_m_el_m_ha, trivial⟩
              have h_m_co := h_m_co.keep hk9 ⟨(wi.ne h_m_co h_m (by intro h; cases h)), ne_m_co_m_ha, trivial⟩
              have h_m := h_m.new hw0
              have h_m_ha := h_m_ha.new hw1
              have hk := hk.call hk9 (fun q h => ⟨h.1, h.2.1, trivial⟩)
              refine lv_istore_n (lv' := [(3, .int x62.1), (0, .ref m), (1, .int d), (2, .int e0)]) hx hb dX6_differ_65 rfl hl (by decide) rfl (fun ls hl => ?_)
              refine lv_iload_n hx hb dX6_differ_66 rfl (lv_at hl 0 rfl) ?_
              refine lv_if_eq (tgt := 72) hx hb dX6_differ_67 (by decide) (fun c7 => ?_) (fun c7 => ?_)
              · skip
                have hq := hq.trans (if_pos c7)
                refine lv_iconst (v := 0) hx hb dX6_differ_72 (by decide) ?_
                refine lv_istore (lv' := [(4, .int 0), (3, .int x62.1), (0, .ref m), (1, .int d), (2, .int e0)]) hx hb dX6_differ_73 hl (by decide) rfl (fun ls hl => ?_)
                have hL75 : ∀ (n k : Nat) (u_m_co_f : Nat → Int32) (F1 : Nat → va_E) (H : Heap) (locs : List Loc) (ls : Array Slot), k ≤ 10 → 10 - k < n → f_X6_differ d e0 m_hs m_ss_f m_ke_f m_so_f m_si_f m_el_f m_ha_f m_co_f = f_X6_differ_L75 d e0 m_ss_f m_ke_f m_so_f m_si_f m_el_f x62 n k u_m_co_f → lv_has ls 6 [(0, .ref m), (1, .int d), (2, .int e0), (3, .int x62.1), (4, .int (nI k))] → ww D A sZ.heap L F1 H locs → (wi L F1 m (eM m_ss m_im m_re m_sa m_ke m_so m_si m_el m_kd m_kt m_hi m_th m_po m_ba m_en m_tl m_nu m_ca m_ha x62.2.2 m_co)) → (wi L F1 m_ss (eI cI 55 m_ss_f)) → (wi L F1 m_ke (eI cI 8 m_ke_f)) → (wi L F1 m_so (eI cI 8 m_so_f)) → (wi L F1 m_si (eI cI 8 m_si_f)) → (wi L F1 m_el (eI cI 800 m_el_f)) → (wi L F1 m_ha (eI cI 100 x62.2.1)) → (wi L F1 m_co (eI cI 10 u_m_co_f)) → wk (fun q : Nat => q ≠ m ∧ q ≠ m_ha ∧ q ≠ m_co ∧ True) F1 F → W pZ l eZ ({ frames := 6, cells := 0, slots := 0, locals := 136 } : Room) sZ mZ [.ref m, .int d, .int e0].toArray below meth cZ H locs 0 0 (MQ below (wQi D A (fun r1 L1 F1 => L1 = L ∧ ∃ y9 : Int32 × (Nat → Int32) × Int32 × (Nat → Int32), y9 = (f_X6_differ d e0 m_hs m_ss_f m_ke_f m_so_f m_si_f m_el_f m_ha_f m_co_f) ∧ r1 = y9.1 ∧ F1 m = (eM m_ss m_im m_re m_sa m_ke m_so m_si m_el m_kd m_kt m_hi m_th m_po m_ba m_en m_tl m_nu m_ca m_ha y9.2.2.1 m_co) ∧ F1 m_ha = (eI cI 100 y9.2.1) ∧ F1 m_co = (eI cI 10 y9.2.2.2) ∧ wk (fun q : Nat => q ≠ m ∧ q ≠ m_ha ∧ q ≠ m_co ∧ True) F1 F)) [.ref m, .int d, .int e0].toArray sZ 0 0 A) (F0 mZ 75 ls []) := by
                  intro n; induction n with
                  | zero => intro k u_m_co_f F1 H locs ls hkT hmeas; exact absurd hmeas (Nat.not_lt_zero _)
                  | succ n ih =>
                    intro k u_m_co_f F1 H locs ls hkT hmeas hq hl w h_m h_m_ss h_m_ke h_m_so h_m_si h_m_el h_m_ha h_m_co hk
                    have hk31 : k < 2147483648 := by omega
                    have hq := hq.trans (f_X6_differ_L75_s d e0 m_ss_f m_ke_f m_so_f m_si_f m_el_f x62 n k u_m_co_f)
                    refine lv_iload hx hb dX6_differ_75 (lv_at hl 4 rfl) ?_
                    refine lv_bipush (v := 10) hx hb dX6_differ_77 (by decide) ?_
                    refine lv_icmp_ge (tgt := 101) hx hb dX6_differ_79 (by decide) (fun c8 => ?_) (fun c8 => ?_)
                    · skip
                      have hq := hq.trans (if_pos c8)
                      refine lv_aload_n hx hb dX6_differ_101 rfl (lv_at hl 0 rfl) ?_
                      refine lv_iload_n hx hb dX6_differ_102 rfl (lv_at hl 2 rfl) ?_
                      refine w_finj (w_runV (rm := ({ frames := 3, cells := 0, slots := 0, locals := 67 } : Room)) (As := [.int e0]) (rest := []) (n := 1) hx hb hml hts hown hK w (c_X6_takesRow l D cI cP cS cL L _ m e0 m_ss m_im m_re m_sa m_ke m_so m_si m_el m_kd m_kt m_hi m_th m_po m_ba m_en m_tl m_nu m_ca m_ha x62.2.2 m_co m_ss_f m_ke_f m_so_f m_si_f m_el_f x62.2.1 h_m h_m_ss h_m_ke h_m_so h_m_si h_m_el h_m_ha hsi hsi0 e62_0 ne_m_ss_m_ha ne_m_ke_m_ha ne_m_so_m_ha ne_m_si_m_ha ne_m_el_m_ha) gX6_differ_X6_takesRow rfl rfl rfl (by decide +kernel) ⟨(Nat.le_of_ble_eq_true rfl), (Nat.le_of_ble_eq_true rfl)⟩ h_m rfl rfl hl.1 rfl (Nat.le_of_ble_eq_true rfl) dX6_differ_103 ⟨(Nat.le_of_ble_eq_true rfl), (Nat.le_of_ble_eq_true rfl)⟩) w hA (fun r9 F1 H locs hp w => ?_)
                      obtain ⟨x103, hx103, e103_0, e103_1, e103_2, hr9, hw0, hw1, hk9⟩ := hp
                      subst hr9
                      have hq := hq.trans (w_bnd hx103)
                      have h_m_ss := h_m_ss.keep hk9 ⟨(wi.ne h_m_ss h_m (by intro h; cases h)), ne_m_ss_m_ha, trivial⟩
                      have h_m_ke := h_m_ke.keep hk9 ⟨(wi.ne h_m_ke h_m (by intro h; cases h)), ne_m_ke_m_ha, trivial⟩
                      have h_m_so := h_m_so.keep hk9 ⟨(wi.ne h_m_so h_m (by intro h; cases h)), ne_m_so_m_ha, trivial⟩
                      have h_m_si := h_m_si.keep hk9 ⟨(wi.ne h_m_si h_m (by intro h; cases h)), ne_m_si_m_ha, trivial⟩
                      have h_m_el := h_m_el.keep hk9 ⟨(wi.ne h_m_el h_m (by intro h; cases h)), ne_m_el_m_ha, trivial⟩
                      have h_m_co := h_m_co.keep hk9 ⟨(wi.ne h_m_co h_m (by intro h; cases h)), ne_m_co_m_ha, trivial⟩
                      have h_m := h_m.new hw0
                      have h_m_ha := h_m_ha.new hw1
                      have hk := hk.call hk9 (fun q h => ⟨h.1, h.2.1, trivial⟩)
                      refine lv_istore_n (lv' := [(3, .int x103.1), (0, .ref m), (1, .int d), (2, .int e0), (4, .int (nI k))]) hx hb dX6_differ_106 rfl hl (by decide) rfl (fun ls hl => ?_)
                      refine lv_iload_n hx hb dX6_differ_107 rfl (lv_at hl 0 rfl) ?_
                      refine lv_if_eq (tgt := 113) hx hb dX6_differ_108 (by decide) (fun c9 => ?_) (fun c9 => ?_)
                      · skip
                        have hq := hq.trans (if_pos c9)
                        refine lv_iconst (v := 0) hx hb dX6_differ_113 (by decide) ?_
                        refine lv_istore (lv' := [(4, .int 0), (3, .int x103.1), (0, .ref m), (1, .int d), (2, .int e0)]) hx hb dX6_differ_114 hl (by decide) rfl (fun ls hl => ?_)
                        refine lv_iconst (v := 0) hx hb dX6_differ_116 (by decide) ?_
                        refine lv_istore (lv' := [(5, .int 0), (4, .int 0), (3, .int x103.1), (0, .ref m), (1, .int d), (2, .int e0)]) hx hb dX6_differ_117 hl (by decide) rfl (fun ls hl => ?_)
                        have hL119 : ∀ (n k : Nat) (v4 : Int32) (F1 : Nat → va_E) (H : Heap) (locs : List Loc) (ls : Array Slot), k ≤ 10 → 10 - k < n → f_X6_differ d e0 m_hs m_ss_f m_ke_f m_so_f m_si_f m_el_f m_ha_f m_co_f = f_X6_differ_L119 d e0 m_ss_f m_si_f u_m_co_f x103 n k v4 → lv_has ls 6 [(0, .ref m), (1, .int d), (2, .int e0), (3, .int x103.1), (4, .int v4), (5, .int (nI k))] → ww D A sZ.heap L F1 H locs → (wi L F1 m (eM m_ss m_im m_re m_sa m_ke m_so m_si m_el m_kd m_kt m_hi m_th m_po m_ba m_en m_tl m_nu m_ca m_ha x103.2.2 m_co)) → (wi L F1 m_ss (eI cI 55 m_ss_f)) → (wi L F1 m_ke (eI cI 8 m_ke_f)) → (wi L F1 m_so (eI cI 8 m_so_f)) → (wi L F1 m_si (eI cI 8 m_si_f)) → (wi L F1 m_el (eI cI 800 m_el_f)) → (wi L F1 m_ha (eI cI 100 x103.2.1)) → (wi L F1 m_co (eI cI 10 u_m_co_f)) → wk (fun q : Nat => q ≠ m ∧ q ≠ m_ha ∧ q ≠ m_co ∧ True) F1 F → W pZ l eZ ({ frames := 6, cells := 0, slots := 0, locals := 136 } : Room) sZ mZ [.ref m, .int d, .int e0].toArray below meth cZ H locs 0 0 (MQ below (wQi D A (fun r1 L1 F1 => L1 = L ∧ ∃ y9 : Int32 × (Nat → Int32) × Int32 × (Nat → Int32), y9 = (f_X6_differ d e0 m_hs m_ss_f m_ke_f m_so_f m_si_f m_el_f m_ha_f m_co_f) ∧ r1 = y9.1 ∧ F1 m = (eM m_ss m_im m_re m_sa m_ke m_so m_si m_el m_kd m_kt m_hi m_th m_po m_ba m_en m_tl m_nu m_ca m_ha y9.2.2.1 m_co) ∧ F1 m_ha = (eI cI 100 y9.2.1) ∧ F1 m_co = (eI cI 10 y9.2.2.2) ∧ wk (fun q : Nat => q ≠ m ∧ q ≠ m_ha ∧ q ≠ m_co ∧ True) F1 F)) [.ref m, .int d, .int e0].toArray sZ 0 0 A) (F0 mZ 119 ls []) := by
                          intro n; induction n with
                          | zero => intro k v4 F1 H locs ls hkT hmeas; exact absurd hmeas (Nat.not_lt_zero _)
                          | succ n ih =>
                            intro k v4 F1 H locs ls hkT hmeas hq hl w h_m h_m_ss h_m_ke h_m_so h_m_si h_m_el h_m_ha h_m_co hk
                            have hk31 : k < 2147483648 := by omega
                            have hq := hq.trans (f_X6_differ_L119_s d e0 m_ss_f m_si_f u_m_co_f x103 n k v4)
                            refine lv_iload hx hb dX6_differ_119 (lv_at hl 5 rfl) ?_
                            refine lv_bipush (v := 10) hx hb dX6_differ_121 (by decide) ?_
                            refine lv_icmp_ge (tgt := 168) hx hb dX6_differ_123 (by decide) (fun c10 => ?_) (fun c10 => ?_)
                            · skip
                              have hq := hq.trans (if_pos c10)
                              refine lv_iload hx hb dX6_differ_168 (lv_at hl 4 rfl) ?_
                              exact w_iret hx hb hr hlocks w ⟨rfl, _, hq.symm, rfl, h_m.2, h_m_ha.2, h_m_co.2, hk⟩ (Nat.le_refl _) (Nat.le_refl _) dX6_differ_170
                            · skip
                              have hq := hq.trans (if_neg c10)
                              have hlt123 : k < 10 := w_ltk hk31 c10
                              refine lv_iload hx hb dX6_differ_126 (lv_at hl 4 rfl) ?_
                              refine lv_aload_n hx hb dX6_differ_128 rfl (lv_at hl 0 rfl) ?_
                              refine w_get (v := .ref m_co) hx hb hts i_X6 hown hK w h_m rfl 20 (by decide) (hts _ m_2) rfl dX6_differ_129 ?_
                              refine lv_iload hx hb dX6_differ_132 (lv_at hl 5 rfl) ?_
                              refine w_ild (j := k) hx hb hK w h_m_co (vp_in_nI (by omega) (by omega)) (nI_clamp (by omega)) dX6_differ_134 ?_
                              refine lv_aload_n hx hb dX6_differ_135 rfl (lv_at hl 0 rfl) ?_
                              refine w_get (v := .ref m_si) hx hb hts i_X6 hown hK w h_m rfl 6 (by decide) (hts _ m_3) rfl dX6_differ_136 ?_
                              refine lv_iload_n hx hb dX6_differ_139 rfl (lv_at hl 2 rfl) ?_
                              refine w_ild (j := (e0.toNatClampNeg)) hx hb hK w h_m_si (w_in8 hde) rfl dX6_differ_140 ?_
                              refine lv_imul hx hb dX6_differ_141 ?_
                              refine lv_aload_n hx hb dX6_differ_142 rfl (lv_at hl 0 rfl) ?_
                              refine lv_iload hx hb dX6_differ_143 (lv_at hl 5 rfl) ?_
                              refine w_finI (w_runV (rm := ({ frames := 5, cells := 0, slots := 0, locals := 113 } : Room)) (As := [.int (nI k)]) (rest := [.int ((u_m_co_f k) * (m_si_f (e0.toNatClampNeg))), .int v4]) (n := 1) hx hb hml hts hown hK w (c_X6_sharesOf l D cI cP cS cL L _ m (nI k) m_ss m_im m_re m_sa m_ke m_so m_si m_el m_kd m_kt m_hi m_th m_po m_ba m_en m_tl m_nu m_ca m_ha x103.2.2 m_co m_ss_f x103.2.1 h_m h_m_ss h_m_ha hd1 e103_0) gX6_differ_X6_sharesOf rfl rfl rfl (by decide +kernel) ⟨(Nat.le_of_ble_eq_true rfl), (Nat.le_of_ble_eq_true rfl)⟩ h_m rfl rfl hl.1 rfl (Nat.le_of_ble_eq_true rfl) dX6_differ_145 ⟨(Nat.le_of_ble_eq_true rfl), (Nat.le_of_ble_eq_true rfl)⟩) w hA (fun H locs w => ?_)
                              refine lv_aload_n hx hb dX6_differ_148 rfl (lv_at hl 0 rfl) ?_
                              refine w_get (v := .ref m_si) hx hb hts i_X6 hown hK w h_m rfl 6 (by decide) (hts _ m_3) rfl dX6_differ_149 ?_
                              refine lv_iload_n hx hb dX6_differ_152 rfl (lv_at hl 1 rfl) ?_
                              refine w_ild (j := (d.toNatClampNeg)) hx hb hK w h_m_si (w_in8 hd0) rfl dX6_differ_153 ?_
                              refine lv_imul hx hb dX6_differ_154 ?_
                              refine lv_isub hx hb dX6_differ_155 ?_
                              refine w_finI (w_runS (rm := ({ frames := 0, cells := 0, slots := 0, locals := 0 } : Room)) (As := [.int (((u_m_co_f k) * (m_si_f (e0.toNatClampNeg))) - ((f_X6_sharesOf (nI k) x103.2.2 m_ss_f x103.2.1) * (m_si_f (d.toNatClampNeg))))]) (rest := [.int v4]) (n := 1) hx hb hml hts hown hK w (c_X6_amount l D cI cP cS cL L _ (((u_m_co_f k) * (m_si_f (e0.toNatClampNeg))) - ((f_X6_sharesOf (nI k) x103.2.2 m_ss_f x103.2.1) * (m_si_f (d.toNatClampNeg)))) ) gX6_differ_X6_amount rfl rfl rfl (by decide +kernel) ⟨(Nat.le_of_ble_eq_true rfl), (Nat.le_of_ble_eq_true rfl)⟩ rfl hl.1 rfl (Nat.le_of_ble_eq_true rfl) dX6_differ_156 ⟨(Nat.le_of_ble_eq_true rfl), (Nat.le_of_ble_eq_true rfl)⟩) w hA (fun H locs w => ?_)
                              refine lv_iadd hx hb dX6_differ_159 ?_
                              refine lv_istore (lv' := [(4, .int (v4 + (f_X6_amount (((u_m_co_f k) * (m_si_f (e0.toNatClampNeg))) - ((f_X6_sharesOf (nI k) x103.2.2 m_ss_f x103.2.1) * (m_si_f (d.toNatClampNeg))))))), (0, .ref m), (1, .int d), (2, .int e0), (3, .int x103.1), (5, .int (nI k))]) hx hb dX6_differ_160 hl (by decide) rfl (fun ls hl => ?_)
                              refine lv_iinc (v := (nI (k + 1))) (lv' := [(5, .int (nI (k + 1))), (4, .int (v4 + (f_X6_amount (((u_m_co_f k) * (m_si_f (e0.toNatClampNeg))) - ((f_X6_sharesOf (nI k) x103.2.2 m_ss_f x103.2.1) * (m_si_f (d.toNatClampNeg))))))), (0, .ref m), (1, .int d), (2, .int e0), (3, .int x103.1)]) hx hb dX6_differ_162 hl (k := 5) rfl (w_inc _) (by decide) rfl (fun ls hl => ?_)
                              refine lv_goto (tgt := 119) hx hb dX6_differ_165 (by decide) ?_
                              exact ih ((k + 1)) (v4 + (f_X6_amount (((u_m_co_f k) * (m_si_f (e0.toNatClampNeg))) - ((f_X6_sharesOf (nI k) x103.2.2 m_ss_f x103.2.1) * (m_si_f (d.toNatClampNeg)))))) _ _ _ _ (by omega) (by omega) hq (lv_sub hl [2, 3, 4, 5, 1, 0] rfl) w h_m h_m_ss h_m_ke h_m_so h_m_si h_m_el h_m_ha h_m_co hk
                        exact hL119 (10 + 1) 0 0 _ _ _ _ (Nat.zero_le _) (by omega) hq (lv_sub hl [3, 4, 5, 2, 1, 0] rfl) w h_m h_m_ss h_m_ke h_m_so h_m_si h_m_el h_m_ha h_m_co hk
                      · skip
                        have hq := hq.trans (if_neg c9)
                        refine lv_iload_n hx hb dX6_differ_111 rfl (lv_at hl 0 rfl) ?_
                        exact w_iret hx hb hr hlocks w ⟨rfl, _, hq.symm, rfl, h_m.2, h_m_ha.2, h_m_co.2, hk⟩ (Nat.le_refl _) (Nat.le_refl _) dX6_differ_112
                    · skip
                      have hq := hq.trans (if_neg c8)
                      have hlt79 : k < 10 := w_ltk hk31 c8
                      refine lv_aload_n hx hb dX6_differ_82 rfl (lv_at hl 0 rfl) ?_
                      refine w_get (v := .ref m_co) hx hb hts i_X6 hown hK w h_m rfl 20 (by decide) (hts _ m_2) rfl dX6_differ_83 ?_
                      refine lv_iload hx hb dX6_differ_86 (lv_at hl 4 rfl) ?_
                      refine lv_aload_n hx hb dX6_differ_88 rfl (lv_at hl 0 rfl) ?_
                      refine lv_iload hx hb dX6_differ_89 (lv_at hl 4 rfl) ?_
                      refine w_finI (w_runV (rm := ({ frames := 5, cells := 0, slots := 0, locals := 113 } : Room)) (As := [.int (nI k)]) (rest := [.int (nI k), .ref m_co]) (n := 1) hx hb hml hts hown hK w (c_X6_sharesOf l D cI cP cS cL L _ m (nI k) m_ss m_im m_re m_sa m_ke m_so m_si m_el m_kd m_kt m_hi m_th m_po m_ba m_en m_tl m_nu m_ca m_ha x62.2.2 m_co m_ss_f x62.2.1 h_m h_m_ss h_m_ha hd1 e62_0) gX6_differ_X6_sharesOf rfl rfl rfl (by decide +kernel) ⟨(Nat.le_of_ble_eq_true rfl), (Nat.le_of_ble_eq_true rfl)⟩ h_m rfl rfl hl.1 rfl (Nat.le_of_ble_eq_true rfl) dX6_differ_91 ⟨(Nat.le_of_ble_eq_true rfl), (Nat.le_of_ble_eq_true rfl)⟩) w hA (fun H locs w => ?_)
                      have ho11 := h_m_co
                      refine w_ist (j := k) hx hb hK w h_m_co (vp_in_nI (by omega) (by omega)) (nI_clamp (by omega)) dX6_differ_94 (fun H locs w h_m_co => ?_)
                      have h_m := h_m.upw h_m_co (wi.ne h_m ho11 (by intro h; cases h))
                      have h_m_ss := h_m_ss.upw h_m_co ne_m_ss_m_co
                      have h_m_ke := h_m_ke.upw h_m_co ne_m_ke_m_co
                      have h_m_so := h_m_so.upw h_m_co ne_m_so_m_co
                      have h_m_si := h_m_si.upw h_m_co ne_m_si_m_co
                      have h_m_el := h_m_el.upw h_m_co ne_m_el_m_co
                      have h_m_ha := h_m_ha.upw h_m_co ne_m_ha_m_co
                      have hk := hk.upw h_m_co (fun q h => h.2.2.1)
                      refine lv_iinc (v := (nI (k + 1))) (lv' := [(4, .int (nI (k + 1))), (0, .ref m), (1, .int d), (2, .int e0), (3, .int x62.1)]) hx hb dX6_differ_95 hl (k := 4) rfl (w_inc _) (by decide) rfl (fun ls hl => ?_)
                      refine lv_goto (tgt := 75) hx hb dX6_differ_98 (by decide) ?_
                      exact ih ((k + 1)) (upd u_m_co_f k (f_X6_sharesOf (nI k) x62.2.2 m_ss_f x62.2.1)) _ _ _ _ (by omega) (by omega) hq (lv_sub hl [1, 2, 3, 4, 0] rfl) w h_m h_m_ss h_m_ke h_m_so h_m_si h_m_el h_m_ha h_m_co hk
                exact hL75 (10 + 1) 0 m_co_f _ _ _ _ (Nat.zero_le _) (by omega) hq (lv_sub hl [2, 3, 4, 1, 0] rfl) w h_m h_m_ss h_m_ke h_m_so h_m_si h_m_el h_m_ha h_m_co hk
              · skip
                have hq := hq.trans (if_neg c7)
                refine lv_iload_n hx hb dX6_differ_70 rfl (lv_at hl 0 rfl) ?_
                exact w_iret hx hb hr hlocks w ⟨rfl, _, hq.symm, rfl, h_m.2, h_m_ha.2, h_m_co.2, hk⟩ (Nat.le_refl _) (Nat.le_refl _) dX6_differ_71
            · skip
              have hq := hq.trans (if_neg c6)
              refine lv_bipush (v := (-12)) hx hb dX6_differ_57 (by decide) ?_
              exact w_iret hx hb hr hlocks w ⟨rfl, _, hq.symm, rfl, h_m.2, h_m_ha.2, h_m_co.2, hk⟩ (Nat.le_refl _) (Nat.le_refl _) dX6_differ_59
        · skip
          have hq := hq.trans (if_pos c4)
          refine lv_bipush (v := (-11)) hx hb dX6_differ_34 (by decide) ?_
          exact w_iret hx hb hr hlocks w ⟨rfl, _, hq.symm, rfl, h_m.2, h_m_ha.2, h_m_co.2, hk⟩ (Nat.le_refl _) (Nat.le_refl _) dX6_differ_36
    · skip
      have hq := hq.trans (if_pos c2)
      refine lv_iconst (v := (-1)) hx hb dX6_differ_14 (by decide) ?_
      exact w_iret hx hb hr hlocks w ⟨rfl, _, hq.symm, rfl, h_m.2, h_m_ha.2, h_m_co.2, hk⟩ (Nat.le_refl _) (Nat.le_refl _) dX6_differ_15
def f_X6_leastOf (d : Int32) (m_so_f : Nat → Int32) : Int32 := if (m_so_f (d.toNatClampNeg)) = (0 : Int32) then (-128) else (if (m_so_f (d.toNatClampNeg)) = (1 : Int32) then (-32768) else (-2147483648))
set_option maxHeartbeats 400000 in
set_option maxRecDepth 100000 in
theorem c_X6_leastOf (l : Launch) (D : va_G) (cI cP cS cL : ClassId) (L : List Nat) (F : Nat → va_E) (m : Nat) (d : Int32) (m_ss : Nat) (m_im : Nat) (m_re : Nat) (m_sa : Nat) (m_ke : Nat) (m_so : Nat) (m_si : Nat) (m_el : Nat) (m_kd : Nat) (m_kt : Nat) (m_hi : Int32) (m_th : Int32) (m_po : Int32) (m_ba : Int32) (m_en : Int32) (m_tl : Int32) (m_nu : Nat) (m_ca : Nat) (m_ha : Nat) (m_hs : Int32) (m_co : Nat) (m_so_f : Nat → Int32) (h_m : wi L F m (eM m_ss m_im m_re m_sa m_ke m_so m_si m_el m_kd m_kt m_hi m_th m_po m_ba m_en m_tl m_nu m_ca m_ha m_hs m_co)) (h_m_so : wi L F m_so (eI cI 8 m_so_f)) (hd : 0 ≤ d.toInt ∧ d.toInt < 8) : wMI l D cI cP cS cL yX6_leastOf wsX6_leastOf ({ frames := 0, cells := 0, slots := 0, locals := 0 } : Room) [.ref m, .int d] L F (f_X6_leastOf d m_so_f) F := by
  refine wM.of (cc := cX6_leastOf) (maxL := 2) (ret := (some .int)) (by decide) rfl (Nat.le_of_ble_eq_true rfl) ?_
  intro pZ eZ sZ mZ below meth cZ A ls C hl w
  obtain ⟨hx, hb, hr, hml, hts, hown, hlocks, hK, hA, hin⟩ := C
  have hown : sZ.vm.findClass RX6 = some mZ.cls := hown
  have hl : lv_has ls 2 [(0, .ref m), (1, .int d)] := hl
  have m_0 : ((.fieldLink RX6 25 "TwoThirdsModel" "sort" "[I") : Cond) ∈ wsX6_leastOf := by decide +kernel
  have i_X6 : ∀ w ∈ wsX60, w ∈ wsX6_leastOf := by decide +kernel
  have m_2 : ((.constant RX6 228 (-2147483648)) : Cond) ∈ wsX6_leastOf := by decide +kernel
  have hq : f_X6_leastOf d m_so_f = f_X6_leastOf d m_so_f := rfl
  refine lv_aload_n hx hb dX6_leastOf_0 rfl (lv_at hl 0 rfl) ?_
  refine w_get (v := .ref m_so) hx hb hts i_X6 hown hK w h_m rfl 5 (by decide) (hts _ m_0) rfl dX6_leastOf_1 ?_
  refine lv_iload_n hx hb dX6_leastOf_4 rfl (lv_at hl 1 rfl) ?_
  refine w_ild (j := (d.toNatClampNeg)) hx hb hK w h_m_so (w_in8 hd) rfl dX6_leastOf_5 ?_
  refine lv_if_ne (tgt := 14) hx hb dX6_leastOf_6 (by decide) (fun c1 => ?_) (fun c1 => ?_)
  · skip
    have hq := hq.trans (if_neg c1)
    refine lv_aload_n hx hb dX6_leastOf_14 rfl (lv_at hl 0 rfl) ?_
    refine w_get (v := .ref m_so) hx hb hts i_X6 hown hK w h_m rfl 5 (by decide) (hts _ m_0) rfl dX6_leastOf_15 ?_
    refine lv_iload_n hx hb dX6_leastOf_18 rfl (lv_at hl 1 rfl) ?_
    refine w_ild (j := (d.toNatClampNeg)) hx hb hK w h_m_so (w_in8 hd) rfl dX6_leastOf_19 ?_
    refine lv_iconst (v := 1) hx hb dX6_leastOf_20 (by decide) ?_
    refine lv_icmp_ne (tgt := 30) hx hb dX6_leastOf_21 (by decide) (fun c2 => ?_) (fun c2 => ?_)
    · skip
      have hq := hq.trans (if_neg c2)
      refine lv_ldc (v := (-2147483648)) hx hb hown (hts _ m_2) dX6_leastOf_30 ?_
      exact w_iret hx hb hr hlocks w ⟨hq.symm, rfl, rfl⟩ (Nat.le_refl _) (Nat.le_refl _) dX6_leastOf_32
    · skip
      have hq := hq.trans (if_pos c2)
      refine lv_sipush (v := (-32768)) hx hb dX6_leastOf_24 (by decide) ?_
      refine lv_goto (tgt := 32) hx hb dX6_leastOf_27 (by decide) ?_
      exact w_iret hx hb hr hlocks w ⟨hq.symm, rfl, rfl⟩ (Nat.le_refl _) (Nat.le_refl _) dX6_leastOf_32
  · skip
    have hq := hq.trans (if_pos c1)
    refine lv_bipush (v := (-128)) hx hb dX6_leastOf_9 (by decide) ?_
    refine lv_goto (tgt := 32) hx hb dX6_leastOf_11 (by decide) ?_
    exact w_iret hx hb hr hlocks w ⟨hq.symm, rfl, rfl⟩ (Nat.le_refl _) (Nat.le_refl _) dX6_leastOf_32
def f_X6_judge_L37 (d : Int32) (m_ss_f : Nat → Int32) (m_so_f : Nat → Int32) (m_si_f : Nat → Int32) (m_el_f : Nat → Int32) : Nat → Nat → Int32
  | 0, _ => 0
  | n + 1, k => if (m_si_f (d.toNatClampNeg)) ≤ (nI k) then (-4) else (if (nI k) = (m_ss_f 5) then (nI k) else (if (m_el_f (100 * d.toNatClampNeg + k)) = (f_X6_leastOf d m_so_f) then (f_X6_judge_L37 d m_ss_f m_so_f m_si_f m_el_f n ((k + 1)) ) else (if (m_el_f (100 * d.toNatClampNeg + k)) = (f_X6_get (nI k) 3 m_ss_f) then (f_X6_judge_L37 d m_ss_f m_so_f m_si_f m_el_f n ((k + 1)) ) else (nI k))))
theorem f_X6_judge_L37_s (d : Int32) (m_ss_f : Nat → Int32) (m_so_f : Nat → Int32) (m_si_f : Nat → Int32) (m_el_f : Nat → Int32) (n k : Nat)  : f_X6_judge_L37 d m_ss_f m_so_f m_si_f m_el_f (n + 1) k = (if (m_si_f (d.toNatClampNeg)) ≤ (nI k) then (-4) else (if (nI k) = (m_ss_f 5) then (nI k) else (if (m_el_f (100 * d.toNatClampNeg + k)) = (f_X6_leastOf d m_so_f) then (f_X6_judge_L37 d m_ss_f m_so_f m_si_f m_el_f n ((k + 1)) ) else (if (m_el_f (100 * d.toNatClampNeg + k)) = (f_X6_get (nI k) 3 m_ss_f) then (f_X6_judge_L37 d m_ss_f m_so_f m_si_f m_el_f n ((k + 1)) ) else (nI k))))) := rfl
def f_X6_judge (d : Int32) (m_ss_f : Nat → Int32) (m_ke_f : Nat → Int32) (m_so_f : Nat → Int32) (m_si_f : Nat → Int32) (m_el_f : Nat → Int32) : Int32 := if (f_X6_isShelf d) = (0 : Int32) then (-1) else (if (m_ss_f 6) = (0 : Int32) then (-3) else (if (f_X6_wrongRow d (-1) m_ke_f m_so_f) = (0 : Int32) then (f_X6_judge_L37 d m_ss_f m_so_f m_si_f m_el_f ((m_si_f (d.toNatClampNeg)).toNatClampNeg + 1) 0 ) else (f_X6_wrongRow d (-1) m_ke_f m_so_f)))
set_option maxHeartbeats 400000 in
set_option maxRecDepth 100000 in
theorem c_X6_judge (l : Launch) (D : va_G) (cI cP cS cL : ClassId) (L : List Nat) (F : Nat → va_E) (m : Nat) (d : Int32) (m_ss : Nat) (m_im : Nat) (m_re : Nat) (m_sa : Nat) (m_ke : Nat) (m_so : Nat) (m_si : Nat) (m_el : Nat) (m_kd : Nat) (m_kt : Nat) (m_hi : Int32) (m_th : Int32) (m_po : Int32) (m_ba : Int32) (m_en : Int32) (m_tl : Int32) (m_nu : Nat) (m_ca : Nat) (m_ha : Nat) (m_hs : Int32) (m_co : Nat) (m_ss_f : Nat → Int32) (m_ke_f : Nat → Int32) (m_so_f : Nat → Int32) (m_si_f : Nat → Int32) (m_el_f : Nat → Int32) (h_m : wi L F m (eM m_ss m_im m_re m_sa m_ke m_so m_si m_el m_kd m_kt m_hi m_th m_po m_ba m_en m_tl m_nu m_ca m_ha m_hs m_co)) (h_m_ss : wi L F m_ss (eI cI 55 m_ss_f)) (h_m_ke : wi L F m_ke (eI cI 8 m_ke_f)) (h_m_so : wi L F m_so (eI cI 8 m_so_f)) (h_m_si : wi L F m_si (eI cI 8 m_si_f)) (h_m_el : wi L F m_el (eI cI 800 m_el_f)) (hsi : ∀ i, i < 8 → (m_si_f i).toInt ≤ 100) (hsi0 : ∀ i, i < 8 → 0 ≤ (m_si_f i).toInt) (h5 : 0 ≤ (m_ss_f 5).toInt ∧ (m_ss_f 5).toInt ≤ 12) : wMI l D cI cP cS cL yX6_judge wsX6_judge ({ frames := 3, cells := 0, slots := 0, locals := 67 } : Room) [.ref m, .int d] L F (f_X6_judge d m_ss_f m_ke_f m_so_f m_si_f m_el_f) F := by
  refine wM.of (cc := cX6_judge) (maxL := 5) (ret := (some .int)) (by decide) rfl (Nat.le_of_ble_eq_true rfl) ?_
  intro pZ eZ sZ mZ below meth cZ A ls C hl w
  obtain ⟨hx, hb, hr, hml, hts, hown, hlocks, hK, hA, hin⟩ := C
  have hown : sZ.vm.findClass RX6 = some mZ.cls := hown
  have hl : lv_has ls 5 [(0, .ref m), (1, .int d)] := hl
  have m_0 : ((.fieldLink RX6 9 "TwoThirdsModel" "s" "[I") : Cond) ∈ wsX6_judge := by decide +kernel
  have i_X6 : ∀ w ∈ wsX60, w ∈ wsX6_judge := by decide +kernel
  have m_2 : ((.fieldLink RX6 28 "TwoThirdsModel" "size" "[I") : Cond) ∈ wsX6_judge := by decide +kernel
  have m_3 : ((.fieldLink RX6 31 "TwoThirdsModel" "element" "[I") : Cond) ∈ wsX6_judge := by decide +kernel
  have hq : f_X6_judge d m_ss_f m_ke_f m_so_f m_si_f m_el_f = f_X6_judge d m_ss_f m_ke_f m_so_f m_si_f m_el_f := rfl
  refine lv_iload_n hx hb dX6_judge_0 rfl (lv_at hl 1 rfl) ?_
  refine w_finI (w_runS (rm := ({ frames := 1, cells := 0, slots := 0, locals := 25 } : Room)) (As := [.int d]) (rest := []) (n := 1) hx hb hml hts hown hK w (c_X6_isShelf l D cI cP cS cL L _ d ) gX6_judge_X6_isShelf rfl rfl rfl (by decide +kernel) ⟨(Nat.le_of_ble_eq_true rfl), (Nat.le_of_ble_eq_true rfl)⟩ rfl hl.1 rfl (Nat.le_of_ble_eq_true rfl) dX6_judge_1 ⟨(Nat.le_of_ble_eq_true rfl), (Nat.le_of_ble_eq_true rfl)⟩) w hA (fun H locs w => ?_)
  refine lv_if_ne (tgt := 9) hx hb dX6_judge_4 (by decide) (fun c1 => ?_) (fun c1 => ?_)
  · skip
    have hq := hq.trans (if_neg c1)
    have hd : 0 ≤ d.toInt ∧ d.toInt < 8 := isShelf_ok c1
    have hd8 : d.toNatClampNeg < 8 := w_d8 hd
    refine lv_aload_n hx hb dX6_judge_9 rfl (lv_at hl 0 rfl) ?_
    refine w_get (v := .ref m_ss) hx hb hts i_X6 hown hK w h_m rfl 0 (by decide) (hts _ m_0) rfl dX6_judge_10 ?_
    refine lv_bipush (v := 6) hx hb dX6_judge_13 (by decide) ?_
    refine w_ild (j := 6) hx hb hK w h_m_ss (vp_in_nI (n := 6) (N := 55) (by decide) (by decide)) rfl dX6_judge_15 ?_
    refine lv_if_ne (tgt := 22) hx hb dX6_judge_16 (by decide) (fun c2 => ?_) (fun c2 => ?_)
    · skip
      have hq := hq.trans (if_neg c2)
      refine lv_aload_n hx hb dX6_judge_22 rfl (lv_at hl 0 rfl) ?_
      refine lv_iload_n hx hb dX6_judge_23 rfl (lv_at hl 1 rfl) ?_
      refine lv_iconst (v := (-1)) hx hb dX6_judge_24 (by decide) ?_
      refine w_finI (w_runV (rm := ({ frames := 2, cells := 0, slots := 0, locals := 45 } : Room)) (As := [.int d, .int (-1)]) (rest := []) (n := 2) hx hb hml hts hown hK w (c_X6_wrongRow l D cI cP cS cL L _ m d (-1) m_ss m_im m_re m_sa m_ke m_so m_si m_el m_kd m_kt m_hi m_th m_po m_ba m_en m_tl m_nu m_ca m_ha m_hs m_co m_ke_f m_so_f h_m h_m_ke h_m_so) gX6_judge_X6_wrongRow rfl rfl rfl (by decide +kernel) ⟨(Nat.le_of_ble_eq_true rfl), (Nat.le_of_ble_eq_true rfl)⟩ h_m rfl rfl hl.1 rfl (Nat.le_of_ble_eq_true rfl) dX6_judge_25 ⟨(Nat.le_of_ble_eq_true rfl), (Nat.le_of_ble_eq_true rfl)⟩) w hA (fun H locs w => ?_)
      refine lv_istore_n (lv' := [(2, .int (f_X6_wrongRow d (-1) m_ke_f m_so_f)), (0, .ref m), (1, .int d)]) hx hb dX6_judge_28 rfl hl (by decide) rfl (fun ls hl => ?_)
      refine lv_iload_n hx hb dX6_judge_29 rfl (lv_at hl 0 rfl) ?_
      refine lv_if_eq (tgt := 35) hx hb dX6_judge_30 (by decide) (fun c3 => ?_) (fun c3 => ?_)
      · skip
        have hq := hq.trans (if_pos c3)
        refine lv_iconst (v := 0) hx hb dX6_judge_35 (by decide) ?_
        refine lv_istore_n (lv' := [(3, .int 0), (2, .int (f_X6_wrongRow d (-1) m_ke_f m_so_f)), (0, .ref m), (1, .int d)]) hx hb dX6_judge_36 rfl hl (by decide) rfl (fun ls hl => ?_)
        have hL37 : ∀ (n k : Nat)  (H : Heap) (locs : List Loc) (ls : Array Slot), (k ≤ (m_ss_f 5).toNatClampNeg) → k ≤ (m_si_f (d.toNatClampNeg)).toNatClampNeg → (m_si_f (d.toNatClampNeg)).toNatClampNeg - k < n → f_X6_judge d m_ss_f m_ke_f m_so_f m_si_f m_el_f = f_X6_judge_L37 d m_ss_f m_so_f m_si_f m_el_f n k → lv_has ls 5 [(0, .ref m), (1, .int d), (2, .int (f_X6_wrongRow d (-1) m_ke_f m_so_f)), (3, .int (nI k))] → ww D A sZ.heap L F H locs → W pZ l eZ ({ frames := 3, cells := 0, slots := 0, locals := 67 } : Room) sZ mZ [.ref m, .int d].toArray below meth cZ H locs 0 0 (MQ below (wQi D A (fun r1 L1 F1 => r1 = (f_X6_judge d m_ss_f m_ke_f m_so_f m_si_f m_el_f) ∧ L1 = L ∧ F1 = F)) [.ref m, .int d].toArray sZ 0 0 A) (F0 mZ 37 ls []) := by
          intro n; induction n with
          | zero => intro k H locs ls _ hkT hmeas; exact absurd hmeas (Nat.not_lt_zero _)
          | succ n ih =>
            intro k H locs ls hi0 hkT hmeas hq hl w
            have hk31 : k < 2147483648 := Nat.lt_of_le_of_lt hkT (w_clamp_lt _)
            have hq := hq.trans (f_X6_judge_L37_s d m_ss_f m_so_f m_si_f m_el_f n k)
            refine lv_iload_n hx hb dX6_judge_37 rfl (lv_at hl 3 rfl) ?_
            refine lv_aload_n hx hb dX6_judge_38 rfl (lv_at hl 0 rfl) ?_
            refine w_get (v := .ref m_si) hx hb hts i_X6 hown hK w h_m rfl 6 (by decide) (hts _ m_2) rfl dX6_judge_39 ?_
            refine lv_iload_n hx hb dX6_judge_42 rfl (lv_at hl 1 rfl) ?_
            refine w_ild (j := (d.toNatClampNeg)) hx hb hK w h_m_si (w_in8 hd) rfl dX6_judge_43 ?_
            refine lv_icmp_ge (tgt := 101) hx hb dX6_judge_44 (by decide) (fun c4 => ?_) (fun c4 => ?_)
            · skip
              have hq := hq.trans (if_pos c4)
              refine lv_bipush (v := (-4)) hx hb dX6_judge_101 (by decide) ?_
              exact w_iret hx hb hr hlocks w ⟨hq.symm, rfl, rfl⟩ (Nat.le_refl _) (Nat.le_refl _) dX6_judge_103
            · skip
              have hq := hq.trans (if_neg c4)
              have hlt44 : k < (m_si_f (d.toNatClampNeg)).toNatClampNeg := w_ltk hk31 c4
              have hk100 : k < 100 := w_k100 hlt44 (hsi _ hd8)
              refine lv_iload_n hx hb dX6_judge_47 rfl (lv_at hl 3 rfl) ?_
              refine lv_aload_n hx hb dX6_judge_48 rfl (lv_at hl 0 rfl) ?_
              refine w_get (v := .ref m_ss) hx hb hts i_X6 hown hK w h_m rfl 0 (by decide) (hts _ m_0) rfl dX6_judge_49 ?_
              refine lv_iconst (v := 5) hx hb dX6_judge_52 (by decide) ?_
              refine w_ild (j := 5) hx hb hK w h_m_ss (vp_in_nI (n := 5) (N := 55) (by decide) (by decide)) rfl dX6_judge_53 ?_
              refine lv_icmp_ne (tgt := 59) hx hb dX6_judge_54 (by decide) (fun c5 => ?_) (fun c5 => ?_)
              · skip
                have hq := hq.trans (if_neg c5)
                have hk12 : k < 12 := by have q1 := hi0; have q2 : ¬ k = (m_ss_f 5).toNatClampNeg := nI_neB hk31 h5.1 c5; have q3 := h5.2; have q4 : (m_ss_f 5).toNatClampNeg = (m_ss_f 5).toInt.toNat := rfl; omega
                have hk5 : k + 1 ≤ (m_ss_f 5).toNatClampNeg := by have q1 := hi0; have q2 : ¬ k = (m_ss_f 5).toNatClampNeg := nI_neB hk31 h5.1 c5; omega
                refine lv_aload_n hx hb dX6_judge_59 rfl (lv_at hl 0 rfl) ?_
                refine w_get (v := .ref m_el) hx hb hts i_X6 hown hK w h_m rfl 7 (by decide) (hts _ m_3) rfl dX6_judge_60 ?_
                refine lv_bipush (v := 100) hx hb dX6_judge_63 (by decide) ?_
                refine lv_iload_n hx hb dX6_judge_65 rfl (lv_at hl 1 rfl) ?_
                refine lv_imul hx hb dX6_judge_66 ?_
                refine lv_iload_n hx hb dX6_judge_67 rfl (lv_at hl 3 rfl) ?_
                refine lv_iadd hx hb dX6_judge_68 ?_
                refine w_ild (j := (100 * d.toNatClampNeg + k)) hx hb hK w h_m_el (elix hd (by omega)) (elix_n (by assumption) (by omega)) dX6_judge_69 ?_
                refine lv_istore (lv' := [(4, .int (m_el_f (100 * d.toNatClampNeg + k))), (0, .ref m), (1, .int d), (2, .int (f_X6_wrongRow d (-1) m_ke_f m_so_f)), (3, .int (nI k))]) hx hb dX6_judge_70 hl (by decide) rfl (fun ls hl => ?_)
                refine lv_iload hx hb dX6_judge_72 (lv_at hl 0 rfl) ?_
                refine lv_aload_n hx hb dX6_judge_74 rfl (lv_at hl 1 rfl) ?_
                refine lv_iload_n hx hb dX6_judge_75 rfl (lv_at hl 2 rfl) ?_
                refine w_finI (w_runV (rm := ({ frames := 0, cells := 0, slots := 0, locals := 0 } : Room)) (As := [.int d]) (rest := [.int (m_el_f (100 * d.toNatClampNeg + k))]) (n := 1) hx hb hml hts hown hK w (c_X6_leastOf l D cI cP cS cL L _ m d m_ss m_im m_re m_sa m_ke m_so m_si m_el m_kd m_kt m_hi m_th m_po m_ba m_en m_tl m_nu m_ca m_ha m_hs m_co m_so_f h_m h_m_so hd) gX6_judge_X6_leastOf rfl rfl rfl (by decide +kernel) ⟨(Nat.le_of_ble_eq_true rfl), (Nat.le_of_ble_eq_true rfl)⟩ h_m rfl rfl hl.1 rfl (Nat.le_of_ble_eq_true rfl) dX6_judge_76 ⟨(Nat.le_of_ble_eq_true rfl), (Nat.le_of_ble_eq_true rfl)⟩) w hA (fun H locs w => ?_)
                refine lv_icmp_eq (tgt := 95) hx hb dX6_judge_79 (by decide) (fun c6 => ?_) (fun c6 => ?_)
                · skip
                  have hq := hq.trans (if_pos c6)
                  refine lv_iinc (v := (nI (k + 1))) (lv' := [(3, .int (nI (k + 1))), (4, .int (m_el_f (100 * d.toNatClampNeg + k))), (0, .ref m), (1, .int d), (2, .int (f_X6_wrongRow d (-1) m_ke_f m_so_f))]) hx hb dX6_judge_95 hl (k := 4) rfl (w_inc _) (by decide) rfl (fun ls hl => ?_)
                  refine lv_goto (tgt := 37) hx hb dX6_judge_98 (by decide) ?_
                  exact ih ((k + 1))  _ _ _ hk5 (by omega) (by omega) hq (lv_sub hl [2, 3, 4, 0] rfl) w
                · skip
                  have hq := hq.trans (if_neg c6)
                  refine lv_iload hx hb dX6_judge_82 (lv_at hl 0 rfl) ?_
                  refine lv_aload_n hx hb dX6_judge_84 rfl (lv_at hl 1 rfl) ?_
                  refine lv_iload_n hx hb dX6_judge_85 rfl (lv_at hl 4 rfl) ?_
                  refine lv_iconst (v := 3) hx hb dX6_judge_86 (by decide) ?_
                  refine w_finI (w_runV (rm := ({ frames := 0, cells := 0, slots := 0, locals := 0 } : Room)) (As := [.int (nI k), .int 3]) (rest := [.int (m_el_f (100 * d.toNatClampNeg + k))]) (n := 2) hx hb hml hts hown hK w (c_X6_get l D cI cP cS cL L _ m (nI k) 3 m_ss m_im m_re m_sa m_ke m_so m_si m_el m_kd m_kt m_hi m_th m_po m_ba m_en m_tl m_nu m_ca m_ha m_hs m_co m_ss_f h_m h_m_ss (gix2 (nIb (by omega)) (by decide))) gX6_judge_X6_get rfl rfl rfl (by decide +kernel) ⟨(Nat.le_of_ble_eq_true rfl), (Nat.le_of_ble_eq_true rfl)⟩ h_m rfl rfl hl.1 rfl (Nat.le_of_ble_eq_true rfl) dX6_judge_87 ⟨(Nat.le_of_ble_eq_true rfl), (Nat.le_of_ble_eq_true rfl)⟩) w hA (fun H locs w => ?_)
                  refine lv_icmp_eq (tgt := 95) hx hb dX6_judge_90 (by decide) (fun c7 => ?_) (fun c7 => ?_)
                  · skip
                    have hq := hq.trans (if_pos c7)
                    refine lv_iinc (v := (nI (k + 1))) (lv' := [(3, .int (nI (k + 1))), (4, .int (m_el_f (100 * d.toNatClampNeg + k))), (0, .ref m), (1, .int d), (2, .int (f_X6_wrongRow d (-1) m_ke_f m_so_f))]) hx hb dX6_judge_95 hl (k := 4) rfl (w_inc _) (by decide) rfl (fun ls hl => ?_)
                    refine lv_goto (tgt := 37) hx hb dX6_judge_98 (by decide) ?_
                    exact ih ((k + 1))  _ _ _ hk5 (by omega) (by omega) hq (lv_sub hl [2, 3, 4, 0] rfl) w
                  · skip
                    have hq := hq.trans (if_neg c7)
                    refine lv_iload_n hx hb dX6_judge_93 rfl (lv_at hl 4 rfl) ?_
                    exact w_iret hx hb hr hlocks w ⟨hq.symm, rfl, rfl⟩ (Nat.le_refl _) (Nat.le_refl _) dX6_judge_94
              · skip
                have hq := hq.trans (if_pos c5)
                refine lv_iload_n hx hb dX6_judge_57 rfl (lv_at hl 3 rfl) ?_
                exact w_iret hx hb hr hlocks w ⟨hq.symm, rfl, rfl⟩ (Nat.le_refl _) (Nat.le_refl _) dX6_judge_58
        exact hL37 ((m_si_f (d.toNatClampNeg)).toNatClampNeg + 1) 0  _ _ _ (Nat.zero_le _) (Nat.zero_le _) (by omega) hq (lv_sub hl [2, 3, 1, 0] rfl) w
      · skip
        have hq := hq.trans (if_neg c3)
        refine lv_iload_n hx hb dX6_judge_33 rfl (lv_at hl 0 rfl) ?_
        exact w_iret hx hb hr hlocks w ⟨hq.symm, rfl, rfl⟩ (Nat.le_refl _) (Nat.le_refl _) dX6_judge_34
    · skip
      have hq := hq.trans (if_pos c2)
      refine lv_bipush (v := (-3)) hx hb dX6_judge_19 (by decide) ?_
      exact w_iret hx hb hr hlocks w ⟨hq.symm, rfl, rfl⟩ (Nat.le_refl _) (Nat.le_refl _) dX6_judge_21
  · skip
    have hq := hq.trans (if_pos c1)
    refine lv_iconst (v := (-1)) hx hb dX6_judge_7 (by decide) ?_
    exact w_iret hx hb hr hlocks w ⟨hq.symm, rfl, rfl⟩ (Nat.le_refl _) (Nat.le_refl _) dX6_judge_8
def f_X6_ends_L23 (what : Int32) (m_ss_f : Nat → Int32) : Nat → Nat → Int32 → Int32
  | 0, _, _ => 0
  | n + 1, k, v2 => if (100 : Int32) < (nI k) then (-4) else (if (f_X6_shareOf v2 (m_ss_f 0) (m_ss_f 1) m_ss_f) = v2 then (if what = (0 : Int32) then v2 else (nI k)) else (f_X6_ends_L23 what m_ss_f n ((k + 1)) (f_X6_shareOf v2 (m_ss_f 0) (m_ss_f 1) m_ss_f)))
theorem f_X6_ends_L23_s (what : Int32) (m_ss_f : Nat → Int32) (n k : Nat) (v2 : Int32) : f_X6_ends_L23 what m_ss_f (n + 1) k v2 = (if (100 : Int32) < (nI k) then (-4) else (if (f_X6_shareOf v2 (m_ss_f 0) (m_ss_f 1) m_ss_f) = v2 then (if what = (0 : Int32) then v2 else (nI k)) else (f_X6_ends_L23 what m_ss_f n ((k + 1)) (f_X6_shareOf v2 (m_ss_f 0) (m_ss_f 1) m_ss_f)))) := rfl
def f_X6_ends (what : Int32) (m_ss_f : Nat → Int32) : Int32 := if (f_X6_isIn (what.toInt64) 0 1) = (0 : Int32) then (-1) else (f_X6_ends_L23 what m_ss_f (101 + 1) 0 ((m_ss_f 2) / 2))
set_option maxHeartbeats 400000 in
set_option maxRecDepth 100000 in
theorem c_X6_ends (l : Launch) (D : va_G) (cI cP cS cL : ClassId) (L : List Nat) (F : Nat → va_E) (m : Nat) (what : Int32) (m_ss : Nat) (m_im : Nat) (m_re : Nat) (m_sa : Nat) (m_ke : Nat) (m_so : Nat) (m_si : Nat) (m_el : Nat) (m_kd : Nat) (m_kt : Nat) (m_hi : Int32) (m_th : Int32) (m_po : Int32) (m_ba : Int32) (m_en : Int32) (m_tl : Int32) (m_nu : Nat) (m_ca : Nat) (m_ha : Nat) (m_hs : Int32) (m_co : Nat) (m_ss_f : Nat → Int32) (h_m : wi L F m (eM m_ss m_im m_re m_sa m_ke m_so m_si m_el m_kd m_kt m_hi m_th m_po m_ba m_en m_tl m_nu m_ca m_ha m_hs m_co)) (h_m_ss : wi L F m_ss (eI cI 55 m_ss_f)) (hd1 : ¬ (m_ss_f 1) = 0) : wMI l D cI cP cS cL yX6_ends wsX6_ends ({ frames := 2, cells := 0, slots := 0, locals := 44 } : Room) [.ref m, .int what] L F (f_X6_ends what m_ss_f) F := by
  refine wM.of (cc := cX6_ends) (maxL := 5) (ret := (some .int)) (by decide) rfl (Nat.le_of_ble_eq_true rfl) ?_
  intro pZ eZ sZ mZ below meth cZ A ls C hl w
  obtain ⟨hx, hb, hr, hml, hts, hown, hlocks, hK, hA, hin⟩ := C
  have hown : sZ.vm.findClass RX6 = some mZ.cls := hown
  have hl : lv_has ls 5 [(0, .ref m), (1, .int what)] := hl
  have m_0 : ((.fieldLink RX6 9 "TwoThirdsModel" "s" "[I") : Cond) ∈ wsX6_ends := by decide +kernel
  have i_X6 : ∀ w ∈ wsX60, w ∈ wsX6_ends := by decide +kernel
  have hq : f_X6_ends what m_ss_f = f_X6_ends what m_ss_f := rfl
  refine lv_iload_n hx hb dX6_ends_0 rfl (lv_at hl 1 rfl) ?_
  refine lv_i2l (v := (what.toInt64)) hx hb dX6_ends_1 rfl ?_
  refine lv_lconst (v := 0) hx hb dX6_ends_2 (by decide) ?_
  refine lv_lconst (v := 1) hx hb dX6_ends_3 (by decide) ?_
  refine w_finI (w_runS (rm := ({ frames := 0, cells := 0, slots := 0, locals := 0 } : Room)) (As := [.long (what.toInt64), .long 0, .long 1]) (rest := []) (n := 3) hx hb hml hts hown hK w (c_X6_isIn l D cI cP cS cL L _ (what.toInt64) 0 1 ) gX6_ends_X6_isIn rfl rfl rfl (by decide +kernel) ⟨(Nat.le_of_ble_eq_true rfl), (Nat.le_of_ble_eq_true rfl)⟩ rfl hl.1 rfl (Nat.le_of_ble_eq_true rfl) dX6_ends_4 ⟨(Nat.le_of_ble_eq_true rfl), (Nat.le_of_ble_eq_true rfl)⟩) w hA (fun H locs w => ?_)
  refine lv_if_ne (tgt := 12) hx hb dX6_ends_7 (by decide) (fun c1 => ?_) (fun c1 => ?_)
  · skip
    have hq := hq.trans (if_neg c1)
    refine lv_aload_n hx hb dX6_ends_12 rfl (lv_at hl 0 rfl) ?_
    refine w_get (v := .ref m_ss) hx hb hts i_X6 hown hK w h_m rfl 0 (by decide) (hts _ m_0) rfl dX6_ends_13 ?_
    refine lv_iconst (v := 2) hx hb dX6_ends_16 (by decide) ?_
    refine w_ild (j := 2) hx hb hK w h_m_ss (vp_in_nI (n := 2) (N := 55) (by decide) (by decide)) rfl dX6_ends_17 ?_
    refine lv_iconst (v := 2) hx hb dX6_ends_18 (by decide) ?_
    refine lv_idiv hx hb dX6_ends_19 (by decide) ?_
    refine lv_istore_n (lv' := [(2, .int ((m_ss_f 2) / 2)), (0, .ref m), (1, .int what)]) hx hb dX6_ends_20 rfl hl (by decide) rfl (fun ls hl => ?_)
    refine lv_iconst (v := 0) hx hb dX6_ends_21 (by decide) ?_
    refine lv_istore_n (lv' := [(3, .int 0), (2, .int ((m_ss_f 2) / 2)), (0, .ref m), (1, .int what)]) hx hb dX6_ends_22 rfl hl (by decide) rfl (fun ls hl => ?_)
    have hL23 : ∀ (n k : Nat) (v2 : Int32) (H : Heap) (locs : List Loc) (ls : Array Slot), k ≤ 101 → 101 - k < n → f_X6_ends what m_ss_f = f_X6_ends_L23 what m_ss_f n k v2 → lv_has ls 5 [(0, .ref m), (1, .int what), (2, .int v2), (3, .int (nI k))] → ww D A sZ.heap L F H locs → W pZ l eZ ({ frames := 2, cells := 0, slots := 0, locals := 44 } : Room) sZ mZ [.ref m, .int what].toArray below meth cZ H locs 0 0 (MQ below (wQi D A (fun r1 L1 F1 => r1 = (f_X6_ends what m_ss_f) ∧ L1 = L ∧ F1 = F)) [.ref m, .int what].toArray sZ 0 0 A) (F0 mZ 23 ls []) := by
      intro n; induction n with
      | zero => intro k v2 H locs ls hkT hmeas; exact absurd hmeas (Nat.not_lt_zero _)
      | succ n ih =>
        intro k v2 H locs ls hkT hmeas hq hl w
        have hk31 : k < 2147483648 := by omega
        have hq := hq.trans (f_X6_ends_L23_s what m_ss_f n k v2)
        refine lv_iload_n hx hb dX6_ends_23 rfl (lv_at hl 3 rfl) ?_
        refine lv_bipush (v := 100) hx hb dX6_ends_24 (by decide) ?_
        refine lv_icmp_gt (tgt := 73) hx hb dX6_ends_26 (by decide) (fun c2 => ?_) (fun c2 => ?_)
        · skip
          have hq := hq.trans (if_pos c2)
          refine lv_bipush (v := (-4)) hx hb dX6_ends_73 (by decide) ?_
          exact w_iret hx hb hr hlocks w ⟨hq.symm, rfl, rfl⟩ (Nat.le_refl _) (Nat.le_refl _) dX6_ends_75
        · skip
          have hq := hq.trans (if_neg c2)
          have hlt26 : k < 100 + 1 := w_lek hk31 c2
          refine lv_aload_n hx hb dX6_ends_29 rfl (lv_at hl 0 rfl) ?_
          refine lv_iload_n hx hb dX6_ends_30 rfl (lv_at hl 2 rfl) ?_
          refine lv_aload_n hx hb dX6_ends_31 rfl (lv_at hl 0 rfl) ?_
          refine w_get (v := .ref m_ss) hx hb hts i_X6 hown hK w h_m rfl 0 (by decide) (hts _ m_0) rfl dX6_ends_32 ?_
          refine lv_iconst (v := 0) hx hb dX6_ends_35 (by decide) ?_
          refine w_ild (j := 0) hx hb hK w h_m_ss (vp_in_nI (n := 0) (N := 55) (by decide) (by decide)) rfl dX6_ends_36 ?_
          refine lv_aload_n hx hb dX6_ends_37 rfl (lv_at hl 0 rfl) ?_
          refine w_get (v := .ref m_ss) hx hb hts i_X6 hown hK w h_m rfl 0 (by decide) (hts _ m_0) rfl dX6_ends_38 ?_
          refine lv_iconst (v := 1) hx hb dX6_ends_41 (by decide) ?_
          refine w_ild (j := 1) hx hb hK w h_m_ss (vp_in_nI (n := 1) (N := 55) (by decide) (by decide)) rfl dX6_ends_42 ?_
          refine w_finI (w_runV (rm := ({ frames := 1, cells := 0, slots := 0, locals := 21 } : Room)) (As := [.int v2, .int (m_ss_f 0), .int (m_ss_f 1)]) (rest := []) (n := 3) hx hb hml hts hown hK w (c_X6_shareOf l D cI cP cS cL L _ m v2 (m_ss_f 0) (m_ss_f 1) m_ss m_im m_re m_sa m_ke m_so m_si m_el m_kd m_kt m_hi m_th m_po m_ba m_en m_tl m_nu m_ca m_ha m_hs m_co m_ss_f h_m h_m_ss hd1) gX6_ends_X6_shareOf rfl rfl rfl (by decide +kernel) ⟨(Nat.le_of_ble_eq_true rfl), (Nat.le_of_ble_eq_true rfl)⟩ h_m rfl rfl hl.1 rfl (Nat.le_of_ble_eq_true rfl) dX6_ends_43 ⟨(Nat.le_of_ble_eq_true rfl), (Nat.le_of_ble_eq_true rfl)⟩) w hA (fun H locs w => ?_)
          refine lv_istore (lv' := [(4, .int (f_X6_shareOf v2 (m_ss_f 0) (m_ss_f 1) m_ss_f)), (0, .ref m), (1, .int what), (2, .int v2), (3, .int (nI k))]) hx hb dX6_ends_46 hl (by decide) rfl (fun ls hl => ?_)
          refine lv_iload hx hb dX6_ends_48 (lv_at hl 0 rfl) ?_
          refine lv_iload_n hx hb dX6_ends_50 rfl (lv_at hl 3 rfl) ?_
          refine lv_icmp_ne (tgt := 64) hx hb dX6_ends_51 (by decide) (fun c3 => ?_) (fun c3 => ?_)
          · skip
            have hq := hq.trans (if_neg c3)
            refine lv_iload hx hb dX6_ends_64 (lv_at hl 0 rfl) ?_
            refine lv_istore_n (lv' := [(2, .int (f_X6_shareOf v2 (m_ss_f 0) (m_ss_f 1) m_ss_f)), (4, .int (f_X6_shareOf v2 (m_ss_f 0) (m_ss_f 1) m_ss_f)), (0, .ref m), (1, .int what), (3, .int (nI k))]) hx hb dX6_ends_66 rfl hl (by decide) rfl (fun ls hl => ?_)
            refine lv_iinc (v := (nI (k + 1))) (lv' := [(3, .int (nI (k + 1))), (2, .int (f_X6_shareOf v2 (m_ss_f 0) (m_ss_f 1) m_ss_f)), (4, .int (f_X6_shareOf v2 (m_ss_f 0) (m_ss_f 1) m_ss_f)), (0, .ref m), (1, .int what)]) hx hb dX6_ends_67 hl (k := 4) rfl (w_inc _) (by decide) rfl (fun ls hl => ?_)
            refine lv_goto (tgt := 23) hx hb dX6_ends_70 (by decide) ?_
            exact ih ((k + 1)) (f_X6_shareOf v2 (m_ss_f 0) (m_ss_f 1) m_ss_f) _ _ _ (by omega) (by omega) hq (lv_sub hl [3, 4, 1, 0] rfl) w
          · skip
            have hq := hq.trans (if_pos c3)
            refine lv_iload_n hx hb dX6_ends_54 rfl (lv_at hl 2 rfl) ?_
            refine lv_if_ne (tgt := 62) hx hb dX6_ends_55 (by decide) (fun c4 => ?_) (fun c4 => ?_)
            · skip
              have hq := hq.trans (if_neg c4)
              refine lv_iload_n hx hb dX6_ends_62 rfl (lv_at hl 4 rfl) ?_
              exact w_iret hx hb hr hlocks w ⟨hq.symm, rfl, rfl⟩ (Nat.le_refl _) (Nat.le_refl _) dX6_ends_63
            · skip
              have hq := hq.trans (if_pos c4)
              refine lv_iload_n hx hb dX6_ends_58 rfl (lv_at hl 3 rfl) ?_
              refine lv_goto (tgt := 63) hx hb dX6_ends_59 (by decide) ?_
              exact w_iret hx hb hr hlocks w ⟨hq.symm, rfl, rfl⟩ (Nat.le_refl _) (Nat.le_refl _) dX6_ends_63
    exact hL23 (101 + 1) 0 ((m_ss_f 2) / 2) _ _ _ (Nat.zero_le _) (by omega) hq (lv_sub hl [2, 3, 1, 0] rfl) w
  · skip
    have hq := hq.trans (if_pos c1)
    refine lv_iconst (v := (-1)) hx hb dX6_ends_10 (by decide) ?_
    exact w_iret hx hb hr hlocks w ⟨hq.symm, rfl, rfl⟩ (Nat.le_refl _) (Nat.le_refl _) dX6_ends_11
def f_X6_parts_L61 (p0 : Int32) (q0 : Int32) (what : Int32) (m_ss_f : Nat → Int32) : Nat → Nat → Int32 → Int32 → Int32
  | 0, _, _, _ => 0
  | n + 1, k, v4, v5 => if (20 : Int32) < (nI k) then (if what = (0 : Int32) then v4 else v5) else (if v5 < (f_X6_amount ((f_X6_holdsBy p0 (nI k) (m_ss_f 1) m_ss_f) - (f_X6_holdsBy q0 (nI k) (m_ss_f 1) m_ss_f))) then (f_X6_parts_L61 p0 q0 what m_ss_f n ((k + 1)) (nI k) (f_X6_amount ((f_X6_holdsBy p0 (nI k) (m_ss_f 1) m_ss_f) - (f_X6_holdsBy q0 (nI k) (m_ss_f 1) m_ss_f)))) else (f_X6_parts_L61 p0 q0 what m_ss_f n ((k + 1)) v4 v5))
theorem f_X6_parts_L61_s (p0 : Int32) (q0 : Int32) (what : Int32) (m_ss_f : Nat → Int32) (n k : Nat) (v4 : Int32) (v5 : Int32) : f_X6_parts_L61 p0 q0 what m_ss_f (n + 1) k v4 v5 = (if (20 : Int32) < (nI k) then (if what = (0 : Int32) then v4 else v5) else (if v5 < (f_X6_amount ((f_X6_holdsBy p0 (nI k) (m_ss_f 1) m_ss_f) - (f_X6_holdsBy q0 (nI k) (m_ss_f 1) m_ss_f))) then (f_X6_parts_L61 p0 q0 what m_ss_f n ((k + 1)) (nI k) (f_X6_amount ((f_X6_holdsBy p0 (nI k) (m_ss_f 1) m_ss_f) - (f_X6_holdsBy q0 (nI k) (m_ss_f 1) m_ss_f)))) else (f_X6_parts_L61 p0 q0 what m_ss_f n ((k + 1)) v4 v5))) := rfl
def f_X6_parts (p0 : Int32) (q0 : Int32) (what : Int32) (m_ss_f : Nat → Int32) : Int32 := if (f_X6_isPerson p0 m_ss_f) = (0 : Int32) then (-1) else (if (f_X6_isPerson q0 m_ss_f) = (0 : Int32) then (-1) else (if p0 = q0 then (-1) else (if (f_X6_isIn (what.toInt64) 0 1) = (0 : Int32) then (-1) else (if (f_X6_isDrawn p0 m_ss_f) = (0 : Int32) then (if (f_X6_isDrawn q0 m_ss_f) = (0 : Int32) then (f_X6_parts_L61 p0 q0 what m_ss_f (21 + 1) 0 0 (-1)) else (-3)) else (-3)))))
set_option maxHeartbeats 400000 in
set_option maxRecDepth 100000 in
theorem c_X6_parts (l : Launch) (D : va_G) (cI cP cS cL : ClassId) (L : List Nat) (F : Nat → va_E) (m : Nat) (p0 : Int32) (q0 : Int32) (what : Int32) (m_ss : Nat) (m_im : Nat) (m_re : Nat) (m_sa : Nat) (m_ke : Nat) (m_so : Nat) (m_si : Nat) (m_el : Nat) (m_kd : Nat) (m_kt : Nat) (m_hi : Int32) (m_th : Int32) (m_po : Int32) (m_ba : Int32) (m_en : Int32) (m_tl : Int32) (m_nu : Nat) (m_ca : Nat) (m_ha : Nat) (m_hs : Int32) (m_co : Nat) (m_ss_f : Nat → Int32) (h_m : wi L F m (eM m_ss m_im m_re m_sa m_ke m_so m_si m_el m_kd m_kt m_hi m_th m_po m_ba m_en m_tl m_nu m_ca m_ha m_hs m_co)) (h_m_ss : wi L F m_ss (eI cI 55 m_ss_f)) (h5 : 0 ≤ (m_ss_f 5).toInt ∧ (m_ss_f 5).toInt ≤ 12) (hd1 : ¬ (m_ss_f 1) = 0) (hr5 : ¬ (m_ss_f 6) = 0 → ¬ (m_ss_f 5) = 0) (hst : ∀ p : Int32, 0 ≤ p.toInt ∧ p.toInt < 12 → (m_ss_f (((7 + (4 * p)) + 1).toNatClampNeg)).toInt ≤ 1000) : wMI l D cI cP cS cL yX6_parts wsX6_parts ({ frames := 5, cells := 0, slots := 0, locals := 118 } : Room) [.ref m, .int p0, .int q0, .int what] L F (f_X6_parts p0 q0 what m_ss_f) F := by
  refine wM.of (cc := cX6_parts) (maxL := 8) (ret := (some .int)) (by decide) rfl (Nat.le_of_ble_eq_true rfl) ?_
  intro pZ eZ sZ mZ below meth cZ A ls C hl w
  obtain ⟨hx, hb, hr, hml, hts, hown, hlocks, hK, hA, hin⟩ := C
  have hown : sZ.vm.findClass RX6 = some mZ.cls := hown
  have hl : lv_has ls 8 [(0, .ref m), (1, .int p0), (2, .int q0), (3, .int what)] := hl
  have m_0 : ((.fieldLink RX6 9 "TwoThirdsModel" "s" "[I") : Cond) ∈ wsX6_parts := by decide +kernel
  have i_X6 : ∀ w ∈ wsX60, w ∈ wsX6_parts := by decide +kernel
  have hq : f_X6_parts p0 q0 what m_ss_f = f_X6_parts p0 q0 what m_ss_f := rfl
  refine lv_aload_n hx hb dX6_parts_0 rfl (lv_at hl 0 rfl) ?_
  refine lv_iload_n hx hb dX6_parts_1 rfl (lv_at hl 1 rfl) ?_
  refine w_finI (w_runV (rm := ({ frames := 1, cells := 0, slots := 0, locals := 25 } : Room)) (As := [.int p0]) (rest := []) (n := 1) hx hb hml hts hown hK w (c_X6_isPerson l D cI cP cS cL L _ m p0 m_ss m_im m_re m_sa m_ke m_so m_si m_el m_kd m_kt m_hi m_th m_po m_ba m_en m_tl m_nu m_ca m_ha m_hs m_co m_ss_f h_m h_m_ss) gX6_parts_X6_isPerson rfl rfl rfl (by decide +kernel) ⟨(Nat.le_of_ble_eq_true rfl), (Nat.le_of_ble_eq_true rfl)⟩ h_m rfl rfl hl.1 rfl (Nat.le_of_ble_eq_true rfl) dX6_parts_2 ⟨(Nat.le_of_ble_eq_true rfl), (Nat.le_of_ble_eq_true rfl)⟩) w hA (fun H locs w => ?_)
  refine lv_if_eq (tgt := 31) hx hb dX6_parts_5 (by decide) (fun c1 => ?_) (fun c1 => ?_)
  · skip
    have hq := hq.trans (if_pos c1)
    refine lv_iconst (v := (-1)) hx hb dX6_parts_31 (by decide) ?_
    exact w_iret hx hb hr hlocks w ⟨hq.symm, rfl, rfl⟩ (Nat.le_refl _) (Nat.le_refl _) dX6_parts_32
  · skip
    have hq := hq.trans (if_neg c1)
    have hp0 : 0 ≤ p0.toInt ∧ p0.toInt < 12 := isPerson_12 h5 c1
    refine lv_aload_n hx hb dX6_parts_8 rfl (lv_at hl 0 rfl) ?_
    refine lv_iload_n hx hb dX6_parts_9 rfl (lv_at hl 2 rfl) ?_
    refine w_finI (w_runV (rm := ({ frames := 1, cells := 0, slots := 0, locals := 25 } : Room)) (As := [.int q0]) (rest := []) (n := 1) hx hb hml hts hown hK w (c_X6_isPerson l D cI cP cS cL L _ m q0 m_ss m_im m_re m_sa m_ke m_so m_si m_el m_kd m_kt m_hi m_th m_po m_ba m_en m_tl m_nu m_ca m_ha m_hs m_co m_ss_f h_m h_m_ss) gX6_parts_X6_isPerson rfl rfl rfl (by decide +kernel) ⟨(Nat.le_of_ble_eq_true rfl), (Nat.le_of_ble_eq_true rfl)⟩ h_m rfl rfl hl.1 rfl (Nat.le_of_ble_eq_true rfl) dX6_parts_10 ⟨(Nat.le_of_ble_eq_true rfl), (Nat.le_of_ble_eq_true rfl)⟩) w hA (fun H locs w => ?_)
    refine lv_if_eq (tgt := 31) hx hb dX6_parts_13 (by decide) (fun c2 => ?_) (fun c2 => ?_)
    · skip
      have hq := hq.trans (if_pos c2)
      refine lv_iconst (v := (-1)) hx hb dX6_parts_31 (by decide) ?_
      exact w_iret hx hb hr hlocks w ⟨hq.symm, rfl, rfl⟩ (Nat.le_refl _) (Nat.le_refl _) dX6_parts_32
    · skip
      have hq := hq.trans (if_neg c2)
      have hq0 : 0 ≤ q0.toInt ∧ q0.toInt < 12 := isPerson_12 h5 c2
      refine lv_iload_n hx hb dX6_parts_16 rfl (lv_at hl 1 rfl) ?_
      refine lv_iload_n hx hb dX6_parts_17 rfl (lv_at hl 2 rfl) ?_
      refine lv_icmp_eq (tgt := 31) hx hb dX6_parts_18 (by decide) (fun c3 => ?_) (fun c3 => ?_)
      · skip
        have hq := hq.trans (if_pos c3)
        refine lv_iconst (v := (-1)) hx hb dX6_parts_31 (by decide) ?_
        exact w_iret hx hb hr hlocks w ⟨hq.symm, rfl, rfl⟩ (Nat.le_refl _) (Nat.le_refl _) dX6_parts_32
      · skip
        have hq := hq.trans (if_neg c3)
        refine lv_iload_n hx hb dX6_parts_21 rfl (lv_at hl 3 rfl) ?_
        refine lv_i2l (v := (what.toInt64)) hx hb dX6_parts_22 rfl ?_
        refine lv_lconst (v := 0) hx hb dX6_parts_23 (by decide) ?_
        refine lv_lconst (v := 1) hx hb dX6_parts_24 (by decide) ?_
        refine w_finI (w_runS (rm := ({ frames := 0, cells := 0, slots := 0, locals := 0 } : Room)) (As := [.long (what.toInt64), .long 0, .long 1]) (rest := []) (n := 3) hx hb hml hts hown hK w (c_X6_isIn l D cI cP cS cL L _ (what.toInt64) 0 1 ) gX6_parts_X6_isIn rfl rfl rfl (by decide +kernel) ⟨(Nat.le_of_ble_eq_true rfl), (Nat.le_of_ble_eq_true rfl)⟩ rfl hl.1 rfl (Nat.le_of_ble_eq_true rfl) dX6_parts_25 ⟨(Nat.le_of_ble_eq_true rfl), (Nat.le_of_ble_eq_true rfl)⟩) w hA (fun H locs w => ?_)
        refine lv_if_ne (tgt := 33) hx hb dX6_parts_28 (by decide) (fun c4 => ?_) (fun c4 => ?_)
        · skip
          have hq := hq.trans (if_neg c4)
          refine lv_aload_n hx hb dX6_parts_33 rfl (lv_at hl 0 rfl) ?_
          refine lv_iload_n hx hb dX6_parts_34 rfl (lv_at hl 1 rfl) ?_
          refine w_finI (w_runV (rm := ({ frames := 1, cells := 0, slots := 0, locals := 22 } : Room)) (As := [.int p0]) (rest := []) (n := 1) hx hb hml hts hown hK w (c_X6_isDrawn l D cI cP cS cL L _ m p0 m_ss m_im m_re m_sa m_ke m_so m_si m_el m_kd m_kt m_hi m_th m_po m_ba m_en m_tl m_nu m_ca m_ha m_hs m_co m_ss_f h_m h_m_ss hp0) gX6_parts_X6_isDrawn rfl rfl rfl (by decide +kernel) ⟨(Nat.le_of_ble_eq_true rfl), (Nat.le_of_ble_eq_true rfl)⟩ h_m rfl rfl hl.1 rfl (Nat.le_of_ble_eq_true rfl) dX6_parts_35 ⟨(Nat.le_of_ble_eq_true rfl), (Nat.le_of_ble_eq_true rfl)⟩) w hA (fun H locs w => ?_)
          refine lv_if_ne (tgt := 49) hx hb dX6_parts_38 (by decide) (fun c5 => ?_) (fun c5 => ?_)
          · skip
            have hq := hq.trans (if_neg c5)
            refine lv_bipush (v := (-3)) hx hb dX6_parts_49 (by decide) ?_
            exact w_iret hx hb hr hlocks w ⟨hq.symm, rfl, rfl⟩ (Nat.le_refl _) (Nat.le_refl _) dX6_parts_51
          · skip
            have hq := hq.trans (if_pos c5)
            refine lv_aload_n hx hb dX6_parts_41 rfl (lv_at hl 0 rfl) ?_
            refine lv_iload_n hx hb dX6_parts_42 rfl (lv_at hl 2 rfl) ?_
            refine w_finI (w_runV (rm := ({ frames := 1, cells := 0, slots := 0, locals := 22 } : Room)) (As := [.int q0]) (rest := []) (n := 1) hx hb hml hts hown hK w (c_X6_isDrawn l D cI cP cS cL L _ m q0 m_ss m_im m_re m_sa m_ke m_so m_si m_el m_kd m_kt m_hi m_th m_po m_ba m_en m_tl m_nu m_ca m_ha m_hs m_co m_ss_f h_m h_m_ss hq0) gX6_parts_X6_isDrawn rfl rfl rfl (by decide +kernel) ⟨(Nat.le_of_ble_eq_true rfl), (Nat.le_of_ble_eq_true rfl)⟩ h_m rfl rfl hl.1 rfl (Nat.le_of_ble_eq_true rfl) dX6_parts_43 ⟨(Nat.le_of_ble_eq_true rfl), (Nat.le_of_ble_eq_true rfl)⟩) w hA (fun H locs w => ?_)
            refine lv_if_eq (tgt := 52) hx hb dX6_parts_46 (by decide) (fun c6 => ?_) (fun c6 => ?_)
            · skip
              have hq := hq.trans (if_pos c6)
              refine lv_iconst (v := 0) hx hb dX6_parts_52 (by decide) ?_
              refine lv_istore (lv' := [(4, .int 0), (0, .ref m), (1, .int p0), (2, .int q0), (3, .int what)]) hx hb dX6_parts_53 hl (by decide) rfl (fun ls hl => ?_)
              refine lv_iconst (v := (-1)) hx hb dX6_parts_55 (by decide) ?_
              refine lv_istore (lv' := [(5, .int (-1)), (4, .int 0), (0, .ref m), (1, .int p0), (2, .int q0), (3, .int what)]) hx hb dX6_parts_56 hl (by decide) rfl (fun ls hl => ?_)
              refine lv_iconst (v := 0) hx hb dX6_parts_58 (by decide) ?_
              refine lv_istore (lv' := [(6, .int 0), (5, .int (-1)), (4, .int 0), (0, .ref m), (1, .int p0), (2, .int q0), (3, .int what)]) hx hb dX6_parts_59 hl (by decide) rfl (fun ls hl => ?_)
              have hL61 : ∀ (n k : Nat) (v4 : Int32) (v5 : Int32) (H : Heap) (locs : List Loc) (ls : Array Slot), k ≤ 21 → 21 - k < n → f_X6_parts p0 q0 what m_ss_f = f_X6_parts_L61 p0 q0 what m_ss_f n k v4 v5 → lv_has ls 8 [(0, .ref m), (1, .int p0), (2, .int q0), (3, .int what), (4, .int v4), (5, .int v5), (6, .int (nI k))] → ww D A sZ.heap L F H locs → W pZ l eZ ({ frames := 5, cells := 0, slots := 0, locals := 118 } : Room) sZ mZ [.ref m, .int p0, .int q0, .int what].toArray below meth cZ H locs 0 0 (MQ below (wQi D A (fun r1 L1 F1 => r1 = (f_X6_parts p0 q0 what m_ss_f) ∧ L1 = L ∧ F1 = F)) [.ref m, .int p0, .int q0, .int what].toArray sZ 0 0 A) (F0 mZ 61 ls []) := by
                intro n; induction n with
                | zero => intro k v4 v5 H locs ls hkT hmeas; exact absurd hmeas (Nat.not_lt_zero _)
                | succ n ih =>
                  intro k v4 v5 H locs ls hkT hmeas hq hl w
                  have hk31 : k < 2147483648 := by omega
                  have hq := hq.trans (f_X6_parts_L61_s p0 q0 what m_ss_f n k v4 v5)
                  refine lv_iload hx hb dX6_parts_61 (lv_at hl 6 rfl) ?_
                  refine lv_bipush (v := 20) hx hb dX6_parts_63 (by decide) ?_
                  refine lv_icmp_gt (tgt := 124) hx hb dX6_parts_65 (by decide) (fun c7 => ?_) (fun c7 => ?_)
                  · skip
                    have hq := hq.trans (if_pos c7)
                    refine lv_iload_n hx hb dX6_parts_124 rfl (lv_at hl 3 rfl) ?_
                    refine lv_if_ne (tgt := 133) hx hb dX6_parts_125 (by decide) (fun c8 => ?_) (fun c8 => ?_)
                    · skip
                      have hq := hq.trans (if_neg c8)
                      refine lv_iload hx hb dX6_parts_133 (lv_at hl 5 rfl) ?_
                      exact w_iret hx hb hr hlocks w ⟨hq.symm, rfl, rfl⟩ (Nat.le_refl _) (Nat.le_refl _) dX6_parts_135
                    · skip
                      have hq := hq.trans (if_pos c8)
                      refine lv_iload hx hb dX6_parts_128 (lv_at hl 4 rfl) ?_
                      refine lv_goto (tgt := 135) hx hb dX6_parts_130 (by decide) ?_
                      exact w_iret hx hb hr hlocks w ⟨hq.symm, rfl, rfl⟩ (Nat.le_refl _) (Nat.le_refl _) dX6_parts_135
                  · skip
                    have hq := hq.trans (if_neg c7)
                    have hlt65 : k < 20 + 1 := w_lek hk31 c7
                    refine lv_aload_n hx hb dX6_parts_68 rfl (lv_at hl 0 rfl) ?_
                    refine lv_iload_n hx hb dX6_parts_69 rfl (lv_at hl 1 rfl) ?_
                    refine lv_iload hx hb dX6_parts_70 (lv_at hl 6 rfl) ?_
                    refine lv_aload_n hx hb dX6_parts_72 rfl (lv_at hl 0 rfl) ?_
                    refine w_get (v := .ref m_ss) hx hb hts i_X6 hown hK w h_m rfl 0 (by decide) (hts _ m_0) rfl dX6_parts_73 ?_
                    refine lv_iconst (v := 1) hx hb dX6_parts_76 (by decide) ?_
                    refine w_ild (j := 1) hx hb hK w h_m_ss (vp_in_nI (n := 1) (N := 55) (by decide) (by decide)) rfl dX6_parts_77 ?_
                    refine w_finI (w_runV (rm := ({ frames := 4, cells := 0, slots := 0, locals := 94 } : Room)) (As := [.int p0, .int (nI k), .int (m_ss_f 1)]) (rest := []) (n := 3) hx hb hml hts hown hK w (c_X6_holdsBy l D cI cP cS cL L _ m p0 (nI k) (m_ss_f 1) m_ss m_im m_re m_sa m_ke m_so m_si m_el m_kd m_kt m_hi m_th m_po m_ba m_en m_tl m_nu m_ca m_ha m_hs m_co m_ss_f h_m h_m_ss hp0 hd1 h5 hr5 (hst p0 hp0)) gX6_parts_X6_holdsBy rfl rfl rfl (by decide +kernel) ⟨(Nat.le_of_ble_eq_true rfl), (Nat.le_of_ble_eq_true rfl)⟩ h_m rfl rfl hl.1 rfl (Nat.le_of_ble_eq_true rfl) dX6_parts_78 ⟨(Nat.le_of_ble_eq_true rfl), (Nat.le_of_ble_eq_true rfl)⟩) w hA (fun H locs w => ?_)
                    refine lv_aload_n hx hb dX6_parts_81 rfl (lv_at hl 0 rfl) ?_
                    refine lv_iload_n hx hb dX6_parts_82 rfl (lv_at hl 2 rfl) ?_
                    refine lv_iload hx hb dX6_parts_83 (lv_at hl 6 rfl) ?_
                    refine lv_aload_n hx hb dX6_parts_85 rfl (lv_at hl 0 rfl) ?_
                    refine w_get (v := .ref m_ss) hx hb hts i_X6 hown hK w h_m rfl 0 (by decide) (hts _ m_0) rfl dX6_parts_86 ?_
                    refine lv_iconst (v := 1) hx hb dX6_parts_89 (by decide) ?_
                    refine w_ild (j := 1) hx hb hK w h_m_ss (vp_in_nI (n := 1) (N := 55) (by decide) (by decide)) rfl dX6_parts_90 ?_
                    refine w_finI (w_runV (rm := ({ frames := 4, cells := 0, slots := 0, locals := 94 } : Room)) (As := [.int q0, .int (nI k), .int (m_ss_f 1)]) (rest := [.int (f_X6_holdsBy p0 (nI k) (m_ss_f 1) m_ss_f)]) (n := 3) hx hb hml hts hown hK w (c_X6_holdsBy l D cI cP cS cL L _ m q0 (nI k) (m_ss_f 1) m_ss m_im m_re m_sa m_ke m_so m_si m_el m_kd m_kt m_hi m_th m_po m_ba m_en m_tl m_nu m_ca m_ha m_hs m_co m_ss_f h_m h_m_ss hq0 hd1 h5 hr5 (hst q0 hq0)) gX6_parts_X6_holdsBy rfl rfl rfl (by decide +kernel) ⟨(Nat.le_of_ble_eq_true rfl), (Nat.le_of_ble_eq_true rfl)⟩ h_m rfl rfl hl.1 rfl (Nat.le_of_ble_eq_true rfl) dX6_parts_91 ⟨(Nat.le_of_ble_eq_true rfl), (Nat.le_of_ble_eq_true rfl)⟩) w hA (fun H locs w => ?_)
                    refine lv_isub hx hb dX6_parts_94 ?_
                    refine w_finI (w_runS (rm := ({ frames := 0, cells := 0, slots := 0, locals := 0 } : Room)) (As := [.int ((f_X6_holdsBy p0 (nI k) (m_ss_f 1) m_ss_f) - (f_X6_holdsBy q0 (nI k) (m_ss_f 1) m_ss_f))]) (rest := []) (n := 1) hx hb hml hts hown hK w (c_X6_amount l D cI cP cS cL L _ ((f_X6_holdsBy p0 (nI k) (m_ss_f 1) m_ss_f) - (f_X6_holdsBy q0 (nI k) (m_ss_f 1) m_ss_f)) ) gX6_parts_X6_amount rfl rfl rfl (by decide +kernel) ⟨(Nat.le_of_ble_eq_true rfl), (Nat.le_of_ble_eq_true rfl)⟩ rfl hl.1 rfl (Nat.le_of_ble_eq_true rfl) dX6_parts_95 ⟨(Nat.le_of_ble_eq_true rfl), (Nat.le_of_ble_eq_true rfl)⟩) w hA (fun H locs w => ?_)
                    refine lv_istore (lv' := [(7, .int (f_X6_amount ((f_X6_holdsBy p0 (nI k) (m_ss_f 1) m_ss_f) - (f_X6_holdsBy q0 (nI k) (m_ss_f 1) m_ss_f)))), (0, .ref m), (1, .int p0), (2, .int q0), (3, .int what), (4, .int v4), (5, .int v5), (6, .int (nI k))]) hx hb dX6_parts_98 hl (by decide) rfl (fun ls hl => ?_)
                    refine lv_iload hx hb dX6_parts_100 (lv_at hl 0 rfl) ?_
                    refine lv_iload hx hb dX6_parts_102 (lv_at hl 6 rfl) ?_
                    refine lv_icmp_gt (tgt := 110) hx hb dX6_parts_104 (by decide) (fun c9 => ?_) (fun c9 => ?_)
                    · skip
                      have hq := hq.trans (if_pos c9)
                      refine lv_iload hx hb dX6_parts_110 (lv_at hl 7 rfl) ?_
                      refine lv_istore (lv' := [(4, .int (nI k)), (7, .int (f_X6_amount ((f_X6_holdsBy p0 (nI k) (m_ss_f 1) m_ss_f) - (f_X6_holdsBy q0 (nI k) (m_ss_f 1) m_ss_f)))), (0, .ref m), (1, .int p0), (2, .int q0), (3, .int what), (5, .int v5), (6, .int (nI k))]) hx hb dX6_parts_112 hl (by decide) rfl (fun ls hl => ?_)
                      refine lv_iload hx hb dX6_parts_114 (lv_at hl 1 rfl) ?_
                      refine lv_istore (lv' := [(5, .int (f_X6_amount ((f_X6_holdsBy p0 (nI k) (m_ss_f 1) m_ss_f) - (f_X6_holdsBy q0 (nI k) (m_ss_f 1) m_ss_f)))), (4, .int (nI k)), (7, .int (f_X6_amount ((f_X6_holdsBy p0 (nI k) (m_ss_f 1) m_ss_f) - (f_X6_holdsBy q0 (nI k) (m_ss_f 1) m_ss_f)))), (0, .ref m), (1, .int p0), (2, .int q0), (3, .int what), (6, .int (nI k))]) hx hb dX6_parts_116 hl (by decide) rfl (fun ls hl => ?_)
                      refine lv_iinc (v := (nI (k + 1))) (lv' := [(6, .int (nI (k + 1))), (5, .int (f_X6_amount ((f_X6_holdsBy p0 (nI k) (m_ss_f 1) m_ss_f) - (f_X6_holdsBy q0 (nI k) (m_ss_f 1) m_ss_f)))), (4, .int (nI k)), (7, .int (f_X6_amount ((f_X6_holdsBy p0 (nI k) (m_ss_f 1) m_ss_f) - (f_X6_holdsBy q0 (nI k) (m_ss_f 1) m_ss_f)))), (0, .ref m), (1, .int p0), (2, .int q0), (3, .int what)]) hx hb dX6_parts_118 hl (k := 7) rfl (w_inc _) (by decide) rfl (fun ls hl => ?_)
                      refine lv_goto (tgt := 61) hx hb dX6_parts_121 (by decide) ?_
                      exact ih ((k + 1)) (nI k) (f_X6_amount ((f_X6_holdsBy p0 (nI k) (m_ss_f 1) m_ss_f) - (f_X6_holdsBy q0 (nI k) (m_ss_f 1) m_ss_f))) _ _ _ (by omega) (by omega) hq (lv_sub hl [4, 5, 6, 7, 2, 1, 0] rfl) w
                    · skip
                      have hq := hq.trans (if_neg c9)
                      refine lv_goto (tgt := 118) hx hb dX6_parts_107 (by decide) ?_
                      refine lv_iinc (v := (nI (k + 1))) (lv' := [(6, .int (nI (k + 1))), (7, .int (f_X6_amount ((f_X6_holdsBy p0 (nI k) (m_ss_f 1) m_ss_f) - (f_X6_holdsBy q0 (nI k) (m_ss_f 1) m_ss_f)))), (0, .ref m), (1, .int p0), (2, .int q0), (3, .int what), (4, .int v4), (5, .int v5)]) hx hb dX6_parts_118 hl (k := 7) rfl (w_inc _) (by decide) rfl (fun ls hl => ?_)
                      refine lv_goto (tgt := 61) hx hb dX6_parts_121 (by decide) ?_
                      exact ih ((k + 1)) v4 v5 _ _ _ (by omega) (by omega) hq (lv_sub hl [2, 3, 4, 5, 6, 7, 0] rfl) w
              exact hL61 (21 + 1) 0 0 (-1) _ _ _ (Nat.zero_le _) (by omega) hq (lv_sub hl [3, 4, 5, 6, 2, 1, 0] rfl) w
            · skip
              have hq := hq.trans (if_neg c6)
              refine lv_bipush (v := (-3)) hx hb dX6_parts_49 (by decide) ?_
              exact w_iret hx hb hr hlocks w ⟨hq.symm, rfl, rfl⟩ (Nat.le_refl _) (Nat.le_refl _) dX6_parts_51
        · skip
          have hq := hq.trans (if_pos c4)
          refine lv_iconst (v := (-1)) hx hb dX6_parts_31 (by decide) ?_
          exact w_iret hx hb hr hlocks w ⟨hq.symm, rfl, rfl⟩ (Nat.le_refl _) (Nat.le_refl _) dX6_parts_32
def f_X6_image_L2 (m_ss_f : Nat → Int32) : Nat → Nat → (Nat → Int32) → Int32 × (Nat → Int32) × Int32
  | 0, _, _ => (0, (fun _ => 0), 0)
  | n + 1, k, u_m_im_f => if (55 : Int32) ≤ (nI k) then ((m_ss_f 5), u_m_im_f, 1) else (f_X6_image_L2 m_ss_f n ((k + 1)) (upd u_m_im_f k (m_ss_f k)))
theorem f_X6_image_L2_s (m_ss_f : Nat → Int32) (n k : Nat) (u_m_im_f : Nat → Int32) : f_X6_image_L2 m_ss_f (n + 1) k u_m_im_f = (if (55 : Int32) ≤ (nI k) then ((m_ss_f 5), u_m_im_f, 1) else (f_X6_image_L2 m_ss_f n ((k + 1)) (upd u_m_im_f k (m_ss_f k)))) := rfl
def f_X6_image (m_ss_f : Nat → Int32) (m_im_f : Nat → Int32) : Int32 × (Nat → Int32) × Int32 := f_X6_image_L2 m_ss_f (55 + 1) 0 m_im_f
set_option maxHeartbeats 400000 in
set_option maxRecDepth 100000 in
theorem c_X6_image (l : Launch) (D : va_G) (cI cP cS cL : ClassId) (L : List Nat) (F : Nat → va_E) (m : Nat) (m_ss : Nat) (m_im : Nat) (m_re : Nat) (m_sa : Nat) (m_ke : Nat) (m_so : Nat) (m_si : Nat) (m_el : Nat) (m_kd : Nat) (m_kt : Nat) (m_hi : Int32) (m_th : Int32) (m_po : Int32) (m_ba : Int32) (m_en : Int32) (m_tl : Int32) (m_nu : Nat) (m_ca : Nat) (m_ha : Nat) (m_hs : Int32) (m_co : Nat) (m_ss_f : Nat → Int32) (m_im_f : Nat → Int32) (h_m : wi L F m (eM m_ss m_im m_re m_sa m_ke m_so m_si m_el m_kd m_kt m_hi m_th m_po m_ba m_en m_tl m_nu m_ca m_ha m_hs m_co)) (h_m_ss : wi L F m_ss (eI cI 55 m_ss_f)) (h_m_im : wi L F m_im (eI cI 55 m_im_f)) (ne_m_ss_m_im : m_ss ≠ m_im) : wMj l D cI cP cS cL yX6_image wsX6_image ({ frames := 0, cells := 0, slots := 0, locals := 0 } : Room) [.ref m] L F (fun r1 F1 => ∃ y9 : Int32 × (Nat → Int32) × Int32, y9 = (f_X6_image m_ss_f m_im_f) ∧ r1 = y9.1 ∧ F1 m = (eM m_ss m_im m_re m_sa m_ke m_so m_si m_el m_kd m_kt y9.2.2 m_th m_po m_ba m_en m_tl m_nu m_ca m_ha m_hs m_co) ∧ F1 m_im = (eI cI 55 y9.2.1) ∧ wk (fun q : Nat => q ≠ m ∧ q ≠ m_im ∧ True) F1 F) := by
  refine wM.of (cc := cX6_image) (maxL := 2) (ret := (some .int)) (by decide) rfl (Nat.le_of_ble_eq_true rfl) ?_
  intro pZ eZ sZ mZ below meth cZ A ls C hl w
  obtain ⟨hx, hb, hr, hml, hts, hown, hlocks, hK, hA, hin⟩ := C
  have hown : sZ.vm.findClass RX6 = some mZ.cls := hown
  have hl : lv_has ls 2 [(0, .ref m)] := hl
  have m_0 : ((.fieldLink RX6 232 "TwoThirdsModel" "hasImage" "Z") : Cond) ∈ wsX6_image := by decide +kernel
  have i_X6 : ∀ w ∈ wsX60, w ∈ wsX6_image := by decide +kernel
  have m_2 : ((.fieldLink RX6 9 "TwoThirdsModel" "s" "[I") : Cond) ∈ wsX6_image := by decide +kernel
  have m_3 : ((.fieldLink RX6 13 "TwoThirdsModel" "image" "[I") : Cond) ∈ wsX6_image := by decide +kernel
  have hk : wk (fun q : Nat => q ≠ m ∧ q ≠ m_im ∧ True) F F := wk.rf
  have hq : f_X6_image m_ss_f m_im_f = f_X6_image m_ss_f m_im_f := rfl
  refine lv_iconst (v := 0) hx hb dX6_image_0 (by decide) ?_
  refine lv_istore_n (lv' := [(1, .int 0), (0, .ref m)]) hx hb dX6_image_1 rfl hl (by decide) rfl (fun ls hl => ?_)
  have hL2 : ∀ (n k : Nat) (u_m_im_f : Nat → Int32) (F1 : Nat → va_E) (H : Heap) (locs : List Loc) (ls : Array Slot), k ≤ 55 → 55 - k < n → f_X6_image m_ss_f m_im_f = f_X6_image_L2 m_ss_f n k u_m_im_f → lv_has ls 2 [(0, .ref m), (1, .int (nI k))] → ww D A sZ.heap L F1 H locs → (wi L F1 m (eM m_ss m_im m_re m_sa m_ke m_so m_si m_el m_kd m_kt m_hi m_th m_po m_ba m_en m_tl m_nu m_ca m_ha m_hs m_co)) → (wi L F1 m_ss (eI cI 55 m_ss_f)) → (wi L F1 m_im (eI cI 55 u_m_im_f)) → wk (fun q : Nat => q ≠ m ∧ q ≠ m_im ∧ True) F1 F → W pZ l eZ ({ frames := 0, cells := 0, slots := 0, locals := 0 } : Room) sZ mZ [.ref m].toArray below meth cZ H locs 0 0 (MQ below (wQi D A (fun r1 L1 F1 => L1 = L ∧ ∃ y9 : Int32 × (Nat → Int32) × Int32, y9 = (f_X6_image m_ss_f m_im_f) ∧ r1 = y9.1 ∧ F1 m = (eM m_ss m_im m_re m_sa m_ke m_so m_si m_el m_kd m_kt y9.2.2 m_th m_po m_ba m_en m_tl m_nu m_ca m_ha m_hs m_co) ∧ F1 m_im = (eI cI 55 y9.2.1) ∧ wk (fun q : Nat => q ≠ m ∧ q ≠ m_im ∧ True) F1 F)) [.ref m].toArray sZ 0 0 A) (F0 mZ 2 ls []) := by
    intro n; induction n with
    | zero => intro k u_m_im_f F1 H locs ls hkT hmeas; exact absurd hmeas (Nat.not_lt_zero _)
    | succ n ih =>
      intro k u_m_im_f F1 H locs ls hkT hmeas hq hl w h_m h_m_ss h_m_im hk
      have hk31 : k < 2147483648 := by omega
      have hq := hq.trans (f_X6_image_L2_s m_ss_f n k u_m_im_f)
      refine lv_iload_n hx hb dX6_image_2 rfl (lv_at hl 1 rfl) ?_
      refine lv_bipush (v := 55) hx hb dX6_image_3 (by decide) ?_
      refine lv_icmp_ge (tgt := 26) hx hb dX6_image_5 (by decide) (fun c1 => ?_) (fun c1 => ?_)
      · skip
        have hq := hq.trans (if_pos c1)
        refine lv_aload_n hx hb dX6_image_26 rfl (lv_at hl 0 rfl) ?_
        refine lv_iconst (v := 1) hx hb dX6_image_27 (by decide) ?_
        have ho2 := h_m
        refine w_put (fs2 := [.ref m_ss, .ref m_im, .ref m_re, .ref m_sa, .ref m_ke, .ref m_so, .ref m_si, .ref m_el, .ref m_kd, .ref m_kt, .int 1, .int m_th, .int m_po, .int m_ba, .int m_en, .int m_tl, .ref m_nu, .ref m_ca, .ref m_ha, .int m_hs, .ref m_co]) hx hb hts i_X6 tyX6 tyX6_ok nmX6 hown hK w h_m rfl 10 (by decide) (hts _ m_0) rfl rfl rfl (Nat.le_of_ble_eq_true rfl) rfl dX6_image_28 (fun H locs w h_m => ?_)
        have h_m_ss := h_m_ss.upw h_m (wi.ne h_m_ss ho2 (by intro h; cases h))
        have h_m_im := h_m_im.upw h_m (wi.ne h_m_im ho2 (by intro h; cases h))
        have hk := hk.upw h_m (fun q h => h.1)
        refine lv_aload_n hx hb dX6_image_31 rfl (lv_at hl 0 rfl) ?_
        refine w_get (v := .ref m_ss) hx hb hts i_X6 hown hK w h_m rfl 0 (by decide) (hts _ m_2) rfl dX6_image_32 ?_
        refine lv_iconst (v := 5) hx hb dX6_image_35 (by decide) ?_
        refine w_ild (j := 5) hx hb hK w h_m_ss (vp_in_nI (n := 5) (N := 55) (by decide) (by decide)) rfl dX6_image_36 ?_
        exact w_iret hx hb hr hlocks w ⟨rfl, _, hq.symm, rfl, h_m.2, h_m_im.2, hk⟩ (Nat.le_refl _) (Nat.le_refl _) dX6_image_37
      · skip
        have hq := hq.trans (if_neg c1)
        have hlt5 : k < 55 := w_ltk hk31 c1
        refine lv_aload_n hx hb dX6_image_8 rfl (lv_at hl 0 rfl) ?_
        refine w_get (v := .ref m_im) hx hb hts i_X6 hown hK w h_m rfl 1 (by decide) (hts _ m_3) rfl dX6_image_9 ?_
        refine lv_iload_n hx hb dX6_image_12 rfl (lv_at hl 1 rfl) ?_
        refine lv_aload_n hx hb dX6_image_13 rfl (lv_at hl 0 rfl) ?_
        refine w_get (v := .ref m_ss) hx hb hts i_X6 hown hK w h_m rfl 0 (by decide) (hts _ m_2) rfl dX6_image_14 ?_
        refine lv_iload_n hx hb dX6_image_17 rfl (lv_at hl 1 rfl) ?_
        refine w_ild (j := k) hx hb hK w h_m_ss (vp_in_nI (by omega) (by omega)) (nI_clamp (by omega)) dX6_image_18 ?_
        have ho3 := h_m_im
        refine w_ist (j := k) hx hb hK w h_m_im (vp_in_nI (by omega) (by omega)) (nI_clamp (by omega)) dX6_image_19 (fun H locs w h_m_im => ?_)
        have h_m := h_m.upw h_m_im (wi.ne h_m ho3 (by intro h; cases h))
        have h_m_ss := h_m_ss.upw h_m_im ne_m_ss_m_im
        have hk := hk.upw h_m_im (fun q h => h.2.1)
        refine lv_iinc (v := (nI (k + 1))) (lv' := [(1, .int (nI (k + 1))), (0, .ref m)]) hx hb dX6_image_20 hl (k := 1) rfl (w_inc _) (by decide) rfl (fun ls hl => ?_)
        refine lv_goto (tgt := 2) hx hb dX6_image_23 (by decide) ?_
        exact ih ((k + 1)) (upd u_m_im_f k (m_ss_f k)) _ _ _ _ (by omega) (by omega) hq (lv_sub hl [1, 0] rfl) w h_m h_m_ss h_m_im hk
  exact hL2 (55 + 1) 0 m_im_f _ _ _ _ (Nat.zero_le _) (by omega) hq (lv_sub hl [1, 0] rfl) w h_m h_m_ss h_m_im hk
def f_X6_restore_L12 (m_im_f : Nat → Int32) : Nat → Nat → (Nat → Int32) → Int32 × (Nat → Int32)
  | 0, _, _ => (0, (fun _ => 0))
  | n + 1, k, u_m_ss_f => if (55 : Int32) ≤ (nI k) then ((u_m_ss_f 5), u_m_ss_f) else (f_X6_restore_L12 m_im_f n ((k + 1)) (upd u_m_ss_f k (m_im_f k)))
theorem f_X6_restore_L12_s (m_im_f : Nat → Int32) (n k : Nat) (u_m_ss_f : Nat → Int32) : f_X6_restore_L12 m_im_f (n + 1) k u_m_ss_f = (if (55 : Int32) ≤ (nI k) then ((u_m_ss_f 5), u_m_ss_f) else (f_X6_restore_L12 m_im_f n ((k + 1)) (upd u_m_ss_f k (m_im_f k)))) := rfl
def f_X6_restore (m_hi : Int32) (m_ss_f : Nat → Int32) (m_im_f : Nat → Int32) : Int32 × (Nat → Int32) := if m_hi = (0 : Int32) then ((-3), m_ss_f) else (f_X6_restore_L12 m_im_f (55 + 1) 0 m_ss_f)
set_option maxHeartbeats 400000 in
set_option maxRecDepth 100000 in
theorem c_X6_restore (l : Launch) (D : va_G) (cI cP cS cL : ClassId) (L : List Nat) (F : Nat → va_E) (m : Nat) (m_ss : Nat) (m_im : Nat) (m_re : Nat) (m_sa : Nat) (m_ke : Nat) (m_so : Nat) (m_si : Nat) (m_el : Nat) (m_kd : Nat) (m_kt : Nat) (m_hi : Int32) (m_th : Int32) (m_po : Int32) (m_ba : Int32) (m_en : Int32) (m_tl : Int32) (m_nu : Nat) (m_ca : Nat) (m_ha : Nat) (m_hs : Int32) (m_co : Nat) (m_ss_f : Nat → Int32) (m_im_f : Nat → Int32) (h_m : wi L F m (eM m_ss m_im m_re m_sa m_ke m_so m_si m_el m_kd m_kt m_hi m_th m_po m_ba m_en m_tl m_nu m_ca m_ha m_hs m_co)) (h_m_ss : wi L F m_ss (eI cI 55 m_ss_f)) (h_m_im : wi L F m_im (eI cI 55 m_im_f)) (ne_m_im_m_ss : m_im ≠ m_ss) : wMj l D cI cP cS cL yX6_restore wsX6_restore ({ frames := 0, cells := 0, slots := 0, locals := 0 } : Room) [.ref m] L F (fun r1 F1 => ∃ y9 : Int32 × (Nat → Int32), y9 = (f_X6_restore m_hi m_ss_f m_im_f) ∧ r1 = y9.1 ∧ F1 m_ss = (eI cI 55 y9.2) ∧ wk (fun q : Nat => q ≠ m_ss ∧ True) F1 F) := by
  refine wM.of (cc := cX6_restore) (maxL := 2) (ret := (some .int)) (by decide) rfl (Nat.le_of_ble_eq_true rfl) ?_
  intro pZ eZ sZ mZ below meth cZ A ls C hl w
  obtain ⟨hx, hb, hr, hml, hts, hown, hlocks, hK, hA, hin⟩ := C
  have hown : sZ.vm.findClass RX6 = some mZ.cls := hown
  have hl : lv_has ls 2 [(0, .ref m)] := hl
  have m_0 : ((.fieldLink RX6 232 "TwoThirdsModel" "hasImage" "Z") : Cond) ∈ wsX6_restore := by decide +kernel
  have i_X6 : ∀ w ∈ wsX60, w ∈ wsX6_restore := by decide +kernel
  have m_2 : ((.fieldLink RX6 9 "TwoThirdsModel" "s" "[I") : Cond) ∈ wsX6_restore := by decide +kernel
  have m_3 : ((.fieldLink RX6 13 "TwoThirdsModel" "image" "[I") : Cond) ∈ wsX6_restore := by decide +kernel
  have hk : wk (fun q : Nat => q ≠ m_ss ∧ True) F F := wk.rf
  have hq : f_X6_restore m_hi m_ss_f m_im_f = f_X6_restore m_hi m_ss_f m_im_f := rfl
  refine lv_aload_n hx hb dX6_restore_0 rfl (lv_at hl 0 rfl) ?_
  refine w_get (v := .int m_hi) hx hb hts i_X6 hown hK w h_m rfl 10 (by decide) (hts _ m_0) rfl dX6_restore_1 ?_
  refine lv_if_ne (tgt := 10) hx hb dX6_restore_4 (by decide) (fun c1 => ?_) (fun c1 => ?_)
  · skip
    have hq := hq.trans (if_neg c1)
    refine lv_iconst (v := 0) hx hb dX6_restore_10 (by decide) ?_
    refine lv_istore_n (lv' := [(1, .int 0), (0, .ref m)]) hx hb dX6_restore_11 rfl hl (by decide) rfl (fun ls hl => ?_)
    have hL12 : ∀ (n k : Nat) (u_m_ss_f : Nat → Int32) (F1 : Nat → va_E) (H : Heap) (locs : List Loc) (ls : Array Slot), k ≤ 55 → 55 - k < n → f_X6_restore m_hi m_ss_f m_im_f = f_X6_restore_L12 m_im_f n k u_m_ss_f → lv_has ls 2 [(0, .ref m), (1, .int (nI k))] → ww D A sZ.heap L F1 H locs → (wi L F1 m (eM m_ss m_im m_re m_sa m_ke m_so m_si m_el m_kd m_kt m_hi m_th m_po m_ba m_en m_tl m_nu m_ca m_ha m_hs m_co)) → (wi L F1 m_ss (eI cI 55 u_m_ss_f)) → (wi L F1 m_im (eI cI 55 m_im_f)) → wk (fun q : Nat => q ≠ m_ss ∧ True) F1 F → W pZ l eZ ({ frames := 0, cells := 0, slots := 0, locals := 0 } : Room) sZ mZ [.ref m].toArray below meth cZ H locs 0 0 (MQ below (wQi D A (fun r1 L1 F1 => L1 = L ∧ ∃ y9 : Int32 × (Nat → Int32), y9 = (f_X6_restore m_hi m_ss_f m_im_f) ∧ r1 = y9.1 ∧ F1 m_ss = (eI cI 55 y9.2) ∧ wk (fun q : Nat => q ≠ m_ss ∧ True) F1 F)) [.ref m].toArray sZ 0 0 A) (F0 mZ 12 ls []) := by
      intro n; induction n with
      | zero => intro k u_m_ss_f F1 H locs ls hkT hmeas; exact absurd hmeas (Nat.not_lt_zero _)
      | succ n ih =>
        intro k u_m_ss_f F1 H locs ls hkT hmeas hq hl w h_m h_m_ss h_m_im hk
        have hk31 : k < 2147483648 := by omega
        have hq := hq.trans (f_X6_restore_L12_s m_im_f n k u_m_ss_f)
        refine lv_iload_n hx hb dX6_restore_12 rfl (lv_at hl 1 rfl) ?_
        refine lv_bipush (v := 55) hx hb dX6_restore_13 (by decide) ?_
        refine lv_icmp_ge (tgt := 36) hx hb dX6_restore_15 (by decide) (fun c2 => ?_) (fun c2 => ?_)
        · skip
          have hq := hq.trans (if_pos c2)
          refine lv_aload_n hx hb dX6_restore_36 rfl (lv_at hl 0 rfl) ?_
          refine w_get (v := .ref m_ss) hx hb hts i_X6 hown hK w h_m rfl 0 (by decide) (hts _ m_2) rfl dX6_restore_37 ?_
          refine lv_iconst (v := 5) hx hb dX6_restore_40 (by decide) ?_
          refine w_ild (j := 5) hx hb hK w h_m_ss (vp_in_nI (n := 5) (N := 55) (by decide) (by decide)) rfl dX6_restore_41 ?_
          exact w_iret hx hb hr hlocks w ⟨rfl, _, hq.symm, rfl, h_m_ss.2, hk⟩ (Nat.le_refl _) (Nat.le_refl _) dX6_restore_42
        · skip
          have hq := hq.trans (if_neg c2)
          have hlt15 : k < 55 := w_ltk hk31 c2
          refine lv_aload_n hx hb dX6_restore_18 rfl (lv_at hl 0 rfl) ?_
          refine w_get (v := .ref m_ss) hx hb hts i_X6 hown hK w h_m rfl 0 (by decide) (hts _ m_2) rfl dX6_restore_19 ?_
          refine lv_iload_n hx hb dX6_restore_22 rfl (lv_at hl 1 rfl) ?_
          refine lv_aload_n hx hb dX6_restore_23 rfl (lv_at hl 0 rfl) ?_
          refine w_get (v := .ref m_im) hx hb hts i_X6 hown hK w h_m rfl 1 (by decide) (hts _ m_3) rfl dX6_restore_24 ?_
          refine lv_iload_n hx hb dX6_restore_27 rfl (lv_at hl 1 rfl) ?_
          refine w_ild (j := k) hx hb hK w h_m_im (vp_in_nI (by omega) (by omega)) (nI_clamp (by omega)) dX6_restore_28 ?_
          have ho3 := h_m_ss
          refine w_ist (j := k) hx hb hK w h_m_ss (vp_in_nI (by omega) (by omega)) (nI_clamp (by omega)) dX6_restore_29 (fun H locs w h_m_ss => ?_)
          have h_m := h_m.upw h_m_ss (wi.ne h_m ho3 (by intro h; cases h))
          have h_m_im := h_m_im.upw h_m_ss ne_m_im_m_ss
          have hk := hk.upw h_m_ss (fun q h => h.1)
          refine lv_iinc (v := (nI (k + 1))) (lv' := [(1, .int (nI (k + 1))), (0, .ref m)]) hx hb dX6_restore_30 hl (k := 1) rfl (w_inc _) (by decide) rfl (fun ls hl => ?_)
          refine lv_goto (tgt := 12) hx hb dX6_restore_33 (by decide) ?_
          exact ih ((k + 1)) (upd u_m_ss_f k (m_im_f k)) _ _ _ _ (by omega) (by omega) hq (lv_sub hl [1, 0] rfl) w h_m h_m_ss h_m_im hk
    exact hL12 (55 + 1) 0 m_ss_f _ _ _ _ (Nat.zero_le _) (by omega) hq (lv_sub hl [1, 0] rfl) w h_m h_m_ss h_m_im hk
  · skip
    have hq := hq.trans (if_pos c1)
    refine lv_bipush (v := (-3)) hx hb dX6_restore_7 (by decide) ?_
    exact w_iret hx hb hr hlocks w ⟨rfl, _, hq.symm, rfl, h_m_ss.2, hk⟩ (Nat.le_refl _) (Nat.le_refl _) dX6_restore_9
def f_X6_count_L66 (m_ss_f : Nat → Int32) : Nat → Nat → Int32 → Int32
  | 0, _, _ => 0
  | n + 1, k, v2 => if (m_ss_f 5) ≤ (nI k) then v2 else (f_X6_count_L66 m_ss_f n ((k + 1)) (v2 + (f_X6_get (nI k) 1 m_ss_f)))
theorem f_X6_count_L66_s (m_ss_f : Nat → Int32) (n k : Nat) (v2 : Int32) : f_X6_count_L66 m_ss_f (n + 1) k v2 = (if (m_ss_f 5) ≤ (nI k) then v2 else (f_X6_count_L66 m_ss_f n ((k + 1)) (v2 + (f_X6_get (nI k) 1 m_ss_f)))) := rfl
def f_X6_count (what : Int32) (m_ss_f : Nat → Int32) : Int32 := if what = (0 : Int32) then (m_ss_f 5) else (if what = (1 : Int32) then (m_ss_f 6) else (if what = (2 : Int32) then (m_ss_f ((what - 2).toNatClampNeg)) else (if what = (3 : Int32) then (m_ss_f ((what - 2).toNatClampNeg)) else (if what = (4 : Int32) then (m_ss_f ((what - 2).toNatClampNeg)) else (if what = (5 : Int32) then (f_X6_count_L66 m_ss_f ((m_ss_f 5).toNatClampNeg + 1) 0 0) else (-1))))))
set_option maxHeartbeats 400000 in
set_option maxRecDepth 100000 in
theorem c_X6_count (l : Launch) (D : va_G) (cI cP cS cL : ClassId) (L : List Nat) (F : Nat → va_E) (m : Nat) (what : Int32) (m_ss : Nat) (m_im : Nat) (m_re : Nat) (m_sa : Nat) (m_ke : Nat) (m_so : Nat) (m_si : Nat) (m_el : Nat) (m_kd : Nat) (m_kt : Nat) (m_hi : Int32) (m_th : Int32) (m_po : Int32) (m_ba : Int32) (m_en : Int32) (m_tl : Int32) (m_nu : Nat) (m_ca : Nat) (m_ha : Nat) (m_hs : Int32) (m_co : Nat) (m_ss_f : Nat → Int32) (h_m : wi L F m (eM m_ss m_im m_re m_sa m_ke m_so m_si m_el m_kd m_kt m_hi m_th m_po m_ba m_en m_tl m_nu m_ca m_ha m_hs m_co)) (h_m_ss : wi L F m_ss (eI cI 55 m_ss_f)) (h5 : 0 ≤ (m_ss_f 5).toInt ∧ (m_ss_f 5).toInt ≤ 12) : wMI l D cI cP cS cL yX6_count wsX6_count ({ frames := 1, cells := 0, slots := 0, locals := 22 } : Room) [.ref m, .int what] L F (f_X6_count what m_ss_f) F := by
  refine wM.of (cc := cX6_count) (maxL := 4) (ret := (some .int)) (by decide) rfl (Nat.le_of_ble_eq_true rfl) ?_
  intro pZ eZ sZ mZ below meth cZ A ls C hl w
  obtain ⟨hx, hb, hr, hml, hts, hown, hlocks, hK, hA, hin⟩ := C
  have hown : sZ.vm.findClass RX6 = some mZ.cls := hown
  have hl : lv_has ls 4 [(0, .ref m), (1, .int what)] := hl
  have m_0 : ((.fieldLink RX6 9 "TwoThirdsModel" "s" "[I") : Cond) ∈ wsX6_count := by decide +kernel
  have i_X6 : ∀ w ∈ wsX60, w ∈ wsX6_count := by decide +kernel
  have hq : f_X6_count what m_ss_f = f_X6_count what m_ss_f := rfl
  refine lv_iconst (v := 0) hx hb dX6_count_0 (by decide) ?_
  refine lv_istore_n (lv' := [(2, .int 0), (0, .ref m), (1, .int what)]) hx hb dX6_count_1 rfl hl (by decide) rfl (fun ls hl => ?_)
  refine lv_iload_n hx hb dX6_count_2 rfl (lv_at hl 2 rfl) ?_
  by_cases c1 : what = (0 : Int32)
  · skip
    have hq := hq.trans (if_pos c1)
    refine w_ts (v := 0) (off := 37) (tgt := 40) hx hb dX6_count_3 c1 (by decide) (by decide) rfl (by decide) ?_
    refine lv_aload_n hx hb dX6_count_40 rfl (lv_at hl 1 rfl) ?_
    refine w_get (v := .ref m_ss) hx hb hts i_X6 hown hK w h_m rfl 0 (by decide) (hts _ m_0) rfl dX6_count_41 ?_
    refine lv_iconst (v := 5) hx hb dX6_count_44 (by decide) ?_
    refine w_ild (j := 5) hx hb hK w h_m_ss (vp_in_nI (n := 5) (N := 55) (by decide) (by decide)) rfl dX6_count_45 ?_
    exact w_iret hx hb hr hlocks w ⟨hq.symm, rfl, rfl⟩ (Nat.le_refl _) (Nat.le_refl _) dX6_count_46
  · skip
    have hq := hq.trans (if_neg c1)
    by_cases c2 : what = (1 : Int32)
    · skip
      have hq := hq.trans (if_pos c2)
      refine w_ts (v := 1) (off := 44) (tgt := 47) hx hb dX6_count_3 c2 (by decide) (by decide) rfl (by decide) ?_
      refine lv_aload_n hx hb dX6_count_47 rfl (lv_at hl 1 rfl) ?_
      refine w_get (v := .ref m_ss) hx hb hts i_X6 hown hK w h_m rfl 0 (by decide) (hts _ m_0) rfl dX6_count_48 ?_
      refine lv_bipush (v := 6) hx hb dX6_count_51 (by decide) ?_
      refine w_ild (j := 6) hx hb hK w h_m_ss (vp_in_nI (n := 6) (N := 55) (by decide) (by decide)) rfl dX6_count_53 ?_
      exact w_iret hx hb hr hlocks w ⟨hq.symm, rfl, rfl⟩ (Nat.le_refl _) (Nat.le_refl _) dX6_count_54
    · skip
      have hq := hq.trans (if_neg c2)
      by_cases c3 : what = (2 : Int32)
      · skip
        have hq := hq.trans (if_pos c3)
        refine w_ts (v := 2) (off := 52) (tgt := 55) hx hb dX6_count_3 c3 (by decide) (by decide) rfl (by decide) ?_
        refine lv_aload_n hx hb dX6_count_55 rfl (lv_at hl 1 rfl) ?_
        refine w_get (v := .ref m_ss) hx hb hts i_X6 hown hK w h_m rfl 0 (by decide) (hts _ m_0) rfl dX6_count_56 ?_
        refine lv_iload_n hx hb dX6_count_59 rfl (lv_at hl 2 rfl) ?_
        refine lv_iconst (v := 2) hx hb dX6_count_60 (by decide) ?_
        refine lv_isub hx hb dX6_count_61 ?_
        refine w_ild (j := ((what - 2).toNatClampNeg)) hx hb hK w h_m_ss (by first | exact w_cnt (n := 0) (by assumption) (by decide) (by decide) | exact w_cnt (n := 1) (by assumption) (by decide) (by decide) | exact w_cnt (n := 2) (by assumption) (by decide) (by decide)) rfl dX6_count_62 ?_
        exact w_iret hx hb hr hlocks w ⟨hq.symm, rfl, rfl⟩ (Nat.le_refl _) (Nat.le_refl _) dX6_count_63
      · skip
        have hq := hq.trans (if_neg c3)
        by_cases c4 : what = (3 : Int32)
        · skip
          have hq := hq.trans (if_pos c4)
          refine w_ts (v := 3) (off := 52) (tgt := 55) hx hb dX6_count_3 c4 (by decide) (by decide) rfl (by decide) ?_
          refine lv_aload_n hx hb dX6_count_55 rfl (lv_at hl 1 rfl) ?_
          refine w_get (v := .ref m_ss) hx hb hts i_X6 hown hK w h_m rfl 0 (by decide) (hts _ m_0) rfl dX6_count_56 ?_
          refine lv_iload_n hx hb dX6_count_59 rfl (lv_at hl 2 rfl) ?_
          refine lv_iconst (v := 2) hx hb dX6_count_60 (by decide) ?_
          refine lv_isub hx hb dX6_count_61 ?_
          refine w_ild (j := ((what - 2).toNatClampNeg)) hx hb hK w h_m_ss (by first | exact w_cnt (n := 0) (by assumption) (by decide) (by decide) | exact w_cnt (n := 1) (by assumption) (by decide) (by decide) | exact w_cnt (n := 2) (by assumption) (by decide) (by decide)) rfl dX6_count_62 ?_
          exact w_iret hx hb hr hlocks w ⟨hq.symm, rfl, rfl⟩ (Nat.le_refl _) (Nat.le_refl _) dX6_count_63
        · skip
          have hq := hq.trans (if_neg c4)
          by_cases c5 : what = (4 : Int32)
          · skip
            have hq := hq.trans (if_pos c5)
            refine w_ts (v := 4) (off := 52) (tgt := 55) hx hb dX6_count_3 c5 (by decide) (by decide) rfl (by decide) ?_
            refine lv_aload_n hx hb dX6_count_55 rfl (lv_at hl 1 rfl) ?_
            refine w_get (v := .ref m_ss) hx hb hts i_X6 hown hK w h_m rfl 0 (by decide) (hts _ m_0) rfl dX6_count_56 ?_
            refine lv_iload_n hx hb dX6_count_59 rfl (lv_at hl 2 rfl) ?_
            refine lv_iconst (v := 2) hx hb dX6_count_60 (by decide) ?_
            refine lv_isub hx hb dX6_count_61 ?_
            refine w_ild (j := ((what - 2).toNatClampNeg)) hx hb hK w h_m_ss (by first | exact w_cnt (n := 0) (by assumption) (by decide) (by decide) | exact w_cnt (n := 1) (by assumption) (by decide) (by decide) | exact w_cnt (n := 2) (by assumption) (by decide) (by decide)) rfl dX6_count_62 ?_
            exact w_iret hx hb hr hlocks w ⟨hq.symm, rfl, rfl⟩ (Nat.le_refl _) (Nat.le_refl _) dX6_count_63
          · skip
            have hq := hq.trans (if_neg c5)
            by_cases c6 : what = (5 : Int32)
            · skip
              have hq := hq.trans (if_pos c6)
              refine w_ts (v := 5) (off := 61) (tgt := 64) hx hb dX6_count_3 c6 (by decide) (by decide) rfl (by decide) ?_
              refine lv_iconst (v := 0) hx hb dX6_count_64 (by decide) ?_
              refine lv_istore_n (lv' := [(3, .int 0), (2, .int 0), (0, .ref m), (1, .int what)]) hx hb dX6_count_65 rfl hl (by decide) rfl (fun ls hl => ?_)
              have hL66 : ∀ (n k : Nat) (v2 : Int32) (H : Heap) (locs : List Loc) (ls : Array Slot), k ≤ (m_ss_f 5).toNatClampNeg → (m_ss_f 5).toNatClampNeg - k < n → f_X6_count what m_ss_f = f_X6_count_L66 m_ss_f n k v2 → lv_has ls 4 [(0, .ref m), (1, .int what), (2, .int v2), (3, .int (nI k))] → ww D A sZ.heap L F H locs → W pZ l eZ ({ frames := 1, cells := 0, slots := 0, locals := 22 } : Room) sZ mZ [.ref m, .int what].toArray below meth cZ H locs 0 0 (MQ below (wQi D A (fun r1 L1 F1 => r1 = (f_X6_count what m_ss_f) ∧ L1 = L ∧ F1 = F)) [.ref m, .int what].toArray sZ 0 0 A) (F0 mZ 66 ls []) := by
                intro n; induction n with
                | zero => intro k v2 H locs ls hkT hmeas; exact absurd hmeas (Nat.not_lt_zero _)
                | succ n ih =>
                  intro k v2 H locs ls hkT hmeas hq hl w
                  have hk31 : k < 2147483648 := Nat.lt_of_le_of_lt hkT (w_clamp_lt _)
                  have hq := hq.trans (f_X6_count_L66_s m_ss_f n k v2)
                  refine lv_iload_n hx hb dX6_count_66 rfl (lv_at hl 3 rfl) ?_
                  refine lv_aload_n hx hb dX6_count_67 rfl (lv_at hl 0 rfl) ?_
                  refine w_get (v := .ref m_ss) hx hb hts i_X6 hown hK w h_m rfl 0 (by decide) (hts _ m_0) rfl dX6_count_68 ?_
                  refine lv_iconst (v := 5) hx hb dX6_count_71 (by decide) ?_
                  refine w_ild (j := 5) hx hb hK w h_m_ss (vp_in_nI (n := 5) (N := 55) (by decide) (by decide)) rfl dX6_count_72 ?_
                  refine lv_icmp_ge (tgt := 91) hx hb dX6_count_73 (by decide) (fun c7 => ?_) (fun c7 => ?_)
                  · skip
                    have hq := hq.trans (if_pos c7)
                    refine lv_iload_n hx hb dX6_count_91 rfl (lv_at hl 2 rfl) ?_
                    exact w_iret hx hb hr hlocks w ⟨hq.symm, rfl, rfl⟩ (Nat.le_refl _) (Nat.le_refl _) dX6_count_92
                  · skip
                    have hq := hq.trans (if_neg c7)
                    have hlt73 : k < (m_ss_f 5).toNatClampNeg := w_ltk hk31 c7
                    have hk12 : k < 12 := w_k12 hlt73 h5.2
                    refine lv_iload_n hx hb dX6_count_76 rfl (lv_at hl 2 rfl) ?_
                    refine lv_aload_n hx hb dX6_count_77 rfl (lv_at hl 0 rfl) ?_
                    refine lv_iload_n hx hb dX6_count_78 rfl (lv_at hl 3 rfl) ?_
                    refine lv_iconst (v := 1) hx hb dX6_count_79 (by decide) ?_
                    refine w_finI (w_runV (rm := ({ frames := 0, cells := 0, slots := 0, locals := 0 } : Room)) (As := [.int (nI k), .int 1]) (rest := [.int v2]) (n := 2) hx hb hml hts hown hK w (c_X6_get l D cI cP cS cL L _ m (nI k) 1 m_ss m_im m_re m_sa m_ke m_so m_si m_el m_kd m_kt m_hi m_th m_po m_ba m_en m_tl m_nu m_ca m_ha m_hs m_co m_ss_f h_m h_m_ss (gix2 (nIb (by omega)) (by decide))) gX6_count_X6_get rfl rfl rfl (by decide +kernel) ⟨(Nat.le_of_ble_eq_true rfl), (Nat.le_of_ble_eq_true rfl)⟩ h_m rfl rfl hl.1 rfl (Nat.le_of_ble_eq_true rfl) dX6_count_80 ⟨(Nat.le_of_ble_eq_true rfl), (Nat.le_of_ble_eq_true rfl)⟩) w hA (fun H locs w => ?_)
                    refine lv_iadd hx hb dX6_count_83 ?_
                    refine lv_istore_n (lv' := [(2, .int (v2 + (f_X6_get (nI k) 1 m_ss_f))), (0, .ref m), (1, .int what), (3, .int (nI k))]) hx hb dX6_count_84 rfl hl (by decide) rfl (fun ls hl => ?_)
                    refine lv_iinc (v := (nI (k + 1))) (lv' := [(3, .int (nI (k + 1))), (2, .int (v2 + (f_X6_get (nI k) 1 m_ss_f))), (0, .ref m), (1, .int what)]) hx hb dX6_count_85 hl (k := 3) rfl (w_inc _) (by decide) rfl (fun ls hl => ?_)
                    refine lv_goto (tgt := 66) hx hb dX6_count_88 (by decide) ?_
                    exact ih ((k + 1)) (v2 + (f_X6_get (nI k) 1 m_ss_f)) _ _ _ (by omega) (by omega) hq (lv_sub hl [2, 3, 1, 0] rfl) w
              exact hL66 ((m_ss_f 5).toNatClampNeg + 1) 0 0 _ _ _ (Nat.zero_le _) (by omega) hq (lv_sub hl [2, 3, 1, 0] rfl) w
            · skip
              have hq := hq.trans (if_neg c6)
              refine lv_tableOut (tgt := 93) hx hb dX6_count_3 (by have q0 : ¬ what.toInt = 0 := w_ne c1 rfl; have q1 : ¬ what.toInt = 1 := w_ne c2 rfl; have q2 : ¬ what.toInt = 2 := w_ne c3 rfl; have q3 : ¬ what.toInt = 3 := w_ne c4 rfl; have q4 : ¬ what.toInt = 4 := w_ne c5 rfl; have q5 : ¬ what.toInt = 5 := w_ne c6 rfl; omega) (by decide) ?_
              refine lv_iconst (v := (-1)) hx hb dX6_count_93 (by decide) ?_
              exact w_iret hx hb hr hlocks w ⟨hq.symm, rfl, rfl⟩ (Nat.le_refl _) (Nat.le_refl _) dX6_count_94
def f_X6_depthOf (p0 : Int32) (m_ss_f : Nat → Int32) : Int32 := if (f_X6_get p0 0 m_ss_f) = (1 : Int32) then (1 + (f_X6_get p0 2 m_ss_f)) else (if (f_X6_get p0 0 m_ss_f) = (2 : Int32) then (1 + (10 * (f_X6_get p0 1 m_ss_f))) else (if (f_X6_get p0 0 m_ss_f) = (3 : Int32) then (2 * (1 + (10 * (f_X6_get p0 1 m_ss_f)))) else (if (f_X6_get p0 0 m_ss_f) = (4 : Int32) then 91 else (if (f_X6_get p0 0 m_ss_f) = (5 : Int32) then (1 - (f_X6_get p0 2 m_ss_f)) else (if (f_X6_get p0 0 m_ss_f) = (6 : Int32) then (6 + (10 * (f_X6_get p0 1 m_ss_f))) else (if (f_X6_get p0 0 m_ss_f) = (7 : Int32) then ((1 + (f_X6_get p0 2 m_ss_f)) / 2) else 1))))))
set_option maxHeartbeats 400000 in
set_option maxRecDepth 100000 in
theorem c_X6_depthOf (l : Launch) (D : va_G) (cI cP cS cL : ClassId) (L : List Nat) (F : Nat → va_E) (m : Nat) (p0 : Int32) (m_ss : Nat) (m_im : Nat) (m_re : Nat) (m_sa : Nat) (m_ke : Nat) (m_so : Nat) (m_si : Nat) (m_el : Nat) (m_kd : Nat) (m_kt : Nat) (m_hi : Int32) (m_th : Int32) (m_po : Int32) (m_ba : Int32) (m_en : Int32) (m_tl : Int32) (m_nu : Nat) (m_ca : Nat) (m_ha : Nat) (m_hs : Int32) (m_co : Nat) (m_ss_f : Nat → Int32) (h_m : wi L F m (eM m_ss m_im m_re m_sa m_ke m_so m_si m_el m_kd m_kt m_hi m_th m_po m_ba m_en m_tl m_nu m_ca m_ha m_hs m_co)) (h_m_ss : wi L F m_ss (eI cI 55 m_ss_f)) (hp0 : 0 ≤ p0.toInt ∧ p0.toInt < 12) : wMI l D cI cP cS cL yX6_depthOf wsX6_depthOf ({ frames := 1, cells := 0, slots := 0, locals := 22 } : Room) [.ref m, .int p0] L F (f_X6_depthOf p0 m_ss_f) F := by
  refine wM.of (cc := cX6_depthOf) (maxL := 4) (ret := (some .int)) (by decide) rfl (Nat.le_of_ble_eq_true rfl) ?_
  intro pZ eZ sZ mZ below meth cZ A ls C hl w
  obtain ⟨hx, hb, hr, hml, hts, hown, hlocks, hK, hA, hin⟩ := C
  have hown : sZ.vm.findClass RX6 = some mZ.cls := hown
  have hl : lv_has ls 4 [(0, .ref m), (1, .int p0)] := hl
  have hq : f_X6_depthOf p0 m_ss_f = f_X6_depthOf p0 m_ss_f := rfl
  refine lv_aload_n hx hb dX6_depthOf_0 rfl (lv_at hl 0 rfl) ?_
  refine lv_iload_n hx hb dX6_depthOf_1 rfl (lv_at hl 1 rfl) ?_
  refine lv_iconst (v := 1) hx hb dX6_depthOf_2 (by decide) ?_
  refine w_finI (w_runV (rm := ({ frames := 0, cells := 0, slots := 0, locals := 0 } : Room)) (As := [.int p0, .int 1]) (rest := []) (n := 2) hx hb hml hts hown hK w (c_X6_get l D cI cP cS cL L _ m p0 1 m_ss m_im m_re m_sa m_ke m_so m_si m_el m_kd m_kt m_hi m_th m_po m_ba m_en m_tl m_nu m_ca m_ha m_hs m_co m_ss_f h_m h_m_ss (gix2 hp0 (by decide))) gX6_depthOf_X6_get rfl rfl rfl (by decide +kernel) ⟨(Nat.le_of_ble_eq_true rfl), (Nat.le_of_ble_eq_true rfl)⟩ h_m rfl rfl hl.1 rfl (Nat.le_of_ble_eq_true rfl) dX6_depthOf_3 ⟨(Nat.le_of_ble_eq_true rfl), (Nat.le_of_ble_eq_true rfl)⟩) w hA (fun H locs w => ?_)
  refine lv_istore_n (lv' := [(2, .int (f_X6_get p0 1 m_ss_f)), (0, .ref m), (1, .int p0)]) hx hb dX6_depthOf_6 rfl hl (by decide) rfl (fun ls hl => ?_)
  refine lv_aload_n hx hb dX6_depthOf_7 rfl (lv_at hl 1 rfl) ?_
  refine lv_iload_n hx hb dX6_depthOf_8 rfl (lv_at hl 2 rfl) ?_
  refine lv_iconst (v := 2) hx hb dX6_depthOf_9 (by decide) ?_
  refine w_finI (w_runV (rm := ({ frames := 0, cells := 0, slots := 0, locals := 0 } : Room)) (As := [.int p0, .int 2]) (rest := []) (n := 2) hx hb hml hts hown hK w (c_X6_get l D cI cP cS cL L _ m p0 2 m_ss m_im m_re m_sa m_ke m_so m_si m_el m_kd m_kt m_hi m_th m_po m_ba m_en m_tl m_nu m_ca m_ha m_hs m_co m_ss_f h_m h_m_ss (gix2 hp0 (by decide))) gX6_depthOf_X6_get rfl rfl rfl (by decide +kernel) ⟨(Nat.le_of_ble_eq_true rfl), (Nat.le_of_ble_eq_true rfl)⟩ h_m rfl rfl hl.1 rfl (Nat.le_of_ble_eq_true rfl) dX6_depthOf_10 ⟨(Nat.le_of_ble_eq_true rfl), (Nat.le_of_ble_eq_true rfl)⟩) w hA (fun H locs w => ?_)
  refine lv_istore_n (lv' := [(3, .int (f_X6_get p0 2 m_ss_f)), (2, .int (f_X6_get p0 1 m_ss_f)), (0, .ref m), (1, .int p0)]) hx hb dX6_depthOf_13 rfl hl (by decide) rfl (fun ls hl => ?_)
  refine lv_aload_n hx hb dX6_depthOf_14 rfl (lv_at hl 2 rfl) ?_
  refine lv_iload_n hx hb dX6_depthOf_15 rfl (lv_at hl 3 rfl) ?_
  refine lv_iconst (v := 0) hx hb dX6_depthOf_16 (by decide) ?_
  refine w_finI (w_runV (rm := ({ frames := 0, cells := 0, slots := 0, locals := 0 } : Room)) (As := [.int p0, .int 0]) (rest := []) (n := 2) hx hb hml hts hown hK w (c_X6_get l D cI cP cS cL L _ m p0 0 m_ss m_im m_re m_sa m_ke m_so m_si m_el m_kd m_kt m_hi m_th m_po m_ba m_en m_tl m_nu m_ca m_ha m_hs m_co m_ss_f h_m h_m_ss (gix2 hp0 (by decide))) gX6_depthOf_X6_get rfl rfl rfl (by decide +kernel) ⟨(Nat.le_of_ble_eq_true rfl), (Nat.le_of_ble_eq_true rfl)⟩ h_m rfl rfl hl.1 rfl (Nat.le_of_ble_eq_true rfl) dX6_depthOf_17 ⟨(Nat.le_of_ble_eq_true rfl), (Nat.le_of_ble_eq_true rfl)⟩) w hA (fun H locs w => ?_)
  by_cases c1 : (f_X6_get p0 0 m_ss_f) = (1 : Int32)
  · skip
    have hq := hq.trans (if_pos c1)
    refine w_ts (v := 1) (off := 44) (tgt := 64) hx hb dX6_depthOf_20 c1 (by decide) (by decide) rfl (by decide) ?_
    refine lv_iconst (v := 1) hx hb dX6_depthOf_64 (by decide) ?_
    refine lv_iload_n hx hb dX6_depthOf_65 rfl (lv_at hl 0 rfl) ?_
    refine lv_iadd hx hb dX6_depthOf_66 ?_
    exact w_iret hx hb hr hlocks w ⟨hq.symm, rfl, rfl⟩ (Nat.le_refl _) (Nat.le_refl _) dX6_depthOf_67
  · skip
    have hq := hq.trans (if_neg c1)
    by_cases c2 : (f_X6_get p0 0 m_ss_f) = (2 : Int32)
    · skip
      have hq := hq.trans (if_pos c2)
      refine w_ts (v := 2) (off := 48) (tgt := 68) hx hb dX6_depthOf_20 c2 (by decide) (by decide) rfl (by decide) ?_
      refine lv_iconst (v := 1) hx hb dX6_depthOf_68 (by decide) ?_
      refine lv_bipush (v := 10) hx hb dX6_depthOf_69 (by decide) ?_
      refine lv_iload_n hx hb dX6_depthOf_71 rfl (lv_at hl 1 rfl) ?_
      refine lv_imul hx hb dX6_depthOf_72 ?_
      refine lv_iadd hx hb dX6_depthOf_73 ?_
      exact w_iret hx hb hr hlocks w ⟨hq.symm, rfl, rfl⟩ (Nat.le_refl _) (Nat.le_refl _) dX6_depthOf_74
    · skip
      have hq := hq.trans (if_neg c2)
      by_cases c3 : (f_X6_get p0 0 m_ss_f) = (3 : Int32)
      · skip
        have hq := hq.trans (if_pos c3)
        refine w_ts (v := 3) (off := 55) (tgt := 75) hx hb dX6_depthOf_20 c3 (by decide) (by decide) rfl (by decide) ?_
        refine lv_iconst (v := 2) hx hb dX6_depthOf_75 (by decide) ?_
        refine lv_iconst (v := 1) hx hb dX6_depthOf_76 (by decide) ?_
        refine lv_bipush (v := 10) hx hb dX6_depthOf_77 (by decide) ?_
        refine lv_iload_n hx hb dX6_depthOf_79 rfl (lv_at hl 1 rfl) ?_
        refine lv_imul hx hb dX6_depthOf_80 ?_
        refine lv_iadd hx hb dX6_depthOf_81 ?_
        refine lv_imul hx hb dX6_depthOf_82 ?_
        exact w_iret hx hb hr hlocks w ⟨hq.symm, rfl, rfl⟩ (Nat.le_refl _) (Nat.le_refl _) dX6_depthOf_83
      · skip
        have hq := hq.trans (if_neg c3)
        by_cases c4 : (f_X6_get p0 0 m_ss_f) = (4 : Int32)
        · skip
          have hq := hq.trans (if_pos c4)
          refine w_ts (v := 4) (off := 64) (tgt := 84) hx hb dX6_depthOf_20 c4 (by decide) (by decide) rfl (by decide) ?_
          refine lv_bipush (v := 91) hx hb dX6_depthOf_84 (by decide) ?_
          exact w_iret hx hb hr hlocks w ⟨hq.symm, rfl, rfl⟩ (Nat.le_refl _) (Nat.le_refl _) dX6_depthOf_86
        · skip
          have hq := hq.trans (if_neg c4)
          by_cases c5 : (f_X6_get p0 0 m_ss_f) = (5 : Int32)
          · skip
            have hq := hq.trans (if_pos c5)
            refine w_ts (v := 5) (off := 67) (tgt := 87) hx hb dX6_depthOf_20 c5 (by decide) (by decide) rfl (by decide) ?_
            refine lv_iconst (v := 1) hx hb dX6_depthOf_87 (by decide) ?_
            refine lv_iload_n hx hb dX6_depthOf_88 rfl (lv_at hl 0 rfl) ?_
            refine lv_isub hx hb dX6_depthOf_89 ?_
            exact w_iret hx hb hr hlocks w ⟨hq.symm, rfl, rfl⟩ (Nat.le_refl _) (Nat.le_refl _) dX6_depthOf_90
          · skip
            have hq := hq.trans (if_neg c5)
            by_cases c6 : (f_X6_get p0 0 m_ss_f) = (6 : Int32)
            · skip
              have hq := hq.trans (if_pos c6)
              refine w_ts (v := 6) (off := 71) (tgt := 91) hx hb dX6_depthOf_20 c6 (by decide) (by decide) rfl (by decide) ?_
              refine lv_bipush (v := 6) hx hb dX6_depthOf_91 (by decide) ?_
              refine lv_bipush (v := 10) hx hb dX6_depthOf_93 (by decide) ?_
              refine lv_iload_n hx hb dX6_depthOf_95 rfl (lv_at hl 1 rfl) ?_
              refine lv_imul hx hb dX6_depthOf_96 ?_
              refine lv_iadd hx hb dX6_depthOf_97 ?_
              exact w_iret hx hb hr hlocks w ⟨hq.symm, rfl, rfl⟩ (Nat.le_refl _) (Nat.le_refl _) dX6_depthOf_98
            · skip
              have hq := hq.trans (if_neg c6)
              by_cases c7 : (f_X6_get p0 0 m_ss_f) = (7 : Int32)
              · skip
                have hq := hq.trans (if_pos c7)
                refine w_ts (v := 7) (off := 79) (tgt := 99) hx hb dX6_depthOf_20 c7 (by decide) (by decide) rfl (by decide) ?_
                refine lv_iconst (v := 1) hx hb dX6_depthOf_99 (by decide) ?_
                refine lv_iload_n hx hb dX6_depthOf_100 rfl (lv_at hl 0 rfl) ?_
                refine lv_iadd hx hb dX6_depthOf_101 ?_
                refine lv_iconst (v := 2) hx hb dX6_depthOf_102 (by decide) ?_
                refine lv_idiv hx hb dX6_depthOf_103 (by decide) ?_
                exact w_iret hx hb hr hlocks w ⟨hq.symm, rfl, rfl⟩ (Nat.le_refl _) (Nat.le_refl _) dX6_depthOf_104
              · skip
                have hq := hq.trans (if_neg c7)
                refine lv_tableOut (tgt := 105) hx hb dX6_depthOf_20 (by have q0 : ¬ (f_X6_get p0 0 m_ss_f).toInt = 1 := w_ne c1 rfl; have q1 : ¬ (f_X6_get p0 0 m_ss_f).toInt = 2 := w_ne c2 rfl; have q2 : ¬ (f_X6_get p0 0 m_ss_f).toInt = 3 := w_ne c3 rfl; have q3 : ¬ (f_X6_get p0 0 m_ss_f).toInt = 4 := w_ne c4 rfl; have q4 : ¬ (f_X6_get p0 0 m_ss_f).toInt = 5 := w_ne c5 rfl; have q5 : ¬ (f_X6_get p0 0 m_ss_f).toInt = 6 := w_ne c6 rfl; have q6 : ¬ (f_X6_get p0 0 m_ss_f).toInt = 7 := w_ne c7 rfl; omega) (by decide) ?_
                refine lv_iconst (v := 1) hx hb dX6_depthOf_105 (by decide) ?_
                exact w_iret hx hb hr hlocks w ⟨hq.symm, rfl, rfl⟩ (Nat.le_refl _) (Nat.le_refl _) dX6_depthOf_106
def f_X6_keep (d : Int32) (what : Int32) (p0 : Int32) (m_ss_f : Nat → Int32) (m_ke_f : Nat → Int32) (m_kd_f : Nat → Int32) (m_kt_f : Nat → Int32) : Int32 × (Nat → Int32) × (Nat → Int32) × (Nat → Int32) := if (f_X6_isShelf d) = (0 : Int32) then ((-1), m_ke_f, m_kd_f, m_kt_f) else (if (f_X6_isIn (what.toInt64) 0 1) = (0 : Int32) then ((-1), m_ke_f, m_kd_f, m_kt_f) else (if what = (1 : Int32) then (if (f_X6_isPerson p0 m_ss_f) = (0 : Int32) then ((-1), m_ke_f, m_kd_f, m_kt_f) else (if what = (0 : Int32) then (0, (upd m_ke_f (d.toNatClampNeg) what), m_kd_f, m_kt_f) else (if (f_X6_get p0 0 m_ss_f) = (4 : Int32) then (0, (upd m_ke_f (d.toNatClampNeg) what), (upd m_kd_f (d.toNatClampNeg) (f_X6_depthOf p0 m_ss_f)), (upd m_kt_f (d.toNatClampNeg) (-15))) else (if (f_X6_get p0 0 m_ss_f) = (5 : Int32) then (0, (upd m_ke_f (d.toNatClampNeg) what), (upd m_kd_f (d.toNatClampNeg) (f_X6_depthOf p0 m_ss_f)), (upd m_kt_f (d.toNatClampNeg) (-15))) else (if (f_X6_get p0 1 m_ss_f) = (0 : Int32) then (0, (upd m_ke_f (d.toNatClampNeg) what), (upd m_kd_f (d.toNatClampNeg) (f_X6_depthOf p0 m_ss_f)), (upd m_kt_f (d.toNatClampNeg) (-15))) else (if (f_X6_get p0 0 m_ss_f) = (3 : Int32) then (0, (upd m_ke_f (d.toNatClampNeg) what), (upd m_kd_f (d.toNatClampNeg) (f_X6_depthOf p0 m_ss_f)), (upd m_kt_f (d.toNatClampNeg) (100 + p0))) else (if (f_X6_get p0 0 m_ss_f) = (6 : Int32) then (0, (upd m_ke_f (d.toNatClampNeg) what), (upd m_kd_f (d.toNatClampNeg) (f_X6_depthOf p0 m_ss_f)), (upd m_kt_f (d.toNatClampNeg) (200 + (f_X6_depthOf p0 m_ss_f)))) else (0, (upd m_ke_f (d.toNatClampNeg) what), (upd m_kd_f (d.toNatClampNeg) (f_X6_depthOf p0 m_ss_f)), (upd m_kt_f (d.toNatClampNeg) p0))))))))) else (if what = (0 : Int32) then (0, (upd m_ke_f (d.toNatClampNeg) what), m_kd_f, m_kt_f) else (0, (fun _ => 0), (fun _ => 0), (fun _ => 0)))))
set_option maxHeartbeats 400000 in
set_option maxRecDepth 100000 in
theorem c_X6_keep (l : Launch) (D : va_G) (cI cP cS cL : ClassId) (L : List Nat) (F : Nat → va_E) (m : Nat) (d : Int32) (what : Int32) (p0 : Int32) (m_ss : Nat) (m_im : Nat) (m_re : Nat) (m_sa : Nat) (m_ke : Nat) (m_so : Nat) (m_si : Nat) (m_el : Nat) (m_kd : Nat) (m_kt : Nat) (m_hi : Int32) (m_th : Int32) (m_po : Int32) (m_ba : Int32) (m_en : Int32) (m_tl : Int32) (m_nu : Nat) (m_ca : Nat) (m_ha : Nat) (m_hs : Int32) (m_co : Nat) (m_ss_f : Nat → Int32) (m_ke_f : Nat → Int32) (m_kd_f : Nat → Int32) (m_kt_f : Nat → Int32) (h_m : wi L F m (eM m_ss m_im m_re m_sa m_ke m_so m_si m_el m_kd m_kt m_hi m_th m_po m_ba m_en m_tl m_nu m_ca m_ha m_hs m_co)) (h_m_ss : wi L F m_ss (eI cI 55 m_ss_f)) (h_m_ke : wi L F m_ke (eI cI 8 m_ke_f)) (h_m_kd : wi L F m_kd (eI cI 8 m_kd_f)) (h_m_kt : wi L F m_kt (eI cI 8 m_kt_f)) (h5 : 0 ≤ (m_ss_f 5).toInt ∧ (m_ss_f 5).toInt ≤ 12) (ne_m_ss_m_ke : m_ss ≠ m_ke) (ne_m_kd_m_ke : m_kd ≠ m_ke) (ne_m_kt_m_ke : m_kt ≠ m_ke) (ne_m_ss_m_kd : m_ss ≠ m_kd) (ne_m_ke_m_kd : m_ke ≠ m_kd) (ne_m_kt_m_kd : m_kt ≠ m_kd) (ne_m_ss_m_kt : m_ss ≠ m_kt) (ne_m_ke_m_kt : m_ke ≠ m_kt) (ne_m_kd_m_kt : m_kd ≠ m_kt) : wMj l D cI cP cS cL yX6_keep wsX6_keep ({ frames := 2, cells := 0, slots := 0, locals := 46 } : Room) [.ref m, .int d, .int what, .int p0] L F (fun r1 F1 => ∃ y9 : Int32 × (Nat → Int32) × (Nat → Int32) × (Nat → Int32), y9 = (f_X6_keep d what p0 m_ss_f m_ke_f m_kd_f m_kt_f) ∧ r1 = y9.1 ∧ F1 m_ke = (eI cI 8 y9.2.1) ∧ F1 m_kd = (eI cI 8 y9.2.2.1) ∧ F1 m_kt = (eI cI 8 y9.2.2.2) ∧ wk (fun q : Nat => q ≠ m_ke ∧ q ≠ m_kd ∧ q ≠ m_kt ∧ True) F1 F) := by
  refine wM.of (cc := cX6_keep) (maxL := 5) (ret := (some .int)) (by decide) rfl (Nat.le_of_ble_eq_true rfl) ?_
  intro pZ eZ sZ mZ below meth cZ A ls C hl w
  obtain ⟨hx, hb, hr, hml, hts, hown, hlocks, hK, hA, hin⟩ := C
  have hown : sZ.vm.findClass RX6 = some mZ.cls := hown
  have hl : lv_has ls 5 [(0, .ref m), (1, .int d), (2, .int what), (3, .int p0)] := hl
  have m_0 : ((.fieldLink RX6 22 "TwoThirdsModel" "kept" "[I") : Cond) ∈ wsX6_keep := by decide +kernel
  have i_X6 : ∀ w ∈ wsX60, w ∈ wsX6_keep := by decide +kernel
  have m_2 : ((.fieldLink RX6 34 "TwoThirdsModel" "keptDepth" "[I") : Cond) ∈ wsX6_keep := by decide +kernel
  have m_3 : ((.fieldLink RX6 37 "TwoThirdsModel" "keptToss" "[I") : Cond) ∈ wsX6_keep := by decide +kernel
  have hk : wk (fun q : Nat => q ≠ m_ke ∧ q ≠ m_kd ∧ q ≠ m_kt ∧ True) F F := wk.rf
  have hq : f_X6_keep d what p0 m_ss_f m_ke_f m_kd_f m_kt_f = f_X6_keep d what p0 m_ss_f m_ke_f m_kd_f m_kt_f := rfl
  refine lv_iload_n hx hb dX6_keep_0 rfl (lv_at hl 1 rfl) ?_
  refine w_finI (w_runS (rm := ({ frames := 1, cells := 0, slots := 0, locals := 25 } : Room)) (As := [.int d]) (rest := []) (n := 1) hx hb hml hts hown hK w (c_X6_isShelf l D cI cP cS cL L _ d ) gX6_keep_X6_isShelf rfl rfl rfl (by decide +kernel) ⟨(Nat.le_of_ble_eq_true rfl), (Nat.le_of_ble_eq_true rfl)⟩ rfl hl.1 rfl (Nat.le_of_ble_eq_true rfl) dX6_keep_1 ⟨(Nat.le_of_ble_eq_true rfl), (Nat.le_of_ble_eq_true rfl)⟩) w hA (fun H locs w => ?_)
  refine lv_if_eq (tgt := 30) hx hb dX6_keep_4 (by decide) (fun c1 => ?_) (fun c1 => ?_)
  · skip
    have hq := hq.trans (if_pos c1)
    refine lv_iconst (v := (-1)) hx hb dX6_keep_30 (by decide) ?_
    exact w_iret hx hb hr hlocks w ⟨rfl, _, hq.symm, rfl, h_m_ke.2, h_m_kd.2, h_m_kt.2, hk⟩ (Nat.le_refl _) (Nat.le_refl _) dX6_keep_31
  · skip
    have hq := hq.trans (if_neg c1)
    have hd : 0 ≤ d.toInt ∧ d.toInt < 8 := isShelf_ok c1
    refine lv_iload_n hx hb dX6_keep_7 rfl (lv_at hl 2 rfl) ?_
    refine lv_i2l (v := (what.toInt64)) hx hb dX6_keep_8 rfl ?_
    refine lv_lconst (v := 0) hx hb dX6_keep_9 (by decide) ?_
    refine lv_lconst (v := 1) hx hb dX6_keep_10 (by decide) ?_
    refine w_finI (w_runS (rm := ({ frames := 0, cells := 0, slots := 0, locals := 0 } : Room)) (As := [.long (what.toInt64), .long 0, .long 1]) (rest := []) (n := 3) hx hb hml hts hown hK w (c_X6_isIn l D cI cP cS cL L _ (what.toInt64) 0 1 ) gX6_keep_X6_isIn rfl rfl rfl (by decide +kernel) ⟨(Nat.le_of_ble_eq_true rfl), (Nat.le_of_ble_eq_true rfl)⟩ rfl hl.1 rfl (Nat.le_of_ble_eq_true rfl) dX6_keep_11 ⟨(Nat.le_of_ble_eq_true rfl), (Nat.le_of_ble_eq_true rfl)⟩) w hA (fun H locs w => ?_)
    refine lv_if_eq (tgt := 30) hx hb dX6_keep_14 (by decide) (fun c2 => ?_) (fun c2 => ?_)
    · skip
      have hq := hq.trans (if_pos c2)
      refine lv_iconst (v := (-1)) hx hb dX6_keep_30 (by decide) ?_
      exact w_iret hx hb hr hlocks w ⟨rfl, _, hq.symm, rfl, h_m_ke.2, h_m_kd.2, h_m_kt.2, hk⟩ (Nat.le_refl _) (Nat.le_refl _) dX6_keep_31
    · skip
      have hq := hq.trans (if_neg c2)
      refine lv_iload_n hx hb dX6_keep_17 rfl (lv_at hl 2 rfl) ?_
      refine lv_iconst (v := 1) hx hb dX6_keep_18 (by decide) ?_
      refine lv_icmp_ne (tgt := 32) hx hb dX6_keep_19 (by decide) (fun c3 => ?_) (fun c3 => ?_)
      · skip
        have hq := hq.trans (if_neg c3)
        refine lv_aload_n hx hb dX6_keep_32 rfl (lv_at hl 0 rfl) ?_
        refine w_get (v := .ref m_ke) hx hb hts i_X6 hown hK w h_m rfl 4 (by decide) (hts _ m_0) rfl dX6_keep_33 ?_
        refine lv_iload_n hx hb dX6_keep_36 rfl (lv_at hl 1 rfl) ?_
        refine lv_iload_n hx hb dX6_keep_37 rfl (lv_at hl 2 rfl) ?_
        have ho4 := h_m_ke
        refine w_ist (j := (d.toNatClampNeg)) hx hb hK w h_m_ke (w_in8 hd) rfl dX6_keep_38 (fun H locs w h_m_ke => ?_)
        have h_m := h_m.upw h_m_ke (wi.ne h_m ho4 (by intro h; cases h))
        have h_m_ss := h_m_ss.upw h_m_ke ne_m_ss_m_ke
        have h_m_kd := h_m_kd.upw h_m_ke ne_m_kd_m_ke
        have h_m_kt := h_m_kt.upw h_m_ke ne_m_kt_m_ke
        have hk := hk.upw h_m_ke (fun q h => h.1)
        refine lv_iload_n hx hb dX6_keep_39 rfl (lv_at hl 2 rfl) ?_
        refine lv_if_ne (tgt := 45) hx hb dX6_keep_40 (by decide) (fun c5 => ?_) (fun c5 => ?_)
        · skip
          have hq := hq.trans (if_neg c5)
          exact False.elim (keep_dead (by assumption) (by assumption) c5)
        · skip
          have hq := hq.trans (if_pos c5)
          refine lv_iconst (v := 0) hx hb dX6_keep_43 (by decide) ?_
          exact w_iret hx hb hr hlocks w ⟨rfl, _, hq.symm, rfl, h_m_ke.2, h_m_kd.2, h_m_kt.2, hk⟩ (Nat.le_refl _) (Nat.le_refl _) dX6_keep_44
      · skip
        have hq := hq.trans (if_pos c3)
        refine lv_aload_n hx hb dX6_keep_22 rfl (lv_at hl 0 rfl) ?_
        refine lv_iload_n hx hb dX6_keep_23 rfl (lv_at hl 3 rfl) ?_
        refine w_finI (w_runV (rm := ({ frames := 1, cells := 0, slots := 0, locals := 25 } : Room)) (As := [.int p0]) (rest := []) (n := 1) hx hb hml hts hown hK w (c_X6_isPerson l D cI cP cS cL L _ m p0 m_ss m_im m_re m_sa m_ke m_so m_si m_el m_kd m_kt m_hi m_th m_po m_ba m_en m_tl m_nu m_ca m_ha m_hs m_co m_ss_f h_m h_m_ss) gX6_keep_X6_isPerson rfl rfl rfl (by decide +kernel) ⟨(Nat.le_of_ble_eq_true rfl), (Nat.le_of_ble_eq_true rfl)⟩ h_m rfl rfl hl.1 rfl (Nat.le_of_ble_eq_true rfl) dX6_keep_24 ⟨(Nat.le_of_ble_eq_true rfl), (Nat.le_of_ble_eq_true rfl)⟩) w hA (fun H locs w => ?_)
        refine lv_if_ne (tgt := 32) hx hb dX6_keep_27 (by decide) (fun c6 => ?_) (fun c6 => ?_)
        · skip
          have hq := hq.trans (if_neg c6)
          have hp0 : 0 ≤ p0.toInt ∧ p0.toInt < 12 := isPerson_12 h5 c6
          refine lv_aload_n hx hb dX6_keep_32 rfl (lv_at hl 0 rfl) ?_
          refine w_get (v := .ref m_ke) hx hb hts i_X6 hown hK w h_m rfl 4 (by decide) (hts _ m_0) rfl dX6_keep_33 ?_
          refine lv_iload_n hx hb dX6_keep_36 rfl (lv_at hl 1 rfl) ?_
          refine lv_iload_n hx hb dX6_keep_37 rfl (lv_at hl 2 rfl) ?_
          have ho7 := h_m_ke
          refine w_ist (j := (d.toNatClampNeg)) hx hb hK w h_m_ke (w_in8 hd) rfl dX6_keep_38 (fun H locs w h_m_ke => ?_)
          have h_m := h_m.upw h_m_ke (wi.ne h_m ho7 (by intro h; cases h))
          have h_m_ss := h_m_ss.upw h_m_ke ne_m_ss_m_ke
          have h_m_kd := h_m_kd.upw h_m_ke ne_m_kd_m_ke
          have h_m_kt := h_m_kt.upw h_m_ke ne_m_kt_m_ke
          have hk := hk.upw h_m_ke (fun q h => h.1)
          refine lv_iload_n hx hb dX6_keep_39 rfl (lv_at hl 2 rfl) ?_
          refine lv_if_ne (tgt := 45) hx hb dX6_keep_40 (by decide) (fun c8 => ?_) (fun c8 => ?_)
          · skip
            have hq := hq.trans (if_neg c8)
            refine lv_aload_n hx hb dX6_keep_45 rfl (lv_at hl 0 rfl) ?_
            refine lv_iload_n hx hb dX6_keep_46 rfl (lv_at hl 3 rfl) ?_
            refine lv_iconst (v := 0) hx hb dX6_keep_47 (by decide) ?_
            refine w_finI (w_runV (rm := ({ frames := 0, cells := 0, slots := 0, locals := 0 } : Room)) (As := [.int p0, .int 0]) (rest := []) (n := 2) hx hb hml hts hown hK w (c_X6_get l D cI cP cS cL L _ m p0 0 m_ss m_im m_re m_sa m_ke m_so m_si m_el m_kd m_kt m_hi m_th m_po m_ba m_en m_tl m_nu m_ca m_ha m_hs m_co m_ss_f h_m h_m_ss (gix2 hp0 (by decide))) gX6_keep_X6_get rfl rfl rfl (by decide +kernel) ⟨(Nat.le_of_ble_eq_true rfl), (Nat.le_of_ble_eq_true rfl)⟩ h_m rfl rfl hl.1 rfl (Nat.le_of_ble_eq_true rfl) dX6_keep_48 ⟨(Nat.le_of_ble_eq_true rfl), (Nat.le_of_ble_eq_true rfl)⟩) w hA (fun H locs w => ?_)
            refine lv_istore (lv' := [(4, .int (f_X6_get p0 0 m_ss_f)), (0, .ref m), (1, .int d), (2, .int what), (3, .int p0)]) hx hb dX6_keep_51 hl (by decide) rfl (fun ls hl => ?_)
            refine lv_aload_n hx hb dX6_keep_53 rfl (lv_at hl 1 rfl) ?_
            refine w_get (v := .ref m_kd) hx hb hts i_X6 hown hK w h_m rfl 8 (by decide) (hts _ m_2) rfl dX6_keep_54 ?_
            refine lv_iload_n hx hb dX6_keep_57 rfl (lv_at hl 2 rfl) ?_
            refine lv_aload_n hx hb dX6_keep_58 rfl (lv_at hl 1 rfl) ?_
            refine lv_iload_n hx hb dX6_keep_59 rfl (lv_at hl 4 rfl) ?_
            refine w_finI (w_runV (rm := ({ frames := 1, cells := 0, slots := 0, locals := 22 } : Room)) (As := [.int p0]) (rest := [.int d, .ref m_kd]) (n := 1) hx hb hml hts hown hK w (c_X6_depthOf l D cI cP cS cL L _ m p0 m_ss m_im m_re m_sa m_ke m_so m_si m_el m_kd m_kt m_hi m_th m_po m_ba m_en m_tl m_nu m_ca m_ha m_hs m_co m_ss_f h_m h_m_ss hp0) gX6_keep_X6_depthOf rfl rfl rfl (by decide +kernel) ⟨(Nat.le_of_ble_eq_true rfl), (Nat.le_of_ble_eq_true rfl)⟩ h_m rfl rfl hl.1 rfl (Nat.le_of_ble_eq_true rfl) dX6_keep_60 ⟨(Nat.le_of_ble_eq_true rfl), (Nat.le_of_ble_eq_true rfl)⟩) w hA (fun H locs w => ?_)
            have ho9 := h_m_kd
            refine w_ist (j := (d.toNatClampNeg)) hx hb hK w h_m_kd (w_in8 hd) rfl dX6_keep_63 (fun H locs w h_m_kd => ?_)
            have h_m := h_m.upw h_m_kd (wi.ne h_m ho9 (by intro h; cases h))
            have h_m_ss := h_m_ss.upw h_m_kd ne_m_ss_m_kd
            have h_m_ke := h_m_ke.upw h_m_kd ne_m_ke_m_kd
            have h_m_kt := h_m_kt.upw h_m_kd ne_m_kt_m_kd
            have hk := hk.upw h_m_kd (fun q h => h.2.1)
            refine lv_aload_n hx hb dX6_keep_64 rfl (lv_at hl 1 rfl) ?_
            refine w_get (v := .ref m_kt) hx hb hts i_X6 hown hK w h_m rfl 9 (by decide) (hts _ m_3) rfl dX6_keep_65 ?_
            refine lv_iload_n hx hb dX6_keep_68 rfl (lv_at hl 2 rfl) ?_
            refine lv_iload hx hb dX6_keep_69 (lv_at hl 0 rfl) ?_
            refine lv_iconst (v := 4) hx hb dX6_keep_71 (by decide) ?_
            refine lv_icmp_eq (tgt := 90) hx hb dX6_keep_72 (by decide) (fun c10 => ?_) (fun c10 => ?_)
            · skip
              have hq := hq.trans (if_pos c10)
              refine lv_bipush (v := (-15)) hx hb dX6_keep_90 (by decide) ?_
              refine lv_goto (tgt := 128) hx hb dX6_keep_92 (by decide) ?_
              have ho11 := h_m_kt
              refine w_ist (j := (d.toNatClampNeg)) hx hb hK w h_m_kt (w_in8 hd) rfl dX6_keep_128 (fun H locs w h_m_kt => ?_)
              have h_m := h_m.upw h_m_kt (wi.ne h_m ho11 (by intro h; cases h))
              have h_m_ss := h_m_ss.upw h_m_kt ne_m_ss_m_kt
              have h_m_ke := h_m_ke.upw h_m_kt ne_m_ke_m_kt
              have h_m_kd := h_m_kd.upw h_m_kt ne_m_kd_m_kt
              have hk := hk.upw h_m_kt (fun q h => h.2.2.1)
              refine lv_iconst (v := 0) hx hb dX6_keep_129 (by decide) ?_
              exact w_iret hx hb hr hlocks w ⟨rfl, _, hq.symm, rfl, h_m_ke.2, h_m_kd.2, h_m_kt.2, hk⟩ (Nat.le_refl _) (Nat.le_refl _) dX6_keep_130
            · skip
              have hq := hq.trans (if_neg c10)
              refine lv_iload hx hb dX6_keep_75 (lv_at hl 0 rfl) ?_
              refine lv_iconst (v := 5) hx hb dX6_keep_77 (by decide) ?_
              refine lv_icmp_eq (tgt := 90) hx hb dX6_keep_78 (by decide) (fun c12 => ?_) (fun c12 => ?_)
              · skip
                have hq := hq.trans (if_pos c12)
                refine lv_bipush (v := (-15)) hx hb dX6_keep_90 (by decide) ?_
                refine lv_goto (tgt := 128) hx hb dX6_keep_92 (by decide) ?_
                have ho13 := h_m_kt
                refine w_ist (j := (d.toNatClampNeg)) hx hb hK w h_m_kt (w_in8 hd) rfl dX6_keep_128 (fun H locs w h_m_kt => ?_)
                have h_m := h_m.upw h_m_kt (wi.ne h_m ho13 (by intro h; cases h))
                have h_m_ss := h_m_ss.upw h_m_kt ne_m_ss_m_kt
                have h_m_ke := h_m_ke.upw h_m_kt ne_m_ke_m_kt
                have h_m_kd := h_m_kd.upw h_m_kt ne_m_kd_m_kt
                have hk := hk.upw h_m_kt (fun q h => h.2.2.1)
                refine lv_iconst (v := 0) hx hb dX6_keep_129 (by decide) ?_
                exact w_iret hx hb hr hlocks w ⟨rfl, _, hq.symm, rfl, h_m_ke.2, h_m_kd.2, h_m_kt.2, hk⟩ (Nat.le_refl _) (Nat.le_refl _) dX6_keep_130
              · skip
                have hq := hq.trans (if_neg c12)
                refine lv_aload_n hx hb dX6_keep_81 rfl (lv_at hl 1 rfl) ?_
                refine lv_iload_n hx hb dX6_keep_82 rfl (lv_at hl 4 rfl) ?_
                refine lv_iconst (v := 1) hx hb dX6_keep_83 (by decide) ?_
                refine w_finI (w_runV (rm := ({ frames := 0, cells := 0, slots := 0, locals := 0 } : Room)) (As := [.int p0, .int 1]) (rest := [.int d, .ref m_kt]) (n := 2) hx hb hml hts hown hK w (c_X6_get l D cI cP cS cL L _ m p0 1 m_ss m_im m_re m_sa m_ke m_so m_si m_el m_kd m_kt m_hi m_th m_po m_ba m_en m_tl m_nu m_ca m_ha m_hs m_co m_ss_f h_m h_m_ss (gix2 hp0 (by decide))) gX6_keep_X6_get rfl rfl rfl (by decide +kernel) ⟨(Nat.le_of_ble_eq_true rfl), (Nat.le_of_ble_eq_true rfl)⟩ h_m rfl rfl hl.1 rfl (Nat.le_of_ble_eq_true rfl) dX6_keep_84 ⟨(Nat.le_of_ble_eq_true rfl), (Nat.le_of_ble_eq_true rfl)⟩) w hA (fun H locs w => ?_)
                refine lv_if_ne (tgt := 95) hx hb dX6_keep_87 (by decide) (fun c14 => ?_) (fun c14 => ?_)
                · skip
                  have hq := hq.trans (if_neg c14)
                  refine lv_iload hx hb dX6_keep_95 (lv_at hl 0 rfl) ?_
                  refine lv_iconst (v := 3) hx hb dX6_keep_97 (by decide) ?_
                  refine lv_icmp_ne (tgt := 108) hx hb dX6_keep_98 (by decide) (fun c15 => ?_) (fun c15 => ?_)
                  · skip
                    have hq := hq.trans (if_neg c15)
                    refine lv_iload hx hb dX6_keep_108 (lv_at hl 0 rfl) ?_
                    refine lv_bipush (v := 6) hx hb dX6_keep_110 (by decide) ?_
                    refine lv_icmp_ne (tgt := 127) hx hb dX6_keep_112 (by decide) (fun c16 => ?_) (fun c16 => ?_)
                    · skip
                      have hq := hq.trans (if_neg c16)
                      refine lv_iload_n hx hb dX6_keep_127 rfl (lv_at hl 4 rfl) ?_
                      have ho17 := h_m_kt
                      refine w_ist (j := (d.toNatClampNeg)) hx hb hK w h_m_kt (w_in8 hd) rfl dX6_keep_128 (fun H locs w h_m_kt => ?_)
                      have h_m := h_m.upw h_m_kt (wi.ne h_m ho17 (by intro h; cases h))
                      have h_m_ss := h_m_ss.upw h_m_kt ne_m_ss_m_kt
                      have h_m_ke := h_m_ke.upw h_m_kt ne_m_ke_m_kt
                      have h_m_kd := h_m_kd.upw h_m_kt ne_m_kd_m_kt
                      have hk := hk.upw h_m_kt (fun q h => h.2.2.1)
                      refine lv_iconst (v := 0) hx hb dX6_keep_129 (by decide) ?_
                      exact w_iret hx hb hr hlocks w ⟨rfl, _, hq.symm, rfl, h_m_ke.2, h_m_kd.2, h_m_kt.2, hk⟩ (Nat.le_refl _) (Nat.le_refl _) dX6_keep_130
                    · skip
                      have hq := hq.trans (if_pos c16)
                      refine lv_sipush (v := 200) hx hb dX6_keep_115 (by decide) ?_
                      refine lv_aload_n hx hb dX6_keep_118 rfl (lv_at hl 1 rfl) ?_
                      refine lv_iload_n hx hb dX6_keep_119 rfl (lv_at hl 4 rfl) ?_
                      refine w_finI (w_runV (rm := ({ frames := 1, cells := 0, slots := 0, locals := 22 } : Room)) (As := [.int p0]) (rest := [.int 200, .int d, .ref m_kt]) (n := 1) hx hb hml hts hown hK w (c_X6_depthOf l D cI cP cS cL L _ m p0 m_ss m_im m_re m_sa m_ke m_so m_si m_el m_kd m_kt m_hi m_th m_po m_ba m_en m_tl m_nu m_ca m_ha m_hs m_co m_ss_f h_m h_m_ss hp0) gX6_keep_X6_depthOf rfl rfl rfl (by decide +kernel) ⟨(Nat.le_of_ble_eq_true rfl), (Nat.le_of_ble_eq_true rfl)⟩ h_m rfl rfl hl.1 rfl (Nat.le_of_ble_eq_true rfl) dX6_keep_120 ⟨(Nat.le_of_ble_eq_true rfl), (Nat.le_of_ble_eq_true rfl)⟩) w hA (fun H locs w => ?_)
                      refine lv_iadd hx hb dX6_keep_123 ?_
                      refine lv_goto (tgt := 128) hx hb dX6_keep_124 (by decide) ?_
                      have ho18 := h_m_kt
                      refine w_ist (j := (d.toNatClampNeg)) hx hb hK w h_m_kt (w_in8 hd) rfl dX6_keep_128 (fun H locs w h_m_kt => ?_)
                      have h_m := h_m.upw h_m_kt (wi.ne h_m ho18 (by intro h; cases h))
                      have h_m_ss := h_m_ss.upw h_m_kt ne_m_ss_m_kt
                      have h_m_ke := h_m_ke.upw h_m_kt ne_m_ke_m_kt
                      have h_m_kd := h_m_kd.upw h_m_kt ne_m_kd_m_kt
                      have hk := hk.upw h_m_kt (fun q h => h.2.2.1)
                      refine lv_iconst (v := 0) hx hb dX6_keep_129 (by decide) ?_
                      exact w_iret hx hb hr hlocks w ⟨rfl, _, hq.symm, rfl, h_m_ke.2, h_m_kd.2, h_m_kt.2, hk⟩ (Nat.le_refl _) (Nat.le_refl _) dX6_keep_130
                  · skip
                    have hq := hq.trans (if_pos c15)
                    refine lv_bipush (v := 100) hx hb dX6_keep_101 (by decide) ?_
                    refine lv_iload_n hx hb dX6_keep_103 rfl (lv_at hl 4 rfl) ?_
                    refine lv_iadd hx hb dX6_keep_104 ?_
                    refine lv_goto (tgt := 128) hx hb dX6_keep_105 (by decide) ?_
                    have ho19 := h_m_kt
                    refine w_ist (j := (d.toNatClampNeg)) hx hb hK w h_m_kt (w_in8 hd) rfl dX6_keep_128 (fun H locs w h_m_kt => ?_)
                    have h_m := h_m.upw h_m_kt (wi.ne h_m ho19 (by intro h; cases h))
                    have h_m_ss := h_m_ss.upw h_m_kt ne_m_ss_m_kt
                    have h_m_ke := h_m_ke.upw h_m_kt ne_m_ke_m_kt
                    have h_m_kd := h_m_kd.upw h_m_kt ne_m_kd_m_kt
                    have hk := hk.upw h_m_kt (fun q h => h.2.2.1)
                    refine lv_iconst (v := 0) hx hb dX6_keep_129 (by decide) ?_
                    exact w_iret hx hb hr hlocks w ⟨rfl, _, hq.symm, rfl, h_m_ke.2, h_m_kd.2, h_m_kt.2, hk⟩ (Nat.le_refl _) (Nat.le_refl _) dX6_keep_130
                · skip
                  have hq := hq.trans (if_pos c14)
                  refine lv_bipush (v := (-15)) hx hb dX6_keep_90 (by decide) ?_
                  refine lv_goto (tgt := 128) hx hb dX6_keep_92 (by decide) ?_
                  have ho20 := h_m_kt
                  refine w_ist (j := (d.toNatClampNeg)) hx hb hK w h_m_kt (w_in8 hd) rfl dX6_keep_128 (fun H locs w h_m_kt => ?_)
                  have h_m := h_m.upw h_m_kt (wi.ne h_m ho20 (by intro h; cases h))
                  have h_m_ss := h_m_ss.upw h_m_kt ne_m_ss_m_kt
                  have h_m_ke := h_m_ke.upw h_m_kt ne_m_ke_m_kt
                  have h_m_kd := h_m_kd.upw h_m_kt ne_m_kd_m_kt
                  have hk := hk.upw h_m_kt (fun q h => h.2.2.1)
                  refine lv_iconst (v := 0) hx hb dX6_keep_129 (by decide) ?_
                  exact w_iret hx hb hr hlocks w ⟨rfl, _, hq.symm, rfl, h_m_ke.2, h_m_kd.2, h_m_kt.2, hk⟩ (Nat.le_refl _) (Nat.le_refl _) dX6_keep_130
          · skip
            have hq := hq.trans (if_pos c8)
            refine lv_iconst (v := 0) hx hb dX6_keep_43 (by decide) ?_
            exact w_iret hx hb hr hlocks w ⟨rfl, _, hq.symm, rfl, h_m_ke.2, h_m_kd.2, h_m_kt.2, hk⟩ (Nat.le_refl _) (Nat.le_refl _) dX6_keep_44
        · skip
          have hq := hq.trans (if_pos c6)
          refine lv_iconst (v := (-1)) hx hb dX6_keep_30 (by decide) ?_
          exact w_iret hx hb hr hlocks w ⟨rfl, _, hq.symm, rfl, h_m_ke.2, h_m_kd.2, h_m_kt.2, hk⟩ (Nat.le_refl _) (Nat.le_refl _) dX6_keep_31
def f_X6_row_L58 (d : Int32) (of0 : Int32) (n0 : Int32) (m_ke_f : Nat → Int32) (m_so_f : Nat → Int32) (m_si_f : Nat → Int32) : Nat → Nat → (Nat → Int32) → Int32 × (Nat → Int32) × (Nat → Int32) × (Nat → Int32) × (Nat → Int32)
  | 0, _, _ => (0, (fun _ => 0), (fun _ => 0), (fun _ => 0), (fun _ => 0))
  | n + 1, k, u_m_el_f => if (100 : Int32) ≤ (nI k) then (0, (upd m_ke_f (d.toNatClampNeg) 2), (upd m_so_f (d.toNatClampNeg) of0), (upd m_si_f (d.toNatClampNeg) n0), u_m_el_f) else (f_X6_row_L58 d of0 n0 m_ke_f m_so_f m_si_f n ((k + 1)) (upd u_m_el_f (100 * d.toNatClampNeg + k) 0))
theorem f_X6_row_L58_s (d : Int32) (of0 : Int32) (n0 : Int32) (m_ke_f : Nat → Int32) (m_so_f : Nat → Int32) (m_si_f : Nat → Int32) (n k : Nat) (u_m_el_f : Nat → Int32) : f_X6_row_L58 d of0 n0 m_ke_f m_so_f m_si_f (n + 1) k u_m_el_f = (if (100 : Int32) ≤ (nI k) then (0, (upd m_ke_f (d.toNatClampNeg) 2), (upd m_so_f (d.toNatClampNeg) of0), (upd m_si_f (d.toNatClampNeg) n0), u_m_el_f) else (f_X6_row_L58 d of0 n0 m_ke_f m_so_f m_si_f n ((k + 1)) (upd u_m_el_f (100 * d.toNatClampNeg + k) 0))) := rfl
def f_X6_row (d : Int32) (of0 : Int32) (n0 : Int32) (m_ke_f : Nat → Int32) (m_so_f : Nat → Int32) (m_si_f : Nat → Int32) (m_el_f : Nat → Int32) : Int32 × (Nat → Int32) × (Nat → Int32) × (Nat → Int32) × (Nat → Int32) := if (f_X6_isShelf d) = (0 : Int32) then ((-1), m_ke_f, m_so_f, m_si_f, m_el_f) else (if (f_X6_isIn (of0.toInt64) 0 2) = (0 : Int32) then ((-1), m_ke_f, m_so_f, m_si_f, m_el_f) else (if n0 ≤ (100 : Int32) then (if (0 : Int32) ≤ n0 then (f_X6_row_L58 d of0 n0 m_ke_f m_so_f m_si_f (100 + 1) 0 m_el_f) else ((-14), m_ke_f, m_so_f, m_si_f, m_el_f)) else ((-1), m_ke_f, m_so_f, m_si_f, m_el_f)))
set_option maxHeartbeats 400000 in
set_option maxRecDepth 100000 in
theorem c_X6_row (l : Launch) (D : va_G) (cI cP cS cL : ClassId) (L : List Nat) (F : Nat → va_E) (m : Nat) (d : Int32) (of0 : Int32) (n0 : Int32) (m_ss : Nat) (m_im : Nat) (m_re : Nat) (m_sa : Nat) (m_ke : Nat) (m_so : Nat) (m_si : Nat) (m_el : Nat) (m_kd : Nat) (m_kt : Nat) (m_hi : Int32) (m_th : Int32) (m_po : Int32) (m_ba : Int32) (m_en : Int32) (m_tl : Int32) (m_nu : Nat) (m_ca : Nat) (m_ha : Nat) (m_hs : Int32) (m_co : Nat) (m_ke_f : Nat → Int32) (m_so_f : Nat → Int32) (m_si_f : Nat → Int32) (m_el_f : Nat → Int32) (h_m : wi L F m (eM m_ss m_im m_re m_sa m_ke m_so m_si m_el m_kd m_kt m_hi m_th m_po m_ba m_en m_tl m_nu m_ca m_ha m_hs m_co)) (h_m_ke : wi L F m_ke (eI cI 8 m_ke_f)) (h_m_so : wi L F m_so (eI cI 8 m_so_f)) (h_m_si : wi L F m_si (eI cI 8 m_si_f)) (h_m_el : wi L F m_el (eI cI 800 m_el_f)) (ne_m_so_m_ke : m_so ≠ m_ke) (ne_m_si_m_ke : m_si ≠ m_ke) (ne_m_el_m_ke : m_el ≠ m_ke) (ne_m_ke_m_so : m_ke ≠ m_so) (ne_m_si_m_so : m_si ≠ m_so) (ne_m_el_m_so : m_el ≠ m_so) (ne_m_ke_m_si : m_ke ≠ m_si) (ne_m_so_m_si : m_so ≠ m_si) (ne_m_el_m_si : m_el ≠ m_si) (ne_m_ke_m_el : m_ke ≠ m_el) (ne_m_so_m_el : m_so ≠ m_el) (ne_m_si_m_el : m_si ≠ m_el) : wMj l D cI cP cS cL yX6_row wsX6_row ({ frames := 2, cells := 0, slots := 0, locals := 45 } : Room) [.ref m, .int d, .int of0, .int n0] L F (fun r1 F1 => ∃ y9 : Int32 × (Nat → Int32) × (Nat → Int32) × (Nat → Int32) × (Nat → Int32), y9 = (f_X6_row d of0 n0 m_ke_f m_so_f m_si_f m_el_f) ∧ r1 = y9.1 ∧ F1 m_ke = (eI cI 8 y9.2.1) ∧ F1 m_so = (eI cI 8 y9.2.2.1) ∧ F1 m_si = (eI cI 8 y9.2.2.2.1) ∧ F1 m_el = (eI cI 800 y9.2.2.2.2) ∧ wk (fun q : Nat => q ≠ m_ke ∧ q ≠ m_so ∧ q ≠ m_si ∧ q ≠ m_el ∧ True) F1 F) := by
  refine wM.of (cc := cX6_row) (maxL := 5) (ret := (some .int)) (by decide) rfl (Nat.le_of_ble_eq_true rfl) ?_
  intro pZ eZ sZ mZ below meth cZ A ls C hl w
  obtain ⟨hx, hb, hr, hml, hts, hown, hlocks, hK, hA, hin⟩ := C
  have hown : sZ.vm.findClass RX6 = some mZ.cls := hown
  have hl : lv_has ls 5 [(0, .ref m), (1, .int d), (2, .int of0), (3, .int n0)] := hl
  have m_0 : ((.constantLong RX6 190 2) : Cond) ∈ wsX6_row := by decide +kernel
  have m_1 : ((.fieldLink RX6 22 "TwoThirdsModel" "kept" "[I") : Cond) ∈ wsX6_row := by decide +kernel
  have i_X6 : ∀ w ∈ wsX60, w ∈ wsX6_row := by decide +kernel
  have m_3 : ((.fieldLink RX6 25 "TwoThirdsModel" "sort" "[I") : Cond) ∈ wsX6_row := by decide +kernel
  have m_4 : ((.fieldLink RX6 28 "TwoThirdsModel" "size" "[I") : Cond) ∈ wsX6_row := by decide +kernel
  have m_5 : ((.fieldLink RX6 31 "TwoThirdsModel" "element" "[I") : Cond) ∈ wsX6_row := by decide +kernel
  have hk : wk (fun q : Nat => q ≠ m_ke ∧ q ≠ m_so ∧ q ≠ m_si ∧ q ≠ m_el ∧ True) F F := wk.rf
  have hq : f_X6_row d of0 n0 m_ke_f m_so_f m_si_f m_el_f = f_X6_row d of0 n0 m_ke_f m_so_f m_si_f m_el_f := rfl
  refine lv_iload_n hx hb dX6_row_0 rfl (lv_at hl 1 rfl) ?_
  refine w_finI (w_runS (rm := ({ frames := 1, cells := 0, slots := 0, locals := 25 } : Room)) (As := [.int d]) (rest := []) (n := 1) hx hb hml hts hown hK w (c_X6_isShelf l D cI cP cS cL L _ d ) gX6_row_X6_isShelf rfl rfl rfl (by decide +kernel) ⟨(Nat.le_of_ble_eq_true rfl), (Nat.le_of_ble_eq_true rfl)⟩ rfl hl.1 rfl (Nat.le_of_ble_eq_true rfl) dX6_row_1 ⟨(Nat.le_of_ble_eq_true rfl), (Nat.le_of_ble_eq_true rfl)⟩) w hA (fun H locs w => ?_)
  refine lv_if_eq (tgt := 25) hx hb dX6_row_4 (by decide) (fun c1 => ?_) (fun c1 => ?_)
  · skip
    have hq := hq.trans (if_pos c1)
    refine lv_iconst (v := (-1)) hx hb dX6_row_25 (by decide) ?_
    exact w_iret hx hb hr hlocks w ⟨rfl, _, hq.symm, rfl, h_m_ke.2, h_m_so.2, h_m_si.2, h_m_el.2, hk⟩ (Nat.le_refl _) (Nat.le_refl _) dX6_row_26
  · skip
    have hq := hq.trans (if_neg c1)
    have hd : 0 ≤ d.toInt ∧ d.toInt < 8 := isShelf_ok c1
    refine lv_iload_n hx hb dX6_row_7 rfl (lv_at hl 2 rfl) ?_
    refine lv_i2l (v := (of0.toInt64)) hx hb dX6_row_8 rfl ?_
    refine lv_lconst (v := 0) hx hb dX6_row_9 (by decide) ?_
    refine lv_ldc2 (v := 2) hx hb hown (hts _ m_0) dX6_row_10 ?_
    refine w_finI (w_runS (rm := ({ frames := 0, cells := 0, slots := 0, locals := 0 } : Room)) (As := [.long (of0.toInt64), .long 0, .long 2]) (rest := []) (n := 3) hx hb hml hts hown hK w (c_X6_isIn l D cI cP cS cL L _ (of0.toInt64) 0 2 ) gX6_row_X6_isIn rfl rfl rfl (by decide +kernel) ⟨(Nat.le_of_ble_eq_true rfl), (Nat.le_of_ble_eq_true rfl)⟩ rfl hl.1 rfl (Nat.le_of_ble_eq_true rfl) dX6_row_13 ⟨(Nat.le_of_ble_eq_true rfl), (Nat.le_of_ble_eq_true rfl)⟩) w hA (fun H locs w => ?_)
    refine lv_if_eq (tgt := 25) hx hb dX6_row_16 (by decide) (fun c2 => ?_) (fun c2 => ?_)
    · skip
      have hq := hq.trans (if_pos c2)
      refine lv_iconst (v := (-1)) hx hb dX6_row_25 (by decide) ?_
      exact w_iret hx hb hr hlocks w ⟨rfl, _, hq.symm, rfl, h_m_ke.2, h_m_so.2, h_m_si.2, h_m_el.2, hk⟩ (Nat.le_refl _) (Nat.le_refl _) dX6_row_26
    · skip
      have hq := hq.trans (if_neg c2)
      refine lv_iload_n hx hb dX6_row_19 rfl (lv_at hl 3 rfl) ?_
      refine lv_bipush (v := 100) hx hb dX6_row_20 (by decide) ?_
      refine lv_icmp_le (tgt := 27) hx hb dX6_row_22 (by decide) (fun c3 => ?_) (fun c3 => ?_)
      · skip
        have hq := hq.trans (if_pos c3)
        refine lv_iload_n hx hb dX6_row_27 rfl (lv_at hl 3 rfl) ?_
        refine lv_if_ge (tgt := 34) hx hb dX6_row_28 (by decide) (fun c4 => ?_) (fun c4 => ?_)
        · skip
          have hq := hq.trans (if_pos c4)
          refine lv_aload_n hx hb dX6_row_34 rfl (lv_at hl 0 rfl) ?_
          refine w_get (v := .ref m_ke) hx hb hts i_X6 hown hK w h_m rfl 4 (by decide) (hts _ m_1) rfl dX6_row_35 ?_
          refine lv_iload_n hx hb dX6_row_38 rfl (lv_at hl 1 rfl) ?_
          refine lv_iconst (v := 2) hx hb dX6_row_39 (by decide) ?_
          have ho5 := h_m_ke
          refine w_ist (j := (d.toNatClampNeg)) hx hb hK w h_m_ke (w_in8 hd) rfl dX6_row_40 (fun H locs w h_m_ke => ?_)
          have h_m := h_m.upw h_m_ke (wi.ne h_m ho5 (by intro h; cases h))
          have h_m_so := h_m_so.upw h_m_ke ne_m_so_m_ke
          have h_m_si := h_m_si.upw h_m_ke ne_m_si_m_ke
          have h_m_el := h_m_el.upw h_m_ke ne_m_el_m_ke
          have hk := hk.upw h_m_ke (fun q h => h.1)
          refine lv_aload_n hx hb dX6_row_41 rfl (lv_at hl 0 rfl) ?_
          refine w_get (v := .ref m_so) hx hb hts i_X6 hown hK w h_m rfl 5 (by decide) (hts _ m_3) rfl dX6_row_42 ?_
          refine lv_iload_n hx hb dX6_row_45 rfl (lv_at hl 1 rfl) ?_
          refine lv_iload_n hx hb dX6_row_46 rfl (lv_at hl 2 rfl) ?_
          have ho6 := h_m_so
          refine w_ist (j := (d.toNatClampNeg)) hx hb hK w h_m_so (w_in8 hd) rfl dX6_row_47 (fun H locs w h_m_so => ?_)
          have h_m := h_m.upw h_m_so (wi.ne h_m ho6 (by intro h; cases h))
          have h_m_ke := h_m_ke.upw h_m_so ne_m_ke_m_so
          have h_m_si := h_m_si.upw h_m_so ne_m_si_m_so
          have h_m_el := h_m_el.upw h_m_so ne_m_el_m_so
          have hk := hk.upw h_m_so (fun q h => h.2.1)
          refine lv_aload_n hx hb dX6_row_48 rfl (lv_at hl 0 rfl) ?_
          refine w_get (v := .ref m_si) hx hb hts i_X6 hown hK w h_m rfl 6 (by decide) (hts _ m_4) rfl dX6_row_49 ?_
          refine lv_iload_n hx hb dX6_row_52 rfl (lv_at hl 1 rfl) ?_
          refine lv_iload_n hx hb dX6_row_53 rfl (lv_at hl 3 rfl) ?_
          have ho7 := h_m_si
          refine w_ist (j := (d.toNatClampNeg)) hx hb hK w h_m_si (w_in8 hd) rfl dX6_row_54 (fun H locs w h_m_si => ?_)
          have h_m := h_m.upw h_m_si (wi.ne h_m ho7 (by intro h; cases h))
          have h_m_ke := h_m_ke.upw h_m_si ne_m_ke_m_si
          have h_m_so := h_m_so.upw h_m_si ne_m_so_m_si
          have h_m_el := h_m_el.upw h_m_si ne_m_el_m_si
          have hk := hk.upw h_m_si (fun q h => h.2.2.1)
          refine lv_iconst (v := 0) hx hb dX6_row_55 (by decide) ?_
          refine lv_istore (lv' := [(4, .int 0), (0, .ref m), (1, .int d), (2, .int of0), (3, .int n0)]) hx hb dX6_row_56 hl (by decide) rfl (fun ls hl => ?_)
          have hL58 : ∀ (n k : Nat) (u_m_el_f : Nat → Int32) (F1 : Nat → va_E) (H : Heap) (locs : List Loc) (ls : Array Slot), k ≤ 100 → 100 - k < n → f_X6_row d of0 n0 m_ke_f m_so_f m_si_f m_el_f = f_X6_row_L58 d of0 n0 m_ke_f m_so_f m_si_f n k u_m_el_f → lv_has ls 5 [(0, .ref m), (1, .int d), (2, .int of0), (3, .int n0), (4, .int (nI k))] → ww D A sZ.heap L F1 H locs → (wi L F1 m (eM m_ss m_im m_re m_sa m_ke m_so m_si m_el m_kd m_kt m_hi m_th m_po m_ba m_en m_tl m_nu m_ca m_ha m_hs m_co)) → (wi L F1 m_ke (eI cI 8 (upd m_ke_f (d.toNatClampNeg) 2))) → (wi L F1 m_so (eI cI 8 (upd m_so_f (d.toNatClampNeg) of0))) → (wi L F1 m_si (eI cI 8 (upd m_si_f (d.toNatClampNeg) n0))) → (wi L F1 m_el (eI cI 800 u_m_el_f)) → wk (fun q : Nat => q ≠ m_ke ∧ q ≠ m_so ∧ q ≠ m_si ∧ q ≠ m_el ∧ True) F1 F → W pZ l eZ ({ frames := 2, cells := 0, slots := 0, locals := 45 } : Room) sZ mZ [.ref m, .int d, .int of0, .int n0].toArray below meth cZ H locs 0 0 (MQ below (wQi D A (fun r1 L1 F1 => L1 = L ∧ ∃ y9 : Int32 × (Nat → Int32) × (Nat → Int32) × (Nat → Int32) × (Nat → Int32), y9 = (f_X6_row d of0 n0 m_ke_f m_so_f m_si_f m_el_f) ∧ r1 = y9.1 ∧ F1 m_ke = (eI cI 8 y9.2.1) ∧ F1 m_so = (eI cI 8 y9.2.2.1) ∧ F1 m_si = (eI cI 8 y9.2.2.2.1) ∧ F1 m_el = (eI cI 800 y9.2.2.2.2) ∧ wk (fun q : Nat => q ≠ m_ke ∧ q ≠ m_so ∧ q ≠ m_si ∧ q ≠ m_el ∧ True) F1 F)) [.ref m, .int d, .int of0, .int n0].toArray sZ 0 0 A) (F0 mZ 58 ls []) := by
            intro n; induction n with
            | zero => intro k u_m_el_f F1 H locs ls hkT hmeas; exact absurd hmeas (Nat.not_lt_zero _)
            | succ n ih =>
              intro k u_m_el_f F1 H locs ls hkT hmeas hq hl w h_m h_m_ke h_m_so h_m_si h_m_el hk
              have hk31 : k < 2147483648 := by omega
              have hq := hq.trans (f_X6_row_L58_s d of0 n0 m_ke_f m_so_f m_si_f n k u_m_el_f)
              refine lv_iload hx hb dX6_row_58 (lv_at hl 4 rfl) ?_
              refine lv_bipush (v := 100) hx hb dX6_row_60 (by decide) ?_
              refine lv_icmp_ge (tgt := 84) hx hb dX6_row_62 (by decide) (fun c8 => ?_) (fun c8 => ?_)
              · skip
                have hq := hq.trans (if_pos c8)
                refine lv_iconst (v := 0) hx hb dX6_row_84 (by decide) ?_
                exact w_iret hx hb hr hlocks w ⟨rfl, _, hq.symm, rfl, h_m_ke.2, h_m_so.2, h_m_si.2, h_m_el.2, hk⟩ (Nat.le_refl _) (Nat.le_refl _) dX6_row_85
              · skip
                have hq := hq.trans (if_neg c8)
                have hlt62 : k < 100 := w_ltk hk31 c8
                refine lv_aload_n hx hb dX6_row_65 rfl (lv_at hl 0 rfl) ?_
                refine w_get (v := .ref m_el) hx hb hts i_X6 hown hK w h_m rfl 7 (by decide) (hts _ m_5) rfl dX6_row_66 ?_
                refine lv_bipush (v := 100) hx hb dX6_row_69 (by decide) ?_
                refine lv_iload_n hx hb dX6_row_71 rfl (lv_at hl 1 rfl) ?_
                refine lv_imul hx hb dX6_row_72 ?_
                refine lv_iload hx hb dX6_row_73 (lv_at hl 4 rfl) ?_
                refine lv_iadd hx hb dX6_row_75 ?_
                refine lv_iconst (v := 0) hx hb dX6_row_76 (by decide) ?_
                have ho9 := h_m_el
                refine w_ist (j := (100 * d.toNatClampNeg + k)) hx hb hK w h_m_el (elix hd (by omega)) (elix_n (by assumption) (by omega)) dX6_row_77 (fun H locs w h_m_el => ?_)
                have h_m := h_m.upw h_m_el (wi.ne h_m ho9 (by intro h; cases h))
                have h_m_ke := h_m_ke.upw h_m_el ne_m_ke_m_el
                have h_m_so := h_m_so.upw h_m_el ne_m_so_m_el
                have h_m_si := h_m_si.upw h_m_el ne_m_si_m_el
                have hk := hk.upw h_m_el (fun q h => h.2.2.2.1)
                refine lv_iinc (v := (nI (k + 1))) (lv' := [(4, .int (nI (k + 1))), (0, .ref m), (1, .int d), (2, .int of0), (3, .int n0)]) hx hb dX6_row_78 hl (k := 4) rfl (w_inc _) (by decide) rfl (fun ls hl => ?_)
                refine lv_goto (tgt := 58) hx hb dX6_row_81 (by decide) ?_
                exact ih ((k + 1)) (upd u_m_el_f (100 * d.toNatClampNeg + k) 0) _ _ _ _ (by omega) (by omega) hq (lv_sub hl [1, 2, 3, 4, 0] rfl) w h_m h_m_ke h_m_so h_m_si h_m_el hk
          exact hL58 (100 + 1) 0 m_el_f _ _ _ _ (Nat.zero_le _) (by omega) hq (lv_sub hl [1, 2, 3, 4, 0] rfl) w h_m h_m_ke h_m_so h_m_si h_m_el hk
        · skip
          have hq := hq.trans (if_neg c4)
          refine lv_bipush (v := (-14)) hx hb dX6_row_31 (by decide) ?_
          exact w_iret hx hb hr hlocks w ⟨rfl, _, hq.symm, rfl, h_m_ke.2, h_m_so.2, h_m_si.2, h_m_el.2, hk⟩ (Nat.le_refl _) (Nat.le_refl _) dX6_row_33
      · skip
        have hq := hq.trans (if_neg c3)
        refine lv_iconst (v := (-1)) hx hb dX6_row_25 (by decide) ?_
        exact w_iret hx hb hr hlocks w ⟨rfl, _, hq.symm, rfl, h_m_ke.2, h_m_so.2, h_m_si.2, h_m_el.2, hk⟩ (Nat.le_refl _) (Nat.le_refl _) dX6_row_26
def f_X6_put (d : Int32) (i0 : Int32) (v : Int32) (m_ke_f : Nat → Int32) (m_so_f : Nat → Int32) (m_si_f : Nat → Int32) (m_el_f : Nat → Int32) : Int32 × (Nat → Int32) := if (f_X6_wrongRow d (-1) m_ke_f m_so_f) = (0 : Int32) then (if (f_X6_isIn (i0.toInt64) 0 (((m_si_f (d.toNatClampNeg)) - 1).toInt64)) = (0 : Int32) then ((-13), m_el_f) else (if (m_so_f (d.toNatClampNeg)) = (0 : Int32) then (0, (upd m_el_f (((100 * d) + i0).toNatClampNeg) (v.toInt8.toInt32))) else (if (m_so_f (d.toNatClampNeg)) = (1 : Int32) then (0, (upd m_el_f (((100 * d) + i0).toNatClampNeg) (v.toInt16.toInt32))) else (0, (upd m_el_f (((100 * d) + i0).toNatClampNeg) v))))) else ((f_X6_wrongRow d (-1) m_ke_f m_so_f), m_el_f)
set_option maxHeartbeats 400000 in
set_option maxRecDepth 100000 in
theorem c_X6_put (l : Launch) (D : va_G) (cI cP cS cL : ClassId) (L : List Nat) (F : Nat → va_E) (m : Nat) (d : Int32) (i0 : Int32) (v : Int32) (m_ss : Nat) (m_im : Nat) (m_re : Nat) (m_sa : Nat) (m_ke : Nat) (m_so : Nat) (m_si : Nat) (m_el : Nat) (m_kd : Nat) (m_kt : Nat) (m_hi : Int32) (m_th : Int32) (m_po : Int32) (m_ba : Int32) (m_en : Int32) (m_tl : Int32) (m_nu : Nat) (m_ca : Nat) (m_ha : Nat) (m_hs : Int32) (m_co : Nat) (m_ke_f : Nat → Int32) (m_so_f : Nat → Int32) (m_si_f : Nat → Int32) (m_el_f : Nat → Int32) (h_m : wi L F m (eM m_ss m_im m_re m_sa m_ke m_so m_si m_el m_kd m_kt m_hi m_th m_po m_ba m_en m_tl m_nu m_ca m_ha m_hs m_co)) (h_m_ke : wi L F m_ke (eI cI 8 m_ke_f)) (h_m_so : wi L F m_so (eI cI 8 m_so_f)) (h_m_si : wi L F m_si (eI cI 8 m_si_f)) (h_m_el : wi L F m_el (eI cI 800 m_el_f)) (hsi : ∀ i, i < 8 → (m_si_f i).toInt ≤ 100) (hsi0 : ∀ i, i < 8 → 0 ≤ (m_si_f i).toInt) (ne_m_ke_m_el : m_ke ≠ m_el) (ne_m_so_m_el : m_so ≠ m_el) (ne_m_si_m_el : m_si ≠ m_el) : wMj l D cI cP cS cL yX6_put wsX6_put ({ frames := 3, cells := 0, slots := 0, locals := 67 } : Room) [.ref m, .int d, .int i0, .int v] L F (fun r1 F1 => ∃ y9 : Int32 × (Nat → Int32), y9 = (f_X6_put d i0 v m_ke_f m_so_f m_si_f m_el_f) ∧ r1 = y9.1 ∧ F1 m_el = (eI cI 800 y9.2) ∧ wk (fun q : Nat => q ≠ m_el ∧ True) F1 F) := by
  refine wM.of (cc := cX6_put) (maxL := 5) (ret := (some .int)) (by decide) rfl (Nat.le_of_ble_eq_true rfl) ?_
  intro pZ eZ sZ mZ below meth cZ A ls C hl w
  obtain ⟨hx, hb, hr, hml, hts, hown, hlocks, hK, hA, hin⟩ := C
  have hown : sZ.vm.findClass RX6 = some mZ.cls := hown
  have hl : lv_has ls 5 [(0, .ref m), (1, .int d), (2, .int i0), (3, .int v)] := hl
  have m_0 : ((.fieldLink RX6 28 "TwoThirdsModel" "size" "[I") : Cond) ∈ wsX6_put := by decide +kernel
  have i_X6 : ∀ w ∈ wsX60, w ∈ wsX6_put := by decide +kernel
  have m_2 : ((.fieldLink RX6 31 "TwoThirdsModel" "element" "[I") : Cond) ∈ wsX6_put := by decide +kernel
  have m_3 : ((.fieldLink RX6 25 "TwoThirdsModel" "sort" "[I") : Cond) ∈ wsX6_put := by decide +kernel
  have hk : wk (fun q : Nat => q ≠ m_el ∧ True) F F := wk.rf
  have hq : f_X6_put d i0 v m_ke_f m_so_f m_si_f m_el_f = f_X6_put d i0 v m_ke_f m_so_f m_si_f m_el_f := rfl
  refine lv_aload_n hx hb dX6_put_0 rfl (lv_at hl 0 rfl) ?_
  refine lv_iload_n hx hb dX6_put_1 rfl (lv_at hl 1 rfl) ?_
  refine lv_iconst (v := (-1)) hx hb dX6_put_2 (by decide) ?_
  refine w_finI (w_runV (rm := ({ frames := 2, cells := 0, slots := 0, locals := 45 } : Room)) (As := [.int d, .int (-1)]) (rest := []) (n := 2) hx hb hml hts hown hK w (c_X6_wrongRow l D cI cP cS cL L _ m d (-1) m_ss m_im m_re m_sa m_ke m_so m_si m_el m_kd m_kt m_hi m_th m_po m_ba m_en m_tl m_nu m_ca m_ha m_hs m_co m_ke_f m_so_f h_m h_m_ke h_m_so) gX6_put_X6_wrongRow rfl rfl rfl (by decide +kernel) ⟨(Nat.le_of_ble_eq_true rfl), (Nat.le_of_ble_eq_true rfl)⟩ h_m rfl rfl hl.1 rfl (Nat.le_of_ble_eq_true rfl) dX6_put_3 ⟨(Nat.le_of_ble_eq_true rfl), (Nat.le_of_ble_eq_true rfl)⟩) w hA (fun H locs w => ?_)
  refine lv_istore (lv' := [(4, .int (f_X6_wrongRow d (-1) m_ke_f m_so_f)), (0, .ref m), (1, .int d), (2, .int i0), (3, .int v)]) hx hb dX6_put_6 hl (by decide) rfl (fun ls hl => ?_)
  refine lv_iload hx hb dX6_put_8 (lv_at hl 0 rfl) ?_
  refine lv_if_eq (tgt := 16) hx hb dX6_put_10 (by decide) (fun c1 => ?_) (fun c1 => ?_)
  · skip
    have hq := hq.trans (if_pos c1)
    have hd : 0 ≤ d.toInt ∧ d.toInt < 8 := wrongRow_ok c1
    have hd8 : d.toNatClampNeg < 8 := w_d8 hd
    refine lv_iload_n hx hb dX6_put_16 rfl (lv_at hl 3 rfl) ?_
    refine lv_i2l (v := (i0.toInt64)) hx hb dX6_put_17 rfl ?_
    refine lv_lconst (v := 0) hx hb dX6_put_18 (by decide) ?_
    refine lv_aload_n hx hb dX6_put_19 rfl (lv_at hl 1 rfl) ?_
    refine w_get (v := .ref m_si) hx hb hts i_X6 hown hK w h_m rfl 6 (by decide) (hts _ m_0) rfl dX6_put_20 ?_
    refine lv_iload_n hx hb dX6_put_23 rfl (lv_at hl 2 rfl) ?_
    refine w_ild (j := (d.toNatClampNeg)) hx hb hK w h_m_si (w_in8 hd) rfl dX6_put_24 ?_
    refine lv_iconst (v := 1) hx hb dX6_put_25 (by decide) ?_
    refine lv_isub hx hb dX6_put_26 ?_
    refine lv_i2l (v := (((m_si_f (d.toNatClampNeg)) - 1).toInt64)) hx hb dX6_put_27 rfl ?_
    refine w_finI (w_runS (rm := ({ frames := 0, cells := 0, slots := 0, locals := 0 } : Room)) (As := [.long (i0.toInt64), .long 0, .long (((m_si_f (d.toNatClampNeg)) - 1).toInt64)]) (rest := []) (n := 3) hx hb hml hts hown hK w (c_X6_isIn l D cI cP cS cL L _ (i0.toInt64) 0 (((m_si_f (d.toNatClampNeg)) - 1).toInt64) ) gX6_put_X6_isIn rfl rfl rfl (by decide +kernel) ⟨(Nat.le_of_ble_eq_true rfl), (Nat.le_of_ble_eq_true rfl)⟩ rfl hl.1 rfl (Nat.le_of_ble_eq_true rfl) dX6_put_28 ⟨(Nat.le_of_ble_eq_true rfl), (Nat.le_of_ble_eq_true rfl)⟩) w hA (fun H locs w => ?_)
    refine lv_if_ne (tgt := 37) hx hb dX6_put_31 (by decide) (fun c2 => ?_) (fun c2 => ?_)
    · skip
      have hq := hq.trans (if_neg c2)
      have hi : 0 ≤ i0.toInt ∧ i0.toInt < 100 := put_ok (hsi _ hd8) (hsi0 _ hd8) c2
      refine lv_aload_n hx hb dX6_put_37 rfl (lv_at hl 1 rfl) ?_
      refine w_get (v := .ref m_el) hx hb hts i_X6 hown hK w h_m rfl 7 (by decide) (hts _ m_2) rfl dX6_put_38 ?_
      refine lv_bipush (v := 100) hx hb dX6_put_41 (by decide) ?_
      refine lv_iload_n hx hb dX6_put_43 rfl (lv_at hl 2 rfl) ?_
      refine lv_imul hx hb dX6_put_44 ?_
      refine lv_iload_n hx hb dX6_put_45 rfl (lv_at hl 3 rfl) ?_
      refine lv_iadd hx hb dX6_put_46 ?_
      refine lv_aload_n hx hb dX6_put_47 rfl (lv_at hl 1 rfl) ?_
      refine w_get (v := .ref m_so) hx hb hts i_X6 hown hK w h_m rfl 5 (by decide) (hts _ m_3) rfl dX6_put_48 ?_
      refine lv_iload_n hx hb dX6_put_51 rfl (lv_at hl 2 rfl) ?_
      refine w_ild (j := (d.toNatClampNeg)) hx hb hK w h_m_so (w_in8 hd) rfl dX6_put_52 ?_
      refine lv_if_ne (tgt := 61) hx hb dX6_put_53 (by decide) (fun c3 => ?_) (fun c3 => ?_)
      · skip
        have hq := hq.trans (if_neg c3)
        refine lv_aload_n hx hb dX6_put_61 rfl (lv_at hl 1 rfl) ?_
        refine w_get (v := .ref m_so) hx hb hts i_X6 hown hK w h_m rfl 5 (by decide) (hts _ m_3) rfl dX6_put_62 ?_
        refine lv_iload_n hx hb dX6_put_65 rfl (lv_at hl 2 rfl) ?_
        refine w_ild (j := (d.toNatClampNeg)) hx hb hK w h_m_so (w_in8 hd) rfl dX6_put_66 ?_
        refine lv_iconst (v := 1) hx hb dX6_put_67 (by decide) ?_
        refine lv_icmp_ne (tgt := 76) hx hb dX6_put_68 (by decide) (fun c4 => ?_) (fun c4 => ?_)
        · skip
          have hq := hq.trans (if_neg c4)
          refine lv_iload_n hx hb dX6_put_76 rfl (lv_at hl 4 rfl) ?_
          have ho5 := h_m_el
          refine w_ist (j := (((100 * d) + i0).toNatClampNeg)) hx hb hK w h_m_el (elix2 hd hi) rfl dX6_put_77 (fun H locs w h_m_el => ?_)
          have h_m := h_m.upw h_m_el (wi.ne h_m ho5 (by intro h; cases h))
          have h_m_ke := h_m_ke.upw h_m_el ne_m_ke_m_el
          have h_m_so := h_m_so.upw h_m_el ne_m_so_m_el
          have h_m_si := h_m_si.upw h_m_el ne_m_si_m_el
          have hk := hk.upw h_m_el (fun q h => h.1)
          refine lv_iconst (v := 0) hx hb dX6_put_78 (by decide) ?_
          exact w_iret hx hb hr hlocks w ⟨rfl, _, hq.symm, rfl, h_m_el.2, hk⟩ (Nat.le_refl _) (Nat.le_refl _) dX6_put_79
        · skip
          have hq := hq.trans (if_pos c4)
          refine lv_iload_n hx hb dX6_put_71 rfl (lv_at hl 4 rfl) ?_
          refine lv_i2s (v := (v.toInt16.toInt32)) hx hb dX6_put_72 rfl ?_
          refine lv_goto (tgt := 77) hx hb dX6_put_73 (by decide) ?_
          have ho6 := h_m_el
          refine w_ist (j := (((100 * d) + i0).toNatClampNeg)) hx hb hK w h_m_el (elix2 hd hi) rfl dX6_put_77 (fun H locs w h_m_el => ?_)
          have h_m := h_m.upw h_m_el (wi.ne h_m ho6 (by intro h; cases h))
          have h_m_ke := h_m_ke.upw h_m_el ne_m_ke_m_el
          have h_m_so := h_m_so.upw h_m_el ne_m_so_m_el
          have h_m_si := h_m_si.upw h_m_el ne_m_si_m_el
          have hk := hk.upw h_m_el (fun q h => h.1)
          refine lv_iconst (v := 0) hx hb dX6_put_78 (by decide) ?_
          exact w_iret hx hb hr hlocks w ⟨rfl, _, hq.symm, rfl, h_m_el.2, hk⟩ (Nat.le_refl _) (Nat.le_refl _) dX6_put_79
      · skip
        have hq := hq.trans (if_pos c3)
        refine lv_iload_n hx hb dX6_put_56 rfl (lv_at hl 4 rfl) ?_
        refine lv_i2b (v := (v.toInt8.toInt32)) hx hb dX6_put_57 rfl ?_
        refine lv_goto (tgt := 77) hx hb dX6_put_58 (by decide) ?_
        have ho7 := h_m_el
        refine w_ist (j := (((100 * d) + i0).toNatClampNeg)) hx hb hK w h_m_el (elix2 hd hi) rfl dX6_put_77 (fun H locs w h_m_el => ?_)
        have h_m := h_m.upw h_m_el (wi.ne h_m ho7 (by intro h; cases h))
        have h_m_ke := h_m_ke.upw h_m_el ne_m_ke_m_el
        have h_m_so := h_m_so.upw h_m_el ne_m_so_m_el
        have h_m_si := h_m_si.upw h_m_el ne_m_si_m_el
        have hk := hk.upw h_m_el (fun q h => h.1)
        refine lv_iconst (v := 0) hx hb dX6_put_78 (by decide) ?_
        exact w_iret hx hb hr hlocks w ⟨rfl, _, hq.symm, rfl, h_m_el.2, hk⟩ (Nat.le_refl _) (Nat.le_refl _) dX6_put_79
    · skip
      have hq := hq.trans (if_pos c2)
      refine lv_bipush (v := (-13)) hx hb dX6_put_34 (by decide) ?_
      exact w_iret hx hb hr hlocks w ⟨rfl, _, hq.symm, rfl, h_m_el.2, hk⟩ (Nat.le_refl _) (Nat.le_refl _) dX6_put_36
  · skip
    have hq := hq.trans (if_neg c1)
    refine lv_iload hx hb dX6_put_13 (lv_at hl 0 rfl) ?_
    exact w_iret hx hb hr hlocks w ⟨rfl, _, hq.symm, rfl, h_m_el.2, hk⟩ (Nat.le_refl _) (Nat.le_refl _) dX6_put_15
def f_X6_element (d : Int32) (i0 : Int32) (m_ke_f : Nat → Int32) (m_si_f : Nat → Int32) (m_el_f : Nat → Int32) : Int64 × Int32 := if (f_X6_isShelf d) = (0 : Int32) then (0, 1) else (if (m_ke_f (d.toNatClampNeg)) = (2 : Int32) then (if (f_X6_isIn (i0.toInt64) 0 (((m_si_f (d.toNatClampNeg)) - 1).toInt64)) = (0 : Int32) then (0, 2) else (((m_el_f (((100 * d) + i0).toNatClampNeg)).toInt64), 0)) else (0, 2))
set_option maxHeartbeats 400000 in
set_option maxRecDepth 100000 in
theorem c_X6_element (l : Launch) (D : va_G) (cI cP cS cL : ClassId) (L : List Nat) (F : Nat → va_E) (m : Nat) (d : Int32) (i0 : Int32) (m_ss : Nat) (m_im : Nat) (m_re : Nat) (m_sa : Nat) (m_ke : Nat) (m_so : Nat) (m_si : Nat) (m_el : Nat) (m_kd : Nat) (m_kt : Nat) (m_hi : Int32) (m_th : Int32) (m_po : Int32) (m_ba : Int32) (m_en : Int32) (m_tl : Int32) (m_nu : Nat) (m_ca : Nat) (m_ha : Nat) (m_hs : Int32) (m_co : Nat) (m_ke_f : Nat → Int32) (m_si_f : Nat → Int32) (m_el_f : Nat → Int32) (h_m : wi L F m (eM m_ss m_im m_re m_sa m_ke m_so m_si m_el m_kd m_kt m_hi m_th m_po m_ba m_en m_tl m_nu m_ca m_ha m_hs m_co)) (h_m_ke : wi L F m_ke (eI cI 8 m_ke_f)) (h_m_si : wi L F m_si (eI cI 8 m_si_f)) (h_m_el : wi L F m_el (eI cI 800 m_el_f)) (hsi : ∀ i, i < 8 → (m_si_f i).toInt ≤ 100) (hsi0 : ∀ i, i < 8 → 0 ≤ (m_si_f i).toInt) : wMk l D cI cP cS cL yX6_element wsX6_element ({ frames := 2, cells := 0, slots := 0, locals := 45 } : Room) [.ref m, .int d, .int i0] L F (fun r1 F1 => ∃ y9 : Int64 × Int32, y9 = (f_X6_element d i0 m_ke_f m_si_f m_el_f) ∧ r1 = y9.1 ∧ F1 m = (eM m_ss m_im m_re m_sa m_ke m_so m_si m_el m_kd m_kt m_hi y9.2 m_po m_ba m_en m_tl m_nu m_ca m_ha m_hs m_co) ∧ wk (fun q : Nat => q ≠ m ∧ True) F1 F) := by
  refine wM.of (cc := cX6_element) (maxL := 3) (ret := (some .long)) (by decide) rfl (Nat.le_of_ble_eq_true rfl) ?_
  intro pZ eZ sZ mZ below meth cZ A ls C hl w
  obtain ⟨hx, hb, hr, hml, hts, hown, hlocks, hK, hA, hin⟩ := C
  have hown : sZ.vm.findClass RX6 = some mZ.cls := hown
  have hl : lv_has ls 3 [(0, .ref m), (1, .int d), (2, .int i0)] := hl
  have m_0 : ((.fieldLink RX6 22 "TwoThirdsModel" "kept" "[I") : Cond) ∈ wsX6_element := by decide +kernel
  have i_X6 : ∀ w ∈ wsX60, w ∈ wsX6_element := by decide +kernel
  have m_2 : ((.fieldLink RX6 52 "TwoThirdsModel" "thrown" "I") : Cond) ∈ wsX6_element := by decide +kernel
  have m_3 : ((.fieldLink RX6 28 "TwoThirdsModel" "size" "[I") : Cond) ∈ wsX6_element := by decide +kernel
  have m_4 : ((.fieldLink RX6 31 "TwoThirdsModel" "element" "[I") : Cond) ∈ wsX6_element := by decide +kernel
  have hk : wk (fun q : Nat => q ≠ m ∧ True) F F := wk.rf
  have hq : f_X6_element d i0 m_ke_f m_si_f m_el_f = f_X6_element d i0 m_ke_f m_si_f m_el_f := rfl
  refine lv_aload_n hx hb dX6_element_0 rfl (lv_at hl 0 rfl) ?_
  refine lv_iload_n hx hb dX6_element_1 rfl (lv_at hl 1 rfl) ?_
  refine w_finI (w_runS (rm := ({ frames := 1, cells := 0, slots := 0, locals := 25 } : Room)) (As := [.int d]) (rest := [.ref m]) (n := 1) hx hb hml hts hown hK w (c_X6_isShelf l D cI cP cS cL L _ d ) gX6_element_X6_isShelf rfl rfl rfl (by decide +kernel) ⟨(Nat.le_of_ble_eq_true rfl), (Nat.le_of_ble_eq_true rfl)⟩ rfl hl.1 rfl (Nat.le_of_ble_eq_true rfl) dX6_element_2 ⟨(Nat.le_of_ble_eq_true rfl), (Nat.le_of_ble_eq_true rfl)⟩) w hA (fun H locs w => ?_)
  refine lv_if_ne (tgt := 12) hx hb dX6_element_5 (by decide) (fun c1 => ?_) (fun c1 => ?_)
  · skip
    have hq := hq.trans (if_neg c1)
    have hd : 0 ≤ d.toInt ∧ d.toInt < 8 := isShelf_ok c1
    have hd8 : d.toNatClampNeg < 8 := w_d8 hd
    refine lv_aload_n hx hb dX6_element_12 rfl (lv_at hl 0 rfl) ?_
    refine w_get (v := .ref m_ke) hx hb hts i_X6 hown hK w h_m rfl 4 (by decide) (hts _ m_0) rfl dX6_element_13 ?_
    refine lv_iload_n hx hb dX6_element_16 rfl (lv_at hl 1 rfl) ?_
    refine w_ild (j := (d.toNatClampNeg)) hx hb hK w h_m_ke (w_in8 hd) rfl dX6_element_17 ?_
    refine lv_iconst (v := 2) hx hb dX6_element_18 (by decide) ?_
    refine lv_icmp_ne (tgt := 40) hx hb dX6_element_19 (by decide) (fun c2 => ?_) (fun c2 => ?_)
    · skip
      have hq := hq.trans (if_neg c2)
      refine lv_iconst (v := 2) hx hb dX6_element_40 (by decide) ?_
      refine lv_goto (tgt := 45) hx hb dX6_element_41 (by decide) ?_
      have ho3 := h_m
      refine w_put (fs2 := [.ref m_ss, .ref m_im, .ref m_re, .ref m_sa, .ref m_ke, .ref m_so, .ref m_si, .ref m_el, .ref m_kd, .ref m_kt, .int m_hi, .int 2, .int m_po, .int m_ba, .int m_en, .int m_tl, .ref m_nu, .ref m_ca, .ref m_ha, .int m_hs, .ref m_co]) hx hb hts i_X6 tyX6 tyX6_ok nmX6 hown hK w h_m rfl 11 (by decide) (hts _ m_2) rfl rfl rfl (Nat.le_of_ble_eq_true rfl) rfl dX6_element_45 (fun H locs w h_m => ?_)
      have h_m_ke := h_m_ke.upw h_m (wi.ne h_m_ke ho3 (by intro h; cases h))
      have h_m_si := h_m_si.upw h_m (wi.ne h_m_si ho3 (by intro h; cases h))
      have h_m_el := h_m_el.upw h_m (wi.ne h_m_el ho3 (by intro h; cases h))
      have hk := hk.upw h_m (fun q h => h.1)
      refine lv_aload_n hx hb dX6_element_48 rfl (lv_at hl 0 rfl) ?_
      refine w_get (v := .int 2) hx hb hts i_X6 hown hK w h_m rfl 11 (by decide) (hts _ m_2) rfl dX6_element_49 ?_
      refine lv_if_ne (tgt := 70) hx hb dX6_element_52 (by decide) (fun _ => ?_) (fun c => absurd c (by decide))
      refine lv_lconst (v := 0) hx hb dX6_element_70 (by decide) ?_
      exact w_lret hx hb hr hlocks w ⟨rfl, _, hq.symm, rfl, h_m.2, hk⟩ (Nat.le_refl _) (Nat.le_refl _) dX6_element_71
    · skip
      have hq := hq.trans (if_pos c2)
      refine lv_iload_n hx hb dX6_element_22 rfl (lv_at hl 2 rfl) ?_
      refine lv_i2l (v := (i0.toInt64)) hx hb dX6_element_23 rfl ?_
      refine lv_lconst (v := 0) hx hb dX6_element_24 (by decide) ?_
      refine lv_aload_n hx hb dX6_element_25 rfl (lv_at hl 0 rfl) ?_
      refine w_get (v := .ref m_si) hx hb hts i_X6 hown hK w h_m rfl 6 (by decide) (hts _ m_3) rfl dX6_element_26 ?_
      refine lv_iload_n hx hb dX6_element_29 rfl (lv_at hl 1 rfl) ?_
      refine w_ild (j := (d.toNatClampNeg)) hx hb hK w h_m_si (w_in8 hd) rfl dX6_element_30 ?_
      refine lv_iconst (v := 1) hx hb dX6_element_31 (by decide) ?_
      refine lv_isub hx hb dX6_element_32 ?_
      refine lv_i2l (v := (((m_si_f (d.toNatClampNeg)) - 1).toInt64)) hx hb dX6_element_33 rfl ?_
      refine w_finI (w_runS (rm := ({ frames := 0, cells := 0, slots := 0, locals := 0 } : Room)) (As := [.long (i0.toInt64), .long 0, .long (((m_si_f (d.toNatClampNeg)) - 1).toInt64)]) (rest := [.ref m]) (n := 3) hx hb hml hts hown hK w (c_X6_isIn l D cI cP cS cL L _ (i0.toInt64) 0 (((m_si_f (d.toNatClampNeg)) - 1).toInt64) ) gX6_element_X6_isIn rfl rfl rfl (by decide +kernel) ⟨(Nat.le_of_ble_eq_true rfl), (Nat.le_of_ble_eq_true rfl)⟩ rfl hl.1 rfl (Nat.le_of_ble_eq_true rfl) dX6_element_34 ⟨(Nat.le_of_ble_eq_true rfl), (Nat.le_of_ble_eq_true rfl)⟩) w hA (fun H locs w => ?_)
      refine lv_if_ne (tgt := 44) hx hb dX6_element_37 (by decide) (fun c4 => ?_) (fun c4 => ?_)
      · skip
        have hq := hq.trans (if_neg c4)
        have hi : 0 ≤ i0.toInt ∧ i0.toInt < 100 := put_ok (hsi _ hd8) (hsi0 _ hd8) c4
        refine lv_iconst (v := 0) hx hb dX6_element_44 (by decide) ?_
        have ho5 := h_m
        refine w_put (fs2 := [.ref m_ss, .ref m_im, .ref m_re, .ref m_sa, .ref m_ke, .ref m_so, .ref m_si, .ref m_el, .ref m_kd, .ref m_kt, .int m_hi, .int 0, .int m_po, .int m_ba, .int m_en, .int m_tl, .ref m_nu, .ref m_ca, .ref m_ha, .int m_hs, .ref m_co]) hx hb hts i_X6 tyX6 tyX6_ok nmX6 hown hK w h_m rfl 11 (by decide) (hts _ m_2) rfl rfl rfl (Nat.le_of_ble_eq_true rfl) rfl dX6_element_45 (fun H locs w h_m => ?_)
        have h_m_ke := h_m_ke.upw h_m (wi.ne h_m_ke ho5 (by intro h; cases h))
        have h_m_si := h_m_si.upw h_m (wi.ne h_m_si ho5 (by intro h; cases h))
        have h_m_el := h_m_el.upw h_m (wi.ne h_m_el ho5 (by intro h; cases h))
        have hk := hk.upw h_m (fun q h => h.1)
        refine lv_aload_n hx hb dX6_element_48 rfl (lv_at hl 0 rfl) ?_
        refine w_get (v := .int 0) hx hb hts i_X6 hown hK w h_m rfl 11 (by decide) (hts _ m_2) rfl dX6_element_49 ?_
        refine lv_if_ne (tgt := 70) hx hb dX6_element_52 (by decide) (fun c => absurd rfl c) (fun _ => ?_)
        refine lv_aload_n hx hb dX6_element_55 rfl (lv_at hl 0 rfl) ?_
        refine w_get (v := .ref m_el) hx hb hts i_X6 hown hK w h_m rfl 7 (by decide) (hts _ m_4) rfl dX6_element_56 ?_
        refine lv_bipush (v := 100) hx hb dX6_element_59 (by decide) ?_
        refine lv_iload_n hx hb dX6_element_61 rfl (lv_at hl 1 rfl) ?_
        refine lv_imul hx hb dX6_element_62 ?_
        refine lv_iload_n hx hb dX6_element_63 rfl (lv_at hl 2 rfl) ?_
        refine lv_iadd hx hb dX6_element_64 ?_
        refine w_ild (j := (((100 * d) + i0).toNatClampNeg)) hx hb hK w h_m_el (elix2 hd hi) rfl dX6_element_65 ?_
        refine lv_i2l (v := ((m_el_f (((100 * d) + i0).toNatClampNeg)).toInt64)) hx hb dX6_element_66 rfl ?_
        refine lv_goto (tgt := 71) hx hb dX6_element_67 (by decide) ?_
        exact w_lret hx hb hr hlocks w ⟨rfl, _, hq.symm, rfl, h_m.2, hk⟩ (Nat.le_refl _) (Nat.le_refl _) dX6_element_71
      · skip
        have hq := hq.trans (if_pos c4)
        refine lv_iconst (v := 2) hx hb dX6_element_40 (by decide) ?_
        refine lv_goto (tgt := 45) hx hb dX6_element_41 (by decide) ?_
        have ho6 := h_m
        refine w_put (fs2 := [.ref m_ss, .ref m_im, .ref m_re, .ref m_sa, .ref m_ke, .ref m_so, .ref m_si, .ref m_el, .ref m_kd, .ref m_kt, .int m_hi, .int 2, .int m_po, .int m_ba, .int m_en, .int m_tl, .ref m_nu, .ref m_ca, .ref m_ha, .int m_hs, .ref m_co]) hx hb hts i_X6 tyX6 tyX6_ok nmX6 hown hK w h_m rfl 11 (by decide) (hts _ m_2) rfl rfl rfl (Nat.le_of_ble_eq_true rfl) rfl dX6_element_45 (fun H locs w h_m => ?_)
        have h_m_ke := h_m_ke.upw h_m (wi.ne h_m_ke ho6 (by intro h; cases h))
        have h_m_si := h_m_si.upw h_m (wi.ne h_m_si ho6 (by intro h; cases h))
        have h_m_el := h_m_el.upw h_m (wi.ne h_m_el ho6 (by intro h; cases h))
        have hk := hk.upw h_m (fun q h => h.1)
        refine lv_aload_n hx hb dX6_element_48 rfl (lv_at hl 0 rfl) ?_
        refine w_get (v := .int 2) hx hb hts i_X6 hown hK w h_m rfl 11 (by decide) (hts _ m_2) rfl dX6_element_49 ?_
        refine lv_if_ne (tgt := 70) hx hb dX6_element_52 (by decide) (fun _ => ?_) (fun c => absurd c (by decide))
        refine lv_lconst (v := 0) hx hb dX6_element_70 (by decide) ?_
        exact w_lret hx hb hr hlocks w ⟨rfl, _, hq.symm, rfl, h_m.2, hk⟩ (Nat.le_refl _) (Nat.le_refl _) dX6_element_71
  · skip
    have hq := hq.trans (if_pos c1)
    refine lv_iconst (v := 1) hx hb dX6_element_8 (by decide) ?_
    refine lv_goto (tgt := 45) hx hb dX6_element_9 (by decide) ?_
    have ho7 := h_m
    refine w_put (fs2 := [.ref m_ss, .ref m_im, .ref m_re, .ref m_sa, .ref m_ke, .ref m_so, .ref m_si, .ref m_el, .ref m_kd, .ref m_kt, .int m_hi, .int 1, .int m_po, .int m_ba, .int m_en, .int m_tl, .ref m_nu, .ref m_ca, .ref m_ha, .int m_hs, .ref m_co]) hx hb hts i_X6 tyX6 tyX6_ok nmX6 hown hK w h_m rfl 11 (by decide) (hts _ m_2) rfl rfl rfl (Nat.le_of_ble_eq_true rfl) rfl dX6_element_45 (fun H locs w h_m => ?_)
    have h_m_ke := h_m_ke.upw h_m (wi.ne h_m_ke ho7 (by intro h; cases h))
    have h_m_si := h_m_si.upw h_m (wi.ne h_m_si ho7 (by intro h; cases h))
    have h_m_el := h_m_el.upw h_m (wi.ne h_m_el ho7 (by intro h; cases h))
    have hk := hk.upw h_m (fun q h => h.1)
    refine lv_aload_n hx hb dX6_element_48 rfl (lv_at hl 0 rfl) ?_
    refine w_get (v := .int 1) hx hb hts i_X6 hown hK w h_m rfl 11 (by decide) (hts _ m_2) rfl dX6_element_49 ?_
    refine lv_if_ne (tgt := 70) hx hb dX6_element_52 (by decide) (fun _ => ?_) (fun c => absurd c (by decide))
    refine lv_lconst (v := 0) hx hb dX6_element_70 (by decide) ?_
    exact w_lret hx hb hr hlocks w ⟨rfl, _, hq.symm, rfl, h_m.2, hk⟩ (Nat.le_refl _) (Nat.le_refl _) dX6_element_71
def f_X6_thrown (m_th : Int32) : Int32 := m_th
set_option maxHeartbeats 400000 in
set_option maxRecDepth 100000 in
theorem c_X6_thrown (l : Launch) (D : va_G) (cI cP cS cL : ClassId) (L : List Nat) (F : Nat → va_E) (m : Nat) (m_ss : Nat) (m_im : Nat) (m_re : Nat) (m_sa : Nat) (m_ke : Nat) (m_so : Nat) (m_si : Nat) (m_el : Nat) (m_kd : Nat) (m_kt : Nat) (m_hi : Int32) (m_th : Int32) (m_po : Int32) (m_ba : Int32) (m_en : Int32) (m_tl : Int32) (m_nu : Nat) (m_ca : Nat) (m_ha : Nat) (m_hs : Int32) (m_co : Nat) (h_m : wi L F m (eM m_ss m_im m_re m_sa m_ke m_so m_si m_el m_kd m_kt m_hi m_th m_po m_ba m_en m_tl m_nu m_ca m_ha m_hs m_co)) : wMI l D cI cP cS cL yX6_thrown wsX6_thrown ({ frames := 0, cells := 0, slots := 0, locals := 0 } : Room) [.ref m] L F (f_X6_thrown m_th) F := by
  refine wM.of (cc := cX6_thrown) (maxL := 1) (ret := (some .int)) (by decide) rfl (Nat.le_of_ble_eq_true rfl) ?_
  intro pZ eZ sZ mZ below meth cZ A ls C hl w
  obtain ⟨hx, hb, hr, hml, hts, hown, hlocks, hK, hA, hin⟩ := C
  have hown : sZ.vm.findClass RX6 = some mZ.cls := hown
  have hl : lv_has ls 1 [(0, .ref m)] := hl
  have m_0 : ((.fieldLink RX6 52 "TwoThirdsModel" "thrown" "I") : Cond) ∈ wsX6_thrown := by decide +kernel
  have i_X6 : ∀ w ∈ wsX60, w ∈ wsX6_thrown := by decide +kernel
  have hq : f_X6_thrown m_th = f_X6_thrown m_th := rfl
  refine lv_aload_n hx hb dX6_thrown_0 rfl (lv_at hl 0 rfl) ?_
  refine w_get (v := .int m_th) hx hb hts i_X6 hown hK w h_m rfl 11 (by decide) (hts _ m_0) rfl dX6_thrown_1 ?_
  exact w_iret hx hb hr hlocks w ⟨hq.symm, rfl, rfl⟩ (Nat.le_refl _) (Nat.le_refl _) dX6_thrown_4
def f_X6_copy_L122 (d : Int32) (i0 : Int32) (e0 : Int32) (j0 : Int32) (n0 : Int32) : Nat → Nat → (Nat → Int32) → Int32 × (Nat → Int32)
  | 0, _, _ => (0, (fun _ => 0))
  | n + 1, k, u_m_el_f => if n0 ≤ (nI k) then (n0, u_m_el_f) else (if i0 ≤ j0 then (f_X6_copy_L122 d i0 e0 j0 n0 n ((k + 1)) (upd u_m_el_f ((((100 * e0) + j0) + ((n0 - 1) - (nI k))).toNatClampNeg) (u_m_el_f ((((100 * d) + i0) + ((n0 - 1) - (nI k))).toNatClampNeg)))) else (f_X6_copy_L122 d i0 e0 j0 n0 n ((k + 1)) (upd u_m_el_f ((((100 * e0) + j0) + (nI k)).toNatClampNeg) (u_m_el_f ((((100 * d) + i0) + (nI k)).toNatClampNeg)))))
theorem f_X6_copy_L122_s (d : Int32) (i0 : Int32) (e0 : Int32) (j0 : Int32) (n0 : Int32) (n k : Nat) (u_m_el_f : Nat → Int32) : f_X6_copy_L122 d i0 e0 j0 n0 (n + 1) k u_m_el_f = (if n0 ≤ (nI k) then (n0, u_m_el_f) else (if i0 ≤ j0 then (f_X6_copy_L122 d i0 e0 j0 n0 n ((k + 1)) (upd u_m_el_f ((((100 * e0) + j0) + ((n0 - 1) - (nI k))).toNatClampNeg) (u_m_el_f ((((100 * d) + i0) + ((n0 - 1) - (nI k))).toNatClampNeg)))) else (f_X6_copy_L122 d i0 e0 j0 n0 n ((k + 1)) (upd u_m_el_f ((((100 * e0) + j0) + (nI k)).toNatClampNeg) (u_m_el_f ((((100 * d) + i0) + (nI k)).toNatClampNeg)))))) := rfl
def f_X6_copy (d : Int32) (i0 : Int32) (e0 : Int32) (j0 : Int32) (n0 : Int32) (m_ke_f : Nat → Int32) (m_so_f : Nat → Int32) (m_si_f : Nat → Int32) (m_el_f : Nat → Int32) : Int32 × (Nat → Int32) := if (f_X6_isShelf d) = (0 : Int32) then ((-1), m_el_f) else (if (f_X6_isShelf e0) = (0 : Int32) then ((-1), m_el_f) else (if (m_ke_f (d.toNatClampNeg)) = (0 : Int32) then ((-11), m_el_f) else (if (m_ke_f (e0.toNatClampNeg)) = (0 : Int32) then ((-11), m_el_f) else (if (m_ke_f (d.toNatClampNeg)) = (2 : Int32) then (if (m_ke_f (e0.toNatClampNeg)) = (2 : Int32) then (if (m_so_f (d.toNatClampNeg)) = (m_so_f (e0.toNatClampNeg)) then (if n0 < (0 : Int32) then ((-13), m_el_f) else (if i0 < (0 : Int32) then ((-13), m_el_f) else (if j0 < (0 : Int32) then ((-13), m_el_f) else (if ((m_si_f (d.toNatClampNeg)) - i0) < n0 then ((-13), m_el_f) else (if n0 ≤ ((m_si_f (e0.toNatClampNeg)) - j0) then (f_X6_copy_L122 d i0 e0 j0 n0 (n0.toNatClampNeg + 1) 0 m_el_f) else ((-13), m_el_f)))))) else ((-12), m_el_f)) else ((-12), m_el_f)) else ((-12), m_el_f)))))
set_option maxHeartbeats 400000 in
set_option maxRecDepth 100000 in
theorem c_X6_copy (l : Launch) (D : va_G) (cI cP cS cL : ClassId) (L : List Nat) (F : Nat → va_E) (m : Nat) (d : Int32) (i0 : Int32) (e0 : Int32) (j0 : Int32) (n0 : Int32) (m_ss : Nat) (m_im : Nat) (m_re : Nat) (m_sa : Nat) (m_ke : Nat) (m_so : Nat) (m_si : Nat) (m_el : Nat) (m_kd : Nat) (m_kt : Nat) (m_hi : Int32) (m_th : Int32) (m_po : Int32) (m_ba : Int32) (m_en : Int32) (m_tl : Int32) (m_nu : Nat) (m_ca : Nat) (m_ha : Nat) (m_hs : Int32) (m_co : Nat) (m_ke_f : Nat → Int32) (m_so_f : Nat → Int32) (m_si_f : Nat → Int32) (m_el_f : Nat → Int32) (h_m : wi L F m (eM m_ss m_im m_re m_sa m_ke m_so m_si m_el m_kd m_kt m_hi m_th m_po m_ba m_en m_tl m_nu m_ca m_ha m_hs m_co)) (h_m_ke : wi L F m_ke (eI cI 8 m_ke_f)) (h_m_so : wi L F m_so (eI cI 8 m_so_f)) (h_m_si : wi L F m_si (eI cI 8 m_si_f)) (h_m_el : wi L F m_el (eI cI 800 m_el_f)) (hsi : ∀ i, i < 8 → (m_si_f i).toInt ≤ 100) (hsi0 : ∀ i, i < 8 → 0 ≤ (m_si_f i).toInt) (ne_m_ke_m_el : m_ke ≠ m_el) (ne_m_so_m_el : m_so ≠ m_el) (ne_m_si_m_el : m_si ≠ m_el) : wMj l D cI cP cS cL yX6_copy wsX6_copy ({ frames := 2, cells := 0, slots := 0, locals := 45 } : Room) [.ref m, .int d, .int i0, .int e0, .int j0, .int n0] L F (fun r1 F1 => ∃ y9 : Int32 × (Nat → Int32), y9 = (f_X6_copy d i0 e0 j0 n0 m_ke_f m_so_f m_si_f m_el_f) ∧ r1 = y9.1 ∧ F1 m_el = (eI cI 800 y9.2) ∧ wk (fun q : Nat => q ≠ m_el ∧ True) F1 F) := by
  refine wM.of (cc := cX6_copy) (maxL := 8) (ret := (some .int)) (by decide) rfl (Nat.le_of_ble_eq_true rfl) ?_
  intro pZ eZ sZ mZ below meth cZ A ls C hl w
  obtain ⟨hx, hb, hr, hml, hts, hown, hlocks, hK, hA, hin⟩ := C
  have hown : sZ.vm.findClass RX6 = some mZ.cls := hown
  have hl : lv_has ls 8 [(0, .ref m), (1, .int d), (2, .int i0), (3, .int e0), (4, .int j0), (5, .int n0)] := hl
  have m_0 : ((.fieldLink RX6 22 "TwoThirdsModel" "kept" "[I") : Cond) ∈ wsX6_copy := by decide +kernel
  have i_X6 : ∀ w ∈ wsX60, w ∈ wsX6_copy := by decide +kernel
  have m_2 : ((.fieldLink RX6 25 "TwoThirdsModel" "sort" "[I") : Cond) ∈ wsX6_copy := by decide +kernel
  have m_3 : ((.fieldLink RX6 28 "TwoThirdsModel" "size" "[I") : Cond) ∈ wsX6_copy := by decide +kernel
  have m_4 : ((.fieldLink RX6 31 "TwoThirdsModel" "element" "[I") : Cond) ∈ wsX6_copy := by decide +kernel
  have hk : wk (fun q : Nat => q ≠ m_el ∧ True) F F := wk.rf
  have hq : f_X6_copy d i0 e0 j0 n0 m_ke_f m_so_f m_si_f m_el_f = f_X6_copy d i0 e0 j0 n0 m_ke_f m_so_f m_si_f m_el_f := rfl
  refine lv_iload_n hx hb dX6_copy_0 rfl (lv_at hl 1 rfl) ?_
  refine w_finI (w_runS (rm := ({ frames := 1, cells := 0, slots := 0, locals := 25 } : Room)) (As := [.int d]) (rest := []) (n := 1) hx hb hml hts hown hK w (c_X6_isShelf l D cI cP cS cL L _ d ) gX6_copy_X6_isShelf rfl rfl rfl (by decide +kernel) ⟨(Nat.le_of_ble_eq_true rfl), (Nat.le_of_ble_eq_true rfl)⟩ rfl hl.1 rfl (Nat.le_of_ble_eq_true rfl) dX6_copy_1 ⟨(Nat.le_of_ble_eq_true rfl), (Nat.le_of_ble_eq_true rfl)⟩) w hA (fun H locs w => ?_)
  refine lv_if_eq (tgt := 14) hx hb dX6_copy_4 (by decide) (fun c1 => ?_) (fun c1 => ?_)
  · skip
    have hq := hq.trans (if_pos c1)
    refine lv_iconst (v := (-1)) hx hb dX6_copy_14 (by decide) ?_
    exact w_iret hx hb hr hlocks w ⟨rfl, _, hq.symm, rfl, h_m_el.2, hk⟩ (Nat.le_refl _) (Nat.le_refl _) dX6_copy_15
  · skip
    have hq := hq.trans (if_neg c1)
    have hd : 0 ≤ d.toInt ∧ d.toInt < 8 := isShelf_ok c1
    refine lv_iload_n hx hb dX6_copy_7 rfl (lv_at hl 3 rfl) ?_
    refine w_finI (w_runS (rm := ({ frames := 1, cells := 0, slots := 0, locals := 25 } : Room)) (As := [.int e0]) (rest := []) (n := 1) hx hb hml hts hown hK w (c_X6_isShelf l D cI cP cS cL L _ e0 ) gX6_copy_X6_isShelf rfl rfl rfl (by decide +kernel) ⟨(Nat.le_of_ble_eq_true rfl), (Nat.le_of_ble_eq_true rfl)⟩ rfl hl.1 rfl (Nat.le_of_ble_eq_true rfl) dX6_copy_8 ⟨(Nat.le_of_ble_eq_true rfl), (Nat.le_of_ble_eq_true rfl)⟩) w hA (fun H locs w => ?_)
    refine lv_if_ne (tgt := 16) hx hb dX6_copy_11 (by decide) (fun c2 => ?_) (fun c2 => ?_)
    · skip
      have hq := hq.trans (if_neg c2)
      have hde : 0 ≤ e0.toInt ∧ e0.toInt < 8 := isShelf_ok c2
      refine lv_aload_n hx hb dX6_copy_16 rfl (lv_at hl 0 rfl) ?_
      refine w_get (v := .ref m_ke) hx hb hts i_X6 hown hK w h_m rfl 4 (by decide) (hts _ m_0) rfl dX6_copy_17 ?_
      refine lv_iload_n hx hb dX6_copy_20 rfl (lv_at hl 1 rfl) ?_
      refine w_ild (j := (d.toNatClampNeg)) hx hb hK w h_m_ke (w_in8 hd) rfl dX6_copy_21 ?_
      refine lv_if_eq (tgt := 34) hx hb dX6_copy_22 (by decide) (fun c3 => ?_) (fun c3 => ?_)
      · skip
        have hq := hq.trans (if_pos c3)
        refine lv_bipush (v := (-11)) hx hb dX6_copy_34 (by decide) ?_
        exact w_iret hx hb hr hlocks w ⟨rfl, _, hq.symm, rfl, h_m_el.2, hk⟩ (Nat.le_refl _) (Nat.le_refl _) dX6_copy_36
      · skip
        have hq := hq.trans (if_neg c3)
        refine lv_aload_n hx hb dX6_copy_25 rfl (lv_at hl 0 rfl) ?_
        refine w_get (v := .ref m_ke) hx hb hts i_X6 hown hK w h_m rfl 4 (by decide) (hts _ m_0) rfl dX6_copy_26 ?_
        refine lv_iload_n hx hb dX6_copy_29 rfl (lv_at hl 3 rfl) ?_
        refine w_ild (j := (e0.toNatClampNeg)) hx hb hK w h_m_ke (w_in8 hde) rfl dX6_copy_30 ?_
        refine lv_if_ne (tgt := 37) hx hb dX6_copy_31 (by decide) (fun c4 => ?_) (fun c4 => ?_)
        · skip
          have hq := hq.trans (if_neg c4)
          refine lv_aload_n hx hb dX6_copy_37 rfl (lv_at hl 0 rfl) ?_
          refine w_get (v := .ref m_ke) hx hb hts i_X6 hown hK w h_m rfl 4 (by decide) (hts _ m_0) rfl dX6_copy_38 ?_
          refine lv_iload_n hx hb dX6_copy_41 rfl (lv_at hl 1 rfl) ?_
          refine w_ild (j := (d.toNatClampNeg)) hx hb hK w h_m_ke (w_in8 hd) rfl dX6_copy_42 ?_
          refine lv_iconst (v := 2) hx hb dX6_copy_43 (by decide) ?_
          refine lv_icmp_ne (tgt := 72) hx hb dX6_copy_44 (by decide) (fun c5 => ?_) (fun c5 => ?_)
          · skip
            have hq := hq.trans (if_neg c5)
            refine lv_bipush (v := (-12)) hx hb dX6_copy_72 (by decide) ?_
            exact w_iret hx hb hr hlocks w ⟨rfl, _, hq.symm, rfl, h_m_el.2, hk⟩ (Nat.le_refl _) (Nat.le_refl _) dX6_copy_74
          · skip
            have hq := hq.trans (if_pos c5)
            refine lv_aload_n hx hb dX6_copy_47 rfl (lv_at hl 0 rfl) ?_
            refine w_get (v := .ref m_ke) hx hb hts i_X6 hown hK w h_m rfl 4 (by decide) (hts _ m_0) rfl dX6_copy_48 ?_
            refine lv_iload_n hx hb dX6_copy_51 rfl (lv_at hl 3 rfl) ?_
            refine w_ild (j := (e0.toNatClampNeg)) hx hb hK w h_m_ke (w_in8 hde) rfl dX6_copy_52 ?_
            refine lv_iconst (v := 2) hx hb dX6_copy_53 (by decide) ?_
            refine lv_icmp_ne (tgt := 72) hx hb dX6_copy_54 (by decide) (fun c6 => ?_) (fun c6 => ?_)
            · skip
              have hq := hq.trans (if_neg c6)
              refine lv_bipush (v := (-12)) hx hb dX6_copy_72 (by decide) ?_
              exact w_iret hx hb hr hlocks w ⟨rfl, _, hq.symm, rfl, h_m_el.2, hk⟩ (Nat.le_refl _) (Nat.le_refl _) dX6_copy_74
            · skip
              have hq := hq.trans (if_pos c6)
              refine lv_aload_n hx hb dX6_copy_57 rfl (lv_at hl 0 rfl) ?_
              refine w_get (v := .ref m_so) hx hb hts i_X6 hown hK w h_m rfl 5 (by decide) (hts _ m_2) rfl dX6_copy_58 ?_
              refine lv_iload_n hx hb dX6_copy_61 rfl (lv_at hl 1 rfl) ?_
              refine w_ild (j := (d.toNatClampNeg)) hx hb hK w h_m_so (w_in8 hd) rfl dX6_copy_62 ?_
              refine lv_aload_n hx hb dX6_copy_63 rfl (lv_at hl 0 rfl) ?_
              refine w_get (v := .ref m_so) hx hb hts i_X6 hown hK w h_m rfl 5 (by decide) (hts _ m_2) rfl dX6_copy_64 ?_
              refine lv_iload_n hx hb dX6_copy_67 rfl (lv_at hl 3 rfl) ?_
              refine w_ild (j := (e0.toNatClampNeg)) hx hb hK w h_m_so (w_in8 hde) rfl dX6_copy_68 ?_
              refine lv_icmp_eq (tgt := 75) hx hb dX6_copy_69 (by decide) (fun c7 => ?_) (fun c7 => ?_)
              · skip
                have hq := hq.trans (if_pos c7)
                refine lv_iload hx hb dX6_copy_75 (lv_at hl 5 rfl) ?_
                refine lv_if_lt (tgt := 116) hx hb dX6_copy_77 (by decide) (fun c8 => ?_) (fun c8 => ?_)
                · skip
                  have hq := hq.trans (if_pos c8)
                  refine lv_bipush (v := (-13)) hx hb dX6_copy_116 (by decide) ?_
                  exact w_iret hx hb hr hlocks w ⟨rfl, _, hq.symm, rfl, h_m_el.2, hk⟩ (Nat.le_refl _) (Nat.le_refl _) dX6_copy_118
                · skip
                  have hq := hq.trans (if_neg c8)
                  refine lv_iload_n hx hb dX6_copy_80 rfl (lv_at hl 2 rfl) ?_
                  refine lv_if_lt (tgt := 116) hx hb dX6_copy_81 (by decide) (fun c9 => ?_) (fun c9 => ?_)
                  · skip
                    have hq := hq.trans (if_pos c9)
                    refine lv_bipush (v := (-13)) hx hb dX6_copy_116 (by decide) ?_
                    exact w_iret hx hb hr hlocks w ⟨rfl, _, hq.symm, rfl, h_m_el.2, hk⟩ (Nat.le_refl _) (Nat.le_refl _) dX6_copy_118
                  · skip
                    have hq := hq.trans (if_neg c9)
                    refine lv_iload hx hb dX6_copy_84 (lv_at hl 4 rfl) ?_
                    refine lv_if_lt (tgt := 116) hx hb dX6_copy_86 (by decide) (fun c10 => ?_) (fun c10 => ?_)
                    · skip
                      have hq := hq.trans (if_pos c10)
                      refine lv_bipush (v := (-13)) hx hb dX6_copy_116 (by decide) ?_
                      exact w_iret hx hb hr hlocks w ⟨rfl, _, hq.symm, rfl, h_m_el.2, hk⟩ (Nat.le_refl _) (Nat.le_refl _) dX6_copy_118
                    · skip
                      have hq := hq.trans (if_neg c10)
                      refine lv_iload hx hb dX6_copy_89 (lv_at hl 5 rfl) ?_
                      refine lv_aload_n hx hb dX6_copy_91 rfl (lv_at hl 0 rfl) ?_
                      refine w_get (v := .ref m_si) hx hb hts i_X6 hown hK w h_m rfl 6 (by decide) (hts _ m_3) rfl dX6_copy_92 ?_
                      refine lv_iload_n hx hb dX6_copy_95 rfl (lv_at hl 1 rfl) ?_
                      refine w_ild (j := (d.toNatClampNeg)) hx hb hK w h_m_si (w_in8 hd) rfl dX6_copy_96 ?_
                      refine lv_iload_n hx hb dX6_copy_97 rfl (lv_at hl 2 rfl) ?_
                      refine lv_isub hx hb dX6_copy_98 ?_
                      refine lv_icmp_gt (tgt := 116) hx hb dX6_copy_99 (by decide) (fun c11 => ?_) (fun c11 => ?_)
                      · skip
                        have hq := hq.trans (if_pos c11)
                        refine lv_bipush (v := (-13)) hx hb dX6_copy_116 (by decide) ?_
                        exact w_iret hx hb hr hlocks w ⟨rfl, _, hq.symm, rfl, h_m_el.2, hk⟩ (Nat.le_refl _) (Nat.le_refl _) dX6_copy_118
                      · skip
                        have hq := hq.trans (if_neg c11)
                        have hA : 0 ≤ i0.toInt ∧ 0 ≤ n0.toInt ∧ i0.toInt + n0.toInt ≤ 100 := cp_ok (by assumption) (by assumption) (hsi0 _ (w_d8 hd)) (hsi _ (w_d8 hd)) c11
                        refine lv_iload hx hb dX6_copy_102 (lv_at hl 5 rfl) ?_
                        refine lv_aload_n hx hb dX6_copy_104 rfl (lv_at hl 0 rfl) ?_
                        refine w_get (v := .ref m_si) hx hb hts i_X6 hown hK w h_m rfl 6 (by decide) (hts _ m_3) rfl dX6_copy_105 ?_
                        refine lv_iload_n hx hb dX6_copy_108 rfl (lv_at hl 3 rfl) ?_
                        refine w_ild (j := (e0.toNatClampNeg)) hx hb hK w h_m_si (w_in8 hde) rfl dX6_copy_109 ?_
                        refine lv_iload hx hb dX6_copy_110 (lv_at hl 4 rfl) ?_
                        refine lv_isub hx hb dX6_copy_112 ?_
                        refine lv_icmp_le (tgt := 119) hx hb dX6_copy_113 (by decide) (fun c12 => ?_) (fun c12 => ?_)
                        · skip
                          have hq := hq.trans (if_pos c12)
                          have hB : 0 ≤ j0.toInt ∧ 0 ≤ n0.toInt ∧ j0.toInt + n0.toInt ≤ 100 := cp_ok (by assumption) (by assumption) (hsi0 _ (w_d8 hde)) (hsi _ (w_d8 hde)) (Int32.not_lt.mpr c12)
                          refine lv_iconst (v := 0) hx hb dX6_copy_119 (by decide) ?_
                          refine lv_istore (lv' := [(6, .int 0), (0, .ref m), (1, .int d), (2, .int i0), (3, .int e0), (4, .int j0), (5, .int n0)]) hx hb dX6_copy_120 hl (by decide) rfl (fun ls hl => ?_)
                          have hL122 : ∀ (n k : Nat) (u_m_el_f : Nat → Int32) (F1 : Nat → va_E) (H : Heap) (locs : List Loc) (ls : Array Slot), k ≤ n0.toNatClampNeg → n0.toNatClampNeg - k < n → f_X6_copy d i0 e0 j0 n0 m_ke_f m_so_f m_si_f m_el_f = f_X6_copy_L122 d i0 e0 j0 n0 n k u_m_el_f → lv_has ls 8 [(0, .ref m), (1, .int d), (2, .int i0), (3, .int e0), (4, .int j0), (5, .int n0), (6, .int (nI k))] → ww D A sZ.heap L F1 H locs → (wi L F1 m (eM m_ss m_im m_re m_sa m_ke m_so m_si m_el m_kd m_kt m_hi m_th m_po m_ba m_en m_tl m_nu m_ca m_ha m_hs m_co)) → (wi L F1 m_ke (eI cI 8 m_ke_f)) → (wi L F1 m_so (eI cI 8 m_so_f)) → (wi L F1 m_si (eI cI 8 m_si_f)) → (wi L F1 m_el (eI cI 800 u_m_el_f)) → wk (fun q : Nat => q ≠ m_el ∧ True) F1 F → W pZ l eZ ({ frames := 2, cells := 0, slots := 0, locals := 45 } : Room) sZ mZ [.ref m, .int d, .int i0, .int e0, .int j0, .int n0].toArray below meth cZ H locs 0 0 (MQ below (wQi D A (fun r1 L1 F1 => L1 = L ∧ ∃ y9 : Int32 × (Nat → Int32), y9 = (f_X6_copy d i0 e0 j0 n0 m_ke_f m_so_f m_si_f m_el_f) ∧ r1 = y9.1 ∧ F1 m_el = (eI cI 800 y9.2) ∧ wk (fun q : Nat => q ≠ m_el ∧ True) F1 F)) [.ref m, .int d, .int i0, .int e0, .int j0, .int n0].toArray sZ 0 0 A) (F0 mZ 122 ls []) := by
                            intro n; induction n with
                            | zero => intro k u_m_el_f F1 H locs ls hkT hmeas; exact absurd hmeas (Nat.not_lt_zero _)
                            | succ n ih =>
                              intro k u_m_el_f F1 H locs ls hkT hmeas hq hl w h_m h_m_ke h_m_so h_m_si h_m_el hk
                              have hk31 : k < 2147483648 := Nat.lt_of_le_of_lt hkT (w_clamp_lt _)
                              have hq := hq.trans (f_X6_copy_L122_s d i0 e0 j0 n0 n k u_m_el_f)
                              refine lv_iload hx hb dX6_copy_122 (lv_at hl 6 rfl) ?_
                              refine lv_iload hx hb dX6_copy_124 (lv_at hl 5 rfl) ?_
                              refine lv_icmp_ge (tgt := 184) hx hb dX6_copy_126 (by decide) (fun c13 => ?_) (fun c13 => ?_)
                              · skip
                                have hq := hq.trans (if_pos c13)
                                refine lv_iload hx hb dX6_copy_184 (lv_at hl 5 rfl) ?_
                                exact w_iret hx hb hr hlocks w ⟨rfl, _, hq.symm, rfl, h_m_el.2, hk⟩ (Nat.le_refl _) (Nat.le_refl _) dX6_copy_186
                              · skip
                                have hq := hq.trans (if_neg c13)
                                have hlt126 : k < n0.toNatClampNeg := w_ltk hk31 c13
                                refine lv_iload_n hx hb dX6_copy_129 rfl (lv_at hl 2 rfl) ?_
                                refine lv_iload hx hb dX6_copy_130 (lv_at hl 4 rfl) ?_
                                refine lv_icmp_le (tgt := 140) hx hb dX6_copy_132 (by decide) (fun c14 => ?_) (fun c14 => ?_)
                                · skip
                                  have hq := hq.trans (if_pos c14)
                                  refine lv_iload hx hb dX6_copy_140 (lv_at hl 5 rfl) ?_
                                  refine lv_iconst (v := 1) hx hb dX6_copy_142 (by decide) ?_
                                  refine lv_isub hx hb dX6_copy_143 ?_
                                  refine lv_iload hx hb dX6_copy_144 (lv_at hl 6 rfl) ?_
                                  refine lv_isub hx hb dX6_copy_146 ?_
                                  refine lv_istore (lv' := [(7, .int ((n0 - 1) - (nI k))), (0, .ref m), (1, .int d), (2, .int i0), (3, .int e0), (4, .int j0), (5, .int n0), (6, .int (nI k))]) hx hb dX6_copy_147 hl (by decide) rfl (fun ls hl => ?_)
                                  refine lv_aload_n hx hb dX6_copy_149 rfl (lv_at hl 1 rfl) ?_
                                  refine w_get (v := .ref m_el) hx hb hts i_X6 hown hK w h_m rfl 7 (by decide) (hts _ m_4) rfl dX6_copy_150 ?_
                                  refine lv_bipush (v := 100) hx hb dX6_copy_153 (by decide) ?_
                                  refine lv_iload_n hx hb dX6_copy_155 rfl (lv_at hl 4 rfl) ?_
                                  refine lv_imul hx hb dX6_copy_156 ?_
                                  refine lv_iload hx hb dX6_copy_157 (lv_at hl 5 rfl) ?_
                                  refine lv_iadd hx hb dX6_copy_159 ?_
                                  refine lv_iload hx hb dX6_copy_160 (lv_at hl 0 rfl) ?_
                                  refine lv_iadd hx hb dX6_copy_162 ?_
                                  refine lv_aload_n hx hb dX6_copy_163 rfl (lv_at hl 1 rfl) ?_
                                  refine w_get (v := .ref m_el) hx hb hts i_X6 hown hK w h_m rfl 7 (by decide) (hts _ m_4) rfl dX6_copy_164 ?_
                                  refine lv_bipush (v := 100) hx hb dX6_copy_167 (by decide) ?_
                                  refine lv_iload_n hx hb dX6_copy_169 rfl (lv_at hl 2 rfl) ?_
                                  refine lv_imul hx hb dX6_copy_170 ?_
                                  refine lv_iload_n hx hb dX6_copy_171 rfl (lv_at hl 3 rfl) ?_
                                  refine lv_iadd hx hb dX6_copy_172 ?_
                                  refine lv_iload hx hb dX6_copy_173 (lv_at hl 0 rfl) ?_
                                  refine lv_iadd hx hb dX6_copy_175 ?_
                                  refine w_ild (j := ((((100 * d) + i0) + ((n0 - 1) - (nI k))).toNatClampNeg)) hx hb hK w h_m_el (by first | exact cpA hd hA hlt126 | exact cpB hd hA hlt126) rfl dX6_copy_176 ?_
                                  have ho15 := h_m_el
                                  refine w_ist (j := ((((100 * e0) + j0) + ((n0 - 1) - (nI k))).toNatClampNeg)) hx hb hK w h_m_el (by first | exact cpA hde hB hlt126 | exact cpB hde hB hlt126) rfl dX6_copy_177 (fun H locs w h_m_el => ?_)
                                  have h_m := h_m.upw h_m_el (wi.ne h_m ho15 (by intro h; cases h))
                                  have h_m_ke := h_m_ke.upw h_m_el ne_m_ke_m_el
                                  have h_m_so := h_m_so.upw h_m_el ne_m_so_m_el
                                  have h_m_si := h_m_si.upw h_m_el ne_m_si_m_el
                                  have hk := hk.upw h_m_el (fun q h => h.1)
                                  refine lv_iinc (v := (nI (k + 1))) (lv' := [(6, .int (nI (k + 1))), (7, .int ((n0 - 1) - (nI k))), (0, .ref m), (1, .int d), (2, .int i0), (3, .int e0), (4, .int j0), (5, .int n0)]) hx hb dX6_copy_178 hl (k := 7) rfl (w_inc _) (by decide) rfl (fun ls hl => ?_)
                                  refine lv_goto (tgt := 122) hx hb dX6_copy_181 (by decide) ?_
                                  exact ih ((k + 1)) (upd u_m_el_f ((((100 * e0) + j0) + ((n0 - 1) - (nI k))).toNatClampNeg) (u_m_el_f ((((100 * d) + i0) + ((n0 - 1) - (nI k))).toNatClampNeg))) _ _ _ _ (by omega) (by omega) hq (lv_sub hl [2, 3, 4, 5, 6, 7, 0] rfl) w h_m h_m_ke h_m_so h_m_si h_m_el hk
                                · skip
                                  have hq := hq.trans (if_neg c14)
                                  refine lv_iload hx hb dX6_copy_135 (lv_at hl 6 rfl) ?_
                                  refine lv_goto (tgt := 147) hx hb dX6_copy_137 (by decide) ?_
                                  refine lv_istore (lv' := [(7, .int (nI k)), (0, .ref m), (1, .int d), (2, .int i0), (3, .int e0), (4, .int j0), (5, .int n0), (6, .int (nI k))]) hx hb dX6_copy_147 hl (by decide) rfl (fun ls hl => ?_)
                                  refine lv_aload_n hx hb dX6_copy_149 rfl (lv_at hl 1 rfl) ?_
                                  refine w_get (v := .ref m_el) hx hb hts i_X6 hown hK w h_m rfl 7 (by decide) (hts _ m_4) rfl dX6_copy_150 ?_
                                  refine lv_bipush (v := 100) hx hb dX6_copy_153 (by decide) ?_
                                  refine lv_iload_n hx hb dX6_copy_155 rfl (lv_at hl 4 rfl) ?_
                                  refine lv_imul hx hb dX6_copy_156 ?_
                                  refine lv_iload hx hb dX6_copy_157 (lv_at hl 5 rfl) ?_
                                  refine lv_iadd hx hb dX6_copy_159 ?_
                                  refine lv_iload hx hb dX6_copy_160 (lv_at hl 0 rfl) ?_
                                  refine lv_iadd hx hb dX6_copy_162 ?_
                                  refine lv_aload_n hx hb dX6_copy_163 rfl (lv_at hl 1 rfl) ?_
                                  refine w_get (v := .ref m_el) hx hb hts i_X6 hown hK w h_m rfl 7 (by decide) (hts _ m_4) rfl dX6_copy_164 ?_
                                  refine lv_bipush (v := 100) hx hb dX6_copy_167 (by decide) ?_
                                  refine lv_iload_n hx hb dX6_copy_169 rfl (lv_at hl 2 rfl) ?_
                                  refine lv_imul hx hb dX6_copy_170 ?_
                                  refine lv_iload_n hx hb dX6_copy_171 rfl (lv_at hl 3 rfl) ?_
                                  refine lv_iadd hx hb dX6_copy_172 ?_
                                  refine lv_iload hx hb dX6_copy_173 (lv_at hl 0 rfl) ?_
                                  refine lv_iadd hx hb dX6_copy_175 ?_
                                  refine w_ild (j := ((((100 * d) + i0) + (nI k)).toNatClampNeg)) hx hb hK w h_m_el (by first | exact cpA hd hA hlt126 | exact cpB hd hA hlt126) rfl dX6_copy_176 ?_
                                  have ho16 := h_m_el
                                  refine w_ist (j := ((((100 * e0) + j0) + (nI k)).toNatClampNeg)) hx hb hK w h_m_el (by first | exact cpA hde hB hlt126 | exact cpB hde hB hlt126) rfl dX6_copy_177 (fun H locs w h_m_el => ?_)
                                  have h_m := h_m.upw h_m_el (wi.ne h_m ho16 (by intro h; cases h))
                                  have h_m_ke := h_m_ke.upw h_m_el ne_m_ke_m_el
                                  have h_m_so := h_m_so.upw h_m_el ne_m_so_m_el
                                  have h_m_si := h_m_si.upw h_m_el ne_m_si_m_el
                                  have hk := hk.upw h_m_el (fun q h => h.1)
                                  refine lv_iinc (v := (nI (k + 1))) (lv' := [(6, .int (nI (k + 1))), (7, .int (nI k)), (0, .ref m), (1, .int d), (2, .int i0), (3, .int e0), (4, .int j0), (5, .int n0)]) hx hb dX6_copy_178 hl (k := 7) rfl (w_inc _) (by decide) rfl (fun ls hl => ?_)
                                  refine lv_goto (tgt := 122) hx hb dX6_copy_181 (by decide) ?_
                                  exact ih ((k + 1)) (upd u_m_el_f ((((100 * e0) + j0) + (nI k)).toNatClampNeg) (u_m_el_f ((((100 * d) + i0) + (nI k)).toNatClampNeg))) _ _ _ _ (by omega) (by omega) hq (lv_sub hl [2, 3, 4, 5, 6, 7, 0] rfl) w h_m h_m_ke h_m_so h_m_si h_m_el hk
                          exact hL122 (n0.toNatClampNeg + 1) 0 m_el_f _ _ _ _ (Nat.zero_le _) (by omega) hq (lv_sub hl [1, 2, 3, 4, 5, 6, 0] rfl) w h_m h_m_ke h_m_so h_m_si h_m_el hk
                        · skip
                          have hq := hq.trans (if_neg c12)
                          refine lv_bipush (v := (-13)) hx hb dX6_copy_116 (by decide) ?_
                          exact w_iret hx hb hr hlocks w ⟨rfl, _, hq.symm, rfl, h_m_el.2, hk⟩ (Nat.le_refl _) (Nat.le_refl _) dX6_copy_118
              · skip
                have hq := hq.trans (if_neg c7)
                refine lv_bipush (v := (-12)) hx hb dX6_copy_72 (by decide) ?_
                exact w_iret hx hb hr hlocks w ⟨rfl, _, hq.symm, rfl, h_m_el.2, hk⟩ (Nat.le_refl _) (Nat.le_refl _) dX6_copy_74
        · skip
          have hq := hq.trans (if_pos c4)
          refine lv_bipush (v := (-11)) hx hb dX6_copy_34 (by decide) ?_
          exact w_iret hx hb hr hlocks w ⟨rfl, _, hq.symm, rfl, h_m_el.2, hk⟩ (Nat.le_refl _) (Nat.le_refl _) dX6_copy_36
    · skip
      have hq := hq.trans (if_pos c2)
      refine lv_iconst (v := (-1)) hx hb dX6_copy_14 (by decide) ?_
      exact w_iret hx hb hr hlocks w ⟨rfl, _, hq.symm, rfl, h_m_el.2, hk⟩ (Nat.le_refl _) (Nat.le_refl _) dX6_copy_15
def f_X6_wrongKept (d : Int32) (m_ke_f : Nat → Int32) : Int32 := if (f_X6_isShelf d) = (0 : Int32) then (-1) else (if (m_ke_f (d.toNatClampNeg)) = (0 : Int32) then (-11) else (if (m_ke_f (d.toNatClampNeg)) = (1 : Int32) then 0 else (-12)))
set_option maxHeartbeats 400000 in
set_option maxRecDepth 100000 in
theorem c_X6_wrongKept (l : Launch) (D : va_G) (cI cP cS cL : ClassId) (L : List Nat) (F : Nat → va_E) (m : Nat) (d : Int32) (m_ss : Nat) (m_im : Nat) (m_re : Nat) (m_sa : Nat) (m_ke : Nat) (m_so : Nat) (m_si : Nat) (m_el : Nat) (m_kd : Nat) (m_kt : Nat) (m_hi : Int32) (m_th : Int32) (m_po : Int32) (m_ba : Int32) (m_en : Int32) (m_tl : Int32) (m_nu : Nat) (m_ca : Nat) (m_ha : Nat) (m_hs : Int32) (m_co : Nat) (m_ke_f : Nat → Int32) (h_m : wi L F m (eM m_ss m_im m_re m_sa m_ke m_so m_si m_el m_kd m_kt m_hi m_th m_po m_ba m_en m_tl m_nu m_ca m_ha m_hs m_co)) (h_m_ke : wi L F m_ke (eI cI 8 m_ke_f)) : wMI l D cI cP cS cL yX6_wrongKept wsX6_wrongKept ({ frames := 2, cells := 0, slots := 0, locals := 45 } : Room) [.ref m, .int d] L F (f_X6_wrongKept d m_ke_f) F := by
  refine wM.of (cc := cX6_wrongKept) (maxL := 2) (ret := (some .int)) (by decide) rfl (Nat.le_of_ble_eq_true rfl) ?_
  intro pZ eZ sZ mZ below meth cZ A ls C hl w
  obtain ⟨hx, hb, hr, hml, hts, hown, hlocks, hK, hA, hin⟩ := C
  have hown : sZ.vm.findClass RX6 = some mZ.cls := hown
  have hl : lv_has ls 2 [(0, .ref m), (1, .int d)] := hl
  have m_0 : ((.fieldLink RX6 22 "TwoThirdsModel" "kept" "[I") : Cond) ∈ wsX6_wrongKept := by decide +kernel
  have i_X6 : ∀ w ∈ wsX60, w ∈ wsX6_wrongKept := by decide +kernel
  have hq : f_X6_wrongKept d m_ke_f = f_X6_wrongKept d m_ke_f := rfl
  refine lv_iload_n hx hb dX6_wrongKept_0 rfl (lv_at hl 1 rfl) ?_
  refine w_finI (w_runS (rm := ({ frames := 1, cells := 0, slots := 0, locals := 25 } : Room)) (As := [.int d]) (rest := []) (n := 1) hx hb hml hts hown hK w (c_X6_isShelf l D cI cP cS cL L _ d ) gX6_wrongKept_X6_isShelf rfl rfl rfl (by decide +kernel) ⟨(Nat.le_of_ble_eq_true rfl), (Nat.le_of_ble_eq_true rfl)⟩ rfl hl.1 rfl (Nat.le_of_ble_eq_true rfl) dX6_wrongKept_1 ⟨(Nat.le_of_ble_eq_true rfl), (Nat.le_of_ble_eq_true rfl)⟩) w hA (fun H locs w => ?_)
  refine lv_if_ne (tgt := 11) hx hb dX6_wrongKept_4 (by decide) (fun c1 => ?_) (fun c1 => ?_)
  · skip
    have hq := hq.trans (if_neg c1)
    have hd : 0 ≤ d.toInt ∧ d.toInt < 8 := isShelf_ok c1
    refine lv_aload_n hx hb dX6_wrongKept_11 rfl (lv_at hl 0 rfl) ?_
    refine w_get (v := .ref m_ke) hx hb hts i_X6 hown hK w h_m rfl 4 (by decide) (hts _ m_0) rfl dX6_wrongKept_12 ?_
    refine lv_iload_n hx hb dX6_wrongKept_15 rfl (lv_at hl 1 rfl) ?_
    refine w_ild (j := (d.toNatClampNeg)) hx hb hK w h_m_ke (w_in8 hd) rfl dX6_wrongKept_16 ?_
    refine lv_if_ne (tgt := 25) hx hb dX6_wrongKept_17 (by decide) (fun c2 => ?_) (fun c2 => ?_)
    · skip
      have hq := hq.trans (if_neg c2)
      refine lv_aload_n hx hb dX6_wrongKept_25 rfl (lv_at hl 0 rfl) ?_
      refine w_get (v := .ref m_ke) hx hb hts i_X6 hown hK w h_m rfl 4 (by decide) (hts _ m_0) rfl dX6_wrongKept_26 ?_
      refine lv_iload_n hx hb dX6_wrongKept_29 rfl (lv_at hl 1 rfl) ?_
      refine w_ild (j := (d.toNatClampNeg)) hx hb hK w h_m_ke (w_in8 hd) rfl dX6_wrongKept_30 ?_
      refine lv_iconst (v := 1) hx hb dX6_wrongKept_31 (by decide) ?_
      refine lv_icmp_ne (tgt := 39) hx hb dX6_wrongKept_32 (by decide) (fun c3 => ?_) (fun c3 => ?_)
      · skip
        have hq := hq.trans (if_neg c3)
        refine lv_bipush (v := (-12)) hx hb dX6_wrongKept_39 (by decide) ?_
        exact w_iret hx hb hr hlocks w ⟨hq.symm, rfl, rfl⟩ (Nat.le_refl _) (Nat.le_refl _) dX6_wrongKept_41
      · skip
        have hq := hq.trans (if_pos c3)
        refine lv_iconst (v := 0) hx hb dX6_wrongKept_35 (by decide) ?_
        refine lv_goto (tgt := 41) hx hb dX6_wrongKept_36 (by decide) ?_
        exact w_iret hx hb hr hlocks w ⟨hq.symm, rfl, rfl⟩ (Nat.le_refl _) (Nat.le_refl _) dX6_wrongKept_41
    · skip
      have hq := hq.trans (if_pos c2)
      refine lv_bipush (v := (-11)) hx hb dX6_wrongKept_20 (by decide) ?_
      refine lv_goto (tgt := 41) hx hb dX6_wrongKept_22 (by decide) ?_
      exact w_iret hx hb hr hlocks w ⟨hq.symm, rfl, rfl⟩ (Nat.le_refl _) (Nat.le_refl _) dX6_wrongKept_41
  · skip
    have hq := hq.trans (if_pos c1)
    refine lv_iconst (v := (-1)) hx hb dX6_wrongKept_7 (by decide) ?_
    refine lv_goto (tgt := 41) hx hb dX6_wrongKept_8 (by decide) ?_
    exact w_iret hx hb hr hlocks w ⟨hq.symm, rfl, rfl⟩ (Nat.le_refl _) (Nat.le_refl _) dX6_wrongKept_41
theorem wrongKept_ok {d : Int32} {ke : Nat → Int32} (c : f_X6_wrongKept d ke = 0) : 0 ≤ d.toInt ∧ d.toInt < 8 := by
  unfold f_X6_wrongKept at c
  by_cases h : f_X6_isShelf d = 0
  · rw [if_pos h] at c; exact absurd c (by decide)
  · exact isShelf_ok h
def f_X6_depth (d : Int32) (m_ke_f : Nat → Int32) (m_kd_f : Nat → Int32) : Int32 := if (f_X6_wrongKept d m_ke_f) = (0 : Int32) then (m_kd_f (d.toNatClampNeg)) else ((-1000000000) + (f_X6_wrongKept d m_ke_f))
set_option maxHeartbeats 400000 in
set_option maxRecDepth 100000 in
theorem c_X6_depth (l : Launch) (D : va_G) (cI cP cS cL : ClassId) (L : List Nat) (F : Nat → va_E) (m : Nat) (d : Int32) (m_ss : Nat) (m_im : Nat) (m_re : Nat) (m_sa : Nat) (m_ke : Nat) (m_so : Nat) (m_si : Nat) (m_el : Nat) (m_kd : Nat) (m_kt : Nat) (m_hi : Int32) (m_th : Int32) (m_po : Int32) (m_ba : Int32) (m_en : Int32) (m_tl : Int32) (m_nu : Nat) (m_ca : Nat) (m_ha : Nat) (m_hs : Int32) (m_co : Nat) (m_ke_f : Nat → Int32) (m_kd_f : Nat → Int32) (h_m : wi L F m (eM m_ss m_im m_re m_sa m_ke m_so m_si m_el m_kd m_kt m_hi m_th m_po m_ba m_en m_tl m_nu m_ca m_ha m_hs m_co)) (h_m_ke : wi L F m_ke (eI cI 8 m_ke_f)) (h_m_kd : wi L F m_kd (eI cI 8 m_kd_f)) : wMI l D cI cP cS cL yX6_depth wsX6_depth ({ frames := 3, cells := 0, slots := 0, locals := 66 } : Room) [.ref m, .int d] L F (f_X6_depth d m_ke_f m_kd_f) F := by
  refine wM.of (cc := cX6_depth) (maxL := 3) (ret := (some .int)) (by decide) rfl (Nat.le_of_ble_eq_true rfl) ?_
  intro pZ eZ sZ mZ below meth cZ A ls C hl w
  obtain ⟨hx, hb, hr, hml, hts, hown, hlocks, hK, hA, hin⟩ := C
  have hown : sZ.vm.findClass RX6 = some mZ.cls := hown
  have hl : lv_has ls 3 [(0, .ref m), (1, .int d)] := hl
  have m_0 : ((.fieldLink RX6 34 "TwoThirdsModel" "keptDepth" "[I") : Cond) ∈ wsX6_depth := by decide +kernel
  have i_X6 : ∀ w ∈ wsX60, w ∈ wsX6_depth := by decide +kernel
  have m_2 : ((.constant RX6 242 (-1000000000)) : Cond) ∈ wsX6_depth := by decide +kernel
  have hq : f_X6_depth d m_ke_f m_kd_f = f_X6_depth d m_ke_f m_kd_f := rfl
  refine lv_aload_n hx hb dX6_depth_0 rfl (lv_at hl 0 rfl) ?_
  refine lv_iload_n hx hb dX6_depth_1 rfl (lv_at hl 1 rfl) ?_
  refine w_finI (w_runV (rm := ({ frames := 2, cells := 0, slots := 0, locals := 45 } : Room)) (As := [.int d]) (rest := []) (n := 1) hx hb hml hts hown hK w (c_X6_wrongKept l D cI cP cS cL L _ m d m_ss m_im m_re m_sa m_ke m_so m_si m_el m_kd m_kt m_hi m_th m_po m_ba m_en m_tl m_nu m_ca m_ha m_hs m_co m_ke_f h_m h_m_ke) gX6_depth_X6_wrongKept rfl rfl rfl (by decide +kernel) ⟨(Nat.le_of_ble_eq_true rfl), (Nat.le_of_ble_eq_true rfl)⟩ h_m rfl rfl hl.1 rfl (Nat.le_of_ble_eq_true rfl) dX6_depth_2 ⟨(Nat.le_of_ble_eq_true rfl), (Nat.le_of_ble_eq_true rfl)⟩) w hA (fun H locs w => ?_)
  refine lv_istore_n (lv' := [(2, .int (f_X6_wrongKept d m_ke_f)), (0, .ref m), (1, .int d)]) hx hb dX6_depth_5 rfl hl (by decide) rfl (fun ls hl => ?_)
  refine lv_iload_n hx hb dX6_depth_6 rfl (lv_at hl 0 rfl) ?_
  refine lv_if_eq (tgt := 17) hx hb dX6_depth_7 (by decide) (fun c1 => ?_) (fun c1 => ?_)
  · skip
    have hq := hq.trans (if_pos c1)
    have hd : 0 ≤ d.toInt ∧ d.toInt < 8 := wrongKept_ok c1
    refine lv_aload_n hx hb dX6_depth_17 rfl (lv_at hl 1 rfl) ?_
    refine w_get (v := .ref m_kd) hx hb hts i_X6 hown hK w h_m rfl 8 (by decide) (hts _ m_0) rfl dX6_depth_18 ?_
    refine lv_iload_n hx hb dX6_depth_21 rfl (lv_at hl 2 rfl) ?_
    refine w_ild (j := (d.toNatClampNeg)) hx hb hK w h_m_kd (w_in8 hd) rfl dX6_depth_22 ?_
    exact w_iret hx hb hr hlocks w ⟨hq.symm, rfl, rfl⟩ (Nat.le_refl _) (Nat.le_refl _) dX6_depth_23
  · skip
    have hq := hq.trans (if_neg c1)
    refine lv_ldc (v := (-1000000000)) hx hb hown (hts _ m_2) dX6_depth_10 ?_
    refine lv_iload_n hx hb dX6_depth_12 rfl (lv_at hl 0 rfl) ?_
    refine lv_iadd hx hb dX6_depth_13 ?_
    refine lv_goto (tgt := 23) hx hb dX6_depth_14 (by decide) ?_
    exact w_iret hx hb hr hlocks w ⟨hq.symm, rfl, rfl⟩ (Nat.le_refl _) (Nat.le_refl _) dX6_depth_23
def f_X6_toss (d : Int32) (m_ke_f : Nat → Int32) (m_kt_f : Nat → Int32) : Int32 := if (f_X6_wrongKept d m_ke_f) = (0 : Int32) then (m_kt_f (d.toNatClampNeg)) else (f_X6_wrongKept d m_ke_f)
set_option maxHeartbeats 400000 in
set_option maxRecDepth 100000 in
theorem c_X6_toss (l : Launch) (D : va_G) (cI cP cS cL : ClassId) (L : List Nat) (F : Nat → va_E) (m : Nat) (d : Int32) (m_ss : Nat) (m_im : Nat) (m_re : Nat) (m_sa : Nat) (m_ke : Nat) (m_so : Nat) (m_si : Nat) (m_el : Nat) (m_kd : Nat) (m_kt : Nat) (m_hi : Int32) (m_th : Int32) (m_po : Int32) (m_ba : Int32) (m_en : Int32) (m_tl : Int32) (m_nu : Nat) (m_ca : Nat) (m_ha : Nat) (m_hs : Int32) (m_co : Nat) (m_ke_f : Nat → Int32) (m_kt_f : Nat → Int32) (h_m : wi L F m (eM m_ss m_im m_re m_sa m_ke m_so m_si m_el m_kd m_kt m_hi m_th m_po m_ba m_en m_tl m_nu m_ca m_ha m_hs m_co)) (h_m_ke : wi L F m_ke (eI cI 8 m_ke_f)) (h_m_kt : wi L F m_kt (eI cI 8 m_kt_f)) : wMI l D cI cP cS cL yX6_toss wsX6_toss ({ frames := 3, cells := 0, slots := 0, locals := 66 } : Room) [.ref m, .int d] L F (f_X6_toss d m_ke_f m_kt_f) F := by
  refine wM.of (cc := cX6_toss) (maxL := 3) (ret := (some .int)) (by decide) rfl (Nat.le_of_ble_eq_true rfl) ?_
  intro pZ eZ sZ mZ below meth cZ A ls C hl w
  obtain ⟨hx, hb, hr, hml, hts, hown, hlocks, hK, hA, hin⟩ := C
  have hown : sZ.vm.findClass RX6 = some mZ.cls := hown
  have hl : lv_has ls 3 [(0, .ref m), (1, .int d)] := hl
  have m_0 : ((.fieldLink RX6 37 "TwoThirdsModel" "keptToss" "[I") : Cond) ∈ wsX6_toss := by decide +kernel
  have i_X6 : ∀ w ∈ wsX60, w ∈ wsX6_toss := by decide +kernel
  have hq : f_X6_toss d m_ke_f m_kt_f = f_X6_toss d m_ke_f m_kt_f := rfl
  refine lv_aload_n hx hb dX6_toss_0 rfl (lv_at hl 0 rfl) ?_
  refine lv_iload_n hx hb dX6_toss_1 rfl (lv_at hl 1 rfl) ?_
  refine w_finI (w_runV (rm := ({ frames := 2, cells := 0, slots := 0, locals := 45 } : Room)) (As := [.int d]) (rest := []) (n := 1) hx hb hml hts hown hK w (c_X6_wrongKept l D cI cP cS cL L _ m d m_ss m_im m_re m_sa m_ke m_so m_si m_el m_kd m_kt m_hi m_th m_po m_ba m_en m_tl m_nu m_ca m_ha m_hs m_co m_ke_f h_m h_m_ke) gX6_toss_X6_wrongKept rfl rfl rfl (by decide +kernel) ⟨(Nat.le_of_ble_eq_true rfl), (Nat.le_of_ble_eq_true rfl)⟩ h_m rfl rfl hl.1 rfl (Nat.le_of_ble_eq_true rfl) dX6_toss_2 ⟨(Nat.le_of_ble_eq_true rfl), (Nat.le_of_ble_eq_true rfl)⟩) w hA (fun H locs w => ?_)
  refine lv_istore_n (lv' := [(2, .int (f_X6_wrongKept d m_ke_f)), (0, .ref m), (1, .int d)]) hx hb dX6_toss_5 rfl hl (by decide) rfl (fun ls hl => ?_)
  refine lv_iload_n hx hb dX6_toss_6 rfl (lv_at hl 0 rfl) ?_
  refine lv_if_eq (tgt := 14) hx hb dX6_toss_7 (by decide) (fun c1 => ?_) (fun c1 => ?_)
  · skip
    have hq := hq.trans (if_pos c1)
    have hd : 0 ≤ d.toInt ∧ d.toInt < 8 := wrongKept_ok c1
    refine lv_aload_n hx hb dX6_toss_14 rfl (lv_at hl 1 rfl) ?_
    refine w_get (v := .ref m_kt) hx hb hts i_X6 hown hK w h_m rfl 9 (by decide) (hts _ m_0) rfl dX6_toss_15 ?_
    refine lv_iload_n hx hb dX6_toss_18 rfl (lv_at hl 2 rfl) ?_
    refine w_ild (j := (d.toNatClampNeg)) hx hb hK w h_m_kt (w_in8 hd) rfl dX6_toss_19 ?_
    exact w_iret hx hb hr hlocks w ⟨hq.symm, rfl, rfl⟩ (Nat.le_refl _) (Nat.le_refl _) dX6_toss_20
  · skip
    have hq := hq.trans (if_neg c1)
    refine lv_iload_n hx hb dX6_toss_10 rfl (lv_at hl 0 rfl) ?_
    refine lv_goto (tgt := 20) hx hb dX6_toss_11 (by decide) ?_
    exact w_iret hx hb hr hlocks w ⟨hq.symm, rfl, rfl⟩ (Nat.le_refl _) (Nat.le_refl _) dX6_toss_20
