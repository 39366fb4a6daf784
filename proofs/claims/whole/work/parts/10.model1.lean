theorem bm32 {x : Int} (h : -2147483648 ≤ x ∧ x < 2147483648) : x.bmod (2 ^ 32) = x := by
  rw [Int.bmod_eq_of_le (by omega) (by omega)]
theorem addI {a b : Int32} (h : -2147483648 ≤ a.toInt + b.toInt ∧ a.toInt + b.toInt < 2147483648) : (a + b).toInt = a.toInt + b.toInt := by rw [Int32.toInt_add, bm32 h]
theorem subI {a b : Int32} (h : -2147483648 ≤ a.toInt - b.toInt ∧ a.toInt - b.toInt < 2147483648) : (a - b).toInt = a.toInt - b.toInt := by rw [Int32.toInt_sub, bm32 h]
theorem mulI {a b : Int32} (h : -2147483648 ≤ a.toInt * b.toInt ∧ a.toInt * b.toInt < 2147483648) : (a * b).toInt = a.toInt * b.toInt := by rw [Int32.toInt_mul, bm32 h]
theorem gixI {p k : Int32} (hp : 0 ≤ p.toInt ∧ p.toInt < 12) (hk : 0 ≤ k.toInt ∧ k.toInt < 4) : ((7 + (4 * p)) + k).toInt = 7 + 4 * p.toInt + k.toInt := by
  have h4 : (4 : Int32).toInt = 4 := rfl
  have h7 : (7 : Int32).toInt = 7 := rfl
  have e1 : (4 * p).toInt = 4 * p.toInt := by rw [mulI (by rw [h4]; omega), h4]
  have e2 : (7 + 4 * p).toInt = 7 + 4 * p.toInt := by rw [addI (by rw [h7, e1]; omega), h7, e1]
  rw [addI (by rw [e2]; omega), e2]
theorem gix2 {p k : Int32} (hp : 0 ≤ p.toInt ∧ p.toInt < 12) (hk : 0 ≤ k.toInt ∧ k.toInt < 4) : vp_in ((7 + (4 * p)) + k) 55 := by
  refine vp_in_iff.mpr ?_
  rw [gixI hp hk]
  omega
theorem nIb {k : Nat} (h : k < 12) : 0 ≤ (nI k).toInt ∧ (nI k).toInt < 12 := by rw [nI_toInt (by omega)]; omega
theorem gidx3 {k : Nat} (h : k < 12) : ((7 + (4 * (nI k))) + 3).toNatClampNeg = 10 + 4 * k := by
  show ((7 + (4 * (nI k))) + 3).toInt.toNat = 10 + 4 * k
  rw [gixI (nIb h) (by decide), nI_toInt (by omega)]
  show (7 + 4 * (k : Int) + 3).toNat = _
  omega
theorem w_in8 {d : Int32} (h : 0 ≤ d.toInt ∧ d.toInt < 8) : vp_in d 8 := vp_in_iff.mpr h
theorem elixI {d : Int32} {k : Nat} (h : 0 ≤ d.toInt ∧ d.toInt < 8) (hk : k < 100) : ((100 * d) + nI k).toInt = 100 * d.toInt + k := by
  have h4 : (100 : Int32).toInt = 100 := rfl
  have e1 : (100 * d).toInt = 100 * d.toInt := by rw [mulI (by rw [h4]; omega), h4]
  rw [addI (by rw [e1, nI_toInt (by omega)]; omega), e1, nI_toInt (by omega)]
theorem elix {d : Int32} {k : Nat} (h : 0 ≤ d.toInt ∧ d.toInt < 8) (hk : k < 100) : vp_in ((100 * d) + nI k) 800 := by
  refine vp_in_iff.mpr ?_
  rw [elixI h hk]
  omega
theorem elix_n {d : Int32} {k : Nat} (h : 0 ≤ d.toInt ∧ d.toInt < 8) (hk : k < 100) : ((100 * d) + nI k).toNatClampNeg = 100 * d.toNatClampNeg + k := by
  show ((100 * d) + nI k).toInt.toNat = 100 * d.toInt.toNat + k
  rw [elixI h hk]
  omega
theorem i64 (x : Int32) : x.toInt64.toInt = x.toInt := Int32.toInt_toInt64 x
theorem hi1_ne {x : Int32} (h : 0 ≤ x.toInt ∧ x.toInt ≤ 1000) : ¬ x + 1 = 0 := by
  intro q
  have h1 : (1 : Int32).toInt = 1 := rfl
  have h2 := congrArg Int32.toInt q
  rw [addI (by rw [h1]; omega), h1, Int32.toInt_zero] at h2
  omega
theorem gix_ne4 {p k : Int32} (hp : 0 ≤ p.toInt ∧ p.toInt < 12) (hk : 0 ≤ k.toInt ∧ k.toInt < 4) : ((7 + (4 * p)) + k).toNatClampNeg ≠ 4 := by
  show ((7 + (4 * p)) + k).toInt.toNat ≠ 4
  rw [gixI hp hk]
  omega
def gk (u s : Nat → Int32) : Prop := ∀ i, i ≠ 4 → i ≠ 6 → (∀ j, j < 12 → i ≠ 10 + 4 * j) → u i = s i
theorem gk.rf {s : Nat → Int32} : gk s s := fun _ _ _ _ => rfl
theorem gk.tr {u v s : Nat → Int32} (h : gk u v) (h2 : gk v s) : gk u s := fun i a b c => (h i a b c).trans (h2 i a b c)
theorem gk.i10 {u s : Nat → Int32} (_ : gk u s) {k : Nat} (hk : k < 12) : 10 + 4 * k = 6 ∨ ∃ j, j < 12 ∧ 10 + 4 * k = 10 + 4 * j := Or.inr ⟨k, hk, rfl⟩
theorem gk.up {u s : Nat → Int32} (h : gk u s) {j : Nat} {v : Int32} (hj : j = 6 ∨ ∃ k, k < 12 ∧ j = 10 + 4 * k) : gk (upd u j v) s := by
  intro i a b c
  rw [show upd u j v i = u i from if_neg (by rintro rfl; rcases hj with rfl | ⟨k, hk, rfl⟩; exact b rfl; exact c k hk rfl)]
  exact h i a b c
theorem gk.i1 {u s : Nat → Int32} (h : gk u s) : u 1 = s 1 := h 1 (by decide) (by decide) (fun j _ => by omega)
theorem gk.i2 {u s : Nat → Int32} (h : gk u s) : u 2 = s 2 := h 2 (by decide) (by decide) (fun j _ => by omega)
theorem gk.i5 {u s : Nat → Int32} (h : gk u s) : u 5 = s 5 := h 5 (by decide) (by decide) (fun j _ => by omega)
theorem gk.hst {u s : Nat → Int32} (h : gk u s) (hs : ∀ p : Int32, 0 ≤ p.toInt ∧ p.toInt < 12 → (s (((7 + (4 * p)) + 1).toNatClampNeg)).toInt ≤ 1000) : ∀ p : Int32, 0 ≤ p.toInt ∧ p.toInt < 12 → (u (((7 + (4 * p)) + 1).toNatClampNeg)).toInt ≤ 1000 := by
  intro p hp
  have e : ((7 + (4 * p)) + 1).toNatClampNeg = 8 + 4 * p.toInt.toNat := by
    show ((7 + (4 * p)) + 1).toInt.toNat = _
    rw [gixI hp (by decide)]
    show (7 + 4 * p.toInt + 1).toNat = _
    omega
  rw [h _ (by rw [e]; omega) (by rw [e]; omega) (fun j _ => by rw [e]; omega)]
  exact hs p hp
theorem odd_ne (x : Int32) : ¬ (2 * x) + 1 = 0 := by
  intro h
  have h2 := congrArg Int32.toInt h
  rw [Int32.toInt_add, Int32.toInt_mul, Int32.toInt_zero] at h2
  have h3 : (2 : Int32).toInt = 2 := rfl
  have h4 : (1 : Int32).toInt = 1 := rfl
  rw [h3, h4] at h2
  have a1 := Int.emod_emod_of_dvd ((2 * x.toInt).bmod (2 ^ 32) + 1) (show (2 : Int) ∣ ((2 ^ 32 : Nat) : Int) by decide)
  have a2 := Int.emod_emod_of_dvd (2 * x.toInt) (show (2 : Int) ∣ ((2 ^ 32 : Nat) : Int) by decide)
  have b1 : ((2 * x.toInt).bmod (2 ^ 32) + 1) % ((2 ^ 32 : Nat) : Int) = 0 := by
    have := Int.bmod_emod (x := (2 * x.toInt).bmod (2 ^ 32) + 1) (m := 2 ^ 32)
    rw [h2] at this
    exact this.symm.trans (by decide)
  have b2 := Int.bmod_emod (x := 2 * x.toInt) (m := 2 ^ 32)
  rw [b1] at a1
  have a3 := Int.emod_emod_of_dvd ((2 * x.toInt).bmod (2 ^ 32)) (show (2 : Int) ∣ ((2 ^ 32 : Nat) : Int) by decide)
  rw [b2] at a3
  omega
theorem nI1_ne {k : Nat} {B : Int32} (h : k < B.toNatClampNeg) : ¬ (nI k + 1) = 0 := by
  have := w_clamp_lt B
  rw [nI_1]
  exact nI_ne0 (by omega) (by omega)
theorem w_k12 {k : Nat} {B : Int32} (h : k < B.toNatClampNeg) (hB : B.toInt ≤ 12) : k < 12 := by
  have h2 : B.toNatClampNeg = B.toInt.toNat := rfl
  omega
theorem w_k100 {k : Nat} {B : Int32} (h : k < B.toNatClampNeg) (hB : B.toInt ≤ 100) : k < 100 := by
  have h2 : B.toNatClampNeg = B.toInt.toNat := rfl
  omega
theorem nI_eq0 {k : Nat} (hk : k < 2147483648) (h : nI k = 0) : k = 0 := by
  have := congrArg Int32.toInt h
  rw [nI_toInt (by omega), Int32.toInt_zero] at this
  omega
def f_X6_isIn (v : Int64) (least : Int64) (most : Int64) : Int32 := if (lg_cmp v least) < (0 : Int32) then 0 else (if (0 : Int32) < (lg_cmp v most) then 0 else 1)
theorem z_X6_isIn (v : Int64) (least : Int64) (most : Int64) : (f_X6_isIn v least most) = 0 ∨ (f_X6_isIn v least most) = 1 := by
  unfold f_X6_isIn
  try simp only [bnd]
  repeat' split
  all_goals first | exact Or.inl rfl | exact Or.inr rfl
set_option maxHeartbeats 400000 in
set_option maxRecDepth 100000 in
theorem c_X6_isIn (l : Launch) (D : va_G) (cI cP cS cL : ClassId) (L : List Nat) (F : Nat → va_E) (v : Int64) (least : Int64) (most : Int64)  : wMI l D cI cP cS cL yX6_isIn wsX6_isIn ({ frames := 0, cells := 0, slots := 0, locals := 0 } : Room) [.long v, .long least, .long most] L F (f_X6_isIn v least most) F := by
  refine wM.of (cc := cX6_isIn) (maxL := 6) (ret := (some .boolean)) (by decide) rfl (Nat.le_of_ble_eq_true rfl) ?_
  intro pZ eZ sZ mZ below meth cZ A ls C hl w
  obtain ⟨hx, hb, hr, hml, hts, hown, hlocks, hK, hA, hin⟩ := C
  have hown : sZ.vm.findClass RX6 = some mZ.cls := hown
  have hl : lv_has ls 6 [(0, .long v), (2, .long least), (4, .long most)] := hl
  have hq : f_X6_isIn v least most = f_X6_isIn v least most := rfl
  refine lv_lload_n hx hb dX6_isIn_0 rfl (lv_at hl 0 rfl) ?_
  refine lv_lload_n hx hb dX6_isIn_1 rfl (lv_at hl 1 rfl) ?_
  refine W.lcmp hx hb dX6_isIn_2 ?_
  refine lv_if_lt (tgt := 17) hx hb dX6_isIn_3 (by decide) (fun c1 => ?_) (fun c1 => ?_)
  · skip
    have hq := hq.trans (if_pos c1)
    refine lv_iconst (v := 0) hx hb dX6_isIn_17 (by decide) ?_
    exact w_zret hx hb hr hlocks w rfl ⟨hq.symm, rfl, rfl⟩ (Nat.le_refl _) (Nat.le_refl _) dX6_isIn_18
  · skip
    have hq := hq.trans (if_neg c1)
    refine lv_lload_n hx hb dX6_isIn_6 rfl (lv_at hl 0 rfl) ?_
    refine lv_lload hx hb dX6_isIn_7 (lv_at hl 2 rfl) ?_
    refine W.lcmp hx hb dX6_isIn_9 ?_
    refine lv_if_gt (tgt := 17) hx hb dX6_isIn_10 (by decide) (fun c2 => ?_) (fun c2 => ?_)
    · skip
      have hq := hq.trans (if_pos c2)
      refine lv_iconst (v := 0) hx hb dX6_isIn_17 (by decide) ?_
      exact w_zret hx hb hr hlocks w rfl ⟨hq.symm, rfl, rfl⟩ (Nat.le_refl _) (Nat.le_refl _) dX6_isIn_18
    · skip
      have hq := hq.trans (if_neg c2)
      refine lv_iconst (v := 1) hx hb dX6_isIn_13 (by decide) ?_
      refine lv_goto (tgt := 18) hx hb dX6_isIn_14 (by decide) ?_
      exact w_zret hx hb hr hlocks w rfl ⟨hq.symm, rfl, rfl⟩ (Nat.le_refl _) (Nat.le_refl _) dX6_isIn_18
theorem isIn_ok {v least most : Int64} (c : ¬ f_X6_isIn v least most = 0) : least.toInt ≤ v.toInt ∧ v.toInt ≤ most.toInt := by
  unfold f_X6_isIn at c
  by_cases h : lg_cmp v least < 0
  · rw [if_pos h] at c; exact absurd rfl c
  · rw [if_neg h] at c
    by_cases h2 : 0 < lg_cmp v most
    · rw [if_pos h2] at c; exact absurd rfl c
    · rw [lg_cmp_lt, Int64.lt_iff_toInt_lt] at h
      rw [lg_cmp_gt, Int64.lt_iff_toInt_lt] at h2
      omega
theorem isIn_iff {v least most : Int64} : f_X6_isIn v least most = (if least.toInt ≤ v.toInt ∧ v.toInt ≤ most.toInt then 1 else 0) := by
  unfold f_X6_isIn
  by_cases h : lg_cmp v least < 0
  · rw [if_pos h]
    rw [lg_cmp_lt, Int64.lt_iff_toInt_lt] at h
    rw [if_neg (by omega)]
  · rw [if_neg h]
    rw [lg_cmp_lt, Int64.lt_iff_toInt_lt] at h
    by_cases h2 : 0 < lg_cmp v most
    · rw [if_pos h2]
      rw [lg_cmp_gt, Int64.lt_iff_toInt_lt] at h2
      rw [if_neg (by omega)]
    · rw [if_neg h2]
      rw [lg_cmp_gt, Int64.lt_iff_toInt_lt] at h2
      rw [if_pos (by omega)]
def f_X6_isPerson (p0 : Int32) (m_ss_f : Nat → Int32) : Int32 := (f_X6_isIn (p0.toInt64) 0 (((m_ss_f 5) - 1).toInt64))
theorem z_X6_isPerson (p0 : Int32) (m_ss_f : Nat → Int32) : (f_X6_isPerson p0 m_ss_f) = 0 ∨ (f_X6_isPerson p0 m_ss_f) = 1 := by
  unfold f_X6_isPerson
  try simp only [bnd]
  repeat' split
  all_goals first | exact Or.inl rfl | exact Or.inr rfl | exact z_X6_isIn _ _ _
set_option maxHeartbeats 400000 in
set_option maxRecDepth 100000 in
theorem c_X6_isPerson (l : Launch) (D : va_G) (cI cP cS cL : ClassId) (L : List Nat) (F : Nat → va_E) (m : Nat) (p0 : Int32) (m_ss : Nat) (m_im : Nat) (m_re : Nat) (m_sa : Nat) (m_ke : Nat) (m_so : Nat) (m_si : Nat) (m_el : Nat) (m_kd : Nat) (m_kt : Nat) (m_hi : Int32) (m_th : Int32) (m_po : Int32) (m_ba : Int32) (m_en : Int32) (m_tl : Int32) (m_nu : Nat) (m_ca : Nat) (m_ha : Nat) (m_hs : Int32) (m_co : Nat) (m_ss_f : Nat → Int32) (h_m : wi L F m (eM m_ss m_im m_re m_sa m_ke m_so m_si m_el m_kd m_kt m_hi m_th m_po m_ba m_en m_tl m_nu m_ca m_ha m_hs m_co)) (h_m_ss : wi L F m_ss (eI cI 55 m_ss_f)) : wMI l D cI cP cS cL yX6_isPerson wsX6_isPerson ({ frames := 1, cells := 0, slots := 0, locals := 25 } : Room) [.ref m, .int p0] L F (f_X6_isPerson p0 m_ss_f) F := by
  refine wM.of (cc := cX6_isPerson) (maxL := 2) (ret := (some .boolean)) (by decide) rfl (Nat.le_of_ble_eq_true rfl) ?_
  intro pZ eZ sZ mZ below meth cZ A ls C hl w
  obtain ⟨hx, hb, hr, hml, hts, hown, hlocks, hK, hA, hin⟩ := C
  have hown : sZ.vm.findClass RX6 = some mZ.cls := hown
  have hl : lv_has ls 2 [(0, .ref m), (1, .int p0)] := hl
  have m_0 : ((.fieldLink RX6 9 "TwoThirdsModel" "s" "[I") : Cond) ∈ wsX6_isPerson := by decide +kernel
  have i_X6 : ∀ w ∈ wsX60, w ∈ wsX6_isPerson := by decide +kernel
  have hq : f_X6_isPerson p0 m_ss_f = f_X6_isPerson p0 m_ss_f := rfl
  refine lv_iload_n hx hb dX6_isPerson_0 rfl (lv_at hl 1 rfl) ?_
  refine lv_i2l (v := (p0.toInt64)) hx hb dX6_isPerson_1 rfl ?_
  refine lv_lconst (v := 0) hx hb dX6_isPerson_2 (by decide) ?_
  refine lv_aload_n hx hb dX6_isPerson_3 rfl (lv_at hl 0 rfl) ?_
  refine w_get (v := .ref m_ss) hx hb hts i_X6 hown hK w h_m rfl 0 (by decide) (hts _ m_0) rfl dX6_isPerson_4 ?_
  refine lv_iconst (v := 5) hx hb dX6_isPerson_7 (by decide) ?_
  refine w_ild (j := 5) hx hb hK w h_m_ss (vp_in_nI (n := 5) (N := 55) (by decide) (by decide)) rfl dX6_isPerson_8 ?_
  refine lv_iconst (v := 1) hx hb dX6_isPerson_9 (by decide) ?_
  refine lv_isub hx hb dX6_isPerson_10 ?_
  refine lv_i2l (v := (((m_ss_f 5) - 1).toInt64)) hx hb dX6_isPerson_11 rfl ?_
  refine w_finI (w_runS (rm := ({ frames := 0, cells := 0, slots := 0, locals := 0 } : Room)) (As := [.long (p0.toInt64), .long 0, .long (((m_ss_f 5) - 1).toInt64)]) (rest := []) (n := 3) hx hb hml hts hown hK w (c_X6_isIn l D cI cP cS cL L _ (p0.toInt64) 0 (((m_ss_f 5) - 1).toInt64) ) gX6_isPerson_X6_isIn rfl rfl rfl (by decide +kernel) ⟨(Nat.le_of_ble_eq_true rfl), (Nat.le_of_ble_eq_true rfl)⟩ rfl hl.1 rfl (Nat.le_of_ble_eq_true rfl) dX6_isPerson_12 ⟨(Nat.le_of_ble_eq_true rfl), (Nat.le_of_ble_eq_true rfl)⟩) w hA (fun H locs w => ?_)
  exact w_zret hx hb hr hlocks w (w_nb (z_X6_isIn _ _ _)) ⟨hq.symm, rfl, rfl⟩ (Nat.le_refl _) (Nat.le_refl _) dX6_isPerson_15
def f_X6_isShelf (d : Int32) : Int32 := (f_X6_isIn (d.toInt64) 0 7)
theorem z_X6_isShelf (d : Int32) : (f_X6_isShelf d) = 0 ∨ (f_X6_isShelf d) = 1 := by
  unfold f_X6_isShelf
  try simp only [bnd]
  repeat' split
  all_goals first | exact Or.inl rfl | exact Or.inr rfl | exact z_X6_isIn _ _ _
set_option maxHeartbeats 400000 in
set_option maxRecDepth 100000 in
theorem c_X6_isShelf (l : Launch) (D : va_G) (cI cP cS cL : ClassId) (L : List Nat) (F : Nat → va_E) (d : Int32)  : wMI l D cI cP cS cL yX6_isShelf wsX6_isShelf ({ frames := 1, cells := 0, slots := 0, locals := 25 } : Room) [.int d] L F (f_X6_isShelf d) F := by
  refine wM.of (cc := cX6_isShelf) (maxL := 1) (ret := (some .boolean)) (by decide) rfl (Nat.le_of_ble_eq_true rfl) ?_
  intro pZ eZ sZ mZ below meth cZ A ls C hl w
  obtain ⟨hx, hb, hr, hml, hts, hown, hlocks, hK, hA, hin⟩ := C
  have hown : sZ.vm.findClass RX6 = some mZ.cls := hown
  have hl : lv_has ls 1 [(0, .int d)] := hl
  have m_0 : ((.constantLong RX6 60 7) : Cond) ∈ wsX6_isShelf := by decide +kernel
  have hq : f_X6_isShelf d = f_X6_isShelf d := rfl
  refine lv_iload_n hx hb dX6_isShelf_0 rfl (lv_at hl 0 rfl) ?_
  refine lv_i2l (v := (d.toInt64)) hx hb dX6_isShelf_1 rfl ?_
  refine lv_lconst (v := 0) hx hb dX6_isShelf_2 (by decide) ?_
  refine lv_ldc2 (v := 7) hx hb hown (hts _ m_0) dX6_isShelf_3 ?_
  refine w_finI (w_runS (rm := ({ frames := 0, cells := 0, slots := 0, locals := 0 } : Room)) (As := [.long (d.toInt64), .long 0, .long 7]) (rest := []) (n := 3) hx hb hml hts hown hK w (c_X6_isIn l D cI cP cS cL L _ (d.toInt64) 0 7 ) gX6_isShelf_X6_isIn rfl rfl rfl (by decide +kernel) ⟨(Nat.le_of_ble_eq_true rfl), (Nat.le_of_ble_eq_true rfl)⟩ rfl hl.1 rfl (Nat.le_of_ble_eq_true rfl) dX6_isShelf_6 ⟨(Nat.le_of_ble_eq_true rfl), (Nat.le_of_ble_eq_true rfl)⟩) w hA (fun H locs w => ?_)
  exact w_zret hx hb hr hlocks w (w_nb (z_X6_isIn _ _ _)) ⟨hq.symm, rfl, rfl⟩ (Nat.le_refl _) (Nat.le_refl _) dX6_isShelf_9
theorem isShelf_ok {d : Int32} (c : ¬ f_X6_isShelf d = 0) : 0 ≤ d.toInt ∧ d.toInt < 8 := by
  have h := isIn_ok c
  rw [i64] at h
  have h0 : (0 : Int64).toInt = 0 := rfl
  have h7 : (7 : Int64).toInt = 7 := rfl
  omega
theorem isPerson_ok {p : Int32} {ss : Nat → Int32} (h5 : 0 ≤ (ss 5).toInt ∧ (ss 5).toInt ≤ 12) (c : ¬ f_X6_isPerson p ss = 0) : 0 ≤ p.toInt ∧ p.toInt < (ss 5).toInt := by
  have h := isIn_ok c
  rw [i64, i64] at h
  have h0 : (0 : Int64).toInt = 0 := rfl
  have h1 : (1 : Int32).toInt = 1 := rfl
  rw [subI (by rw [h1]; omega), h1] at h
  omega
theorem isPerson_12 {p : Int32} {ss : Nat → Int32} (h5 : 0 ≤ (ss 5).toInt ∧ (ss 5).toInt ≤ 12) (c : ¬ f_X6_isPerson p ss = 0) : 0 ≤ p.toInt ∧ p.toInt < 12 := by
  have := isPerson_ok h5 c
  omega
def f_X6_get (p0 : Int32) (k0 : Int32) (m_ss_f : Nat → Int32) : Int32 := (m_ss_f (((7 + (4 * p0)) + k0).toNatClampNeg))
set_option maxHeartbeats 400000 in
set_option maxRecDepth 100000 in
theorem c_X6_get (l : Launch) (D : va_G) (cI cP cS cL : ClassId) (L : List Nat) (F : Nat → va_E) (m : Nat) (p0 : Int32) (k0 : Int32) (m_ss : Nat) (m_im : Nat) (m_re : Nat) (m_sa : Nat) (m_ke : Nat) (m_so : Nat) (m_si : Nat) (m_el : Nat) (m_kd : Nat) (m_kt : Nat) (m_hi : Int32) (m_th : Int32) (m_po : Int32) (m_ba : Int32) (m_en : Int32) (m_tl : Int32) (m_nu : Nat) (m_ca : Nat) (m_ha : Nat) (m_hs : Int32) (m_co : Nat) (m_ss_f : Nat → Int32) (h_m : wi L F m (eM m_ss m_im m_re m_sa m_ke m_so m_si m_el m_kd m_kt m_hi m_th m_po m_ba m_en m_tl m_nu m_ca m_ha m_hs m_co)) (h_m_ss : wi L F m_ss (eI cI 55 m_ss_f)) (hix : vp_in ((7 + (4 * p0)) + k0) 55) : wMI l D cI cP cS cL yX6_get wsX6_get ({ frames := 0, cells := 0, slots := 0, locals := 0 } : Room) [.ref m, .int p0, .int k0] L F (f_X6_get p0 k0 m_ss_f) F := by
  refine wM.of (cc := cX6_get) (maxL := 3) (ret := (some .int)) (by decide) rfl (Nat.le_of_ble_eq_true rfl) ?_
  intro pZ eZ sZ mZ below meth cZ A ls C hl w
  obtain ⟨hx, hb, hr, hml, hts, hown, hlocks, hK, hA, hin⟩ := C
  have hown : sZ.vm.findClass RX6 = some mZ.cls := hown
  have hl : lv_has ls 3 [(0, .ref m), (1, .int p0), (2, .int k0)] := hl
  have m_0 : ((.fieldLink RX6 9 "TwoThirdsModel" "s" "[I") : Cond) ∈ wsX6_get := by decide +kernel
  have i_X6 : ∀ w ∈ wsX60, w ∈ wsX6_get := by decide +kernel
  have hq : f_X6_get p0 k0 m_ss_f = f_X6_get p0 k0 m_ss_f := rfl
  refine lv_aload_n hx hb dX6_get_0 rfl (lv_at hl 0 rfl) ?_
  refine w_get (v := .ref m_ss) hx hb hts i_X6 hown hK w h_m rfl 0 (by decide) (hts _ m_0) rfl dX6_get_1 ?_
  refine lv_bipush (v := 7) hx hb dX6_get_4 (by decide) ?_
  refine lv_iconst (v := 4) hx hb dX6_get_6 (by decide) ?_
  refine lv_iload_n hx hb dX6_get_7 rfl (lv_at hl 1 rfl) ?_
  refine lv_imul hx hb dX6_get_8 ?_
  refine lv_iadd hx hb dX6_get_9 ?_
  refine lv_iload_n hx hb dX6_get_10 rfl (lv_at hl 2 rfl) ?_
  refine lv_iadd hx hb dX6_get_11 ?_
  refine w_ild (j := (((7 + (4 * p0)) + k0).toNatClampNeg)) hx hb hK w h_m_ss hix rfl dX6_get_12 ?_
  exact w_iret hx hb hr hlocks w ⟨hq.symm, rfl, rfl⟩ (Nat.le_refl _) (Nat.le_refl _) dX6_get_13
def f_X6_becomes (at0 : Int32) (v : Int32) (m_ss_f : Nat → Int32) : Int32 × (Nat → Int32) := ((m_ss_f (at0.toNatClampNeg)), (upd m_ss_f (at0.toNatClampNeg) v))
set_option maxHeartbeats 400000 in
set_option maxRecDepth 100000 in
theorem c_X6_becomes (l : Launch) (D : va_G) (cI cP cS cL : ClassId) (L : List Nat) (F : Nat → va_E) (m : Nat) (at0 : Int32) (v : Int32) (m_ss : Nat) (m_im : Nat) (m_re : Nat) (m_sa : Nat) (m_ke : Nat) (m_so : Nat) (m_si : Nat) (m_el : Nat) (m_kd : Nat) (m_kt : Nat) (m_hi : Int32) (m_th : Int32) (m_po : Int32) (m_ba : Int32) (m_en : Int32) (m_tl : Int32) (m_nu : Nat) (m_ca : Nat) (m_ha : Nat) (m_hs : Int32) (m_co : Nat) (m_ss_f : Nat → Int32) (h_m : wi L F m (eM m_ss m_im m_re m_sa m_ke m_so m_si m_el m_kd m_kt m_hi m_th m_po m_ba m_en m_tl m_nu m_ca m_ha m_hs m_co)) (h_m_ss : wi L F m_ss (eI cI 55 m_ss_f)) (hat : vp_in at0 55) : wMj l D cI cP cS cL yX6_becomes wsX6_becomes ({ frames := 0, cells := 0, slots := 0, locals := 0 } : Room) [.ref m, .int at0, .int v] L F (fun r1 F1 => ∃ y9 : Int32 × (Nat → Int32), y9 = (f_X6_becomes at0 v m_ss_f) ∧ r1 = y9.1 ∧ F1 m_ss = (eI cI 55 y9.2) ∧ wk (fun q : Nat => q ≠ m_ss ∧ True) F1 F) := by
  refine wM.of (cc := cX6_becomes) (maxL := 4) (ret := (some .int)) (by decide) rfl (Nat.le_of_ble_eq_true rfl) ?_
  intro pZ eZ sZ mZ below meth cZ A ls C hl w
  obtain ⟨hx, hb, hr, hml, hts, hown, hlocks, hK, hA, hin⟩ := C
  have hown : sZ.vm.findClass RX6 = some mZ.cls := hown
  have hl : lv_has ls 4 [(0, .ref m), (1, .int at0), (2, .int v)] := hl
  have m_0 : ((.fieldLink RX6 9 "TwoThirdsModel" "s" "[I") : Cond) ∈ wsX6_becomes := by decide +kernel
  have i_X6 : ∀ w ∈ wsX60, w ∈ wsX6_becomes := by decide +kernel
  have hk : wk (fun q : Nat => q ≠ m_ss ∧ True) F F := wk.rf
  have hq : f_X6_becomes at0 v m_ss_f = f_X6_becomes at0 v m_ss_f := rfl
  refine lv_aload_n hx hb dX6_becomes_0 rfl (lv_at hl 0 rfl) ?_
  refine w_get (v := .ref m_ss) hx hb hts i_X6 hown hK w h_m rfl 0 (by decide) (hts _ m_0) rfl dX6_becomes_1 ?_
  refine lv_iload_n hx hb dX6_becomes_4 rfl (lv_at hl 1 rfl) ?_
  refine w_ild (j := (at0.toNatClampNeg)) hx hb hK w h_m_ss hat rfl dX6_becomes_5 ?_
  refine lv_istore_n (lv' := [(3, .int (m_ss_f (at0.toNatClampNeg))), (0, .ref m), (1, .int at0), (2, .int v)]) hx hb dX6_becomes_6 rfl hl (by decide) rfl (fun ls hl => ?_)
  refine lv_aload_n hx hb dX6_becomes_7 rfl (lv_at hl 1 rfl) ?_
  refine w_get (v := .ref m_ss) hx hb hts i_X6 hown hK w h_m rfl 0 (by decide) (hts _ m_0) rfl dX6_becomes_8 ?_
  refine lv_iload_n hx hb dX6_becomes_11 rfl (lv_at hl 2 rfl) ?_
  refine lv_iload_n hx hb dX6_becomes_12 rfl (lv_at hl 3 rfl) ?_
  have ho1 := h_m_ss
  refine w_ist (j := (at0.toNatClampNeg)) hx hb hK w h_m_ss hat rfl dX6_becomes_13 (fun H locs w h_m_ss => ?_)
  have h_m := h_m.upw h_m_ss (wi.ne h_m ho1 (by intro h; cases h))
  have hk := hk.upw h_m_ss (fun q h => h.1)
  refine lv_iload_n hx hb dX6_becomes_14 rfl (lv_at hl 0 rfl) ?_
  exact w_iret hx hb hr hlocks w ⟨rfl, _, hq.symm, rfl, h_m_ss.2, hk⟩ (Nat.le_refl _) (Nat.le_refl _) dX6_becomes_15
def f_X6_isShare (up : Int32) (down : Int32) : Int32 := if (f_X6_isIn (up.toInt64) 0 20) = (0 : Int32) then 0 else (if (f_X6_isIn (down.toInt64) 1 20) = (0 : Int32) then 0 else 1)
theorem z_X6_isShare (up : Int32) (down : Int32) : (f_X6_isShare up down) = 0 ∨ (f_X6_isShare up down) = 1 := by
  unfold f_X6_isShare
  try simp only [bnd]
  repeat' split
  all_goals first | exact Or.inl rfl | exact Or.inr rfl | exact z_X6_isIn _ _ _
set_option maxHeartbeats 400000 in
set_option maxRecDepth 100000 in
theorem c_X6_isShare (l : Launch) (D : va_G) (cI cP cS cL : ClassId) (L : List Nat) (F : Nat → va_E) (up : Int32) (down : Int32)  : wMI l D cI cP cS cL yX6_isShare wsX6_isShare ({ frames := 1, cells := 0, slots := 0, locals := 25 } : Room) [.int up, .int down] L F (f_X6_isShare up down) F := by
  refine wM.of (cc := cX6_isShare) (maxL := 2) (ret := (some .boolean)) (by decide) rfl (Nat.le_of_ble_eq_true rfl) ?_
  intro pZ eZ sZ mZ below meth cZ A ls C hl w
  obtain ⟨hx, hb, hr, hml, hts, hown, hlocks, hK, hA, hin⟩ := C
  have hown : sZ.vm.findClass RX6 = some mZ.cls := hown
  have hl : lv_has ls 2 [(0, .int up), (1, .int down)] := hl
  have m_0 : ((.constantLong RX6 102 20) : Cond) ∈ wsX6_isShare := by decide +kernel
  have hq : f_X6_isShare up down = f_X6_isShare up down := rfl
  refine lv_iload_n hx hb dX6_isShare_0 rfl (lv_at hl 0 rfl) ?_
  refine lv_i2l (v := (up.toInt64)) hx hb dX6_isShare_1 rfl ?_
  refine lv_lconst (v := 0) hx hb dX6_isShare_2 (by decide) ?_
  refine lv_ldc2 (v := 20) hx hb hown (hts _ m_0) dX6_isShare_3 ?_
  refine w_finI (w_runS (rm := ({ frames := 0, cells := 0, slots := 0, locals := 0 } : Room)) (As := [.long (up.toInt64), .long 0, .long 20]) (rest := []) (n := 3) hx hb hml hts hown hK w (c_X6_isIn l D cI cP cS cL L _ (up.toInt64) 0 20 ) gX6_isShare_X6_isIn rfl rfl rfl (by decide +kernel) ⟨(Nat.le_of_ble_eq_true rfl), (Nat.le_of_ble_eq_true rfl)⟩ rfl hl.1 rfl (Nat.le_of_ble_eq_true rfl) dX6_isShare_6 ⟨(Nat.le_of_ble_eq_true rfl), (Nat.le_of_ble_eq_true rfl)⟩) w hA (fun H locs w => ?_)
  refine lv_if_eq (tgt := 28) hx hb dX6_isShare_9 (by decide) (fun c1 => ?_) (fun c1 => ?_)
  · skip
    have hq := hq.trans (if_pos c1)
    refine lv_iconst (v := 0) hx hb dX6_isShare_28 (by decide) ?_
    exact w_zret hx hb hr hlocks w rfl ⟨hq.symm, rfl, rfl⟩ (Nat.le_refl _) (Nat.le_refl _) dX6_isShare_29
  · skip
    have hq := hq.trans (if_neg c1)
    refine lv_iload_n hx hb dX6_isShare_12 rfl (lv_at hl 1 rfl) ?_
    refine lv_i2l (v := (down.toInt64)) hx hb dX6_isShare_13 rfl ?_
    refine lv_lconst (v := 1) hx hb dX6_isShare_14 (by decide) ?_
    refine lv_ldc2 (v := 20) hx hb hown (hts _ m_0) dX6_isShare_15 ?_
    refine w_finI (w_runS (rm := ({ frames := 0, cells := 0, slots := 0, locals := 0 } : Room)) (As := [.long (down.toInt64), .long 1, .long 20]) (rest := []) (n := 3) hx hb hml hts hown hK w (c_X6_isIn l D cI cP cS cL L _ (down.toInt64) 1 20 ) gX6_isShare_X6_isIn rfl rfl rfl (by decide +kernel) ⟨(Nat.le_of_ble_eq_true rfl), (Nat.le_of_ble_eq_true rfl)⟩ rfl hl.1 rfl (Nat.le_of_ble_eq_true rfl) dX6_isShare_18 ⟨(Nat.le_of_ble_eq_true rfl), (Nat.le_of_ble_eq_true rfl)⟩) w hA (fun H locs w => ?_)
    refine lv_if_eq (tgt := 28) hx hb dX6_isShare_21 (by decide) (fun c2 => ?_) (fun c2 => ?_)
    · skip
      have hq := hq.trans (if_pos c2)
      refine lv_iconst (v := 0) hx hb dX6_isShare_28 (by decide) ?_
      exact w_zret hx hb hr hlocks w rfl ⟨hq.symm, rfl, rfl⟩ (Nat.le_refl _) (Nat.le_refl _) dX6_isShare_29
    · skip
      have hq := hq.trans (if_neg c2)
      refine lv_iconst (v := 1) hx hb dX6_isShare_24 (by decide) ?_
      refine lv_goto (tgt := 29) hx hb dX6_isShare_25 (by decide) ?_
      exact w_zret hx hb hr hlocks w rfl ⟨hq.symm, rfl, rfl⟩ (Nat.le_refl _) (Nat.le_refl _) dX6_isShare_29
def f_X6_wrongRow (d : Int32) (of0 : Int32) (m_ke_f : Nat → Int32) (m_so_f : Nat → Int32) : Int32 := if (f_X6_isShelf d) = (0 : Int32) then (-1) else (if (m_ke_f (d.toNatClampNeg)) = (0 : Int32) then (-11) else (if (m_ke_f (d.toNatClampNeg)) = (2 : Int32) then (if of0 < (0 : Int32) then 0 else (if (m_so_f (d.toNatClampNeg)) = of0 then 0 else (-12))) else (-12)))
set_option maxHeartbeats 400000 in
set_option maxRecDepth 100000 in
theorem c_X6_wrongRow (l : Launch) (D : va_G) (cI cP cS cL : ClassId) (L : List Nat) (F : Nat → va_E) (m : Nat) (d : Int32) (of0 : Int32) (m_ss : Nat) (m_im : Nat) (m_re : Nat) (m_sa : Nat) (m_ke : Nat) (m_so : Nat) (m_si : Nat) (m_el : Nat) (m_kd : Nat) (m_kt : Nat) (m_hi : Int32) (m_th : Int32) (m_po : Int32) (m_ba : Int32) (m_en : Int32) (m_tl : Int32) (m_nu : Nat) (m_ca : Nat) (m_ha : Nat) (m_hs : Int32) (m_co : Nat) (m_ke_f : Nat → Int32) (m_so_f : Nat → Int32) (h_m : wi L F m (eM m_ss m_im m_re m_sa m_ke m_so m_si m_el m_kd m_kt m_hi m_th m_po m_ba m_en m_tl m_nu m_ca m_ha m_hs m_co)) (h_m_ke : wi L F m_ke (eI cI 8 m_ke_f)) (h_m_so : wi L F m_so (eI cI 8 m_so_f)) : wMI l D cI cP cS cL yX6_wrongRow wsX6_wrongRow ({ frames := 2, cells := 0, slots := 0, locals := 45 } : Room) [.ref m, .int d, .int of0] L F (f_X6_wrongRow d of0 m_ke_f m_so_f) F := by
  refine wM.of (cc := cX6_wrongRow) (maxL := 3) (ret := (some .int)) (by decide) rfl (Nat.le_of_ble_eq_true rfl) ?_
  intro pZ eZ sZ mZ below meth cZ A ls C hl w
  obtain ⟨hx, hb, hr, hml, hts, hown, hlocks, hK, hA, hin⟩ := C
  have hown : sZ.vm.findClass RX6 = some mZ.cls := hown
  have hl : lv_has ls 3 [(0, .ref m), (1, .int d), (2, .int of0)] := hl
  have m_0 : ((.fieldLink RX6 22 "TwoThirdsModel" "kept" "[I") : Cond) ∈ wsX6_wrongRow := by decide +kernel
  have i_X6 : ∀ w ∈ wsX60, w ∈ wsX6_wrongRow := by decide +kernel
  have m_2 : ((.fieldLink RX6 25 "TwoThirdsModel" "sort" "[I") : Cond) ∈ wsX6_wrongRow := by decide +kernel
  have hq : f_X6_wrongRow d of0 m_ke_f m_so_f = f_X6_wrongRow d of0 m_ke_f m_so_f := rfl
  refine lv_iload_n hx hb dX6_wrongRow_0 rfl (lv_at hl 1 rfl) ?_
  refine w_finI (w_runS (rm := ({ frames := 1, cells := 0, slots := 0, locals := 25 } : Room)) (As := [.int d]) (rest := []) (n := 1) hx hb hml hts hown hK w (c_X6_isShelf l D cI cP cS cL L _ d ) gX6_wrongRow_X6_isShelf rfl rfl rfl (by decide +kernel) ⟨(Nat.le_of_ble_eq_true rfl), (Nat.le_of_ble_eq_true rfl)⟩ rfl hl.1 rfl (Nat.le_of_ble_eq_true rfl) dX6_wrongRow_1 ⟨(Nat.le_of_ble_eq_true rfl), (Nat.le_of_ble_eq_true rfl)⟩) w hA (fun H locs w => ?_)
  refine lv_if_ne (tgt := 11) hx hb dX6_wrongRow_4 (by decide) (fun c1 => ?_) (fun c1 => ?_)
  · skip
    have hq := hq.trans (if_neg c1)
    have hd : 0 ≤ d.toInt ∧ d.toInt < 8 := isShelf_ok c1
    refine lv_aload_n hx hb dX6_wrongRow_11 rfl (lv_at hl 0 rfl) ?_
    refine w_get (v := .ref m_ke) hx hb hts i_X6 hown hK w h_m rfl 4 (by decide) (hts _ m_0) rfl dX6_wrongRow_12 ?_
    refine lv_iload_n hx hb dX6_wrongRow_15 rfl (lv_at hl 1 rfl) ?_
    refine w_ild (j := (d.toNatClampNeg)) hx hb hK w h_m_ke (w_in8 hd) rfl dX6_wrongRow_16 ?_
    refine lv_if_ne (tgt := 25) hx hb dX6_wrongRow_17 (by decide) (fun c2 => ?_) (fun c2 => ?_)
    · skip
      have hq := hq.trans (if_neg c2)
      refine lv_aload_n hx hb dX6_wrongRow_25 rfl (lv_at hl 0 rfl) ?_
      refine w_get (v := .ref m_ke) hx hb hts i_X6 hown hK w h_m rfl 4 (by decide) (hts _ m_0) rfl dX6_wrongRow_26 ?_
      refine lv_iload_n hx hb dX6_wrongRow_29 rfl (lv_at hl 1 rfl) ?_
      refine w_ild (j := (d.toNatClampNeg)) hx hb hK w h_m_ke (w_in8 hd) rfl dX6_wrongRow_30 ?_
      refine lv_iconst (v := 2) hx hb dX6_wrongRow_31 (by decide) ?_
      refine lv_icmp_ne (tgt := 49) hx hb dX6_wrongRow_32 (by decide) (fun c3 => ?_) (fun c3 => ?_)
      · skip
        have hq := hq.trans (if_neg c3)
        refine lv_bipush (v := (-12)) hx hb dX6_wrongRow_49 (by decide) ?_
        refine lv_goto (tgt := 55) hx hb dX6_wrongRow_51 (by decide) ?_
        exact w_iret hx hb hr hlocks w ⟨hq.symm, rfl, rfl⟩ (Nat.le_refl _) (Nat.le_refl _) dX6_wrongRow_55
      · skip
        have hq := hq.trans (if_pos c3)
        refine lv_iload_n hx hb dX6_wrongRow_35 rfl (lv_at hl 2 rfl) ?_
        refine lv_if_lt (tgt := 54) hx hb dX6_wrongRow_36 (by decide) (fun c4 => ?_) (fun c4 => ?_)
        · skip
          have hq := hq.trans (if_pos c4)
          refine lv_iconst (v := 0) hx hb dX6_wrongRow_54 (by decide) ?_
          exact w_iret hx hb hr hlocks w ⟨hq.symm, rfl, rfl⟩ (Nat.le_refl _) (Nat.le_refl _) dX6_wrongRow_55
        · skip
          have hq := hq.trans (if_neg c4)
          refine lv_aload_n hx hb dX6_wrongRow_39 rfl (lv_at hl 0 rfl) ?_
          refine w_get (v := .ref m_so) hx hb hts i_X6 hown hK w h_m rfl 5 (by decide) (hts _ m_2) rfl dX6_wrongRow_40 ?_
          refine lv_iload_n hx hb dX6_wrongRow_43 rfl (lv_at hl 1 rfl) ?_
          refine w_ild (j := (d.toNatClampNeg)) hx hb hK w h_m_so (w_in8 hd) rfl dX6_wrongRow_44 ?_
          refine lv_iload_n hx hb dX6_wrongRow_45 rfl (lv_at hl 2 rfl) ?_
          refine lv_icmp_eq (tgt := 54) hx hb dX6_wrongRow_46 (by decide) (fun c5 => ?_) (fun c5 => ?_)
          · skip
            have hq := hq.trans (if_pos c5)
            refine lv_iconst (v := 0) hx hb dX6_wrongRow_54 (by decide) ?_
            exact w_iret hx hb hr hlocks w ⟨hq.symm, rfl, rfl⟩ (Nat.le_refl _) (Nat.le_refl _) dX6_wrongRow_55
          · skip
            have hq := hq.trans (if_neg c5)
            refine lv_bipush (v := (-12)) hx hb dX6_wrongRow_49 (by decide) ?_
            refine lv_goto (tgt := 55) hx hb dX6_wrongRow_51 (by decide) ?_
            exact w_iret hx hb hr hlocks w ⟨hq.symm, rfl, rfl⟩ (Nat.le_refl _) (Nat.le_refl _) dX6_wrongRow_55
    · skip
      have hq := hq.trans (if_pos c2)
      refine lv_bipush (v := (-11)) hx hb dX6_wrongRow_20 (by decide) ?_
      refine lv_goto (tgt := 55) hx hb dX6_wrongRow_22 (by decide) ?_
      exact w_iret hx hb hr hlocks w ⟨hq.symm, rfl, rfl⟩ (Nat.le_refl _) (Nat.le_refl _) dX6_wrongRow_55
  · skip
    have hq := hq.trans (if_pos c1)
    refine lv_iconst (v := (-1)) hx hb dX6_wrongRow_7 (by decide) ?_
    refine lv_goto (tgt := 55) hx hb dX6_wrongRow_8 (by decide) ?_
    exact w_iret hx hb hr hlocks w ⟨hq.symm, rfl, rfl⟩ (Nat.le_refl _) (Nat.le_refl _) dX6_wrongRow_55
theorem wrongRow_ok {d of0 : Int32} {ke so : Nat → Int32} (c : f_X6_wrongRow d of0 ke so = 0) : 0 ≤ d.toInt ∧ d.toInt < 8 := by
  unfold f_X6_wrongRow at c
  by_cases h : f_X6_isShelf d = 0
  · rw [if_pos h] at c; exact absurd c (by decide)
  · exact isShelf_ok h
def f_X6_of (p0 : Int32) (what : Int32) (m_ss_f : Nat → Int32) : Int32 := if (f_X6_isPerson p0 m_ss_f) = (0 : Int32) then (-1) else (if (f_X6_isIn (what.toInt64) 0 3) = (0 : Int32) then (-1) else (if what = (3 : Int32) then (if (0 : Int32) ≤ (f_X6_get p0 3 m_ss_f) then (f_X6_get p0 what m_ss_f) else (-4)) else (f_X6_get p0 what m_ss_f)))
set_option maxHeartbeats 400000 in
set_option maxRecDepth 100000 in
theorem c_X6_of (l : Launch) (D : va_G) (cI cP cS cL : ClassId) (L : List Nat) (F : Nat → va_E) (m : Nat) (p0 : Int32) (what : Int32) (m_ss : Nat) (m_im : Nat) (m_re : Nat) (m_sa : Nat) (m_ke : Nat) (m_so : Nat) (m_si : Nat) (m_el : Nat) (m_kd : Nat) (m_kt : Nat) (m_hi : Int32) (m_th : Int32) (m_po : Int32) (m_ba : Int32) (m_en : Int32) (m_tl : Int32) (m_nu : Nat) (m_ca : Nat) (m_ha : Nat) (m_hs : Int32) (m_co : Nat) (m_ss_f : Nat → Int32) (h_m : wi L F m (eM m_ss m_im m_re m_sa m_ke m_so m_si m_el m_kd m_kt m_hi m_th m_po m_ba m_en m_tl m_nu m_ca m_ha m_hs m_co)) (h_m_ss : wi L F m_ss (eI cI 55 m_ss_f)) (h5 : 0 ≤ (m_ss_f 5).toInt ∧ (m_ss_f 5).toInt ≤ 12) : wMI l D cI cP cS cL yX6_of wsX6_of ({ frames := 2, cells := 0, slots := 0, locals := 46 } : Room) [.ref m, .int p0, .int what] L F (f_X6_of p0 what m_ss_f) F := by
  refine wM.of (cc := cX6_of) (maxL := 3) (ret := (some .int)) (by decide) rfl (Nat.le_of_ble_eq_true rfl) ?_
  intro pZ eZ sZ mZ below meth cZ A ls C hl w
  obtain ⟨hx, hb, hr, hml, hts, hown, hlocks, hK, hA, hin⟩ := C
  have hown : sZ.vm.findClass RX6 = some mZ.cls := hown
  have hl : lv_has ls 3 [(0, .ref m), (1, .int p0), (2, .int what)] := hl
  have m_0 : ((.constantLong RX6 120 3) : Cond) ∈ wsX6_of := by decide +kernel
  have hq : f_X6_of p0 what m_ss_f = f_X6_of p0 what m_ss_f := rfl
  refine lv_aload_n hx hb dX6_of_0 rfl (lv_at hl 0 rfl) ?_
  refine lv_iload_n hx hb dX6_of_1 rfl (lv_at hl 1 rfl) ?_
  refine w_finI (w_runV (rm := ({ frames := 1, cells := 0, slots := 0, locals := 25 } : Room)) (As := [.int p0]) (rest := []) (n := 1) hx hb hml hts hown hK w (c_X6_isPerson l D cI cP cS cL L _ m p0 m_ss m_im m_re m_sa m_ke m_so m_si m_el m_kd m_kt m_hi m_th m_po m_ba m_en m_tl m_nu m_ca m_ha m_hs m_co m_ss_f h_m h_m_ss) gX6_of_X6_isPerson rfl rfl rfl (by decide +kernel) ⟨(Nat.le_of_ble_eq_true rfl), (Nat.le_of_ble_eq_true rfl)⟩ h_m rfl rfl hl.1 rfl (Nat.le_of_ble_eq_true rfl) dX6_of_2 ⟨(Nat.le_of_ble_eq_true rfl), (Nat.le_of_ble_eq_true rfl)⟩) w hA (fun H locs w => ?_)
  refine lv_if_eq (tgt := 20) hx hb dX6_of_5 (by decide) (fun c1 => ?_) (fun c1 => ?_)
  · skip
    have hq := hq.trans (if_pos c1)
    refine lv_iconst (v := (-1)) hx hb dX6_of_20 (by decide) ?_
    refine lv_goto (tgt := 49) hx hb dX6_of_21 (by decide) ?_
    exact w_iret hx hb hr hlocks w ⟨hq.symm, rfl, rfl⟩ (Nat.le_refl _) (Nat.le_refl _) dX6_of_49
  · skip
    have hq := hq.trans (if_neg c1)
    have hp0 : 0 ≤ p0.toInt ∧ p0.toInt < 12 := isPerson_12 h5 c1
    refine lv_iload_n hx hb dX6_of_8 rfl (lv_at hl 2 rfl) ?_
    refine lv_i2l (v := (what.toInt64)) hx hb dX6_of_9 rfl ?_
    refine lv_lconst (v := 0) hx hb dX6_of_10 (by decide) ?_
    refine lv_ldc2 (v := 3) hx hb hown (hts _ m_0) dX6_of_11 ?_
    refine w_finI (w_runS (rm := ({ frames := 0, cells := 0, slots := 0, locals := 0 } : Room)) (As := [.long (what.toInt64), .long 0, .long 3]) (rest := []) (n := 3) hx hb hml hts hown hK w (c_X6_isIn l D cI cP cS cL L _ (what.toInt64) 0 3 ) gX6_of_X6_isIn rfl rfl rfl (by decide +kernel) ⟨(Nat.le_of_ble_eq_true rfl), (Nat.le_of_ble_eq_true rfl)⟩ rfl hl.1 rfl (Nat.le_of_ble_eq_true rfl) dX6_of_14 ⟨(Nat.le_of_ble_eq_true rfl), (Nat.le_of_ble_eq_true rfl)⟩) w hA (fun H locs w => ?_)
    refine lv_if_ne (tgt := 24) hx hb dX6_of_17 (by decide) (fun c2 => ?_) (fun c2 => ?_)
    · skip
      have hq := hq.trans (if_neg c2)
      have hwh : 0 ≤ what.toInt ∧ what.toInt < 4 := (by have := isIn_ok c2; rw [i64] at this; have a : (0 : Int64).toInt = 0 := rfl; have b : (3 : Int64).toInt = 3 := rfl; omega)
      refine lv_iload_n hx hb dX6_of_24 rfl (lv_at hl 2 rfl) ?_
      refine lv_iconst (v := 3) hx hb dX6_of_25 (by decide) ?_
      refine lv_icmp_ne (tgt := 43) hx hb dX6_of_26 (by decide) (fun c3 => ?_) (fun c3 => ?_)
      · skip
        have hq := hq.trans (if_neg c3)
        refine lv_aload_n hx hb dX6_of_43 rfl (lv_at hl 0 rfl) ?_
        refine lv_iload_n hx hb dX6_of_44 rfl (lv_at hl 1 rfl) ?_
        refine lv_iload_n hx hb dX6_of_45 rfl (lv_at hl 2 rfl) ?_
        refine w_finI (w_runV (rm := ({ frames := 0, cells := 0, slots := 0, locals := 0 } : Room)) (As := [.int p0, .int what]) (rest := []) (n := 2) hx hb hml hts hown hK w (c_X6_get l D cI cP cS cL L _ m p0 what m_ss m_im m_re m_sa m_ke m_so m_si m_el m_kd m_kt m_hi m_th m_po m_ba m_en m_tl m_nu m_ca m_ha m_hs m_co m_ss_f h_m h_m_ss (gix2 hp0 hwh)) gX6_of_X6_get rfl rfl rfl (by decide +kernel) ⟨(Nat.le_of_ble_eq_true rfl), (Nat.le_of_ble_eq_true rfl)⟩ h_m rfl rfl hl.1 rfl (Nat.le_of_ble_eq_true rfl) dX6_of_46 ⟨(Nat.le_of_ble_eq_true rfl), (Nat.le_of_ble_eq_true rfl)⟩) w hA (fun H locs w => ?_)
        exact w_iret hx hb hr hlocks w ⟨hq.symm, rfl, rfl⟩ (Nat.le_refl _) (Nat.le_refl _) dX6_of_49
      · skip
        have hq := hq.trans (if_pos c3)
        refine lv_aload_n hx hb dX6_of_29 rfl (lv_at hl 0 rfl) ?_
        refine lv_iload_n hx hb dX6_of_30 rfl (lv_at hl 1 rfl) ?_
        refine lv_iconst (v := 3) hx hb dX6_of_31 (by decide) ?_
        refine w_finI (w_runV (rm := ({ frames := 0, cells := 0, slots := 0, locals := 0 } : Room)) (As := [.int p0, .int 3]) (rest := []) (n := 2) hx hb hml hts hown hK w (c_X6_get l D cI cP cS cL L _ m p0 3 m_ss m_im m_re m_sa m_ke m_so m_si m_el m_kd m_kt m_hi m_th m_po m_ba m_en m_tl m_nu m_ca m_ha m_hs m_co m_ss_f h_m h_m_ss (gix2 hp0 (by decide))) gX6_of_X6_get rfl rfl rfl (by decide +kernel) ⟨(Nat.le_of_ble_eq_true rfl), (Nat.le_of_ble_eq_true rfl)⟩ h_m rfl rfl hl.1 rfl (Nat.le_of_ble_eq_true rfl) dX6_of_32 ⟨(Nat.le_of_ble_eq_true rfl), (Nat.le_of_ble_eq_true rfl)⟩) w hA (fun H locs w => ?_)
        refine lv_if_ge (tgt := 43) hx hb dX6_of_35 (by decide) (fun c4 => ?_) (fun c4 => ?_)
        · skip
          have hq := hq.trans (if_pos c4)
          refine lv_aload_n hx hb dX6_of_43 rfl (lv_at hl 0 rfl) ?_
          refine lv_iload_n hx hb dX6_of_44 rfl (lv_at hl 1 rfl) ?_
          refine lv_iload_n hx hb dX6_of_45 rfl (lv_at hl 2 rfl) ?_
          refine w_finI (w_runV (rm := ({ frames := 0, cells := 0, slots := 0, locals := 0 } : Room)) (As := [.int p0, .int what]) (rest := []) (n := 2) hx hb hml hts hown hK w (c_X6_get l D cI cP cS cL L _ m p0 what m_ss m_im m_re m_sa m_ke m_so m_si m_el m_kd m_kt m_hi m_th m_po m_ba m_en m_tl m_nu m_ca m_ha m_hs m_co m_ss_f h_m h_m_ss (gix2 hp0 hwh)) gX6_of_X6_get rfl rfl rfl (by decide +kernel) ⟨(Nat.le_of_ble_eq_true rfl), (Nat.le_of_ble_eq_true rfl)⟩ h_m rfl rfl hl.1 rfl (Nat.le_of_ble_eq_true rfl) dX6_of_46 ⟨(Nat.le_of_ble_eq_true rfl), (Nat.le_of_ble_eq_true rfl)⟩) w hA (fun H locs w => ?_)
          exact w_iret hx hb hr hlocks w ⟨hq.symm, rfl, rfl⟩ (Nat.le_refl _) (Nat.le_refl _) dX6_of_49
        · skip
          have hq := hq.trans (if_neg c4)
          refine lv_bipush (v := (-4)) hx hb dX6_of_38 (by decide) ?_
          refine lv_goto (tgt := 49) hx hb dX6_of_40 (by decide) ?_
          exact w_iret hx hb hr hlocks w ⟨hq.symm, rfl, rfl⟩ (Nat.le_refl _) (Nat.le_refl _) dX6_of_49
    · skip
      have hq := hq.trans (if_pos c2)
      refine lv_iconst (v := (-1)) hx hb dX6_of_20 (by decide) ?_
      refine lv_goto (tgt := 49) hx hb dX6_of_21 (by decide) ?_
      exact w_iret hx hb hr hlocks w ⟨hq.symm, rfl, rfl⟩ (Nat.le_refl _) (Nat.le_refl _) dX6_of_49
def f_X6_isValue (what : Int32) (n0 : Int32) : Int32 := if what = (0 : Int32) then (f_X6_isIn (n0.toInt64) 0 20) else (if what = (1 : Int32) then (f_X6_isIn (n0.toInt64) 1 20) else (if what = (2 : Int32) then (f_X6_isIn (n0.toInt64) 1 1000) else (if what = (3 : Int32) then (f_X6_isIn (n0.toInt64) 0 1) else (if what = (4 : Int32) then 1 else 0))))
theorem z_X6_isValue (what : Int32) (n0 : Int32) : (f_X6_isValue what n0) = 0 ∨ (f_X6_isValue what n0) = 1 := by
  unfold f_X6_isValue
  try simp only [bnd]
  repeat' split
  all_goals first | exact Or.inl rfl | exact Or.inr rfl | exact z_X6_isIn _ _ _
set_option maxHeartbeats 400000 in
set_option maxRecDepth 100000 in
theorem c_X6_isValue (l : Launch) (D : va_G) (cI cP cS cL : ClassId) (L : List Nat) (F : Nat → va_E) (what : Int32) (n0 : Int32)  : wMI l D cI cP cS cL yX6_isValue wsX6_isValue ({ frames := 1, cells := 0, slots := 0, locals := 25 } : Room) [.int what, .int n0] L F (f_X6_isValue what n0) F := by
  refine wM.of (cc := cX6_isValue) (maxL := 2) (ret := (some .boolean)) (by decide) rfl (Nat.le_of_ble_eq_true rfl) ?_
  intro pZ eZ sZ mZ below meth cZ A ls C hl w
  obtain ⟨hx, hb, hr, hml, hts, hown, hlocks, hK, hA, hin⟩ := C
  have hown : sZ.vm.findClass RX6 = some mZ.cls := hown
  have hl : lv_has ls 2 [(0, .int what), (1, .int n0)] := hl
  have m_0 : ((.constantLong RX6 102 20) : Cond) ∈ wsX6_isValue := by decide +kernel
  have m_1 : ((.constantLong RX6 100 1000) : Cond) ∈ wsX6_isValue := by decide +kernel
  have hq : f_X6_isValue what n0 = f_X6_isValue what n0 := rfl
  refine lv_iload_n hx hb dX6_isValue_0 rfl (lv_at hl 0 rfl) ?_
  by_cases c1 : what = (0 : Int32)
  · skip
    have hq := hq.trans (if_pos c1)
    refine w_ts (v := 0) (off := 31) (tgt := 32) hx hb dX6_isValue_1 c1 (by decide) (by decide) rfl (by decide) ?_
    refine lv_iload_n hx hb dX6_isValue_32 rfl (lv_at hl 1 rfl) ?_
    refine lv_i2l (v := (n0.toInt64)) hx hb dX6_isValue_33 rfl ?_
    refine lv_lconst (v := 0) hx hb dX6_isValue_34 (by decide) ?_
    refine lv_ldc2 (v := 20) hx hb hown (hts _ m_0) dX6_isValue_35 ?_
    refine w_finI (w_runS (rm := ({ frames := 0, cells := 0, slots := 0, locals := 0 } : Room)) (As := [.long (n0.toInt64), .long 0, .long 20]) (rest := []) (n := 3) hx hb hml hts hown hK w (c_X6_isIn l D cI cP cS cL L _ (n0.toInt64) 0 20 ) gX6_isValue_X6_isIn rfl rfl rfl (by decide +kernel) ⟨(Nat.le_of_ble_eq_true rfl), (Nat.le_of_ble_eq_true rfl)⟩ rfl hl.1 rfl (Nat.le_of_ble_eq_true rfl) dX6_isValue_38 ⟨(Nat.le_of_ble_eq_true rfl), (Nat.le_of_ble_eq_true rfl)⟩) w hA (fun H locs w => ?_)
    exact w_zret hx hb hr hlocks w (w_nb (z_X6_isIn _ _ _)) ⟨hq.symm, rfl, rfl⟩ (Nat.le_refl _) (Nat.le_refl _) dX6_isValue_41
  · skip
    have hq := hq.trans (if_neg c1)
    by_cases c2 : what = (1 : Int32)
    · skip
      have hq := hq.trans (if_pos c2)
      refine w_ts (v := 1) (off := 41) (tgt := 42) hx hb dX6_isValue_1 c2 (by decide) (by decide) rfl (by decide) ?_
      refine lv_iload_n hx hb dX6_isValue_42 rfl (lv_at hl 1 rfl) ?_
      refine lv_i2l (v := (n0.toInt64)) hx hb dX6_isValue_43 rfl ?_
      refine lv_lconst (v := 1) hx hb dX6_isValue_44 (by decide) ?_
      refine lv_ldc2 (v := 20) hx hb hown (hts _ m_0) dX6_isValue_45 ?_
      refine w_finI (w_runS (rm := ({ frames := 0, cells := 0, slots := 0, locals := 0 } : Room)) (As := [.long (n0.toInt64), .long 1, .long 20]) (rest := []) (n := 3) hx hb hml hts hown hK w (c_X6_isIn l D cI cP cS cL L _ (n0.toInt64) 1 20 ) gX6_isValue_X6_isIn rfl rfl rfl (by decide +kernel) ⟨(Nat.le_of_ble_eq_true rfl), (Nat.le_of_ble_eq_true rfl)⟩ rfl hl.1 rfl (Nat.le_of_ble_eq_true rfl) dX6_isValue_48 ⟨(Nat.le_of_ble_eq_true rfl), (Nat.le_of_ble_eq_true rfl)⟩) w hA (fun H locs w => ?_)
      exact w_zret hx hb hr hlocks w (w_nb (z_X6_isIn _ _ _)) ⟨hq.symm, rfl, rfl⟩ (Nat.le_refl _) (Nat.le_refl _) dX6_isValue_51
    · skip
      have hq := hq.trans (if_neg c2)
      by_cases c3 : what = (2 : Int32)
      · skip
        have hq := hq.trans (if_pos c3)
        refine w_ts (v := 2) (off := 51) (tgt := 52) hx hb dX6_isValue_1 c3 (by decide) (by decide) rfl (by decide) ?_
        refine lv_iload_n hx hb dX6_isValue_52 rfl (lv_at hl 1 rfl) ?_
        refine lv_i2l (v := (n0.toInt64)) hx hb dX6_isValue_53 rfl ?_
        refine lv_lconst (v := 1) hx hb dX6_isValue_54 (by decide) ?_
        refine lv_ldc2 (v := 1000) hx hb hown (hts _ m_1) dX6_isValue_55 ?_
        refine w_finI (w_runS (rm := ({ frames := 0, cells := 0, slots := 0, locals := 0 } : Room)) (As := [.long (n0.toInt64), .long 1, .long 1000]) (rest := []) (n := 3) hx hb hml hts hown hK w (c_X6_isIn l D cI cP cS cL L _ (n0.toInt64) 1 1000 ) gX6_isValue_X6_isIn rfl rfl rfl (by decide +kernel) ⟨(Nat.le_of_ble_eq_true rfl), (Nat.le_of_ble_eq_true rfl)⟩ rfl hl.1 rfl (Nat.le_of_ble_eq_true rfl) dX6_isValue_58 ⟨(Nat.le_of_ble_eq_true rfl), (Nat.le_of_ble_eq_true rfl)⟩) w hA (fun H locs w => ?_)
        exact w_zret hx hb hr hlocks w (w_nb (z_X6_isIn _ _ _)) ⟨hq.symm, rfl, rfl⟩ (Nat.le_refl _) (Nat.le_refl _) dX6_isValue_61
      · skip
        have hq := hq.trans (if_neg c3)
        by_cases c4 : what = (3 : Int32)
        · skip
          have hq := hq.trans (if_pos c4)
          refine w_ts (v := 3) (off := 61) (tgt := 62) hx hb dX6_isValue_1 c4 (by decide) (by decide) rfl (by decide) ?_
          refine lv_iload_n hx hb dX6_isValue_62 rfl (lv_at hl 1 rfl) ?_
          refine lv_i2l (v := (n0.toInt64)) hx hb dX6_isValue_63 rfl ?_
          refine lv_lconst (v := 0) hx hb dX6_isValue_64 (by decide) ?_
          refine lv_lconst (v := 1) hx hb dX6_isValue_65 (by decide) ?_
          refine w_finI (w_runS (rm := ({ frames := 0, cells := 0, slots := 0, locals := 0 } : Room)) (As := [.long (n0.toInt64), .long 0, .long 1]) (rest := []) (n := 3) hx hb hml hts hown hK w (c_X6_isIn l D cI cP cS cL L _ (n0.toInt64) 0 1 ) gX6_isValue_X6_isIn rfl rfl rfl (by decide +kernel) ⟨(Nat.le_of_ble_eq_true rfl), (Nat.le_of_ble_eq_true rfl)⟩ rfl hl.1 rfl (Nat.le_of_ble_eq_true rfl) dX6_isValue_66 ⟨(Nat.le_of_ble_eq_true rfl), (Nat.le_of_ble_eq_true rfl)⟩) w hA (fun H locs w => ?_)
          exact w_zret hx hb hr hlocks w (w_nb (z_X6_isIn _ _ _)) ⟨hq.symm, rfl, rfl⟩ (Nat.le_refl _) (Nat.le_refl _) dX6_isValue_69
        · skip
          have hq := hq.trans (if_neg c4)
          refine lv_tableOut (tgt := 70) hx hb dX6_isValue_1 (by have q0 : ¬ what.toInt = 0 := w_ne c1 rfl; have q1 : ¬ what.toInt = 1 := w_ne c2 rfl; have q2 : ¬ what.toInt = 2 := w_ne c3 rfl; have q3 : ¬ what.toInt = 3 := w_ne c4 rfl; omega) (by decide) ?_
          refine lv_iload_n hx hb dX6_isValue_70 rfl (lv_at hl 0 rfl) ?_
          refine lv_iconst (v := 4) hx hb dX6_isValue_71 (by decide) ?_
          refine lv_icmp_ne (tgt := 79) hx hb dX6_isValue_72 (by decide) (fun c5 => ?_) (fun c5 => ?_)
          · skip
            have hq := hq.trans (if_neg c5)
            refine lv_iconst (v := 0) hx hb dX6_isValue_79 (by decide) ?_
            exact w_zret hx hb hr hlocks w rfl ⟨hq.symm, rfl, rfl⟩ (Nat.le_refl _) (Nat.le_refl _) dX6_isValue_80
          · skip
            have hq := hq.trans (if_pos c5)
            refine lv_iconst (v := 1) hx hb dX6_isValue_75 (by decide) ?_
            refine lv_goto (tgt := 80) hx hb dX6_isValue_76 (by decide) ?_
            exact w_zret hx hb hr hlocks w rfl ⟨hq.symm, rfl, rfl⟩ (Nat.le_refl _) (Nat.le_refl _) dX6_isValue_80
theorem isValue_ok {what n0 : Int32} (c : ¬ f_X6_isValue what n0 = 0) : vp_in what 55 := by
  unfold f_X6_isValue at c
  by_cases h0 : what = 0
  · subst h0; exact vp_in_nI (n := 0) (N := 55) (by decide) (by decide)
  · rw [if_neg h0] at c
    by_cases h1 : what = 1
    · subst h1; exact vp_in_nI (n := 1) (N := 55) (by decide) (by decide)
    · rw [if_neg h1] at c
      by_cases h2 : what = 2
      · subst h2; exact vp_in_nI (n := 2) (N := 55) (by decide) (by decide)
      · rw [if_neg h2] at c
        by_cases h3 : what = 3
        · subst h3; exact vp_in_nI (n := 3) (N := 55) (by decide) (by decide)
        · rw [if_neg h3] at c
          by_cases h4 : what = 4
          · subst h4; exact vp_in_nI (n := 4) (N := 55) (by decide) (by decide)
          · rw [if_neg h4] at c; exact absurd rfl c
def f_X6_set (what : Int32) (n0 : Int32) (m_ss_f : Nat → Int32) : Int32 × (Nat → Int32) := if (f_X6_isValue what n0) = (0 : Int32) then ((-1), m_ss_f) else (if what = (4 : Int32) then (bnd (f_X6_becomes what n0 m_ss_f) (fun x35 : Int32 × (Nat → Int32) => (x35.1, x35.2))) else (if (m_ss_f 6) ≤ (0 : Int32) then (bnd (f_X6_becomes what n0 m_ss_f) (fun x35 : Int32 × (Nat → Int32) => (x35.1, x35.2))) else ((-3), m_ss_f)))
set_option maxHeartbeats 400000 in
set_option maxRecDepth 100000 in
theorem c_X6_set (l : Launch) (D : va_G) (cI cP cS cL : ClassId) (L : List Nat) (F : Nat → va_E) (m : Nat) (what : Int32) (n0 : Int32) (m_ss : Nat) (m_im : Nat) (m_re : Nat) (m_sa : Nat) (m_ke : Nat) (m_so : Nat) (m_si : Nat) (m_el : Nat) (m_kd : Nat) (m_kt : Nat) (m_hi : Int32) (m_th : Int32) (m_po : Int32) (m_ba : Int32) (m_en : Int32) (m_tl : Int32) (m_nu : Nat) (m_ca : Nat) (m_ha : Nat) (m_hs : Int32) (m_co : Nat) (m_ss_f : Nat → Int32) (h_m : wi L F m (eM m_ss m_im m_re m_sa m_ke m_so m_si m_el m_kd m_kt m_hi m_th m_po m_ba m_en m_tl m_nu m_ca m_ha m_hs m_co)) (h_m_ss : wi L F m_ss (eI cI 55 m_ss_f)) : wMj l D cI cP cS cL yX6_set wsX6_set ({ frames := 2, cells := 0, slots := 0, locals := 46 } : Room) [.ref m, .int what, .int n0] L F (fun r1 F1 => ∃ y9 : Int32 × (Nat → Int32), y9 = (f_X6_set what n0 m_ss_f) ∧ r1 = y9.1 ∧ F1 m_ss = (eI cI 55 y9.2) ∧ wk (fun q : Nat => q ≠ m_ss ∧ True) F1 F) := by
  refine wM.of (cc := cX6_set) (maxL := 3) (ret := (some .int)) (by decide) rfl (Nat.le_of_ble_eq_true rfl) ?_
  intro pZ eZ sZ mZ below meth cZ A ls C hl w
  obtain ⟨hx, hb, hr, hml, hts, hown, hlocks, hK, hA, hin⟩ := C
  have hown : sZ.vm.findClass RX6 = some mZ.cls := hown
  have hl : lv_has ls 3 [(0, .ref m), (1, .int what), (2, .int n0)] := hl
  have m_0 : ((.fieldLink RX6 9 "TwoThirdsModel" "s" "[I") : Cond) ∈ wsX6_set := by decide +kernel
  have i_X6 : ∀ w ∈ wsX60, w ∈ wsX6_set := by decide +kernel
  have hk : wk (fun q : Nat => q ≠ m_ss ∧ True) F F := wk.rf
  have hq : f_X6_set what n0 m_ss_f = f_X6_set what n0 m_ss_f := rfl
  refine lv_iload_n hx hb dX6_set_0 rfl (lv_at hl 1 rfl) ?_
  refine lv_iload_n hx hb dX6_set_1 rfl (lv_at hl 2 rfl) ?_
  refine w_finI (w_runS (rm := ({ frames := 1, cells := 0, slots := 0, locals := 25 } : Room)) (As := [.int what, .int n0]) (rest := []) (n := 2) hx hb hml hts hown hK w (c_X6_isValue l D cI cP cS cL L _ what n0 ) gX6_set_X6_isValue rfl rfl rfl (by decide +kernel) ⟨(Nat.le_of_ble_eq_true rfl), (Nat.le_of_ble_eq_true rfl)⟩ rfl hl.1 rfl (Nat.le_of_ble_eq_true rfl) dX6_set_2 ⟨(Nat.le_of_ble_eq_true rfl), (Nat.le_of_ble_eq_true rfl)⟩) w hA (fun H locs w => ?_)
  refine lv_if_ne (tgt := 12) hx hb dX6_set_5 (by decide) (fun c1 => ?_) (fun c1 => ?_)
  · skip
    have hq := hq.trans (if_neg c1)
    have hat : vp_in what 55 := isValue_ok c1
    refine lv_iload_n hx hb dX6_set_12 rfl (lv_at hl 1 rfl) ?_
    refine lv_iconst (v := 4) hx hb dX6_set_13 (by decide) ?_
    refine lv_icmp_eq (tgt := 32) hx hb dX6_set_14 (by decide) (fun c2 => ?_) (fun c2 => ?_)
    · skip
      have hq := hq.trans (if_pos c2)
      refine lv_aload_n hx hb dX6_set_32 rfl (lv_at hl 0 rfl) ?_
      refine lv_iload_n hx hb dX6_set_33 rfl (lv_at hl 1 rfl) ?_
      refine lv_iload_n hx hb dX6_set_34 rfl (lv_at hl 2 rfl) ?_
      refine w_finj (w_runV (rm := ({ frames := 0, cells := 0, slots := 0, locals := 0 } : Room)) (As := [.int what, .int n0]) (rest := []) (n := 2) hx hb hml hts hown hK w (c_X6_becomes l D cI cP cS cL L _ m what n0 m_ss m_im m_re m_sa m_ke m_so m_si m_el m_kd m_kt m_hi m_th m_po m_ba m_en m_tl m_nu m_ca m_ha m_hs m_co m_ss_f h_m h_m_ss hat) gX6_set_X6_becomes rfl rfl rfl (by decide +kernel) ⟨(Nat.le_of_ble_eq_true rfl), (Nat.le_of_ble_eq_true rfl)⟩ h_m rfl rfl hl.1 rfl (Nat.le_of_ble_eq_true rfl) dX6_set_35 ⟨(Nat.le_of_ble_eq_true rfl), (Nat.le_of_ble_eq_true rfl)⟩) w hA (fun r9 F1 H locs hp w => ?_)
      obtain ⟨x35, hx35, hr9, hw0, hk9⟩ := hp
      subst hr9
      have hq := hq.trans (w_bnd hx35)
      have h_m := h_m.keep hk9 ⟨(wi.ne h_m h_m_ss (by intro h; cases h)), trivial⟩
      have h_m_ss := h_m_ss.new hw0
      have hk := hk.call hk9 (fun q h => ⟨h.1, trivial⟩)
      exact w_iret hx hb hr hlocks w ⟨rfl, _, hq.symm, rfl, h_m_ss.2, hk⟩ (Nat.le_refl _) (Nat.le_refl _) dX6_set_38
    · skip
      have hq := hq.trans (if_neg c2)
      refine lv_aload_n hx hb dX6_set_17 rfl (lv_at hl 0 rfl) ?_
      refine w_get (v := .ref m_ss) hx hb hts i_X6 hown hK w h_m rfl 0 (by decide) (hts _ m_0) rfl dX6_set_18 ?_
      refine lv_bipush (v := 6) hx hb dX6_set_21 (by decide) ?_
      refine w_ild (j := 6) hx hb hK w h_m_ss (vp_in_nI (n := 6) (N := 55) (by decide) (by decide)) rfl dX6_set_23 ?_
      refine lv_if_le (tgt := 32) hx hb dX6_set_24 (by decide) (fun c3 => ?_) (fun c3 => ?_)
      · skip
        have hq := hq.trans (if_pos c3)
        refine lv_aload_n hx hb dX6_set_32 rfl (lv_at hl 0 rfl) ?_
        refine lv_iload_n hx hb dX6_set_33 rfl (lv_at hl 1 rfl) ?_
        refine lv_iload_n hx hb dX6_set_34 rfl (lv_at hl 2 rfl) ?_
        refine w_finj (w_runV (rm := ({ frames := 0, cells := 0, slots := 0, locals := 0 } : Room)) (As := [.int what, .int n0]) (rest := []) (n := 2) hx hb hml hts hown hK w (c_X6_becomes l D cI cP cS cL L _ m what n0 m_ss m_im m_re m_sa m_ke m_so m_si m_el m_kd m_kt m_hi m_th m_po m_ba m_en m_tl m_nu m_ca m_ha m_hs m_co m_ss_f h_m h_m_ss hat) gX6_set_X6_becomes rfl rfl rfl (by decide +kernel) ⟨(Nat.le_of_ble_eq_true rfl), (Nat.le_of_ble_eq_true rfl)⟩ h_m rfl rfl hl.1 rfl (Nat.le_of_ble_eq_true rfl) dX6_set_35 ⟨(Nat.le_of_ble_eq_true rfl), (Nat.le_of_ble_eq_true rfl)⟩) w hA (fun r9 F1 H locs hp w => ?_)
        obtain ⟨x35, hx35, hr9, hw0, hk9⟩ := hp
        subst hr9
        have hq := hq.trans (w_bnd hx35)
        have h_m := h_m.keep hk9 ⟨(wi.ne h_m h_m_ss (by intro h; cases h)), trivial⟩
        have h_m_ss := h_m_ss.new hw0
        have hk := hk.call hk9 (fun q h => ⟨h.1, trivial⟩)
        exact w_iret hx hb hr hlocks w ⟨rfl, _, hq.symm, rfl, h_m_ss.2, hk⟩ (Nat.le_refl _) (Nat.le_refl _) dX6_set_38
      · skip
        have hq := hq.trans (if_neg c3)
        refine lv_bipush (v := (-3)) hx hb dX6_set_27 (by decide) ?_
        refine lv_goto (tgt := 38) hx hb dX6_set_29 (by decide) ?_
        exact w_iret hx hb hr hlocks w ⟨rfl, _, hq.symm, rfl, h_m_ss.2, hk⟩ (Nat.le_refl _) (Nat.le_refl _) dX6_set_38
  · skip
    have hq := hq.trans (if_pos c1)
    refine lv_iconst (v := (-1)) hx hb dX6_set_8 (by decide) ?_
    refine lv_goto (tgt := 38) hx hb dX6_set_9 (by decide) ?_
    exact w_iret hx hb hr hlocks w ⟨rfl, _, hq.symm, rfl, h_m_ss.2, hk⟩ (Nat.le_refl _) (Nat.le_refl _) dX6_set_38
def f_X6_steps (p0 : Int32) (n0 : Int32) (m_ss_f : Nat → Int32) : Int32 × (Nat → Int32) := if (f_X6_isPerson p0 m_ss_f) = (0 : Int32) then ((-1), m_ss_f) else (if (f_X6_isIn (n0.toInt64) 0 9) = (0 : Int32) then ((-1), m_ss_f) else (bnd (f_X6_becomes ((7 + (4 * p0)) + 1) n0 m_ss_f) (fun x30 : Int32 × (Nat → Int32) => (x30.1, x30.2))))
set_option maxHeartbeats 400000 in
set_option maxRecDepth 100000 in
theorem c_X6_steps (l : Launch) (D : va_G) (cI cP cS cL : ClassId) (L : List Nat) (F : Nat → va_E) (m : Nat) (p0 : Int32) (n0 : Int32) (m_ss : Nat) (m_im : Nat) (m_re : Nat) (m_sa : Nat) (m_ke : Nat) (m_so : Nat) (m_si : Nat) (m_el : Nat) (m_kd : Nat) (m_kt : Nat) (m_hi : Int32) (m_th : Int32) (m_po : Int32) (m_ba : Int32) (m_en : Int32) (m_tl : Int32) (m_nu : Nat) (m_ca : Nat) (m_ha : Nat) (m_hs : Int32) (m_co : Nat) (m_ss_f : Nat → Int32) (h_m : wi L F m (eM m_ss m_im m_re m_sa m_ke m_so m_si m_el m_kd m_kt m_hi m_th m_po m_ba m_en m_tl m_nu m_ca m_ha m_hs m_co)) (h_m_ss : wi L F m_ss (eI cI 55 m_ss_f)) (h5 : 0 ≤ (m_ss_f 5).toInt ∧ (m_ss_f 5).toInt ≤ 12) : wMj l D cI cP cS cL yX6_steps wsX6_steps ({ frames := 2, cells := 0, slots := 0, locals := 46 } : Room) [.ref m, .int p0, .int n0] L F (fun r1 F1 => ∃ y9 : Int32 × (Nat → Int32), y9 = (f_X6_steps p0 n0 m_ss_f) ∧ r1 = y9.1 ∧ F1 m_ss = (eI cI 55 y9.2) ∧ wk (fun q : Nat => q ≠ m_ss ∧ True) F1 F) := by
  refine wM.of (cc := cX6_steps) (maxL := 3) (ret := (some .int)) (by decide) rfl (Nat.le_of_ble_eq_true rfl) ?_
  intro pZ eZ sZ mZ below meth cZ A ls C hl w
  obtain ⟨hx, hb, hr, hml, hts, hown, hlocks, hK, hA, hin⟩ := C
  have hown : sZ.vm.findClass RX6 = some mZ.cls := hown
  have hl : lv_has ls 3 [(0, .ref m), (1, .int p0), (2, .int n0)] := hl
  have m_0 : ((.constantLong RX6 131 9) : Cond) ∈ wsX6_steps := by decide +kernel
  have hk : wk (fun q : Nat => q ≠ m_ss ∧ True) F F := wk.rf
  have hq : f_X6_steps p0 n0 m_ss_f = f_X6_steps p0 n0 m_ss_f := rfl
  refine lv_aload_n hx hb dX6_steps_0 rfl (lv_at hl 0 rfl) ?_
  refine lv_iload_n hx hb dX6_steps_1 rfl (lv_at hl 1 rfl) ?_
  refine w_finI (w_runV (rm := ({ frames := 1, cells := 0, slots := 0, locals := 25 } : Room)) (As := [.int p0]) (rest := []) (n := 1) hx hb hml hts hown hK w (c_X6_isPerson l D cI cP cS cL L _ m p0 m_ss m_im m_re m_sa m_ke m_so m_si m_el m_kd m_kt m_hi m_th m_po m_ba m_en m_tl m_nu m_ca m_ha m_hs m_co m_ss_f h_m h_m_ss) gX6_steps_X6_isPerson rfl rfl rfl (by decide +kernel) ⟨(Nat.le_of_ble_eq_true rfl), (Nat.le_of_ble_eq_true rfl)⟩ h_m rfl rfl hl.1 rfl (Nat.le_of_ble_eq_true rfl) dX6_steps_2 ⟨(Nat.le_of_ble_eq_true rfl), (Nat.le_of_ble_eq_true rfl)⟩) w hA (fun H locs w => ?_)
  refine lv_if_eq (tgt := 36) hx hb dX6_steps_5 (by decide) (fun c1 => ?_) (fun c1 => ?_)
  · skip
    have hq := hq.trans (if_pos c1)
    refine lv_iconst (v := (-1)) hx hb dX6_steps_36 (by decide) ?_
    exact w_iret hx hb hr hlocks w ⟨rfl, _, hq.symm, rfl, h_m_ss.2, hk⟩ (Nat.le_refl _) (Nat.le_refl _) dX6_steps_37
  · skip
    have hq := hq.trans (if_neg c1)
    have hp0 : 0 ≤ p0.toInt ∧ p0.toInt < 12 := isPerson_12 h5 c1
    refine lv_iload_n hx hb dX6_steps_8 rfl (lv_at hl 2 rfl) ?_
    refine lv_i2l (v := (n0.toInt64)) hx hb dX6_steps_9 rfl ?_
    refine lv_lconst (v := 0) hx hb dX6_steps_10 (by decide) ?_
    refine lv_ldc2 (v := 9) hx hb hown (hts _ m_0) dX6_steps_11 ?_
    refine w_finI (w_runS (rm := ({ frames := 0, cells := 0, slots := 0, locals := 0 } : Room)) (As := [.long (n0.toInt64), .long 0, .long 9]) (rest := []) (n := 3) hx hb hml hts hown hK w (c_X6_isIn l D cI cP cS cL L _ (n0.toInt64) 0 9 ) gX6_steps_X6_isIn rfl rfl rfl (by decide +kernel) ⟨(Nat.le_of_ble_eq_true rfl), (Nat.le_of_ble_eq_true rfl)⟩ rfl hl.1 rfl (Nat.le_of_ble_eq_true rfl) dX6_steps_14 ⟨(Nat.le_of_ble_eq_true rfl), (Nat.le_of_ble_eq_true rfl)⟩) w hA (fun H locs w => ?_)
    refine lv_if_eq (tgt := 36) hx hb dX6_steps_17 (by decide) (fun c2 => ?_) (fun c2 => ?_)
    · skip
      have hq := hq.trans (if_pos c2)
      refine lv_iconst (v := (-1)) hx hb dX6_steps_36 (by decide) ?_
      exact w_iret hx hb hr hlocks w ⟨rfl, _, hq.symm, rfl, h_m_ss.2, hk⟩ (Nat.le_refl _) (Nat.le_refl _) dX6_steps_37
    · skip
      have hq := hq.trans (if_neg c2)
      refine lv_aload_n hx hb dX6_steps_20 rfl (lv_at hl 0 rfl) ?_
      refine lv_bipush (v := 7) hx hb dX6_steps_21 (by decide) ?_
      refine lv_iconst (v := 4) hx hb dX6_steps_23 (by decide) ?_
      refine lv_iload_n hx hb dX6_steps_24 rfl (lv_at hl 1 rfl) ?_
      refine lv_imul hx hb dX6_steps_25 ?_
      refine lv_iadd hx hb dX6_steps_26 ?_
      refine lv_iconst (v := 1) hx hb dX6_steps_27 (by decide) ?_
      refine lv_iadd hx hb dX6_steps_28 ?_
      refine lv_iload_n hx hb dX6_steps_29 rfl (lv_at hl 2 rfl) ?_
      refine w_finj (w_runV (rm := ({ frames := 0, cells := 0, slots := 0, locals := 0 } : Room)) (As := [.int ((7 + (4 * p0)) + 1), .int n0]) (rest := []) (n := 2) hx hb hml hts hown hK w (c_X6_becomes l D cI cP cS cL L _ m ((7 + (4 * p0)) + 1) n0 m_ss m_im m_re m_sa m_ke m_so m_si m_el m_kd m_kt m_hi m_th m_po m_ba m_en m_tl m_nu m_ca m_ha m_hs m_co m_ss_f h_m h_m_ss (gix2 hp0 (by decide))) gX6_steps_X6_becomes rfl rfl rfl (by decide +kernel) ⟨(Nat.le_of_ble_eq_true rfl), (Nat.le_of_ble_eq_true rfl)⟩ h_m rfl rfl hl.1 rfl (Nat.le_of_ble_eq_true rfl) dX6_steps_30 ⟨(Nat.le_of_ble_eq_true rfl), (Nat.le_of_ble_eq_true rfl)⟩) w hA (fun r9 F1 H locs hp w => ?_)
      obtain ⟨x30, hx30, hr9, hw0, hk9⟩ := hp
      subst hr9
      have hq := hq.trans (w_bnd hx30)
      have h_m := h_m.keep hk9 ⟨(wi.ne h_m h_m_ss (by intro h; cases h)), trivial⟩
      have h_m_ss := h_m_ss.new hw0
      have hk := hk.call hk9 (fun q h => ⟨h.1, trivial⟩)
      refine lv_goto (tgt := 37) hx hb dX6_steps_33 (by decide) ?_
      exact w_iret hx hb hr hlocks w ⟨rfl, _, hq.symm, rfl, h_m_ss.2, hk⟩ (Nat.le_refl _) (Nat.le_refl _) dX6_steps_37
def f_X6_held (v : Int32) (m_ss_f : Nat → Int32) : Int32 := if (0 : Int32) ≤ v then (if v ≤ (m_ss_f 2) then v else (m_ss_f 2)) else 0
set_option maxHeartbeats 400000 in
set_option maxRecDepth 100000 in
theorem c_X6_held (l : Launch) (D : va_G) (cI cP cS cL : ClassId) (L : List Nat) (F : Nat → va_E) (m : Nat) (v : Int32) (m_ss : Nat) (m_im : Nat) (m_re : Nat) (m_sa : Nat) (m_ke : Nat) (m_so : Nat) (m_si : Nat) (m_el : Nat) (m_kd : Nat) (m_kt : Nat) (m_hi : Int32) (m_th : Int32) (m_po : Int32) (m_ba : Int32) (m_en : Int32) (m_tl : Int32) (m_nu : Nat) (m_ca : Nat) (m_ha : Nat) (m_hs : Int32) (m_co : Nat) (m_ss_f : Nat → Int32) (h_m : wi L F m (eM m_ss m_im m_re m_sa m_ke m_so m_si m_el m_kd m_kt m_hi m_th m_po m_ba m_en m_tl m_nu m_ca m_ha m_hs m_co)) (h_m_ss : wi L F m_ss (eI cI 55 m_ss_f)) : wMI l D cI cP cS cL yX6_held wsX6_held ({ frames := 0, cells := 0, slots := 0, locals := 0 } : Room) [.ref m, .int v] L F (f_X6_held v m_ss_f) F := by
  refine wM.of (cc := cX6_held) (maxL := 2) (ret := (some .int)) (by decide) rfl (Nat.le_of_ble_eq_true rfl) ?_
  intro pZ eZ sZ mZ below meth cZ A ls C hl w
  obtain ⟨hx, hb, hr, hml, hts, hown, hlocks, hK, hA, hin⟩ := C
  have hown : sZ.vm.findClass RX6 = some mZ.cls := hown
  have hl : lv_has ls 2 [(0, .ref m), (1, .int v)] := hl
  have m_0 : ((.fieldLink RX6 9 "TwoThirdsModel" "s" "[I") : Cond) ∈ wsX6_held := by decide +kernel
  have i_X6 : ∀ w ∈ wsX60, w ∈ wsX6_held := by decide +kernel
  have hq : f_X6_held v m_ss_f = f_X6_held v m_ss_f := rfl
  refine lv_iload_n hx hb dX6_held_0 rfl (lv_at hl 1 rfl) ?_
  refine lv_if_ge (tgt := 8) hx hb dX6_held_1 (by decide) (fun c1 => ?_) (fun c1 => ?_)
  · skip
    have hq := hq.trans (if_pos c1)
    refine lv_iload_n hx hb dX6_held_8 rfl (lv_at hl 1 rfl) ?_
    refine lv_aload_n hx hb dX6_held_9 rfl (lv_at hl 0 rfl) ?_
    refine w_get (v := .ref m_ss) hx hb hts i_X6 hown hK w h_m rfl 0 (by decide) (hts _ m_0) rfl dX6_held_10 ?_
    refine lv_iconst (v := 2) hx hb dX6_held_13 (by decide) ?_
    refine w_ild (j := 2) hx hb hK w h_m_ss (vp_in_nI (n := 2) (N := 55) (by decide) (by decide)) rfl dX6_held_14 ?_
    refine lv_icmp_le (tgt := 27) hx hb dX6_held_15 (by decide) (fun c2 => ?_) (fun c2 => ?_)
    · skip
      have hq := hq.trans (if_pos c2)
      refine lv_iload_n hx hb dX6_held_27 rfl (lv_at hl 1 rfl) ?_
      exact w_iret hx hb hr hlocks w ⟨hq.symm, rfl, rfl⟩ (Nat.le_refl _) (Nat.le_refl _) dX6_held_28
    · skip
      have hq := hq.trans (if_neg c2)
      refine lv_aload_n hx hb dX6_held_18 rfl (lv_at hl 0 rfl) ?_
      refine w_get (v := .ref m_ss) hx hb hts i_X6 hown hK w h_m rfl 0 (by decide) (hts _ m_0) rfl dX6_held_19 ?_
      refine lv_iconst (v := 2) hx hb dX6_held_22 (by decide) ?_
      refine w_ild (j := 2) hx hb hK w h_m_ss (vp_in_nI (n := 2) (N := 55) (by decide) (by decide)) rfl dX6_held_23 ?_
      refine lv_goto (tgt := 28) hx hb dX6_held_24 (by decide) ?_
      exact w_iret hx hb hr hlocks w ⟨hq.symm, rfl, rfl⟩ (Nat.le_refl _) (Nat.le_refl _) dX6_held_28
  · skip
    have hq := hq.trans (if_neg c1)
    refine lv_iconst (v := 0) hx hb dX6_held_4 (by decide) ?_
    refine lv_goto (tgt := 28) hx hb dX6_held_5 (by decide) ?_
    exact w_iret hx hb hr hlocks w ⟨hq.symm, rfl, rfl⟩ (Nat.le_refl _) (Nat.le_refl _) dX6_held_28
def f_X6_shareOf (v : Int32) (up : Int32) (down : Int32) (m_ss_f : Nat → Int32) : Int32 := (f_X6_held ((up * v) / down) m_ss_f)
set_option maxHeartbeats 400000 in
set_option maxRecDepth 100000 in
theorem c_X6_shareOf (l : Launch) (D : va_G) (cI cP cS cL : ClassId) (L : List Nat) (F : Nat → va_E) (m : Nat) (v : Int32) (up : Int32) (down : Int32) (m_ss : Nat) (m_im : Nat) (m_re : Nat) (m_sa : Nat) (m_ke : Nat) (m_so : Nat) (m_si : Nat) (m_el : Nat) (m_kd : Nat) (m_kt : Nat) (m_hi : Int32) (m_th : Int32) (m_po : Int32) (m_ba : Int32) (m_en : Int32) (m_tl : Int32) (m_nu : Nat) (m_ca : Nat) (m_ha : Nat) (m_hs : Int32) (m_co : Nat) (m_ss_f : Nat → Int32) (h_m : wi L F m (eM m_ss m_im m_re m_sa m_ke m_so m_si m_el m_kd m_kt m_hi m_th m_po m_ba m_en m_tl m_nu m_ca m_ha m_hs m_co)) (h_m_ss : wi L F m_ss (eI cI 55 m_ss_f)) (hdn : ¬ down = 0) : wMI l D cI cP cS cL yX6_shareOf wsX6_shareOf ({ frames := 1, cells := 0, slots := 0, locals := 21 } : Room) [.ref m, .int v, .int up, .int down] L F (f_X6_shareOf v up down m_ss_f) F := by
  refine wM.of (cc := cX6_shareOf) (maxL := 4) (ret := (some .int)) (by decide) rfl (Nat.le_of_ble_eq_true rfl) ?_
  intro pZ eZ sZ mZ below meth cZ A ls C hl w
  obtain ⟨hx, hb, hr, hml, hts, hown, hlocks, hK, hA, hin⟩ := C
  have hown : sZ.vm.findClass RX6 = some mZ.cls := hown
  have hl : lv_has ls 4 [(0, .ref m), (1, .int v), (2, .int up), (3, .int down)] := hl
  have hq : f_X6_shareOf v up down m_ss_f = f_X6_shareOf v up down m_ss_f := rfl
  refine lv_aload_n hx hb dX6_shareOf_0 rfl (lv_at hl 0 rfl) ?_
  refine lv_iload_n hx hb dX6_shareOf_1 rfl (lv_at hl 2 rfl) ?_
  refine lv_iload_n hx hb dX6_shareOf_2 rfl (lv_at hl 1 rfl) ?_
  refine lv_imul hx hb dX6_shareOf_3 ?_
  refine lv_iload_n hx hb dX6_shareOf_4 rfl (lv_at hl 3 rfl) ?_
  refine lv_idiv hx hb dX6_shareOf_5 hdn ?_
  refine w_finI (w_runV (rm := ({ frames := 0, cells := 0, slots := 0, locals := 0 } : Room)) (As := [.int ((up * v) / down)]) (rest := []) (n := 1) hx hb hml hts hown hK w (c_X6_held l D cI cP cS cL L _ m ((up * v) / down) m_ss m_im m_re m_sa m_ke m_so m_si m_el m_kd m_kt m_hi m_th m_po m_ba m_en m_tl m_nu m_ca m_ha m_hs m_co m_ss_f h_m h_m_ss) gX6_shareOf_X6_held rfl rfl rfl (by decide +kernel) ⟨(Nat.le_of_ble_eq_true rfl), (Nat.le_of_ble_eq_true rfl)⟩ h_m rfl rfl hl.1 rfl (Nat.le_of_ble_eq_true rfl) dX6_shareOf_6 ⟨(Nat.le_of_ble_eq_true rfl), (Nat.le_of_ble_eq_true rfl)⟩) w hA (fun H locs w => ?_)
  exact w_iret hx hb hr hlocks w ⟨hq.symm, rfl, rfl⟩ (Nat.le_refl _) (Nat.le_refl _) dX6_shareOf_9
def f_X6_levelBy_L13 (k0 : Int32) (up : Int32) (down : Int32) (m_ss_f : Nat → Int32) : Nat → Nat → Int32 → Int32
  | 0, _, _ => 0
  | n + 1, k, v4 => if k0 ≤ (nI k) then v4 else (f_X6_levelBy_L13 k0 up down m_ss_f n ((k + 1)) (f_X6_shareOf v4 up down m_ss_f))
theorem f_X6_levelBy_L13_s (k0 : Int32) (up : Int32) (down : Int32) (m_ss_f : Nat → Int32) (n k : Nat) (v4 : Int32) : f_X6_levelBy_L13 k0 up down m_ss_f (n + 1) k v4 = (if k0 ≤ (nI k) then v4 else (f_X6_levelBy_L13 k0 up down m_ss_f n ((k + 1)) (f_X6_shareOf v4 up down m_ss_f))) := rfl
def f_X6_levelBy (k0 : Int32) (up : Int32) (down : Int32) (m_ss_f : Nat → Int32) : Int32 := f_X6_levelBy_L13 k0 up down m_ss_f (k0.toNatClampNeg + 1) 0 ((m_ss_f 2) / 2)
set_option maxHeartbeats 400000 in
set_option maxRecDepth 100000 in
theorem c_X6_levelBy (l : Launch) (D : va_G) (cI cP cS cL : ClassId) (L : List Nat) (F : Nat → va_E) (m : Nat) (k0 : Int32) (up : Int32) (down : Int32) (m_ss : Nat) (m_im : Nat) (m_re : Nat) (m_sa : Nat) (m_ke : Nat) (m_so : Nat) (m_si : Nat) (m_el : Nat) (m_kd : Nat) (m_kt : Nat) (m_hi : Int32) (m_th : Int32) (m_po : Int32) (m_ba : Int32) (m_en : Int32) (m_tl : Int32) (m_nu : Nat) (m_ca : Nat) (m_ha : Nat) (m_hs : Int32) (m_co : Nat) (m_ss_f : Nat → Int32) (h_m : wi L F m (eM m_ss m_im m_re m_sa m_ke m_so m_si m_el m_kd m_kt m_hi m_th m_po m_ba m_en m_tl m_nu m_ca m_ha m_hs m_co)) (h_m_ss : wi L F m_ss (eI cI 55 m_ss_f)) (hdn : ¬ down = 0) : wMI l D cI cP cS cL yX6_levelBy wsX6_levelBy ({ frames := 2, cells := 0, slots := 0, locals := 44 } : Room) [.ref m, .int k0, .int up, .int down] L F (f_X6_levelBy k0 up down m_ss_f) F := by
  refine wM.of (cc := cX6_levelBy) (maxL := 6) (ret := (some .int)) (by decide) rfl (Nat.le_of_ble_eq_true rfl) ?_
  intro pZ eZ sZ mZ below meth cZ A ls C hl w
  obtain ⟨hx, hb, hr, hml, hts, hown, hlocks, hK, hA, hin⟩ := C
  have hown : sZ.vm.findClass RX6 = some mZ.cls := hown
  have hl : lv_has ls 6 [(0, .ref m), (1, .int k0), (2, .int up), (3, .int down)] := hl
  have m_0 : ((.fieldLink RX6 9 "TwoThirdsModel" "s" "[I") : Cond) ∈ wsX6_levelBy := by decide +kernel
  have i_X6 : ∀ w ∈ wsX60, w ∈ wsX6_levelBy := by decide +kernel
  have hq : f_X6_levelBy k0 up down m_ss_f = f_X6_levelBy k0 up down m_ss_f := rfl
  refine lv_aload_n hx hb dX6_levelBy_0 rfl (lv_at hl 0 rfl) ?_
  refine w_get (v := .ref m_ss) hx hb hts i_X6 hown hK w h_m rfl 0 (by decide) (hts _ m_0) rfl dX6_levelBy_1 ?_
  refine lv_iconst (v := 2) hx hb dX6_levelBy_4 (by decide) ?_
  refine w_ild (j := 2) hx hb hK w h_m_ss (vp_in_nI (n := 2) (N := 55) (by decide) (by decide)) rfl dX6_levelBy_5 ?_
  refine lv_iconst (v := 2) hx hb dX6_levelBy_6 (by decide) ?_
  refine lv_idiv hx hb dX6_levelBy_7 (by decide) ?_
  refine lv_istore (lv' := [(4, .int ((m_ss_f 2) / 2)), (0, .ref m), (1, .int k0), (2, .int up), (3, .int down)]) hx hb dX6_levelBy_8 hl (by decide) rfl (fun ls hl => ?_)
  refine lv_iconst (v := 0) hx hb dX6_levelBy_10 (by decide) ?_
  refine lv_istore (lv' := [(5, .int 0), (4, .int ((m_ss_f 2) / 2)), (0, .ref m), (1, .int k0), (2, .int up), (3, .int down)]) hx hb dX6_levelBy_11 hl (by decide) rfl (fun ls hl => ?_)
  have hL13 : ∀ (n k : Nat) (v4 : Int32) (H : Heap) (locs : List Loc) (ls : Array Slot), k ≤ k0.toNatClampNeg → k0.toNatClampNeg - k < n → f_X6_levelBy k0 up down m_ss_f = f_X6_levelBy_L13 k0 up down m_ss_f n k v4 → lv_has ls 6 [(0, .ref m), (1, .int k0), (2, .int up), (3, .int down), (4, .int v4), (5, .int (nI k))] → ww D A sZ.heap L F H locs → W pZ l eZ ({ frames := 2, cells := 0, slots := 0, locals := 44 } : Room) sZ mZ [.ref m, .int k0, .int up, .int down].toArray below meth cZ H locs 0 0 (MQ below (wQi D A (fun r1 L1 F1 => r1 = (f_X6_levelBy k0 up down m_ss_f) ∧ L1 = L ∧ F1 = F)) [.ref m, .int k0, .int up, .int down].toArray sZ 0 0 A) (F0 mZ 13 ls []) := by
    intro n; induction n with
    | zero => intro k v4 H locs ls hkT hmeas; exact absurd hmeas (Nat.not_lt_zero _)
    | succ n ih =>
      intro k v4 H locs ls hkT hmeas hq hl w
      have hk31 : k < 2147483648 := Nat.lt_of_le_of_lt hkT (w_clamp_lt _)
      have hq := hq.trans (f_X6_levelBy_L13_s k0 up down m_ss_f n k v4)
      refine lv_iload hx hb dX6_levelBy_13 (lv_at hl 5 rfl) ?_
      refine lv_iload_n hx hb dX6_levelBy_15 rfl (lv_at hl 1 rfl) ?_
      refine lv_icmp_ge (tgt := 35) hx hb dX6_levelBy_16 (by decide) (fun c1 => ?_) (fun c1 => ?_)
      · skip
        have hq := hq.trans (if_pos c1)
        refine lv_iload hx hb dX6_levelBy_35 (lv_at hl 4 rfl) ?_
        exact w_iret hx hb hr hlocks w ⟨hq.symm, rfl, rfl⟩ (Nat.le_refl _) (Nat.le_refl _) dX6_levelBy_37
      · skip
        have hq := hq.trans (if_neg c1)
        have hlt16 : k < k0.toNatClampNeg := w_ltk hk31 c1
        refine lv_aload_n hx hb dX6_levelBy_19 rfl (lv_at hl 0 rfl) ?_
        refine lv_iload hx hb dX6_levelBy_20 (lv_at hl 4 rfl) ?_
        refine lv_iload_n hx hb dX6_levelBy_22 rfl (lv_at hl 2 rfl) ?_
        refine lv_iload_n hx hb dX6_levelBy_23 rfl (lv_at hl 3 rfl) ?_
        refine w_finI (w_runV (rm := ({ frames := 1, cells := 0, slots := 0, locals := 21 } : Room)) (As := [.int v4, .int up, .int down]) (rest := []) (n := 3) hx hb hml hts hown hK w (c_X6_shareOf l D cI cP cS cL L _ m v4 up down m_ss m_im m_re m_sa m_ke m_so m_si m_el m_kd m_kt m_hi m_th m_po m_ba m_en m_tl m_nu m_ca m_ha m_hs m_co m_ss_f h_m h_m_ss hdn) gX6_levelBy_X6_shareOf rfl rfl rfl (by decide +kernel) ⟨(Nat.le_of_ble_eq_true rfl), (Nat.le_of_ble_eq_true rfl)⟩ h_m rfl rfl hl.1 rfl (Nat.le_of_ble_eq_true rfl) dX6_levelBy_24 ⟨(Nat.le_of_ble_eq_true rfl), (Nat.le_of_ble_eq_true rfl)⟩) w hA (fun H locs w => ?_)
        refine lv_istore (lv' := [(4, .int (f_X6_shareOf v4 up down m_ss_f)), (0, .ref m), (1, .int k0), (2, .int up), (3, .int down), (5, .int (nI k))]) hx hb dX6_levelBy_27 hl (by decide) rfl (fun ls hl => ?_)
        refine lv_iinc (v := (nI (k + 1))) (lv' := [(5, .int (nI (k + 1))), (4, .int (f_X6_shareOf v4 up down m_ss_f)), (0, .ref m), (1, .int k0), (2, .int up), (3, .int down)]) hx hb dX6_levelBy_29 hl (k := 5) rfl (w_inc _) (by decide) rfl (fun ls hl => ?_)
        refine lv_goto (tgt := 13) hx hb dX6_levelBy_32 (by decide) ?_
        exact ih ((k + 1)) (f_X6_shareOf v4 up down m_ss_f) _ _ _ (by omega) (by omega) hq (lv_sub hl [2, 3, 4, 5, 1, 0] rfl) w
  exact hL13 (k0.toNatClampNeg + 1) 0 ((m_ss_f 2) / 2) _ _ _ (Nat.zero_le _) (by omega) hq (lv_sub hl [2, 3, 4, 5, 1, 0] rfl) w
def f_X6_mixed_L16 (k0 : Int32) (up : Int32) (down : Int32) (m_ss_f : Nat → Int32) : Nat → Nat → Int32 → Int32 → Int32
  | 0, _, _, _ => 0
  | n + 1, k, v4, v5 => if k0 ≤ (nI k) then v4 else (f_X6_mixed_L16 k0 up down m_ss_f n ((k + 1)) (f_X6_shareOf ((v5 + v4) / ((nI k) + 1)) up down m_ss_f) (v5 + v4))
theorem f_X6_mixed_L16_s (k0 : Int32) (up : Int32) (down : Int32) (m_ss_f : Nat → Int32) (n k : Nat) (v4 : Int32) (v5 : Int32) : f_X6_mixed_L16 k0 up down m_ss_f (n + 1) k v4 v5 = (if k0 ≤ (nI k) then v4 else (f_X6_mixed_L16 k0 up down m_ss_f n ((k + 1)) (f_X6_shareOf ((v5 + v4) / ((nI k) + 1)) up down m_ss_f) (v5 + v4))) := rfl
def f_X6_mixed (k0 : Int32) (up : Int32) (down : Int32) (m_ss_f : Nat → Int32) : Int32 := f_X6_mixed_L16 k0 up down m_ss_f (k0.toNatClampNeg + 1) 0 ((m_ss_f 2) / 2) 0
set_option maxHeartbeats 400000 in
set_option maxRecDepth 100000 in
theorem c_X6_mixed (l : Launch) (D : va_G) (cI cP cS cL : ClassId) (L : List Nat) (F : Nat → va_E) (m : Nat) (k0 : Int32) (up : Int32) (down : Int32) (m_ss : Nat) (m_im : Nat) (m_re : Nat) (m_sa : Nat) (m_ke : Nat) (m_so : Nat) (m_si : Nat) (m_el : Nat) (m_kd : Nat) (m_kt : Nat) (m_hi : Int32) (m_th : Int32) (m_po : Int32) (m_ba : Int32) (m_en : Int32) (m_tl : Int32) (m_nu : Nat) (m_ca : Nat) (m_ha : Nat) (m_hs : Int32) (m_co : Nat) (m_ss_f : Nat → Int32) (h_m : wi L F m (eM m_ss m_im m_re m_sa m_ke m_so m_si m_el m_kd m_kt m_hi m_th m_po m_ba m_en m_tl m_nu m_ca m_ha m_hs m_co)) (h_m_ss : wi L F m_ss (eI cI 55 m_ss_f)) (hdn : ¬ down = 0) : wMI l D cI cP cS cL yX6_mixed wsX6_mixed ({ frames := 2, cells := 0, slots := 0, locals := 44 } : Room) [.ref m, .int k0, .int up, .int down] L F (f_X6_mixed k0 up down m_ss_f) F := by
  refine wM.of (cc := cX6_mixed) (maxL := 7) (ret := (some .int)) (by decide) rfl (Nat.le_of_ble_eq_true rfl) ?_
  intro pZ eZ sZ mZ below meth cZ A ls C hl w
  obtain ⟨hx, hb, hr, hml, hts, hown, hlocks, hK, hA, hin⟩ := C
  have hown : sZ.vm.findClass RX6 = some mZ.cls := hown
  have hl : lv_has ls 7 [(0, .ref m), (1, .int k0), (2, .int up), (3, .int down)] := hl
  have m_0 : ((.fieldLink RX6 9 "TwoThirdsModel" "s" "[I") : Cond) ∈ wsX6_mixed := by decide +kernel
  have i_X6 : ∀ w ∈ wsX60, w ∈ wsX6_mixed := by decide +kernel
  have hq : f_X6_mixed k0 up down m_ss_f = f_X6_mixed k0 up down m_ss_f := rfl
  refine lv_aload_n hx hb dX6_mixed_0 rfl (lv_at hl 0 rfl) ?_
  refine w_get (v := .ref m_ss) hx hb hts i_X6 hown hK w h_m rfl 0 (by decide) (hts _ m_0) rfl dX6_mixed_1 ?_
  refine lv_iconst (v := 2) hx hb dX6_mixed_4 (by decide) ?_
  refine w_ild (j := 2) hx hb hK w h_m_ss (vp_in_nI (n := 2) (N := 55) (by decide) (by decide)) rfl dX6_mixed_5 ?_
  refine lv_iconst (v := 2) hx hb dX6_mixed_6 (by decide) ?_
  refine lv_idiv hx hb dX6_mixed_7 (by decide) ?_
  refine lv_istore (lv' := [(4, .int ((m_ss_f 2) / 2)), (0, .ref m), (1, .int k0), (2, .int up), (3, .int down)]) hx hb dX6_mixed_8 hl (by decide) rfl (fun ls hl => ?_)
  refine lv_iconst (v := 0) hx hb dX6_mixed_10 (by decide) ?_
  refine lv_istore (lv' := [(5, .int 0), (4, .int ((m_ss_f 2) / 2)), (0, .ref m), (1, .int k0), (2, .int up), (3, .int down)]) hx hb dX6_mixed_11 hl (by decide) rfl (fun ls hl => ?_)
  refine lv_iconst (v := 0) hx hb dX6_mixed_13 (by decide) ?_
  refine lv_istore (lv' := [(6, .int 0), (5, .int 0), (4, .int ((m_ss_f 2) / 2)), (0, .ref m), (1, .int k0), (2, .int up), (3, .int down)]) hx hb dX6_mixed_14 hl (by decide) rfl (fun ls hl => ?_)
  have hL16 : ∀ (n k : Nat) (v4 : Int32) (v5 : Int32) (H : Heap) (locs : List Loc) (ls : Array Slot), k ≤ k0.toNatClampNeg → k0.toNatClampNeg - k < n → f_X6_mixed k0 up down m_ss_f = f_X6_mixed_L16 k0 up down m_ss_f n k v4 v5 → lv_has ls 7 [(0, .ref m), (1, .int k0), (2, .int up), (3, .int down), (4, .int v4), (5, .int v5), (6, .int (nI k))] → ww D A sZ.heap L F H locs → W pZ l eZ ({ frames := 2, cells := 0, slots := 0, locals := 44 } : Room) sZ mZ [.ref m, .int k0, .int up, .int down].toArray below meth cZ H locs 0 0 (MQ below (wQi D A (fun r1 L1 F1 => r1 = (f_X6_mixed k0 up down m_ss_f) ∧ L1 = L ∧ F1 = F)) [.ref m, .int k0, .int up, .int down].toArray sZ 0 0 A) (F0 mZ 16 ls []) := by
    intro n; induction n with
    | zero => intro k v4 v5 H locs ls hkT hmeas; exact absurd hmeas (Nat.not_lt_zero _)
    | succ n ih =>
      intro k v4 v5 H locs ls hkT hmeas hq hl w
      have hk31 : k < 2147483648 := Nat.lt_of_le_of_lt hkT (w_clamp_lt _)
      have hq := hq.trans (f_X6_mixed_L16_s k0 up down m_ss_f n k v4 v5)
      refine lv_iload hx hb dX6_mixed_16 (lv_at hl 6 rfl) ?_
      refine lv_iload_n hx hb dX6_mixed_18 rfl (lv_at hl 1 rfl) ?_
      refine lv_icmp_ge (tgt := 50) hx hb dX6_mixed_19 (by decide) (fun c1 => ?_) (fun c1 => ?_)
      · skip
        have hq := hq.trans (if_pos c1)
        refine lv_iload hx hb dX6_mixed_50 (lv_at hl 4 rfl) ?_
        exact w_iret hx hb hr hlocks w ⟨hq.symm, rfl, rfl⟩ (Nat.le_refl _) (Nat.le_refl _) dX6_mixed_52
      · skip
        have hq := hq.trans (if_neg c1)
        have hlt19 : k < k0.toNatClampNeg := w_ltk hk31 c1
        refine lv_iload hx hb dX6_mixed_22 (lv_at hl 5 rfl) ?_
        refine lv_iload hx hb dX6_mixed_24 (lv_at hl 4 rfl) ?_
        refine lv_iadd hx hb dX6_mixed_26 ?_
        refine lv_istore (lv' := [(5, .int (v5 + v4)), (0, .ref m), (1, .int k0), (2, .int up), (3, .int down), (4, .int v4), (6, .int (nI k))]) hx hb dX6_mixed_27 hl (by decide) rfl (fun ls hl => ?_)
        refine lv_aload_n hx hb dX6_mixed_29 rfl (lv_at hl 1 rfl) ?_
        refine lv_iload hx hb dX6_mixed_30 (lv_at hl 0 rfl) ?_
        refine lv_iload hx hb dX6_mixed_32 (lv_at hl 6 rfl) ?_
        refine lv_iconst (v := 1) hx hb dX6_mixed_34 (by decide) ?_
        refine lv_iadd hx hb dX6_mixed_35 ?_
        refine lv_idiv hx hb dX6_mixed_36 (nI1_ne hlt19) ?_
        refine lv_iload_n hx hb dX6_mixed_37 rfl (lv_at hl 3 rfl) ?_
        refine lv_iload_n hx hb dX6_mixed_38 rfl (lv_at hl 4 rfl) ?_
        refine w_finI (w_runV (rm := ({ frames := 1, cells := 0, slots := 0, locals := 21 } : Room)) (As := [.int ((v5 + v4) / ((nI k) + 1)), .int up, .int down]) (rest := []) (n := 3) hx hb hml hts hown hK w (c_X6_shareOf l D cI cP cS cL L _ m ((v5 + v4) / ((nI k) + 1)) up down m_ss m_im m_re m_sa m_ke m_so m_si m_el m_kd m_kt m_hi m_th m_po m_ba m_en m_tl m_nu m_ca m_ha m_hs m_co m_ss_f h_m h_m_ss hdn) gX6_mixed_X6_shareOf rfl rfl rfl (by decide +kernel) ⟨(Nat.le_of_ble_eq_true rfl), (Nat.le_of_ble_eq_true rfl)⟩ h_m rfl rfl hl.1 rfl (Nat.le_of_ble_eq_true rfl) dX6_mixed_39 ⟨(Nat.le_of_ble_eq_true rfl), (Nat.le_of_ble_eq_true rfl)⟩) w hA (fun H locs w => ?_)
        refine lv_istore (lv' := [(4, .int (f_X6_shareOf ((v5 + v4) / ((nI k) + 1)) up down m_ss_f)), (5, .int (v5 + v4)), (0, .ref m), (1, .int k0), (2, .int up), (3, .int down), (6, .int (nI k))]) hx hb dX6_mixed_42 hl (by decide) rfl (fun ls hl => ?_)
        refine lv_iinc (v := (nI (k + 1))) (lv' := [(6, .int (nI (k + 1))), (4, .int (f_X6_shareOf ((v5 + v4) / ((nI k) + 1)) up down m_ss_f)), (5, .int (v5 + v4)), (0, .ref m), (1, .int k0), (2, .int up), (3, .int down)]) hx hb dX6_mixed_44 hl (k := 6) rfl (w_inc _) (by decide) rfl (fun ls hl => ?_)
        refine lv_goto (tgt := 16) hx hb dX6_mixed_47 (by decide) ?_
        exact ih ((k + 1)) (f_X6_shareOf ((v5 + v4) / ((nI k) + 1)) up down m_ss_f) (v5 + v4) _ _ _ (by omega) (by omega) hq (lv_sub hl [3, 4, 5, 6, 1, 2, 0] rfl) w
  exact hL16 (k0.toNatClampNeg + 1) 0 ((m_ss_f 2) / 2) 0 _ _ _ (Nat.zero_le _) (by omega) hq (lv_sub hl [3, 4, 5, 6, 2, 1, 0] rfl) w
def f_X6_lastSum_L4 (m_ss_f : Nat → Int32) : Nat → Nat → Int32 → Int32
  | 0, _, _ => 0
  | n + 1, k, v1 => if (m_ss_f 5) ≤ (nI k) then v1 else (f_X6_lastSum_L4 m_ss_f n ((k + 1)) (v1 + (f_X6_get (nI k) 3 m_ss_f)))
theorem f_X6_lastSum_L4_s (m_ss_f : Nat → Int32) (n k : Nat) (v1 : Int32) : f_X6_lastSum_L4 m_ss_f (n + 1) k v1 = (if (m_ss_f 5) ≤ (nI k) then v1 else (f_X6_lastSum_L4 m_ss_f n ((k + 1)) (v1 + (f_X6_get (nI k) 3 m_ss_f)))) := rfl
def f_X6_lastSum (m_ss_f : Nat → Int32) : Int32 := f_X6_lastSum_L4 m_ss_f ((m_ss_f 5).toNatClampNeg + 1) 0 0
set_option maxHeartbeats 400000 in
set_option maxRecDepth 100000 in
theorem c_X6_lastSum (l : Launch) (D : va_G) (cI cP cS cL : ClassId) (L : List Nat) (F : Nat → va_E) (m : Nat) (m_ss : Nat) (m_im : Nat) (m_re : Nat) (m_sa : Nat) (m_ke : Nat) (m_so : Nat) (m_si : Nat) (m_el : Nat) (m_kd : Nat) (m_kt : Nat) (m_hi : Int32) (m_th : Int32) (m_po : Int32) (m_ba : Int32) (m_en : Int32) (m_tl : Int32) (m_nu : Nat) (m_ca : Nat) (m_ha : Nat) (m_hs : Int32) (m_co : Nat) (m_ss_f : Nat → Int32) (h_m : wi L F m (eM m_ss m_im m_re m_sa m_ke m_so m_si m_el m_kd m_kt m_hi m_th m_po m_ba m_en m_tl m_nu m_ca m_ha m_hs m_co)) (h_m_ss : wi L F m_ss (eI cI 55 m_ss_f)) (h5 : 0 ≤ (m_ss_f 5).toInt ∧ (m_ss_f 5).toInt ≤ 12) : wMI l D cI cP cS cL yX6_lastSum wsX6_lastSum ({ frames := 1, cells := 0, slots := 0, locals := 22 } : Room) [.ref m] L F (f_X6_lastSum m_ss_f) F := by
  refine wM.of (cc := cX6_lastSum) (maxL := 3) (ret := (some .int)) (by decide) rfl (Nat.le_of_ble_eq_true rfl) ?_
  intro pZ eZ sZ mZ below meth cZ A ls C hl w
  obtain ⟨hx, hb, hr, hml, hts, hown, hlocks, hK, hA, hin⟩ := C
  have hown : sZ.vm.findClass RX6 = some mZ.cls := hown
  have hl : lv_has ls 3 [(0, .ref m)] := hl
  have m_0 : ((.fieldLink RX6 9 "TwoThirdsModel" "s" "[I") : Cond) ∈ wsX6_lastSum := by decide +kernel
  have i_X6 : ∀ w ∈ wsX60, w ∈ wsX6_lastSum := by decide +kernel
  have hq : f_X6_lastSum m_ss_f = f_X6_lastSum m_ss_f := rfl
  refine lv_iconst (v := 0) hx hb dX6_lastSum_0 (by decide) ?_
  refine lv_istore_n (lv' := [(1, .int 0), (0, .ref m)]) hx hb dX6_lastSum_1 rfl hl (by decide) rfl (fun ls hl => ?_)
  refine lv_iconst (v := 0) hx hb dX6_lastSum_2 (by decide) ?_
  refine lv_istore_n (lv' := [(2, .int 0), (1, .int 0), (0, .ref m)]) hx hb dX6_lastSum_3 rfl hl (by decide) rfl (fun ls hl => ?_)
  have hL4 : ∀ (n k : Nat) (v1 : Int32) (H : Heap) (locs : List Loc) (ls : Array Slot), k ≤ (m_ss_f 5).toNatClampNeg → (m_ss_f 5).toNatClampNeg - k < n → f_X6_lastSum m_ss_f = f_X6_lastSum_L4 m_ss_f n k v1 → lv_has ls 3 [(0, .ref m), (1, .int v1), (2, .int (nI k))] → ww D A sZ.heap L F H locs → W pZ l eZ ({ frames := 1, cells := 0, slots := 0, locals := 22 } : Room) sZ mZ [.ref m].toArray below meth cZ H locs 0 0 (MQ below (wQi D A (fun r1 L1 F1 => r1 = (f_X6_lastSum m_ss_f) ∧ L1 = L ∧ F1 = F)) [.ref m].toArray sZ 0 0 A) (F0 mZ 4 ls []) := by
    intro n; induction n with
    | zero => intro k v1 H locs ls hkT hmeas; exact absurd hmeas (Nat.not_lt_zero _)
    | succ n ih =>
      intro k v1 H locs ls hkT hmeas hq hl w
      have hk31 : k < 2147483648 := Nat.lt_of_le_of_lt hkT (w_clamp_lt _)
      have hq := hq.trans (f_X6_lastSum_L4_s m_ss_f n k v1)
      refine lv_iload_n hx hb dX6_lastSum_4 rfl (lv_at hl 2 rfl) ?_
      refine lv_aload_n hx hb dX6_lastSum_5 rfl (lv_at hl 0 rfl) ?_
      refine w_get (v := .ref m_ss) hx hb hts i_X6 hown hK w h_m rfl 0 (by decide) (hts _ m_0) rfl dX6_lastSum_6 ?_
      refine lv_iconst (v := 5) hx hb dX6_lastSum_9 (by decide) ?_
      refine w_ild (j := 5) hx hb hK w h_m_ss (vp_in_nI (n := 5) (N := 55) (by decide) (by decide)) rfl dX6_lastSum_10 ?_
      refine lv_icmp_ge (tgt := 29) hx hb dX6_lastSum_11 (by decide) (fun c1 => ?_) (fun c1 => ?_)
      · skip
        have hq := hq.trans (if_pos c1)
        refine lv_iload_n hx hb dX6_lastSum_29 rfl (lv_at hl 1 rfl) ?_
        exact w_iret hx hb hr hlocks w ⟨hq.symm, rfl, rfl⟩ (Nat.le_refl _) (Nat.le_refl _) dX6_lastSum_30
      · skip
        have hq := hq.trans (if_neg c1)
        have hlt11 : k < (m_ss_f 5).toNatClampNeg := w_ltk hk31 c1
        have hk12 : k < 12 := w_k12 hlt11 h5.2
        refine lv_iload_n hx hb dX6_lastSum_14 rfl (lv_at hl 1 rfl) ?_
        refine lv_aload_n hx hb dX6_lastSum_15 rfl (lv_at hl 0 rfl) ?_
        refine lv_iload_n hx hb dX6_lastSum_16 rfl (lv_at hl 2 rfl) ?_
        refine lv_iconst (v := 3) hx hb dX6_lastSum_17 (by decide) ?_
        refine w_finI (w_runV (rm := ({ frames := 0, cells := 0, slots := 0, locals := 0 } : Room)) (As := [.int (nI k), .int 3]) (rest := [.int v1]) (n := 2) hx hb hml hts hown hK w (c_X6_get l D cI cP cS cL L _ m (nI k) 3 m_ss m_im m_re m_sa m_ke m_so m_si m_el m_kd m_kt m_hi m_th m_po m_ba m_en m_tl m_nu m_ca m_ha m_hs m_co m_ss_f h_m h_m_ss (gix2 (nIb (by omega)) (by decide))) gX6_lastSum_X6_get rfl rfl rfl (by decide +kernel) ⟨(Nat.le_of_ble_eq_true rfl), (Nat.le_of_ble_eq_true rfl)⟩ h_m rfl rfl hl.1 rfl (Nat.le_of_ble_eq_true rfl) dX6_lastSum_18 ⟨(Nat.le_of_ble_eq_true rfl), (Nat.le_of_ble_eq_true rfl)⟩) w hA (fun H locs w => ?_)
        refine lv_iadd hx hb dX6_lastSum_21 ?_
        refine lv_istore_n (lv' := [(1, .int (v1 + (f_X6_get (nI k) 3 m_ss_f))), (0, .ref m), (2, .int (nI k))]) hx hb dX6_lastSum_22 rfl hl (by decide) rfl (fun ls hl => ?_)
        refine lv_iinc (v := (nI (k + 1))) (lv' := [(2, .int (nI (k + 1))), (1, .int (v1 + (f_X6_get (nI k) 3 m_ss_f))), (0, .ref m)]) hx hb dX6_lastSum_23 hl (k := 2) rfl (w_inc _) (by decide) rfl (fun ls hl => ?_)
        refine lv_goto (tgt := 4) hx hb dX6_lastSum_26 (by decide) ?_
        exact ih ((k + 1)) (v1 + (f_X6_get (nI k) 3 m_ss_f)) _ _ _ (by omega) (by omega) hq (lv_sub hl [2, 1, 0] rfl) w
  exact hL4 ((m_ss_f 5).toNatClampNeg + 1) 0 0 _ _ _ (Nat.zero_le _) (by omega) hq (lv_sub hl [2, 1, 0] rfl) w
def f_X6_learnt_L34 (k0 : Int32) (up : Int32) (down : Int32) (m_ss_f : Nat → Int32) : Nat → Nat → Int32 → Int32
  | 0, _, _ => 0
  | n + 1, k, v4 => if (nI k) < k0 then (f_X6_learnt_L34 k0 up down m_ss_f n ((k + 1)) (f_X6_shareOf v4 up down m_ss_f)) else (if (nI k) = (0 : Int32) then (f_X6_learnt_L34 k0 up down m_ss_f n ((k + 1)) (f_X6_shareOf v4 up down m_ss_f)) else v4)
theorem f_X6_learnt_L34_s (k0 : Int32) (up : Int32) (down : Int32) (m_ss_f : Nat → Int32) (n k : Nat) (v4 : Int32) : f_X6_learnt_L34 k0 up down m_ss_f (n + 1) k v4 = (if (nI k) < k0 then (f_X6_learnt_L34 k0 up down m_ss_f n ((k + 1)) (f_X6_shareOf v4 up down m_ss_f)) else (if (nI k) = (0 : Int32) then (f_X6_learnt_L34 k0 up down m_ss_f n ((k + 1)) (f_X6_shareOf v4 up down m_ss_f)) else v4)) := rfl
def f_X6_learnt (k0 : Int32) (up : Int32) (down : Int32) (m_ss_f : Nat → Int32) : Int32 := if (m_ss_f 6) = (0 : Int32) then (f_X6_levelBy k0 up down m_ss_f) else (f_X6_learnt_L34 k0 up down m_ss_f (k0.toNatClampNeg + 1 + 1) 0 ((f_X6_lastSum m_ss_f) / (m_ss_f 5)))
set_option maxHeartbeats 400000 in
set_option maxRecDepth 100000 in
theorem c_X6_learnt (l : Launch) (D : va_G) (cI cP cS cL : ClassId) (L : List Nat) (F : Nat → va_E) (m : Nat) (k0 : Int32) (up : Int32) (down : Int32) (m_ss : Nat) (m_im : Nat) (m_re : Nat) (m_sa : Nat) (m_ke : Nat) (m_so : Nat) (m_si : Nat) (m_el : Nat) (m_kd : Nat) (m_kt : Nat) (m_hi : Int32) (m_th : Int32) (m_po : Int32) (m_ba : Int32) (m_en : Int32) (m_tl : Int32) (m_nu : Nat) (m_ca : Nat) (m_ha : Nat) (m_hs : Int32) (m_co : Nat) (m_ss_f : Nat → Int32) (h_m : wi L F m (eM m_ss m_im m_re m_sa m_ke m_so m_si m_el m_kd m_kt m_hi m_th m_po m_ba m_en m_tl m_nu m_ca m_ha m_hs m_co)) (h_m_ss : wi L F m_ss (eI cI 55 m_ss_f)) (hdn : ¬ down = 0) (h5 : 0 ≤ (m_ss_f 5).toInt ∧ (m_ss_f 5).toInt ≤ 12) (hr5 : ¬ (m_ss_f 6) = 0 → ¬ (m_ss_f 5) = 0) (hst : k0.toInt ≤ 1000) : wMI l D cI cP cS cL yX6_learnt wsX6_learnt ({ frames := 3, cells := 0, slots := 0, locals := 69 } : Room) [.ref m, .int k0, .int up, .int down] L F (f_X6_learnt k0 up down m_ss_f) F := by
  refine wM.of (cc := cX6_learnt) (maxL := 6) (ret := (some .int)) (by decide) rfl (Nat.le_of_ble_eq_true rfl) ?_
  intro pZ eZ sZ mZ below meth cZ A ls C hl w
  obtain ⟨hx, hb, hr, hml, hts, hown, hlocks, hK, hA, hin⟩ := C
  have hown : sZ.vm.findClass RX6 = some mZ.cls := hown
  have hl : lv_has ls 6 [(0, .ref m), (1, .int k0), (2, .int up), (3, .int down)] := hl
  have m_0 : ((.fieldLink RX6 9 "TwoThirdsModel" "s" "[I") : Cond) ∈ wsX6_learnt := by decide +kernel
  have i_X6 : ∀ w ∈ wsX60, w ∈ wsX6_learnt := by decide +kernel
  have hq : f_X6_learnt k0 up down m_ss_f = f_X6_learnt k0 up down m_ss_f := rfl
  refine lv_aload_n hx hb dX6_learnt_0 rfl (lv_at hl 0 rfl) ?_
  refine w_get (v := .ref m_ss) hx hb hts i_X6 hown hK w h_m rfl 0 (by decide) (hts _ m_0) rfl dX6_learnt_1 ?_
  refine lv_bipush (v := 6) hx hb dX6_learnt_4 (by decide) ?_
  refine w_ild (j := 6) hx hb hK w h_m_ss (vp_in_nI (n := 6) (N := 55) (by decide) (by decide)) rfl dX6_learnt_6 ?_
  refine lv_if_ne (tgt := 18) hx hb dX6_learnt_7 (by decide) (fun c1 => ?_) (fun c1 => ?_)
  · skip
    have hq := hq.trans (if_neg c1)
    refine lv_aload_n hx hb dX6_learnt_18 rfl (lv_at hl 0 rfl) ?_
    refine w_finI (w_runV (rm := ({ frames := 1, cells := 0, slots := 0, locals := 22 } : Room)) (As := []) (rest := []) (n := 0) hx hb hml hts hown hK w (c_X6_lastSum l D cI cP cS cL L _ m m_ss m_im m_re m_sa m_ke m_so m_si m_el m_kd m_kt m_hi m_th m_po m_ba m_en m_tl m_nu m_ca m_ha m_hs m_co m_ss_f h_m h_m_ss h5) gX6_learnt_X6_lastSum rfl rfl rfl (by decide +kernel) ⟨(Nat.le_of_ble_eq_true rfl), (Nat.le_of_ble_eq_true rfl)⟩ h_m rfl rfl hl.1 rfl (Nat.le_of_ble_eq_true rfl) dX6_learnt_19 ⟨(Nat.le_of_ble_eq_true rfl), (Nat.le_of_ble_eq_true rfl)⟩) w hA (fun H locs w => ?_)
    refine lv_aload_n hx hb dX6_learnt_22 rfl (lv_at hl 0 rfl) ?_
    refine w_get (v := .ref m_ss) hx hb hts i_X6 hown hK w h_m rfl 0 (by decide) (hts _ m_0) rfl dX6_learnt_23 ?_
    refine lv_iconst (v := 5) hx hb dX6_learnt_26 (by decide) ?_
    refine w_ild (j := 5) hx hb hK w h_m_ss (vp_in_nI (n := 5) (N := 55) (by decide) (by decide)) rfl dX6_learnt_27 ?_
    refine lv_idiv hx hb dX6_learnt_28 (hr5 (by assumption)) ?_
    refine lv_istore (lv' := [(4, .int ((f_X6_lastSum m_ss_f) / (m_ss_f 5))), (0, .ref m), (1, .int k0), (2, .int up), (3, .int down)]) hx hb dX6_learnt_29 hl (by decide) rfl (fun ls hl => ?_)
    refine lv_iconst (v := 0) hx hb dX6_learnt_31 (by decide) ?_
    refine lv_istore (lv' := [(5, .int 0), (4, .int ((f_X6_lastSum m_ss_f) / (m_ss_f 5))), (0, .ref m), (1, .int k0), (2, .int up), (3, .int down)]) hx hb dX6_learnt_32 hl (by decide) rfl (fun ls hl => ?_)
    have hL34 : ∀ (n k : Nat) (v4 : Int32) (H : Heap) (locs : List Loc) (ls : Array Slot), k ≤ k0.toNatClampNeg + 1 → k0.toNatClampNeg + 1 - k < n → f_X6_learnt k0 up down m_ss_f = f_X6_learnt_L34 k0 up down m_ss_f n k v4 → lv_has ls 6 [(0, .ref m), (1, .int k0), (2, .int up), (3, .int down), (4, .int v4), (5, .int (nI k))] → ww D A sZ.heap L F H locs → W pZ l eZ ({ frames := 3, cells := 0, slots := 0, locals := 69 } : Room) sZ mZ [.ref m, .int k0, .int up, .int down].toArray below meth cZ H locs 0 0 (MQ below (wQi D A (fun r1 L1 F1 => r1 = (f_X6_learnt k0 up down m_ss_f) ∧ L1 = L ∧ F1 = F)) [.ref m, .int k0, .int up, .int down].toArray sZ 0 0 A) (F0 mZ 34 ls []) := by
      intro n; induction n with
      | zero => intro k v4 H locs ls hkT hmeas; exact absurd hmeas (Nat.not_lt_zero _)
      | succ n ih =>
        intro k v4 H locs ls hkT hmeas hq hl w
        have hk31 : k < 2147483648 := (by have := hst; have : k0.toNatClampNeg = k0.toInt.toNat := rfl; omega)
        have hq := hq.trans (f_X6_learnt_L34_s k0 up down m_ss_f n k v4)
        refine lv_iload hx hb dX6_learnt_34 (lv_at hl 5 rfl) ?_
        refine lv_iload_n hx hb dX6_learnt_36 rfl (lv_at hl 1 rfl) ?_
        refine lv_icmp_lt (tgt := 45) hx hb dX6_learnt_37 (by decide) (fun c2 => ?_) (fun c2 => ?_)
        · skip
          have hq := hq.trans (if_pos c2)
          have hlt37 : k < k0.toNatClampNeg := w_ltk' hk31 c2
          refine lv_aload_n hx hb dX6_learnt_45 rfl (lv_at hl 0 rfl) ?_
          refine lv_iload hx hb dX6_learnt_46 (lv_at hl 4 rfl) ?_
          refine lv_iload_n hx hb dX6_learnt_48 rfl (lv_at hl 2 rfl) ?_
          refine lv_iload_n hx hb dX6_learnt_49 rfl (lv_at hl 3 rfl) ?_
          refine w_finI (w_runV (rm := ({ frames := 1, cells := 0, slots := 0, locals := 21 } : Room)) (As := [.int v4, .int up, .int down]) (rest := []) (n := 3) hx hb hml hts hown hK w (c_X6_shareOf l D cI cP cS cL L _ m v4 up down m_ss m_im m_re m_sa m_ke m_so m_si m_el m_kd m_kt m_hi m_th m_po m_ba m_en m_tl m_nu m_ca m_ha m_hs m_co m_ss_f h_m h_m_ss hdn) gX6_learnt_X6_shareOf rfl rfl rfl (by decide +kernel) ⟨(Nat.le_of_ble_eq_true rfl), (Nat.le_of_ble_eq_true rfl)⟩ h_m rfl rfl hl.1 rfl (Nat.le_of_ble_eq_true rfl) dX6_learnt_50 ⟨(Nat.le_of_ble_eq_true rfl), (Nat.le_of_ble_eq_true rfl)⟩) w hA (fun H locs w => ?_)
          refine lv_istore (lv' := [(4, .int (f_X6_shareOf v4 up down m_ss_f)), (0, .ref m), (1, .int k0), (2, .int up), (3, .int down), (5, .int (nI k))]) hx hb dX6_learnt_53 hl (by decide) rfl (fun ls hl => ?_)
          refine lv_iinc (v := (nI (k + 1))) (lv' := [(5, .int (nI (k + 1))), (4, .int (f_X6_shareOf v4 up down m_ss_f)), (0, .ref m), (1, .int k0), (2, .int up), (3, .int down)]) hx hb dX6_learnt_55 hl (k := 5) rfl (w_inc _) (by decide) rfl (fun ls hl => ?_)
          refine lv_goto (tgt := 34) hx hb dX6_learnt_58 (by decide) ?_
          exact ih ((k + 1)) (f_X6_shareOf v4 up down m_ss_f) _ _ _ (by omega) (by omega) hq (lv_sub hl [2, 3, 4, 5, 1, 0] rfl) w
        · skip
          have hq := hq.trans (if_neg c2)
          refine lv_iload hx hb dX6_learnt_40 (lv_at hl 5 rfl) ?_
          refine lv_if_ne (tgt := 61) hx hb dX6_learnt_42 (by decide) (fun c3 => ?_) (fun c3 => ?_)
          · skip
            have hq := hq.trans (if_neg c3)
            refine lv_iload hx hb dX6_learnt_61 (lv_at hl 4 rfl) ?_
            exact w_iret hx hb hr hlocks w ⟨hq.symm, rfl, rfl⟩ (Nat.le_refl _) (Nat.le_refl _) dX6_learnt_63
          · skip
            have hq := hq.trans (if_pos c3)
            have hk0 : k = 0 := nI_eq0 hk31 c3
            refine lv_aload_n hx hb dX6_learnt_45 rfl (lv_at hl 0 rfl) ?_
            refine lv_iload hx hb dX6_learnt_46 (lv_at hl 4 rfl) ?_
            refine lv_iload_n hx hb dX6_learnt_48 rfl (lv_at hl 2 rfl) ?_
            refine lv_iload_n hx hb dX6_learnt_49 rfl (lv_at hl 3 rfl) ?_
            refine w_finI (w_runV (rm := ({ frames := 1, cells := 0, slots := 0, locals := 21 } : Room)) (As := [.int v4, .int up, .int down]) (rest := []) (n := 3) hx hb hml hts hown hK w (c_X6_shareOf l D cI cP cS cL L _ m v4 up down m_ss m_im m_re m_sa m_ke m_so m_si m_el m_kd m_kt m_hi m_th m_po m_ba m_en m_tl m_nu m_ca m_ha m_hs m_co m_ss_f h_m h_m_ss hdn) gX6_learnt_X6_shareOf rfl rfl rfl (by decide +kernel) ⟨(Nat.le_of_ble_eq_true rfl), (Nat.le_of_ble_eq_true rfl)⟩ h_m rfl rfl hl.1 rfl (Nat.le_of_ble_eq_true rfl) dX6_learnt_50 ⟨(Nat.le_of_ble_eq_true rfl), (Nat.le_of_ble_eq_true rfl)⟩) w hA (fun H locs w => ?_)
            refine lv_istore (lv' := [(4, .int (f_X6_shareOf v4 up down m_ss_f)), (0, .ref m), (1, .int k0), (2, .int up), (3, .int down), (5, .int (nI k))]) hx hb dX6_learnt_53 hl (by decide) rfl (fun ls hl => ?_)
            refine lv_iinc (v := (nI (k + 1))) (lv' := [(5, .int (nI (k + 1))), (4, .int (f_X6_shareOf v4 up down m_ss_f)), (0, .ref m), (1, .int k0), (2, .int up), (3, .int down)]) hx hb dX6_learnt_55 hl (k := 5) rfl (w_inc _) (by decide) rfl (fun ls hl => ?_)
            refine lv_goto (tgt := 34) hx hb dX6_learnt_58 (by decide) ?_
            exact ih ((k + 1)) (f_X6_shareOf v4 up down m_ss_f) _ _ _ (by omega) (by omega) hq (lv_sub hl [2, 3, 4, 5, 1, 0] rfl) w
    exact hL34 (k0.toNatClampNeg + 1 + 1) 0 ((f_X6_lastSum m_ss_f) / (m_ss_f 5)) _ _ _ (Nat.zero_le _) (by omega) hq (lv_sub hl [2, 3, 4, 5, 1, 0] rfl) w
  · skip
    have hq := hq.trans (if_pos c1)
    refine lv_aload_n hx hb dX6_learnt_10 rfl (lv_at hl 0 rfl) ?_
    refine lv_iload_n hx hb dX6_learnt_11 rfl (lv_at hl 1 rfl) ?_
    refine lv_iload_n hx hb dX6_learnt_12 rfl (lv_at hl 2 rfl) ?_
    refine lv_iload_n hx hb dX6_learnt_13 rfl (lv_at hl 3 rfl) ?_
    refine w_finI (w_runV (rm := ({ frames := 2, cells := 0, slots := 0, locals := 44 } : Room)) (As := [.int k0, .int up, .int down]) (rest := []) (n := 3) hx hb hml hts hown hK w (c_X6_levelBy l D cI cP cS cL L _ m k0 up down m_ss m_im m_re m_sa m_ke m_so m_si m_el m_kd m_kt m_hi m_th m_po m_ba m_en m_tl m_nu m_ca m_ha m_hs m_co m_ss_f h_m h_m_ss hdn) gX6_learnt_X6_levelBy rfl rfl rfl (by decide +kernel) ⟨(Nat.le_of_ble_eq_true rfl), (Nat.le_of_ble_eq_true rfl)⟩ h_m rfl rfl hl.1 rfl (Nat.le_of_ble_eq_true rfl) dX6_learnt_14 ⟨(Nat.le_of_ble_eq_true rfl), (Nat.le_of_ble_eq_true rfl)⟩) w hA (fun H locs w => ?_)
    exact w_iret hx hb hr hlocks w ⟨hq.symm, rfl, rfl⟩ (Nat.le_refl _) (Nat.le_refl _) dX6_learnt_17
def f_X6_holdsBy (p0 : Int32) (up : Int32) (down : Int32) (m_ss_f : Nat → Int32) : Int32 := if (f_X6_get p0 0 m_ss_f) = (2 : Int32) then (f_X6_levelBy (f_X6_get p0 1 m_ss_f) up down m_ss_f) else (if (f_X6_get p0 0 m_ss_f) = (3 : Int32) then (f_X6_mixed (f_X6_get p0 1 m_ss_f) up down m_ss_f) else (if (f_X6_get p0 0 m_ss_f) = (4 : Int32) then (if down < up then (m_ss_f 2) else 0) else (if (f_X6_get p0 0 m_ss_f) = (5 : Int32) then (m_ss_f 2) else (if (f_X6_get p0 0 m_ss_f) = (6 : Int32) then (f_X6_learnt (f_X6_get p0 1 m_ss_f) up down m_ss_f) else ((m_ss_f 2) / 2)))))
set_option maxHeartbeats 400000 in
set_option maxRecDepth 100000 in
theorem c_X6_holdsBy (l : Launch) (D : va_G) (cI cP cS cL : ClassId) (L : List Nat) (F : Nat → va_E) (m : Nat) (p0 : Int32) (up : Int32) (down : Int32) (m_ss : Nat) (m_im : Nat) (m_re : Nat) (m_sa : Nat) (m_ke : Nat) (m_so : Nat) (m_si : Nat) (m_el : Nat) (m_kd : Nat) (m_kt : Nat) (m_hi : Int32) (m_th : Int32) (m_po : Int32) (m_ba : Int32) (m_en : Int32) (m_tl : Int32) (m_nu : Nat) (m_ca : Nat) (m_ha : Nat) (m_hs : Int32) (m_co : Nat) (m_ss_f : Nat → Int32) (h_m : wi L F m (eM m_ss m_im m_re m_sa m_ke m_so m_si m_el m_kd m_kt m_hi m_th m_po m_ba m_en m_tl m_nu m_ca m_ha m_hs m_co)) (h_m_ss : wi L F m_ss (eI cI 55 m_ss_f)) (hp0 : 0 ≤ p0.toInt ∧ p0.toInt < 12) (hdn : ¬ down = 0) (h5 : 0 ≤ (m_ss_f 5).toInt ∧ (m_ss_f 5).toInt ≤ 12) (hr5 : ¬ (m_ss_f 6) = 0 → ¬ (m_ss_f 5) = 0) (hsp : (m_ss_f (((7 + (4 * p0)) + 1).toNatClampNeg)).toInt ≤ 1000) : wMI l D cI cP cS cL yX6_holdsBy wsX6_holdsBy ({ frames := 4, cells := 0, slots := 0, locals := 94 } : Room) [.ref m, .int p0, .int up, .int down] L F (f_X6_holdsBy p0 up down m_ss_f) F := by
  refine wM.of (cc := cX6_holdsBy) (maxL := 5) (ret := (some .int)) (by decide) rfl (Nat.le_of_ble_eq_true rfl) ?_
  intro pZ eZ sZ mZ below meth cZ A ls C hl w
  obtain ⟨hx, hb, hr, hml, hts, hown, hlocks, hK, hA, hin⟩ := C
  have hown : sZ.vm.findClass RX6 = some mZ.cls := hown
  have hl : lv_has ls 5 [(0, .ref m), (1, .int p0), (2, .int up), (3, .int down)] := hl
  have m_0 : ((.fieldLink RX6 9 "TwoThirdsModel" "s" "[I") : Cond) ∈ wsX6_holdsBy := by decide +kernel
  have i_X6 : ∀ w ∈ wsX60, w ∈ wsX6_holdsBy := by decide +kernel
  have hq : f_X6_holdsBy p0 up down m_ss_f = f_X6_holdsBy p0 up down m_ss_f := rfl
  refine lv_aload_n hx hb dX6_holdsBy_0 rfl (lv_at hl 0 rfl) ?_
  refine lv_iload_n hx hb dX6_holdsBy_1 rfl (lv_at hl 1 rfl) ?_
  refine lv_iconst (v := 1) hx hb dX6_holdsBy_2 (by decide) ?_
  refine w_finI (w_runV (rm := ({ frames := 0, cells := 0, slots := 0, locals := 0 } : Room)) (As := [.int p0, .int 1]) (rest := []) (n := 2) hx hb hml hts hown hK w (c_X6_get l D cI cP cS cL L _ m p0 1 m_ss m_im m_re m_sa m_ke m_so m_si m_el m_kd m_kt m_hi m_th m_po m_ba m_en m_tl m_nu m_ca m_ha m_hs m_co m_ss_f h_m h_m_ss (gix2 hp0 (by decide))) gX6_holdsBy_X6_get rfl rfl rfl (by decide +kernel) ⟨(Nat.le_of_ble_eq_true rfl), (Nat.le_of_ble_eq_true rfl)⟩ h_m rfl rfl hl.1 rfl (Nat.le_of_ble_eq_true rfl) dX6_holdsBy_3 ⟨(Nat.le_of_ble_eq_true rfl), (Nat.le_of_ble_eq_true rfl)⟩) w hA (fun H locs w => ?_)
  refine lv_istore (lv' := [(4, .int (f_X6_get p0 1 m_ss_f)), (0, .ref m), (1, .int p0), (2, .int up), (3, .int down)]) hx hb dX6_holdsBy_6 hl (by decide) rfl (fun ls hl => ?_)
  refine lv_aload_n hx hb dX6_holdsBy_8 rfl (lv_at hl 1 rfl) ?_
  refine lv_iload_n hx hb dX6_holdsBy_9 rfl (lv_at hl 2 rfl) ?_
  refine lv_iconst (v := 0) hx hb dX6_holdsBy_10 (by decide) ?_
  refine w_finI (w_runV (rm := ({ frames := 0, cells := 0, slots := 0, locals := 0 } : Room)) (As := [.int p0, .int 0]) (rest := []) (n := 2) hx hb hml hts hown hK w (c_X6_get l D cI cP cS cL L _ m p0 0 m_ss m_im m_re m_sa m_ke m_so m_si m_el m_kd m_kt m_hi m_th m_po m_ba m_en m_tl m_nu m_ca m_ha m_hs m_co m_ss_f h_m h_m_ss (gix2 hp0 (by decide))) gX6_holdsBy_X6_get rfl rfl rfl (by decide +kernel) ⟨(Nat.le_of_ble_eq_true rfl), (Nat.le_of_ble_eq_true rfl)⟩ h_m rfl rfl hl.1 rfl (Nat.le_of_ble_eq_true rfl) dX6_holdsBy_11 ⟨(Nat.le_of_ble_eq_true rfl), (Nat.le_of_ble_eq_true rfl)⟩) w hA (fun H locs w => ?_)
  by_cases c1 : (f_X6_get p0 0 m_ss_f) = (2 : Int32)
  · skip
    have hq := hq.trans (if_pos c1)
    refine w_ts (v := 2) (off := 34) (tgt := 48) hx hb dX6_holdsBy_14 c1 (by decide) (by decide) rfl (by decide) ?_
    refine lv_aload_n hx hb dX6_holdsBy_48 rfl (lv_at hl 1 rfl) ?_
    refine lv_iload hx hb dX6_holdsBy_49 (lv_at hl 0 rfl) ?_
    refine lv_iload_n hx hb dX6_holdsBy_51 rfl (lv_at hl 3 rfl) ?_
    refine lv_iload_n hx hb dX6_holdsBy_52 rfl (lv_at hl 4 rfl) ?_
    refine w_finI (w_runV (rm := ({ frames := 2, cells := 0, slots := 0, locals := 44 } : Room)) (As := [.int (f_X6_get p0 1 m_ss_f), .int up, .int down]) (rest := []) (n := 3) hx hb hml hts hown hK w (c_X6_levelBy l D cI cP cS cL L _ m (f_X6_get p0 1 m_ss_f) up down m_ss m_im m_re m_sa m_ke m_so m_si m_el m_kd m_kt m_hi m_th m_po m_ba m_en m_tl m_nu m_ca m_ha m_hs m_co m_ss_f h_m h_m_ss hdn) gX6_holdsBy_X6_levelBy rfl rfl rfl (by decide +kernel) ⟨(Nat.le_of_ble_eq_true rfl), (Nat.le_of_ble_eq_true rfl)⟩ h_m rfl rfl hl.1 rfl (Nat.le_of_ble_eq_true rfl) dX6_holdsBy_53 ⟨(Nat.le_of_ble_eq_true rfl), (Nat.le_of_ble_eq_true rfl)⟩) w hA (fun H locs w => ?_)
    exact w_iret hx hb hr hlocks w ⟨hq.symm, rfl, rfl⟩ (Nat.le_refl _) (Nat.le_refl _) dX6_holdsBy_56
  · skip
    have hq := hq.trans (if_neg c1)
    by_cases c2 : (f_X6_get p0 0 m_ss_f) = (3 : Int32)
    · skip
      have hq := hq.trans (if_pos c2)
      refine w_ts (v := 3) (off := 43) (tgt := 57) hx hb dX6_holdsBy_14 c2 (by decide) (by decide) rfl (by decide) ?_
      refine lv_aload_n hx hb dX6_holdsBy_57 rfl (lv_at hl 1 rfl) ?_
      refine lv_iload hx hb dX6_holdsBy_58 (lv_at hl 0 rfl) ?_
      refine lv_iload_n hx hb dX6_holdsBy_60 rfl (lv_at hl 3 rfl) ?_
      refine lv_iload_n hx hb dX6_holdsBy_61 rfl (lv_at hl 4 rfl) ?_
      refine w_finI (w_runV (rm := ({ frames := 2, cells := 0, slots := 0, locals := 44 } : Room)) (As := [.int (f_X6_get p0 1 m_ss_f), .int up, .int down]) (rest := []) (n := 3) hx hb hml hts hown hK w (c_X6_mixed l D cI cP cS cL L _ m (f_X6_get p0 1 m_ss_f) up down m_ss m_im m_re m_sa m_ke m_so m_si m_el m_kd m_kt m_hi m_th m_po m_ba m_en m_tl m_nu m_ca m_ha m_hs m_co m_ss_f h_m h_m_ss hdn) gX6_holdsBy_X6_mixed rfl rfl rfl (by decide +kernel) ⟨(Nat.le_of_ble_eq_true rfl), (Nat.le_of_ble_eq_true rfl)⟩ h_m rfl rfl hl.1 rfl (Nat.le_of_ble_eq_true rfl) dX6_holdsBy_62 ⟨(Nat.le_of_ble_eq_true rfl), (Nat.le_of_ble_eq_true rfl)⟩) w hA (fun H locs w => ?_)
      exact w_iret hx hb hr hlocks w ⟨hq.symm, rfl, rfl⟩ (Nat.le_refl _) (Nat.le_refl _) dX6_holdsBy_65
    · skip
      have hq := hq.trans (if_neg c2)
      by_cases c3 : (f_X6_get p0 0 m_ss_f) = (4 : Int32)
      · skip
        have hq := hq.trans (if_pos c3)
        refine w_ts (v := 4) (off := 52) (tgt := 66) hx hb dX6_holdsBy_14 c3 (by decide) (by decide) rfl (by decide) ?_
        refine lv_iload_n hx hb dX6_holdsBy_66 rfl (lv_at hl 3 rfl) ?_
        refine lv_iload_n hx hb dX6_holdsBy_67 rfl (lv_at hl 4 rfl) ?_
        refine lv_icmp_gt (tgt := 75) hx hb dX6_holdsBy_68 (by decide) (fun c4 => ?_) (fun c4 => ?_)
        · skip
          have hq := hq.trans (if_pos c4)
          refine lv_aload_n hx hb dX6_holdsBy_75 rfl (lv_at hl 1 rfl) ?_
          refine w_get (v := .ref m_ss) hx hb hts i_X6 hown hK w h_m rfl 0 (by decide) (hts _ m_0) rfl dX6_holdsBy_76 ?_
          refine lv_iconst (v := 2) hx hb dX6_holdsBy_79 (by decide) ?_
          refine w_ild (j := 2) hx hb hK w h_m_ss (vp_in_nI (n := 2) (N := 55) (by decide) (by decide)) rfl dX6_holdsBy_80 ?_
          exact w_iret hx hb hr hlocks w ⟨hq.symm, rfl, rfl⟩ (Nat.le_refl _) (Nat.le_refl _) dX6_holdsBy_81
        · skip
          have hq := hq.trans (if_neg c4)
          refine lv_iconst (v := 0) hx hb dX6_holdsBy_71 (by decide) ?_
          refine lv_goto (tgt := 81) hx hb dX6_holdsBy_72 (by decide) ?_
          exact w_iret hx hb hr hlocks w ⟨hq.symm, rfl, rfl⟩ (Nat.le_refl _) (Nat.le_refl _) dX6_holdsBy_81
      · skip
        have hq := hq.trans (if_neg c3)
        by_cases c5 : (f_X6_get p0 0 m_ss_f) = (5 : Int32)
        · skip
          have hq := hq.trans (if_pos c5)
          refine w_ts (v := 5) (off := 68) (tgt := 82) hx hb dX6_holdsBy_14 c5 (by decide) (by decide) rfl (by decide) ?_
          refine lv_aload_n hx hb dX6_holdsBy_82 rfl (lv_at hl 1 rfl) ?_
          refine w_get (v := .ref m_ss) hx hb hts i_X6 hown hK w h_m rfl 0 (by decide) (hts _ m_0) rfl dX6_holdsBy_83 ?_
          refine lv_iconst (v := 2) hx hb dX6_holdsBy_86 (by decide) ?_
          refine w_ild (j := 2) hx hb hK w h_m_ss (vp_in_nI (n := 2) (N := 55) (by decide) (by decide)) rfl dX6_holdsBy_87 ?_
          exact w_iret hx hb hr hlocks w ⟨hq.symm, rfl, rfl⟩ (Nat.le_refl _) (Nat.le_refl _) dX6_holdsBy_88
        · skip
          have hq := hq.trans (if_neg c5)
          by_cases c6 : (f_X6_get p0 0 m_ss_f) = (6 : Int32)
          · skip
            have hq := hq.trans (if_pos c6)
            refine w_ts (v := 6) (off := 75) (tgt := 89) hx hb dX6_holdsBy_14 c6 (by decide) (by decide) rfl (by decide) ?_
            refine lv_aload_n hx hb dX6_holdsBy_89 rfl (lv_at hl 1 rfl) ?_
            refine lv_iload hx hb dX6_holdsBy_90 (lv_at hl 0 rfl) ?_
            refine lv_iload_n hx hb dX6_holdsBy_92 rfl (lv_at hl 3 rfl) ?_
            refine lv_iload_n hx hb dX6_holdsBy_93 rfl (lv_at hl 4 rfl) ?_
            refine w_finI (w_runV (rm := ({ frames := 3, cells := 0, slots := 0, locals := 69 } : Room)) (As := [.int (f_X6_get p0 1 m_ss_f), .int up, .int down]) (rest := []) (n := 3) hx hb hml hts hown hK w (c_X6_learnt l D cI cP cS cL L _ m (f_X6_get p0 1 m_ss_f) up down m_ss m_im m_re m_sa m_ke m_so m_si m_el m_kd m_kt m_hi m_th m_po m_ba m_en m_tl m_nu m_ca m_ha m_hs m_co m_ss_f h_m h_m_ss hdn h5 hr5 hsp) gX6_holdsBy_X6_learnt rfl rfl rfl (by decide +kernel) ⟨(Nat.le_of_ble_eq_true rfl), (Nat.le_of_ble_eq_true rfl)⟩ h_m rfl rfl hl.1 rfl (Nat.le_of_ble_eq_true rfl) dX6_holdsBy_94 ⟨(Nat.le_of_ble_eq_true rfl), (Nat.le_of_ble_eq_true rfl)⟩) w hA (fun H locs w => ?_)
            exact w_iret hx hb hr hlocks w ⟨hq.symm, rfl, rfl⟩ (Nat.le_refl _) (Nat.le_refl _) dX6_holdsBy_97
          · skip
            have hq := hq.trans (if_neg c6)
            refine lv_tableOut (tgt := 98) hx hb dX6_holdsBy_14 (by have q0 : ¬ (f_X6_get p0 0 m_ss_f).toInt = 2 := w_ne c1 rfl; have q1 : ¬ (f_X6_get p0 0 m_ss_f).toInt = 3 := w_ne c2 rfl; have q2 : ¬ (f_X6_get p0 0 m_ss_f).toInt = 4 := w_ne c3 rfl; have q3 : ¬ (f_X6_get p0 0 m_ss_f).toInt = 5 := w_ne c5 rfl; have q4 : ¬ (f_X6_get p0 0 m_ss_f).toInt = 6 := w_ne c6 rfl; omega) (by decide) ?_
            refine lv_aload_n hx hb dX6_holdsBy_98 rfl (lv_at hl 1 rfl) ?_
            refine w_get (v := .ref m_ss) hx hb hts i_X6 hown hK w h_m rfl 0 (by decide) (hts _ m_0) rfl dX6_holdsBy_99 ?_
            refine lv_iconst (v := 2) hx hb dX6_holdsBy_102 (by decide) ?_
            refine w_ild (j := 2) hx hb hK w h_m_ss (vp_in_nI (n := 2) (N := 55) (by decide) (by decide)) rfl dX6_holdsBy_103 ?_
            refine lv_iconst (v := 2) hx hb dX6_holdsBy_104 (by decide) ?_
            refine lv_idiv hx hb dX6_holdsBy_105 (by decide) ?_
            exact w_iret hx hb hr hlocks w ⟨hq.symm, rfl, rfl⟩ (Nat.le_refl _) (Nat.le_refl _) dX6_holdsBy_106
def f_X6_isDrawn (p0 : Int32) (m_ss_f : Nat → Int32) : Int32 := if (f_X6_get p0 0 m_ss_f) = (1 : Int32) then 1 else (if (f_X6_get p0 0 m_ss_f) = (7 : Int32) then 1 else 0)
theorem z_X6_isDrawn (p0 : Int32) (m_ss_f : Nat → Int32) : (f_X6_isDrawn p0 m_ss_f) = 0 ∨ (f_X6_isDrawn p0 m_ss_f) = 1 := by
  unfold f_X6_isDrawn
  try simp only [bnd]
  repeat' split
  all_goals first | exact Or.inl rfl | exact Or.inr rfl
set_option maxHeartbeats 400000 in
set_option maxRecDepth 100000 in
theorem c_X6_isDrawn (l : Launch) (D : va_G) (cI cP cS cL : ClassId) (L : List Nat) (F : Nat → va_E) (m : Nat) (p0 : Int32) (m_ss : Nat) (m_im : Nat) (m_re : Nat) (m_sa : Nat) (m_ke : Nat) (m_so : Nat) (m_si : Nat) (m_el : Nat) (m_kd : Nat) (m_kt : Nat) (m_hi : Int32) (m_th : Int32) (m_po : Int32) (m_ba : Int32) (m_en : Int32) (m_tl : Int32) (m_nu : Nat) (m_ca : Nat) (m_ha : Nat) (m_hs : Int32) (m_co : Nat) (m_ss_f : Nat → Int32) (h_m : wi L F m (eM m_ss m_im m_re m_sa m_ke m_so m_si m_el m_kd m_kt m_hi m_th m_po m_ba m_en m_tl m_nu m_ca m_ha m_hs m_co)) (h_m_ss : wi L F m_ss (eI cI 55 m_ss_f)) (hp0 : 0 ≤ p0.toInt ∧ p0.toInt < 12) : wMI l D cI cP cS cL yX6_isDrawn wsX6_isDrawn ({ frames := 1, cells := 0, slots := 0, locals := 22 } : Room) [.ref m, .int p0] L F (f_X6_isDrawn p0 m_ss_f) F := by
  refine wM.of (cc := cX6_isDrawn) (maxL := 2) (ret := (some .boolean)) (by decide) rfl (Nat.le_of_ble_eq_true rfl) ?_
  intro pZ eZ sZ mZ below meth cZ A ls C hl w
  obtain ⟨hx, hb, hr, hml, hts, hown, hlocks, hK, hA, hin⟩ := C
  have hown : sZ.vm.findClass RX6 = some mZ.cls := hown
  have hl : lv_has ls 2 [(0, .ref m), (1, .int p0)] := hl
  have hq : f_X6_isDrawn p0 m_ss_f = f_X6_isDrawn p0 m_ss_f := rfl
  refine lv_aload_n hx hb dX6_isDrawn_0 rfl (lv_at hl 0 rfl) ?_
  refine lv_iload_n hx hb dX6_isDrawn_1 rfl (lv_at hl 1 rfl) ?_
  refine lv_iconst (v := 0) hx hb dX6_isDrawn_2 (by decide) ?_
  refine w_finI (w_runV (rm := ({ frames := 0, cells := 0, slots := 0, locals := 0 } : Room)) (As := [.int p0, .int 0]) (rest := []) (n := 2) hx hb hml hts hown hK w (c_X6_get l D cI cP cS cL L _ m p0 0 m_ss m_im m_re m_sa m_ke m_so m_si m_el m_kd m_kt m_hi m_th m_po m_ba m_en m_tl m_nu m_ca m_ha m_hs m_co m_ss_f h_m h_m_ss (gix2 hp0 (by decide))) gX6_isDrawn_X6_get rfl rfl rfl (by decide +kernel) ⟨(Nat.le_of_ble_eq_true rfl), (Nat.le_of_ble_eq_true rfl)⟩ h_m rfl rfl hl.1 rfl (Nat.le_of_ble_eq_true rfl) dX6_isDrawn_3 ⟨(Nat.le_of_ble_eq_true rfl), (Nat.le_of_ble_eq_true rfl)⟩) w hA (fun H locs w => ?_)
  refine lv_iconst (v := 1) hx hb dX6_isDrawn_6 (by decide) ?_
  refine lv_icmp_eq (tgt := 21) hx hb dX6_isDrawn_7 (by decide) (fun c1 => ?_) (fun c1 => ?_)
  · skip
    have hq := hq.trans (if_pos c1)
    refine lv_iconst (v := 1) hx hb dX6_isDrawn_21 (by decide) ?_
    refine lv_goto (tgt := 26) hx hb dX6_isDrawn_22 (by decide) ?_
    exact w_zret hx hb hr hlocks w rfl ⟨hq.symm, rfl, rfl⟩ (Nat.le_refl _) (Nat.le_refl _) dX6_isDrawn_26
  · skip
    have hq := hq.trans (if_neg c1)
    refine lv_aload_n hx hb dX6_isDrawn_10 rfl (lv_at hl 0 rfl) ?_
    refine lv_iload_n hx hb dX6_isDrawn_11 rfl (lv_at hl 1 rfl) ?_
    refine lv_iconst (v := 0) hx hb dX6_isDrawn_12 (by decide) ?_
    refine w_finI (w_runV (rm := ({ frames := 0, cells := 0, slots := 0, locals := 0 } : Room)) (As := [.int p0, .int 0]) (rest := []) (n := 2) hx hb hml hts hown hK w (c_X6_get l D cI cP cS cL L _ m p0 0 m_ss m_im m_re m_sa m_ke m_so m_si m_el m_kd m_kt m_hi m_th m_po m_ba m_en m_tl m_nu m_ca m_ha m_hs m_co m_ss_f h_m h_m_ss (gix2 hp0 (by decide))) gX6_isDrawn_X6_get rfl rfl rfl (by decide +kernel) ⟨(Nat.le_of_ble_eq_true rfl), (Nat.le_of_ble_eq_true rfl)⟩ h_m rfl rfl hl.1 rfl (Nat.le_of_ble_eq_true rfl) dX6_isDrawn_13 ⟨(Nat.le_of_ble_eq_true rfl), (Nat.le_of_ble_eq_true rfl)⟩) w hA (fun H locs w => ?_)
    refine lv_bipush (v := 7) hx hb dX6_isDrawn_16 (by decide) ?_
    refine lv_icmp_ne (tgt := 25) hx hb dX6_isDrawn_18 (by decide) (fun c2 => ?_) (fun c2 => ?_)
    · skip
      have hq := hq.trans (if_neg c2)
      refine lv_iconst (v := 0) hx hb dX6_isDrawn_25 (by decide) ?_
      exact w_zret hx hb hr hlocks w rfl ⟨hq.symm, rfl, rfl⟩ (Nat.le_refl _) (Nat.le_refl _) dX6_isDrawn_26
    · skip
      have hq := hq.trans (if_pos c2)
      refine lv_iconst (v := 1) hx hb dX6_isDrawn_21 (by decide) ?_
      refine lv_goto (tgt := 26) hx hb dX6_isDrawn_22 (by decide) ?_
      exact w_zret hx hb hr hlocks w rfl ⟨hq.symm, rfl, rfl⟩ (Nat.le_refl _) (Nat.le_refl _) dX6_isDrawn_26
def f_X6_holds (p0 : Int32) (m_ss_f : Nat → Int32) : Int32 := if (f_X6_isPerson p0 m_ss_f) = (0 : Int32) then (-1) else (if (f_X6_isDrawn p0 m_ss_f) = (0 : Int32) then (f_X6_holdsBy p0 (m_ss_f 0) (m_ss_f 1) m_ss_f) else (-3))
set_option maxHeartbeats 400000 in
set_option maxRecDepth 100000 in
theorem c_X6_holds (l : Launch) (D : va_G) (cI cP cS cL : ClassId) (L : List Nat) (F : Nat → va_E) (m : Nat) (p0 : Int32) (m_ss : Nat) (m_im : Nat) (m_re : Nat) (m_sa : Nat) (m_ke : Nat) (m_so : Nat) (m_si : Nat) (m_el : Nat) (m_kd : Nat) (m_kt : Nat) (m_hi : Int32) (m_th : Int32) (m_po : Int32) (m_ba : Int32) (m_en : Int32) (m_tl : Int32) (m_nu : Nat) (m_ca : Nat) (m_ha : Nat) (m_hs : Int32) (m_co : Nat) (m_ss_f : Nat → Int32) (h_m : wi L F m (eM m_ss m_im m_re m_sa m_ke m_so m_si m_el m_kd m_kt m_hi m_th m_po m_ba m_en m_tl m_nu m_ca m_ha m_hs m_co)) (h_m_ss : wi L F m_ss (eI cI 55 m_ss_f)) (h5 : 0 ≤ (m_ss_f 5).toInt ∧ (m_ss_f 5).toInt ≤ 12) (hd1 : ¬ (m_ss_f 1) = 0) (hr5 : ¬ (m_ss_f 6) = 0 → ¬ (m_ss_f 5) = 0) (hst : ∀ p : Int32, 0 ≤ p.toInt ∧ p.toInt < 12 → (m_ss_f (((7 + (4 * p)) + 1).toNatClampNeg)).toInt ≤ 1000) : wMI l D cI cP cS cL yX6_holds wsX6_holds ({ frames := 5, cells := 0, slots := 0, locals := 118 } : Room) [.ref m, .int p0] L F (f_X6_holds p0 m_ss_f) F := by
  refine wM.of (cc := cX6_holds) (maxL := 2) (ret := (some .int)) (by decide) rfl (Nat.le_of_ble_eq_true rfl) ?_
  intro pZ eZ sZ mZ below meth cZ A ls C hl w
  obtain ⟨hx, hb, hr, hml, hts, hown, hlocks, hK, hA, hin⟩ := C
  have hown : sZ.vm.findClass RX6 = some mZ.cls := hown
  have hl : lv_has ls 2 [(0, .ref m), (1, .int p0)] := hl
  have m_0 : ((.fieldLink RX6 9 "TwoThirdsModel" "s" "[I") : Cond) ∈ wsX6_holds := by decide +kernel
  have i_X6 : ∀ w ∈ wsX60, w ∈ wsX6_holds := by decide +kernel
  have hq : f_X6_holds p0 m_ss_f = f_X6_holds p0 m_ss_f := rfl
  refine lv_aload_n hx hb dX6_holds_0 rfl (lv_at hl 0 rfl) ?_
  refine lv_iload_n hx hb dX6_holds_1 rfl (lv_at hl 1 rfl) ?_
  refine w_finI (w_runV (rm := ({ frames := 1, cells := 0, slots := 0, locals := 25 } : Room)) (As := [.int p0]) (rest := []) (n := 1) hx hb hml hts hown hK w (c_X6_isPerson l D cI cP cS cL L _ m p0 m_ss m_im m_re m_sa m_ke m_so m_si m_el m_kd m_kt m_hi m_th m_po m_ba m_en m_tl m_nu m_ca m_ha m_hs m_co m_ss_f h_m h_m_ss) gX6_holds_X6_isPerson rfl rfl rfl (by decide +kernel) ⟨(Nat.le_of_ble_eq_true rfl), (Nat.le_of_ble_eq_true rfl)⟩ h_m rfl rfl hl.1 rfl (Nat.le_of_ble_eq_true rfl) dX6_holds_2 ⟨(Nat.le_of_ble_eq_true rfl), (Nat.le_of_ble_eq_true rfl)⟩) w hA (fun H locs w => ?_)
  refine lv_if_ne (tgt := 12) hx hb dX6_holds_5 (by decide) (fun c1 => ?_) (fun c1 => ?_)
  · skip
    have hq := hq.trans (if_neg c1)
    have hp0 : 0 ≤ p0.toInt ∧ p0.toInt < 12 := isPerson_12 h5 c1
    refine lv_aload_n hx hb dX6_holds_12 rfl (lv_at hl 0 rfl) ?_
    refine lv_iload_n hx hb dX6_holds_13 rfl (lv_at hl 1 rfl) ?_
    refine w_finI (w_runV (rm := ({ frames := 1, cells := 0, slots := 0, locals := 22 } : Room)) (As := [.int p0]) (rest := []) (n := 1) hx hb hml hts hown hK w (c_X6_isDrawn l D cI cP cS cL L _ m p0 m_ss m_im m_re m_sa m_ke m_so m_si m_el m_kd m_kt m_hi m_th m_po m_ba m_en m_tl m_nu m_ca m_ha m_hs m_co m_ss_f h_m h_m_ss hp0) gX6_holds_X6_isDrawn rfl rfl rfl (by decide +kernel) ⟨(Nat.le_of_ble_eq_true rfl), (Nat.le_of_ble_eq_true rfl)⟩ h_m rfl rfl hl.1 rfl (Nat.le_of_ble_eq_true rfl) dX6_holds_14 ⟨(Nat.le_of_ble_eq_true rfl), (Nat.le_of_ble_eq_true rfl)⟩) w hA (fun H locs w => ?_)
    refine lv_if_eq (tgt := 25) hx hb dX6_holds_17 (by decide) (fun c2 => ?_) (fun c2 => ?_)
    · skip
      have hq := hq.trans (if_pos c2)
      refine lv_aload_n hx hb dX6_holds_25 rfl (lv_at hl 0 rfl) ?_
      refine lv_iload_n hx hb dX6_holds_26 rfl (lv_at hl 1 rfl) ?_
      refine lv_aload_n hx hb dX6_holds_27 rfl (lv_at hl 0 rfl) ?_
      refine w_get (v := .ref m_ss) hx hb hts i_X6 hown hK w h_m rfl 0 (by decide) (hts _ m_0) rfl dX6_holds_28 ?_
      refine lv_iconst (v := 0) hx hb dX6_holds_31 (by decide) ?_
      refine w_ild (j := 0) hx hb hK w h_m_ss (vp_in_nI (n := 0) (N := 55) (by decide) (by decide)) rfl dX6_holds_32 ?_
      refine lv_aload_n hx hb dX6_holds_33 rfl (lv_at hl 0 rfl) ?_
      refine w_get (v := .ref m_ss) hx hb hts i_X6 hown hK w h_m rfl 0 (by decide) (hts _ m_0) rfl dX6_holds_34 ?_
      refine lv_iconst (v := 1) hx hb dX6_holds_37 (by decide) ?_
      refine w_ild (j := 1) hx hb hK w h_m_ss (vp_in_nI (n := 1) (N := 55) (by decide) (by decide)) rfl dX6_holds_38 ?_
      refine w_finI (w_runV (rm := ({ frames := 4, cells := 0, slots := 0, locals := 94 } : Room)) (As := [.int p0, .int (m_ss_f 0), .int (m_ss_f 1)]) (rest := []) (n := 3) hx hb hml hts hown hK w (c_X6_holdsBy l D cI cP cS cL L _ m p0 (m_ss_f 0) (m_ss_f 1) m_ss m_im m_re m_sa m_ke m_so m_si m_el m_kd m_kt m_hi m_th m_po m_ba m_en m_tl m_nu m_ca m_ha m_hs m_co m_ss_f h_m h_m_ss hp0 hd1 h5 hr5 (hst p0 hp0)) gX6_holds_X6_holdsBy rfl rfl rfl (by decide +kernel) ⟨(Nat.le_of_ble_eq_true rfl), (Nat.le_of_ble_eq_true rfl)⟩ h_m rfl rfl hl.1 rfl (Nat.le_of_ble_eq_true rfl) dX6_holds_39 ⟨(Nat.le_of_ble_eq_true rfl), (Nat.le_of_ble_eq_true rfl)⟩) w hA (fun H locs w => ?_)
      exact w_iret hx hb hr hlocks w ⟨hq.symm, rfl, rfl⟩ (Nat.le_refl _) (Nat.le_refl _) dX6_holds_42
    · skip
      have hq := hq.trans (if_neg c2)
      refine lv_bipush (v := (-3)) hx hb dX6_holds_20 (by decide) ?_
      refine lv_goto (tgt := 42) hx hb dX6_holds_22 (by decide) ?_
      exact w_iret hx hb hr hlocks w ⟨hq.symm, rfl, rfl⟩ (Nat.le_refl _) (Nat.le_refl _) dX6_holds_42
  · skip
    have hq := hq.trans (if_pos c1)
    refine lv_iconst (v := (-1)) hx hb dX6_holds_8 (by decide) ?_
    refine lv_goto (tgt := 42) hx hb dX6_holds_9 (by decide) ?_
    exact w_iret hx hb hr hlocks w ⟨hq.symm, rfl, rfl⟩ (Nat.le_refl _) (Nat.le_refl _) dX6_holds_42
def f_X6_draw (n0 : Int32) (m_ss_f : Nat → Int32) : Int32 × (Nat → Int32) := ((((((upd m_ss_f 4 (((m_ss_f 4) * 1103515245) + 12345)) 4) &&& 2147483647) / 65536) - ((((upd m_ss_f 4 (((m_ss_f 4) * 1103515245) + 12345)) 4) &&& 2147483647) / 65536) / n0 * n0), (upd m_ss_f 4 (((m_ss_f 4) * 1103515245) + 12345)))
set_option maxHeartbeats 400000 in
set_option maxRecDepth 100000 in
theorem c_X6_draw (l : Launch) (D : va_G) (cI cP cS cL : ClassId) (L : List Nat) (F : Nat → va_E) (m : Nat) (n0 : Int32) (m_ss : Nat) (m_im : Nat) (m_re : Nat) (m_sa : Nat) (m_ke : Nat) (m_so : Nat) (m_si : Nat) (m_el : Nat) (m_kd : Nat) (m_kt : Nat) (m_hi : Int32) (m_th : Int32) (m_po : Int32) (m_ba : Int32) (m_en : Int32) (m_tl : Int32) (m_nu : Nat) (m_ca : Nat) (m_ha : Nat) (m_hs : Int32) (m_co : Nat) (m_ss_f : Nat → Int32) (h_m : wi L F m (eM m_ss m_im m_re m_sa m_ke m_so m_si m_el m_kd m_kt m_hi m_th m_po m_ba m_en m_tl m_nu m_ca m_ha m_hs m_co)) (h_m_ss : wi L F m_ss (eI cI 55 m_ss_f)) (hn0 : ¬ n0 = 0) : wMj l D cI cP cS cL yX6_draw wsX6_draw ({ frames := 0, cells := 0, slots := 0, locals := 0 } : Room) [.ref m, .int n0] L F (fun r1 F1 => ∃ y9 : Int32 × (Nat → Int32), y9 = (f_X6_draw n0 m_ss_f) ∧ (∀ i, i ≠ 4 → y9.2 i = m_ss_f i) ∧ r1 = y9.1 ∧ F1 m_ss = (eI cI 55 y9.2) ∧ wk (fun q : Nat => q ≠ m_ss ∧ True) F1 F) := by
  refine wM.of (cc := cX6_draw) (maxL := 2) (ret := (some .int)) (by decide) rfl (Nat.le_of_ble_eq_true rfl) ?_
  intro pZ eZ sZ mZ below meth cZ A ls C hl w
  obtain ⟨hx, hb, hr, hml, hts, hown, hlocks, hK, hA, hin⟩ := C
  have hown : sZ.vm.findClass RX6 = some mZ.cls := hown
  have hl : lv_has ls 2 [(0, .ref m), (1, .int n0)] := hl
  have m_0 : ((.fieldLink RX6 9 "TwoThirdsModel" "s" "[I") : Cond) ∈ wsX6_draw := by decide +kernel
  have i_X6 : ∀ w ∈ wsX60, w ∈ wsX6_draw := by decide +kernel
  have m_2 : ((.constant RX6 159 1103515245) : Cond) ∈ wsX6_draw := by decide +kernel
  have m_3 : ((.constant RX6 160 2147483647) : Cond) ∈ wsX6_draw := by decide +kernel
  have m_4 : ((.constant RX6 161 65536) : Cond) ∈ wsX6_draw := by decide +kernel
  have hk : wk (fun q : Nat => q ≠ m_ss ∧ True) F F := wk.rf
  have hq : f_X6_draw n0 m_ss_f = f_X6_draw n0 m_ss_f := rfl
  refine lv_aload_n hx hb dX6_draw_0 rfl (lv_at hl 0 rfl) ?_
  refine w_get (v := .ref m_ss) hx hb hts i_X6 hown hK w h_m rfl 0 (by decide) (hts _ m_0) rfl dX6_draw_1 ?_
  refine lv_iconst (v := 4) hx hb dX6_draw_4 (by decide) ?_
  refine lv_aload_n hx hb dX6_draw_5 rfl (lv_at hl 0 rfl) ?_
  refine w_get (v := .ref m_ss) hx hb hts i_X6 hown hK w h_m rfl 0 (by decide) (hts _ m_0) rfl dX6_draw_6 ?_
  refine lv_iconst (v := 4) hx hb dX6_draw_9 (by decide) ?_
  refine w_ild (j := 4) hx hb hK w h_m_ss (vp_in_nI (n := 4) (N := 55) (by decide) (by decide)) rfl dX6_draw_10 ?_
  refine lv_ldc (v := 1103515245) hx hb hown (hts _ m_2) dX6_draw_11 ?_
  refine lv_imul hx hb dX6_draw_13 ?_
  refine lv_sipush (v := 12345) hx hb dX6_draw_14 (by decide) ?_
  refine lv_iadd hx hb dX6_draw_17 ?_
  have ho1 := h_m_ss
  refine w_ist (j := 4) hx hb hK w h_m_ss (vp_in_nI (n := 4) (N := 55) (by decide) (by decide)) rfl dX6_draw_18 (fun H locs w h_m_ss => ?_)
  have h_m := h_m.upw h_m_ss (wi.ne h_m ho1 (by intro h; cases h))
  have hk := hk.upw h_m_ss (fun q h => h.1)
  refine lv_aload_n hx hb dX6_draw_19 rfl (lv_at hl 0 rfl) ?_
  refine w_get (v := .ref m_ss) hx hb hts i_X6 hown hK w h_m rfl 0 (by decide) (hts _ m_0) rfl dX6_draw_20 ?_
  refine lv_iconst (v := 4) hx hb dX6_draw_23 (by decide) ?_
  refine w_ild (j := 4) hx hb hK w h_m_ss (vp_in_nI (n := 4) (N := 55) (by decide) (by decide)) rfl dX6_draw_24 ?_
  refine lv_ldc (v := 2147483647) hx hb hown (hts _ m_3) dX6_draw_25 ?_
  refine lv_iand hx hb dX6_draw_27 ?_
  refine lv_ldc (v := 65536) hx hb hown (hts _ m_4) dX6_draw_28 ?_
  refine lv_idiv hx hb dX6_draw_30 (by decide) ?_
  refine lv_iload_n hx hb dX6_draw_31 rfl (lv_at hl 1 rfl) ?_
  refine lv_irem hx hb dX6_draw_32 hn0 ?_
  exact w_iret hx hb hr hlocks w ⟨rfl, _, hq.symm, (fun i hi => if_neg hi), rfl, h_m_ss.2, hk⟩ (Nat.le_refl _) (Nat.le_refl _) dX6_draw_33
def f_X6_cardOf (p0 : Int32) (m_ss_f : Nat → Int32) : Int32 × (Nat → Int32) := if (f_X6_isDrawn p0 m_ss_f) = (0 : Int32) then (if (f_X6_get p0 2 m_ss_f) = (0 : Int32) then ((f_X6_held (f_X6_holdsBy p0 (m_ss_f 0) (m_ss_f 1) m_ss_f) m_ss_f), m_ss_f) else (bnd (f_X6_draw ((2 * (f_X6_get p0 2 m_ss_f)) + 1) m_ss_f) (fun x86 : Int32 × (Nat → Int32) => ((f_X6_held (((f_X6_holdsBy p0 (m_ss_f 0) (m_ss_f 1) m_ss_f) + x86.1) - (f_X6_get p0 2 m_ss_f)) x86.2), x86.2)))) else (bnd (f_X6_draw ((m_ss_f 2) + 1) m_ss_f) (fun x35 : Int32 × (Nat → Int32) => if (f_X6_get p0 0 x35.2) = (1 : Int32) then (if (f_X6_get p0 2 x35.2) = (0 : Int32) then ((f_X6_held x35.1 x35.2), x35.2) else (bnd (f_X6_draw ((2 * (f_X6_get p0 2 x35.2)) + 1) x35.2) (fun x86 : Int32 × (Nat → Int32) => ((f_X6_held ((x35.1 + x86.1) - (f_X6_get p0 2 x35.2)) x86.2), x86.2)))) else (if (f_X6_get p0 2 x35.2) = (0 : Int32) then ((f_X6_held ((x35.1 / 2) + (f_X6_holdsBy p0 (m_ss_f 0) (m_ss_f 1) m_ss_f)) x35.2), x35.2) else (bnd (f_X6_draw ((2 * (f_X6_get p0 2 x35.2)) + 1) x35.2) (fun x86 : Int32 × (Nat → Int32) => ((f_X6_held ((((x35.1 / 2) + (f_X6_holdsBy p0 (m_ss_f 0) (m_ss_f 1) m_ss_f)) + x86.1) - (f_X6_get p0 2 x35.2)) x86.2), x86.2))))))
set_option maxHeartbeats 400000 in
set_option maxRecDepth 100000 in
theorem c_X6_cardOf (l : Launch) (D : va_G) (cI cP cS cL : ClassId) (L : List Nat) (F : Nat → va_E) (m : Nat) (p0 : Int32) (m_ss : Nat) (m_im : Nat) (m_re : Nat) (m_sa : Nat) (m_ke : Nat) (m_so : Nat) (m_si : Nat) (m_el : Nat) (m_kd : Nat) (m_kt : Nat) (m_hi : Int32) (m_th : Int32) (m_po : Int32) (m_ba : Int32) (m_en : Int32) (m_tl : Int32) (m_nu : Nat) (m_ca : Nat) (m_ha : Nat) (m_hs : Int32) (m_co : Nat) (m_ss_f : Nat → Int32) (h_m : wi L F m (eM m_ss m_im m_re m_sa m_ke m_so m_si m_el m_kd m_kt m_hi m_th m_po m_ba m_en m_tl m_nu m_ca m_ha m_hs m_co)) (h_m_ss : wi L F m_ss (eI cI 55 m_ss_f)) (hp0 : 0 ≤ p0.toInt ∧ p0.toInt < 12) (h5 : 0 ≤ (m_ss_f 5).toInt ∧ (m_ss_f 5).toInt ≤ 12) (hhi : 0 ≤ (m_ss_f 2).toInt ∧ (m_ss_f 2).toInt ≤ 1000) (hd1 : ¬ (m_ss_f 1) = 0) (hr5 : ¬ (m_ss_f 6) = 0 → ¬ (m_ss_f 5) = 0) (hst : ∀ p : Int32, 0 ≤ p.toInt ∧ p.toInt < 12 → (m_ss_f (((7 + (4 * p)) + 1).toNatClampNeg)).toInt ≤ 1000) : wMj l D cI cP cS cL yX6_cardOf wsX6_cardOf ({ frames := 5, cells := 0, slots := 0, locals := 118 } : Room) [.ref m, .int p0] L F (fun r1 F1 => ∃ y9 : Int32 × (Nat → Int32), y9 = (f_X6_cardOf p0 m_ss_f) ∧ (∀ i, i ≠ 4 → y9.2 i = m_ss_f i) ∧ r1 = y9.1 ∧ F1 m_ss = (eI cI 55 y9.2) ∧ wk (fun q : Nat => q ≠ m_ss ∧ True) F1 F) := by
  refine wM.of (cc := cX6_cardOf) (maxL := 4) (ret := (some .int)) (by decide) rfl (Nat.le_of_ble_eq_true rfl) ?_
  intro pZ eZ sZ mZ below meth cZ A ls C hl w
  obtain ⟨hx, hb, hr, hml, hts, hown, hlocks, hK, hA, hin⟩ := C
  have hown : sZ.vm.findClass RX6 = some mZ.cls := hown
  have hl : lv_has ls 4 [(0, .ref m), (1, .int p0)] := hl
  have m_0 : ((.fieldLink RX6 9 "TwoThirdsModel" "s" "[I") : Cond) ∈ wsX6_cardOf := by decide +kernel
  have i_X6 : ∀ w ∈ wsX60, w ∈ wsX6_cardOf := by decide +kernel
  have hk : wk (fun q : Nat => q ≠ m_ss ∧ True) F F := wk.rf
  have hq : f_X6_cardOf p0 m_ss_f = f_X6_cardOf p0 m_ss_f := rfl
  refine lv_aload_n hx hb dX6_cardOf_0 rfl (lv_at hl 0 rfl) ?_
  refine lv_iload_n hx hb dX6_cardOf_1 rfl (lv_at hl 1 rfl) ?_
  refine lv_aload_n hx hb dX6_cardOf_2 rfl (lv_at hl 0 rfl) ?_
  refine w_get (v := .ref m_ss) hx hb hts i_X6 hown hK w h_m rfl 0 (by decide) (hts _ m_0) rfl dX6_cardOf_3 ?_
  refine lv_iconst (v := 0) hx hb dX6_cardOf_6 (by decide) ?_
  refine w_ild (j := 0) hx hb hK w h_m_ss (vp_in_nI (n := 0) (N := 55) (by decide) (by decide)) rfl dX6_cardOf_7 ?_
  refine lv_aload_n hx hb dX6_cardOf_8 rfl (lv_at hl 0 rfl) ?_
  refine w_get (v := .ref m_ss) hx hb hts i_X6 hown hK w h_m rfl 0 (by decide) (hts _ m_0) rfl dX6_cardOf_9 ?_
  refine lv_iconst (v := 1) hx hb dX6_cardOf_12 (by decide) ?_
  refine w_ild (j := 1) hx hb hK w h_m_ss (vp_in_nI (n := 1) (N := 55) (by decide) (by decide)) rfl dX6_cardOf_13 ?_
  refine w_finI (w_runV (rm := ({ frames := 4, cells := 0, slots := 0, locals := 94 } : Room)) (As := [.int p0, .int (m_ss_f 0), .int (m_ss_f 1)]) (rest := []) (n := 3) hx hb hml hts hown hK w (c_X6_holdsBy l D cI cP cS cL L _ m p0 (m_ss_f 0) (m_ss_f 1) m_ss m_im m_re m_sa m_ke m_so m_si m_el m_kd m_kt m_hi m_th m_po m_ba m_en m_tl m_nu m_ca m_ha m_hs m_co m_ss_f h_m h_m_ss hp0 hd1 h5 hr5 (hst p0 hp0)) gX6_cardOf_X6_holdsBy rfl rfl rfl (by decide +kernel) ⟨(Nat.le_of_ble_eq_true rfl), (Nat.le_of_ble_eq_true rfl)⟩ h_m rfl rfl hl.1 rfl (Nat.le_of_ble_eq_true rfl) dX6_cardOf_14 ⟨(Nat.le_of_ble_eq_true rfl), (Nat.le_of_ble_eq_true rfl)⟩) w hA (fun H locs w => ?_)
  refine lv_istore_n (lv' := [(2, .int (f_X6_holdsBy p0 (m_ss_f 0) (m_ss_f 1) m_ss_f)), (0, .ref m), (1, .int p0)]) hx hb dX6_cardOf_17 rfl hl (by decide) rfl (fun ls hl => ?_)
  refine lv_aload_n hx hb dX6_cardOf_18 rfl (lv_at hl 1 rfl) ?_
  refine lv_iload_n hx hb dX6_cardOf_19 rfl (lv_at hl 2 rfl) ?_
  refine w_finI (w_runV (rm := ({ frames := 1, cells := 0, slots := 0, locals := 22 } : Room)) (As := [.int p0]) (rest := []) (n := 1) hx hb hml hts hown hK w (c_X6_isDrawn l D cI cP cS cL L _ m p0 m_ss m_im m_re m_sa m_ke m_so m_si m_el m_kd m_kt m_hi m_th m_po m_ba m_en m_tl m_nu m_ca m_ha m_hs m_co m_ss_f h_m h_m_ss hp0) gX6_cardOf_X6_isDrawn rfl rfl rfl (by decide +kernel) ⟨(Nat.le_of_ble_eq_true rfl), (Nat.le_of_ble_eq_true rfl)⟩ h_m rfl rfl hl.1 rfl (Nat.le_of_ble_eq_true rfl) dX6_cardOf_20 ⟨(Nat.le_of_ble_eq_true rfl), (Nat.le_of_ble_eq_true rfl)⟩) w hA (fun H locs w => ?_)
  refine lv_if_eq (tgt := 59) hx hb dX6_cardOf_23 (by decide) (fun c1 => ?_) (fun c1 => ?_)
  · skip
    have hq := hq.trans (if_pos c1)
    refine lv_aload_n hx hb dX6_cardOf_59 rfl (lv_at hl 1 rfl) ?_
    refine lv_iload_n hx hb dX6_cardOf_60 rfl (lv_at hl 2 rfl) ?_
    refine lv_iconst (v := 2) hx hb dX6_cardOf_61 (by decide) ?_
    refine w_finI (w_runV (rm := ({ frames := 0, cells := 0, slots := 0, locals := 0 } : Room)) (As := [.int p0, .int 2]) (rest := []) (n := 2) hx hb hml hts hown hK w (c_X6_get l D cI cP cS cL L _ m p0 2 m_ss m_im m_re m_sa m_ke m_so m_si m_el m_kd m_kt m_hi m_th m_po m_ba m_en m_tl m_nu m_ca m_ha m_hs m_co m_ss_f h_m h_m_ss (gix2 hp0 (by decide))) gX6_cardOf_X6_get rfl rfl rfl (by decide +kernel) ⟨(Nat.le_of_ble_eq_true rfl), (Nat.le_of_ble_eq_true rfl)⟩ h_m rfl rfl hl.1 rfl (Nat.le_of_ble_eq_true rfl) dX6_cardOf_62 ⟨(Nat.le_of_ble_eq_true rfl), (Nat.le_of_ble_eq_true rfl)⟩) w hA (fun H locs w => ?_)
    refine lv_istore_n (lv' := [(3, .int (f_X6_get p0 2 m_ss_f)), (2, .int (f_X6_holdsBy p0 (m_ss_f 0) (m_ss_f 1) m_ss_f)), (0, .ref m), (1, .int p0)]) hx hb dX6_cardOf_65 rfl hl (by decide) rfl (fun ls hl => ?_)
    refine lv_iload_n hx hb dX6_cardOf_66 rfl (lv_at hl 0 rfl) ?_
    refine lv_if_ne (tgt := 78) hx hb dX6_cardOf_67 (by decide) (fun c2 => ?_) (fun c2 => ?_)
    · skip
      have hq := hq.trans (if_neg c2)
      refine lv_aload_n hx hb dX6_cardOf_78 rfl (lv_at hl 2 rfl) ?_
      refine lv_iload_n hx hb dX6_cardOf_79 rfl (lv_at hl 1 rfl) ?_
      refine lv_aload_n hx hb dX6_cardOf_80 rfl (lv_at hl 2 rfl) ?_
      refine lv_iconst (v := 2) hx hb dX6_cardOf_81 (by decide) ?_
      refine lv_iload_n hx hb dX6_cardOf_82 rfl (lv_at hl 0 rfl) ?_
      refine lv_imul hx hb dX6_cardOf_83 ?_
      refine lv_iconst (v := 1) hx hb dX6_cardOf_84 (by decide) ?_
      refine lv_iadd hx hb dX6_cardOf_85 ?_
      refine w_finj (w_runV (rm := ({ frames := 0, cells := 0, slots := 0, locals := 0 } : Room)) (As := [.int ((2 * (f_X6_get p0 2 m_ss_f)) + 1)]) (rest := [.int (f_X6_holdsBy p0 (m_ss_f 0) (m_ss_f 1) m_ss_f), .ref m]) (n := 1) hx hb hml hts hown hK w (c_X6_draw l D cI cP cS cL L _ m ((2 * (f_X6_get p0 2 m_ss_f)) + 1) m_ss m_im m_re m_sa m_ke m_so m_si m_el m_kd m_kt m_hi m_th m_po m_ba m_en m_tl m_nu m_ca m_ha m_hs m_co m_ss_f h_m h_m_ss (odd_ne _)) gX6_cardOf_X6_draw rfl rfl rfl (by decide +kernel) ⟨(Nat.le_of_ble_eq_true rfl), (Nat.le_of_ble_eq_true rfl)⟩ h_m rfl rfl hl.1 rfl (Nat.le_of_ble_eq_true rfl) dX6_cardOf_86 ⟨(Nat.le_of_ble_eq_true rfl), (Nat.le_of_ble_eq_true rfl)⟩) w hA (fun r9 F1 H locs hp w => ?_)
      obtain ⟨x86, hx86, e86_0, hr9, hw0, hk9⟩ := hp
      subst hr9
      have hq := hq.trans (w_bnd hx86)
      have h_m := h_m.keep hk9 ⟨(wi.ne h_m h_m_ss (by intro h; cases h)), trivial⟩
      have h_m_ss := h_m_ss.new hw0
      have hk := hk.call hk9 (fun q h => ⟨h.1, trivial⟩)
      refine lv_iadd hx hb dX6_cardOf_89 ?_
      refine lv_iload_n hx hb dX6_cardOf_90 rfl (lv_at hl 0 rfl) ?_
      refine lv_isub hx hb dX6_cardOf_91 ?_
      refine w_finI (w_runV (rm := ({ frames := 0, cells := 0, slots := 0, locals := 0 } : Room)) (As := [.int (((f_X6_holdsBy p0 (m_ss_f 0) (m_ss_f 1) m_ss_f) + x86.1) - (f_X6_get p0 2 m_ss_f))]) (rest := []) (n := 1) hx hb hml hts hown hK w (c_X6_held l D cI cP cS cL L _ m (((f_X6_holdsBy p0 (m_ss_f 0) (m_ss_f 1) m_ss_f) + x86.1) - (f_X6_get p0 2 m_ss_f)) m_ss m_im m_re m_sa m_ke m_so m_si m_el m_kd m_kt m_hi m_th m_po m_ba m_en m_tl m_nu m_ca m_ha m_hs m_co x86.2 h_m h_m_ss) gX6_cardOf_X6_held rfl rfl rfl (by decide +kernel) ⟨(Nat.le_of_ble_eq_true rfl), (Nat.le_of_ble_eq_true rfl)⟩ h_m rfl rfl hl.1 rfl (Nat.le_of_ble_eq_true rfl) dX6_cardOf_92 ⟨(Nat.le_of_ble_eq_true rfl), (Nat.le_of_ble_eq_true rfl)⟩) w hA (fun H locs w => ?_)
      exact w_iret hx hb hr hlocks w ⟨rfl, _, hq.symm, (by intro i hi; first | rfl | exact e35_0 i hi | exact e86_0 i hi | exact (e86_0 i hi).trans (e35_0 i hi)), rfl, h_m_ss.2, hk⟩ (Nat.le_refl _) (Nat.le_refl _) dX6_cardOf_95
    · skip
      have hq := hq.trans (if_pos c2)
      refine lv_aload_n hx hb dX6_cardOf_70 rfl (lv_at hl 2 rfl) ?_
      refine lv_iload_n hx hb dX6_cardOf_71 rfl (lv_at hl 1 rfl) ?_
      refine w_finI (w_runV (rm := ({ frames := 0, cells := 0, slots := 0, locals := 0 } : Room)) (As := [.int (f_X6_holdsBy p0 (m_ss_f 0) (m_ss_f 1) m_ss_f)]) (rest := []) (n := 1) hx hb hml hts hown hK w (c_X6_held l D cI cP cS cL L _ m (f_X6_holdsBy p0 (m_ss_f 0) (m_ss_f 1) m_ss_f) m_ss m_im m_re m_sa m_ke m_so m_si m_el m_kd m_kt m_hi m_th m_po m_ba m_en m_tl m_nu m_ca m_ha m_hs m_co m_ss_f h_m h_m_ss) gX6_cardOf_X6_held rfl rfl rfl (by decide +kernel) ⟨(Nat.le_of_ble_eq_true rfl), (Nat.le_of_ble_eq_true rfl)⟩ h_m rfl rfl hl.1 rfl (Nat.le_of_ble_eq_true rfl) dX6_cardOf_72 ⟨(Nat.le_of_ble_eq_true rfl), (Nat.le_of_ble_eq_true rfl)⟩) w hA (fun H locs w => ?_)
      refine lv_goto (tgt := 95) hx hb dX6_cardOf_75 (by decide) ?_
      exact w_iret hx hb hr hlocks w ⟨rfl, _, hq.symm, (by intro i hi; first | rfl | exact e35_0 i hi | exact e86_0 i hi | exact (e86_0 i hi).trans (e35_0 i hi)), rfl, h_m_ss.2, hk⟩ (Nat.le_refl _) (Nat.le_refl _) dX6_cardOf_95
  · skip
    have hq := hq.trans (if_neg c1)
    refine lv_aload_n hx hb dX6_cardOf_26 rfl (lv_at hl 1 rfl) ?_
    refine lv_aload_n hx hb dX6_cardOf_27 rfl (lv_at hl 1 rfl) ?_
    refine w_get (v := .ref m_ss) hx hb hts i_X6 hown hK w h_m rfl 0 (by decide) (hts _ m_0) rfl dX6_cardOf_28 ?_
    refine lv_iconst (v := 2) hx hb dX6_cardOf_31 (by decide) ?_
    refine w_ild (j := 2) hx hb hK w h_m_ss (vp_in_nI (n := 2) (N := 55) (by decide) (by decide)) rfl dX6_cardOf_32 ?_
    refine lv_iconst (v := 1) hx hb dX6_cardOf_33 (by decide) ?_
    refine lv_iadd hx hb dX6_cardOf_34 ?_
    refine w_finj (w_runV (rm := ({ frames := 0, cells := 0, slots := 0, locals := 0 } : Room)) (As := [.int ((m_ss_f 2) + 1)]) (rest := []) (n := 1) hx hb hml hts hown hK w (c_X6_draw l D cI cP cS cL L _ m ((m_ss_f 2) + 1) m_ss m_im m_re m_sa m_ke m_so m_si m_el m_kd m_kt m_hi m_th m_po m_ba m_en m_tl m_nu m_ca m_ha m_hs m_co m_ss_f h_m h_m_ss (hi1_ne hhi)) gX6_cardOf_X6_draw rfl rfl rfl (by decide +kernel) ⟨(Nat.le_of_ble_eq_true rfl), (Nat.le_of_ble_eq_true rfl)⟩ h_m rfl rfl hl.1 rfl (Nat.le_of_ble_eq_true rfl) dX6_cardOf_35 ⟨(Nat.le_of_ble_eq_true rfl), (Nat.le_of_ble_eq_true rfl)⟩) w hA (fun r9 F1 H locs hp w => ?_)
    obtain ⟨x35, hx35, e35_0, hr9, hw0, hk9⟩ := hp
    subst hr9
    have hq := hq.trans (w_bnd hx35)
    have h_m := h_m.keep hk9 ⟨(wi.ne h_m h_m_ss (by intro h; cases h)), trivial⟩
    have h_m_ss := h_m_ss.new hw0
    have hk := hk.call hk9 (fun q h => ⟨h.1, trivial⟩)
    refine lv_istore_n (lv' := [(3, .int x35.1), (2, .int (f_X6_holdsBy p0 (m_ss_f 0) (m_ss_f 1) m_ss_f)), (0, .ref m), (1, .int p0)]) hx hb dX6_cardOf_38 rfl hl (by decide) rfl (fun ls hl => ?_)
    refine lv_aload_n hx hb dX6_cardOf_39 rfl (lv_at hl 2 rfl) ?_
    refine lv_iload_n hx hb dX6_cardOf_40 rfl (lv_at hl 3 rfl) ?_
    refine lv_iconst (v := 0) hx hb dX6_cardOf_41 (by decide) ?_
    refine w_finI (w_runV (rm := ({ frames := 0, cells := 0, slots := 0, locals := 0 } : Room)) (As := [.int p0, .int 0]) (rest := []) (n := 2) hx hb hml hts hown hK w (c_X6_get l D cI cP cS cL L _ m p0 0 m_ss m_im m_re m_sa m_ke m_so m_si m_el m_kd m_kt m_hi m_th m_po m_ba m_en m_tl m_nu m_ca m_ha m_hs m_co x35.2 h_m h_m_ss (gix2 hp0 (by decide))) gX6_cardOf_X6_get rfl rfl rfl (by decide +kernel) ⟨(Nat.le_of_ble_eq_true rfl), (Nat.le_of_ble_eq_true rfl)⟩ h_m rfl rfl hl.1 rfl (Nat.le_of_ble_eq_true rfl) dX6_cardOf_42 ⟨(Nat.le_of_ble_eq_true rfl), (Nat.le_of_ble_eq_true rfl)⟩) w hA (fun H locs w => ?_)
    refine lv_iconst (v := 1) hx hb dX6_cardOf_45 (by decide) ?_
    refine lv_icmp_ne (tgt := 53) hx hb dX6_cardOf_46 (by decide) (fun c3 => ?_) (fun c3 => ?_)
    · skip
      have hq := hq.trans (if_neg c3)
      refine lv_iload_n hx hb dX6_cardOf_53 rfl (lv_at hl 0 rfl) ?_
      refine lv_iconst (v := 2) hx hb dX6_cardOf_54 (by decide) ?_
      refine lv_idiv hx hb dX6_cardOf_55 (by decide) ?_
      refine lv_iload_n hx hb dX6_cardOf_56 rfl (lv_at hl 1 rfl) ?_
      refine lv_iadd hx hb dX6_cardOf_57 ?_
      refine lv_istore_n (lv' := [(2, .int ((x35.1 / 2) + (f_X6_holdsBy p0 (m_ss_f 0) (m_ss_f 1) m_ss_f))), (3, .int x35.1), (0, .ref m), (1, .int p0)]) hx hb dX6_cardOf_58 rfl hl (by decide) rfl (fun ls hl => ?_)
      refine lv_aload_n hx hb dX6_cardOf_59 rfl (lv_at hl 2 rfl) ?_
      refine lv_iload_n hx hb dX6_cardOf_60 rfl (lv_at hl 3 rfl) ?_
      refine lv_iconst (v := 2) hx hb dX6_cardOf_61 (by decide) ?_
      refine w_finI (w_runV (rm := ({ frames := 0, cells := 0, slots := 0, locals := 0 } : Room)) (As := [.int p0, .int 2]) (rest := []) (n := 2) hx hb hml hts hown hK w (c_X6_get l D cI cP cS cL L _ m p0 2 m_ss m_im m_re m_sa m_ke m_so m_si m_el m_kd m_kt m_hi m_th m_po m_ba m_en m_tl m_nu m_ca m_ha m_hs m_co x35.2 h_m h_m_ss (gix2 hp0 (by decide))) gX6_cardOf_X6_get rfl rfl rfl (by decide +kernel) ⟨(Nat.le_of_ble_eq_true rfl), (Nat.le_of_ble_eq_true rfl)⟩ h_m rfl rfl hl.1 rfl (Nat.le_of_ble_eq_true rfl) dX6_cardOf_62 ⟨(Nat.le_of_ble_eq_true rfl), (Nat.le_of_ble_eq_true rfl)⟩) w hA (fun H locs w => ?_)
      refine lv_istore_n (lv' := [(3, .int (f_X6_get p0 2 x35.2)), (2, .int ((x35.1 / 2) + (f_X6_holdsBy p0 (m_ss_f 0) (m_ss_f 1) m_ss_f))), (0, .ref m), (1, .int p0)]) hx hb dX6_cardOf_65 rfl hl (by decide) rfl (fun ls hl => ?_)
      refine lv_iload_n hx hb dX6_cardOf_66 rfl (lv_at hl 0 rfl) ?_
      refine lv_if_ne (tgt := 78) hx hb dX6_cardOf_67 (by decide) (fun c4 => ?_) (fun c4 => ?_)
      · skip
        have hq := hq.trans (if_neg c4)
        refine lv_aload_n hx hb dX6_cardOf_78 rfl (lv_at hl 2 rfl) ?_
        refine lv_iload_n hx hb dX6_cardOf_79 rfl (lv_at hl 1 rfl) ?_
        refine lv_aload_n hx hb dX6_cardOf_80 rfl (lv_at hl 2 rfl) ?_
        refine lv_iconst (v := 2) hx hb dX6_cardOf_81 (by decide) ?_
        refine lv_iload_n hx hb dX6_cardOf_82 rfl (lv_at hl 0 rfl) ?_
        refine lv_imul hx hb dX6_cardOf_83 ?_
        refine lv_iconst (v := 1) hx hb dX6_cardOf_84 (by decide) ?_
        refine lv_iadd hx hb dX6_cardOf_85 ?_
        refine w_finj (w_runV (rm := ({ frames := 0, cells := 0, slots := 0, locals := 0 } : Room)) (As := [.int ((2 * (f_X6_get p0 2 x35.2)) + 1)]) (rest := [.int ((x35.1 / 2) + (f_X6_holdsBy p0 (m_ss_f 0) (m_ss_f 1) m_ss_f)), .ref m]) (n := 1) hx hb hml hts hown hK w (c_X6_draw l D cI cP cS cL L _ m ((2 * (f_X6_get p0 2 x35.2)) + 1) m_ss m_im m_re m_sa m_ke m_so m_si m_el m_kd m_kt m_hi m_th m_po m_ba m_en m_tl m_nu m_ca m_ha m_hs m_co x35.2 h_m h_m_ss (odd_ne _)) gX6_cardOf_X6_draw rfl rfl rfl (by decide +kernel) ⟨(Nat.le_of_ble_eq_true rfl), (Nat.le_of_ble_eq_true rfl)⟩ h_m rfl rfl hl.1 rfl (Nat.le_of_ble_eq_true rfl) dX6_cardOf_86 ⟨(Nat.le_of_ble_eq_true rfl), (Nat.le_of_ble_eq_true rfl)⟩) w hA (fun r9 F1 H locs hp w => ?_)
        obtain ⟨x86, hx86, e86_0, hr9, hw0, hk9⟩ := hp
        subst hr9
        have hq := hq.trans (w_bnd hx86)
        have h_m := h_m.keep hk9 ⟨(wi.ne h_m h_m_ss (by intro h; cases h)), trivial⟩
        have h_m_ss := h_m_ss.new hw0
        have hk := hk.call hk9 (fun q h => ⟨h.1, trivial⟩)
        refine lv_iadd hx hb dX6_cardOf_89 ?_
        refine lv_iload_n hx hb dX6_cardOf_90 rfl (lv_at hl 0 rfl) ?_
        refine lv_isub hx hb dX6_cardOf_91 ?_
        refine w_finI (w_runV (rm := ({ frames := 0, cells := 0, slots := 0, locals := 0 } : Room)) (As := [.int ((((x35.1 / 2) + (f_X6_holdsBy p0 (m_ss_f 0) (m_ss_f 1) m_ss_f)) + x86.1) - (f_X6_get p0 2 x35.2))]) (rest := []) (n := 1) hx hb hml hts hown hK w (c_X6_held l D cI cP cS cL L _ m ((((x35.1 / 2) + (f_X6_holdsBy p0 (m_ss_f 0) (m_ss_f 1) m_ss_f)) + x86.1) - (f_X6_get p0 2 x35.2)) m_ss m_im m_re m_sa m_ke m_so m_si m_el m_kd m_kt m_hi m_th m_po m_ba m_en m_tl m_nu m_ca m_ha m_hs m_co x86.2 h_m h_m_ss) gX6_cardOf_X6_held rfl rfl rfl (by decide +kernel) ⟨(Nat.le_of_ble_eq_true rfl), (Nat.le_of_ble_eq_true rfl)⟩ h_m rfl rfl hl.1 rfl (Nat.le_of_ble_eq_true rfl) dX6_cardOf_92 ⟨(Nat.le_of_ble_eq_true rfl), (Nat.le_of_ble_eq_true rfl)⟩) w hA (fun H locs w => ?_)
        exact w_iret hx hb hr hlocks w ⟨rfl, _, hq.symm, (by intro i hi; first | rfl | exact e35_0 i hi | exact e86_0 i hi | exact (e86_0 i hi).trans (e35_0 i hi)), rfl, h_m_ss.2, hk⟩ (Nat.le_refl _) (Nat.le_refl _) dX6_cardOf_95
      · skip
        have hq := hq.trans (if_pos c4)
        refine lv_aload_n hx hb dX6_cardOf_70 rfl (lv_at hl 2 rfl) ?_
        refine lv_iload_n hx hb dX6_cardOf_71 rfl (lv_at hl 1 rfl) ?_
        refine w_finI (w_runV (rm := ({ frames := 0, cells := 0, slots := 0, locals := 0 } : Room)) (As := [.int ((x35.1 / 2) + (f_X6_holdsBy p0 (m_ss_f 0) (m_ss_f 1) m_ss_f))]) (rest := []) (n := 1) hx hb hml hts hown hK w (c_X6_held l D cI cP cS cL L _ m ((x35.1 / 2) + (f_X6_holdsBy p0 (m_ss_f 0) (m_ss_f 1) m_ss_f)) m_ss m_im m_re m_sa m_ke m_so m_si m_el m_kd m_kt m_hi m_th m_po m_ba m_en m_tl m_nu m_ca m_ha m_hs m_co x35.2 h_m h_m_ss) gX6_cardOf_X6_held rfl rfl rfl (by decide +kernel) ⟨(Nat.le_of_ble_eq_true rfl), (Nat.le_of_ble_eq_true rfl)⟩ h_m rfl rfl hl.1 rfl (Nat.le_of_ble_eq_true rfl) dX6_cardOf_72 ⟨(Nat.le_of_ble_eq_true rfl), (Nat.le_of_ble_eq_true rfl)⟩) w hA (fun H locs w => ?_)
        refine lv_goto (tgt := 95) hx hb dX6_cardOf_75 (by decide) ?_
        exact w_iret hx hb hr hlocks w ⟨rfl, _, hq.symm, (by intro i hi; first | rfl | exact e35_0 i hi | exact e86_0 i hi | exact (e86_0 i hi).trans (e35_0 i hi)), rfl, h_m_ss.2, hk⟩ (Nat.le_refl _) (Nat.le_refl _) dX6_cardOf_95
    · skip
      have hq := hq.trans (if_pos c3)
      refine lv_iload_n hx hb dX6_cardOf_49 rfl (lv_at hl 0 rfl) ?_
      refine lv_goto (tgt := 58) hx hb dX6_cardOf_50 (by decide) ?_
      refine lv_istore_n (lv' := [(2, .int x35.1), (3, .int x35.1), (0, .ref m), (1, .int p0)]) hx hb dX6_cardOf_58 rfl hl (by decide) rfl (fun ls hl => ?_)
      refine lv_aload_n hx hb dX6_cardOf_59 rfl (lv_at hl 2 rfl) ?_
      refine lv_iload_n hx hb dX6_cardOf_60 rfl (lv_at hl 3 rfl) ?_
      refine lv_iconst (v := 2) hx hb dX6_cardOf_61 (by decide) ?_
      refine w_finI (w_runV (rm := ({ frames := 0, cells := 0, slots := 0, locals := 0 } : Room)) (As := [.int p0, .int 2]) (rest := []) (n := 2) hx hb hml hts hown hK w (c_X6_get l D cI cP cS cL L _ m p0 2 m_ss m_im m_re m_sa m_ke m_so m_si m_el m_kd m_kt m_hi m_th m_po m_ba m_en m_tl m_nu m_ca m_ha m_hs m_co x35.2 h_m h_m_ss (gix2 hp0 (by decide))) gX6_cardOf_X6_get rfl rfl rfl (by decide +kernel) ⟨(Nat.le_of_ble_eq_true rfl), (Nat.le_of_ble_eq_true rfl)⟩ h_m rfl rfl hl.1 rfl (Nat.le_of_ble_eq_true rfl) dX6_cardOf_62 ⟨(Nat.le_of_ble_eq_true rfl), (Nat.le_of_ble_eq_true rfl)⟩) w hA (fun H locs w => ?_)
      refine lv_istore_n (lv' := [(3, .int (f_X6_get p0 2 x35.2)), (2, .int x35.1), (0, .ref m), (1, .int p0)]) hx hb dX6_cardOf_65 rfl hl (by decide) rfl (fun ls hl => ?_)
      refine lv_iload_n hx hb dX6_cardOf_66 rfl (lv_at hl 0 rfl) ?_
      refine lv_if_ne (tgt := 78) hx hb dX6_cardOf_67 (by decide) (fun c5 => ?_) (fun c5 => ?_)
      · skip
        have hq := hq.trans (if_neg c5)
        refine lv_aload_n hx hb dX6_cardOf_78 rfl (lv_at hl 2 rfl) ?_
        refine lv_iload_n hx hb dX6_cardOf_79 rfl (lv_at hl 1 rfl) ?_
        refine lv_aload_n hx hb dX6_cardOf_80 rfl (lv_at hl 2 rfl) ?_
        refine lv_iconst (v := 2) hx hb dX6_cardOf_81 (by decide) ?_
        refine lv_iload_n hx hb dX6_cardOf_82 rfl (lv_at hl 0 rfl) ?_
        refine lv_imul hx hb dX6_cardOf_83 ?_
        refine lv_iconst (v := 1) hx hb dX6_cardOf_84 (by decide) ?_
        refine lv_iadd hx hb dX6_cardOf_85 ?_
        refine w_finj (w_runV (rm := ({ frames := 0, cells := 0, slots := 0, locals := 0 } : Room)) (As := [.int ((2 * (f_X6_get p0 2 x35.2)) + 1)]) (rest := [.int x35.1, .ref m]) (n := 1) hx hb hml hts hown hK w (c_X6_draw l D cI cP cS cL L _ m ((2 * (f_X6_get p0 2 x35.2)) + 1) m_ss m_im m_re m_sa m_ke m_so m_si m_el m_kd m_kt m_hi m_th m_po m_ba m_en m_tl m_nu m_ca m_ha m_hs m_co x35.2 h_m h_m_ss (odd_ne _)) gX6_cardOf_X6_draw rfl rfl rfl (by decide +kernel) ⟨(Nat.le_of_ble_eq_true rfl), (Nat.le_of_ble_eq_true rfl)⟩ h_m rfl rfl hl.1 rfl (Nat.le_of_ble_eq_true rfl) dX6_cardOf_86 ⟨(Nat.le_of_ble_eq_true rfl), (Nat.le_of_ble_eq_true rfl)⟩) w hA (fun r9 F1 H locs hp w => ?_)
        obtain ⟨x86, hx86, e86_0, hr9, hw0, hk9⟩ := hp
        subst hr9
        have hq := hq.trans (w_bnd hx86)
        have h_m := h_m.keep hk9 ⟨(wi.ne h_m h_m_ss (by intro h; cases h)), trivial⟩
        have h_m_ss := h_m_ss.new hw0
        have hk := hk.call hk9 (fun q h => ⟨h.1, trivial⟩)
        refine lv_iadd hx hb dX6_cardOf_89 ?_
        refine lv_iload_n hx hb dX6_cardOf_90 rfl (lv_at hl 0 rfl) ?_
        refine lv_isub hx hb dX6_cardOf_91 ?_
        refine w_finI (w_runV (rm := ({ frames := 0, cells := 0, slots := 0, locals := 0 } : Room)) (As := [.int ((x35.1 + x86.1) - (f_X6_get p0 2 x35.2))]) (rest := []) (n := 1) hx hb hml hts hown hK w (c_X6_held l D cI cP cS cL L _ m ((x35.1 + x86.1) - (f_X6_get p0 2 x35.2)) m_ss m_im m_re m_sa m_ke m_so m_si m_el m_kd m_kt m_hi m_th m_po m_ba m_en m_tl m_nu m_ca m_ha m_hs m_co x86.2 h_m h_m_ss) gX6_cardOf_X6_held rfl rfl rfl (by decide +kernel) ⟨(Nat.le_of_ble_eq_true rfl), (Nat.le_of_ble_eq_true rfl)⟩ h_m rfl rfl hl.1 rfl (Nat.le_of_ble_eq_true rfl) dX6_cardOf_92 ⟨(Nat.le_of_ble_eq_true rfl), (Nat.le_of_ble_eq_true rfl)⟩) w hA (fun H locs w => ?_)
        exact w_iret hx hb hr hlocks w ⟨rfl, _, hq.symm, (by intro i hi; first | rfl | exact e35_0 i hi | exact e86_0 i hi | exact (e86_0 i hi).trans (e35_0 i hi)), rfl, h_m_ss.2, hk⟩ (Nat.le_refl _) (Nat.le_refl _) dX6_cardOf_95
      · skip
        have hq := hq.trans (if_pos c5)
        refine lv_aload_n hx hb dX6_cardOf_70 rfl (lv_at hl 2 rfl) ?_
        refine lv_iload_n hx hb dX6_cardOf_71 rfl (lv_at hl 1 rfl) ?_
        refine w_finI (w_runV (rm := ({ frames := 0, cells := 0, slots := 0, locals := 0 } : Room)) (As := [.int x35.1]) (rest := []) (n := 1) hx hb hml hts hown hK w (c_X6_held l D cI cP cS cL L _ m x35.1 m_ss m_im m_re m_sa m_ke m_so m_si m_el m_kd m_kt m_hi m_th m_po m_ba m_en m_tl m_nu m_ca m_ha m_hs m_co x35.2 h_m h_m_ss) gX6_cardOf_X6_held rfl rfl rfl (by decide +kernel) ⟨(Nat.le_of_ble_eq_true rfl), (Nat.le_of_ble_eq_true rfl)⟩ h_m rfl rfl hl.1 rfl (Nat.le_of_ble_eq_true rfl) dX6_cardOf_72 ⟨(Nat.le_of_ble_eq_true rfl), (Nat.le_of_ble_eq_true rfl)⟩) w hA (fun H locs w => ?_)
        refine lv_goto (tgt := 95) hx hb dX6_cardOf_75 (by decide) ?_
        exact w_iret hx hb hr hlocks w ⟨rfl, _, hq.symm, (by intro i hi; first | rfl | exact e35_0 i hi | exact e86_0 i hi | exact (e86_0 i hi).trans (e35_0 i hi)), rfl, h_m_ss.2, hk⟩ (Nat.le_refl _) (Nat.le_refl _) dX6_cardOf_95
def f_X6_goesRound_L31 (u_m_ca_f : Nat → Int32) : Nat → Nat → (Nat → Int32) → (Nat → Int32) × (Nat → Int32)
  | 0, _, _ => ((fun _ => 0), (fun _ => 0))
  | n + 1, k, u_m_ss_f => if (u_m_ss_f 5) ≤ (nI k) then ((upd u_m_ss_f 6 ((u_m_ss_f 6) + 1)), u_m_ca_f) else (f_X6_goesRound_L31 u_m_ca_f n ((k + 1)) (upd u_m_ss_f (10 + 4 * k) (u_m_ca_f k)))
theorem f_X6_goesRound_L31_s (u_m_ca_f : Nat → Int32) (n k : Nat) (u_m_ss_f : Nat → Int32) : f_X6_goesRound_L31 u_m_ca_f (n + 1) k u_m_ss_f = (if (u_m_ss_f 5) ≤ (nI k) then ((upd u_m_ss_f 6 ((u_m_ss_f 6) + 1)), u_m_ca_f) else (f_X6_goesRound_L31 u_m_ca_f n ((k + 1)) (upd u_m_ss_f (10 + 4 * k) (u_m_ca_f k)))) := rfl
def f_X6_goesRound_L2 (m_ss_f : Nat → Int32) : Nat → Nat → (Nat → Int32) → (Nat → Int32) → (Nat → Int32) × (Nat → Int32)
  | 0, _, _, _ => ((fun _ => 0), (fun _ => 0))
  | n + 1, k, u_m_ss_f, u_m_ca_f => if (u_m_ss_f 5) ≤ (nI k) then (f_X6_goesRound_L31 u_m_ca_f ((m_ss_f 5).toNatClampNeg + 1) 0 u_m_ss_f) else (bnd (f_X6_cardOf (nI k) u_m_ss_f) (fun x19 : Int32 × (Nat → Int32) => f_X6_goesRound_L2 m_ss_f n ((k + 1)) x19.2 (upd u_m_ca_f k x19.1)))
theorem f_X6_goesRound_L2_s (m_ss_f : Nat → Int32) (n k : Nat) (u_m_ss_f : Nat → Int32) (u_m_ca_f : Nat → Int32) : f_X6_goesRound_L2 m_ss_f (n + 1) k u_m_ss_f u_m_ca_f = (if (u_m_ss_f 5) ≤ (nI k) then (f_X6_goesRound_L31 u_m_ca_f ((m_ss_f 5).toNatClampNeg + 1) 0 u_m_ss_f) else (bnd (f_X6_cardOf (nI k) u_m_ss_f) (fun x19 : Int32 × (Nat → Int32) => f_X6_goesRound_L2 m_ss_f n ((k + 1)) x19.2 (upd u_m_ca_f k x19.1)))) := rfl
def f_X6_goesRound (m_ss_f : Nat → Int32) (m_ca_f : Nat → Int32) : (Nat → Int32) × (Nat → Int32) := f_X6_goesRound_L2 m_ss_f ((m_ss_f 5).toNatClampNeg + 1) 0 m_ss_f m_ca_f
set_option maxHeartbeats 400000 in
set_option maxRecDepth 100000 in
theorem c_X6_goesRound (l : Launch) (D : va_G) (cI cP cS cL : ClassId) (L : List Nat) (F : Nat → va_E) (m : Nat) (m_ss : Nat) (m_im : Nat) (m_re : Nat) (m_sa : Nat) (m_ke : Nat) (m_so : Nat) (m_si : Nat) (m_el : Nat) (m_kd : Nat) (m_kt : Nat) (m_hi : Int32) (m_th : Int32) (m_po : Int32) (m_ba : Int32) (m_en : Int32) (m_tl : Int32) (m_nu : Nat) (m_ca : Nat) (m_ha : Nat) (m_hs : Int32) (m_co : Nat) (m_ss_f : Nat → Int32) (m_ca_f : Nat → Int32) (h_m : wi L F m (eM m_ss m_im m_re m_sa m_ke m_so m_si m_el m_kd m_kt m_hi m_th m_po m_ba m_en m_tl m_nu m_ca m_ha m_hs m_co)) (h_m_ss : wi L F m_ss (eI cI 55 m_ss_f)) (h_m_ca : wi L F m_ca (eI cI 12 m_ca_f)) (h5 : 0 ≤ (m_ss_f 5).toInt ∧ (m_ss_f 5).toInt ≤ 12) (hhi : 0 ≤ (m_ss_f 2).toInt ∧ (m_ss_f 2).toInt ≤ 1000) (hd1 : ¬ (m_ss_f 1) = 0) (hr5 : ¬ (m_ss_f 6) = 0 → ¬ (m_ss_f 5) = 0) (hst : ∀ p : Int32, 0 ≤ p.toInt ∧ p.toInt < 12 → (m_ss_f (((7 + (4 * p)) + 1).toNatClampNeg)).toInt ≤ 1000) (ne_m_ca_m_ss : m_ca ≠ m_ss) (ne_m_ss_m_ca : m_ss ≠ m_ca) : wMw l D cI cP cS cL yX6_goesRound wsX6_goesRound ({ frames := 6, cells := 0, slots := 0, locals := 141 } : Room) [.ref m] L F (fun F1 => ∃ y9 : (Nat → Int32) × (Nat → Int32), y9 = (f_X6_goesRound m_ss_f m_ca_f) ∧ (gk y9.1 m_ss_f) ∧ F1 m_ss = (eI cI 55 y9.1) ∧ F1 m_ca = (eI cI 12 y9.2) ∧ wk (fun q : Nat => q ≠ m_ss ∧ q ≠ m_ca ∧ True) F1 F) := by
  refine wM.of (cc := cX6_goesRound) (maxL := 2) (ret := none) (by decide) rfl (Nat.le_of_ble_eq_true rfl) ?_
  intro pZ eZ sZ mZ below meth cZ A ls C hl w
  obtain ⟨hx, hb, hr, hml, hts, hown, hlocks, hK, hA, hin⟩ := C
  have hown : sZ.vm.findClass RX6 = some mZ.cls := hown
  have hl : lv_has ls 2 [(0, .ref m)] := hl
  have m_0 : ((.fieldLink RX6 9 "TwoThirdsModel" "s" "[I") : Cond) ∈ wsX6_goesRound := by decide +kernel
  have i_X6 : ∀ w ∈ wsX60, w ∈ wsX6_goesRound := by decide +kernel
  have m_2 : ((.fieldLink RX6 43 "TwoThirdsModel" "cards" "[I") : Cond) ∈ wsX6_goesRound := by decide +kernel
  have hk : wk (fun q : Nat => q ≠ m_ss ∧ q ≠ m_ca ∧ True) F F := wk.rf
  have hq : f_X6_goesRound m_ss_f m_ca_f = f_X6_goesRound m_ss_f m_ca_f := rfl
  refine lv_iconst (v := 0) hx hb dX6_goesRound_0 (by decide) ?_
  refine lv_istore_n (lv' := [(1, .int 0), (0, .ref m)]) hx hb dX6_goesRound_1 rfl hl (by decide) rfl (fun ls hl => ?_)
  have hL2 : ∀ (n k : Nat) (u_m_ss_f : Nat → Int32) (u_m_ca_f : Nat → Int32) (F1 : Nat → va_E) (H : Heap) (locs : List Loc) (ls : Array Slot), (∀ i, i ≠ 4 → u_m_ss_f i = m_ss_f i) → k ≤ (m_ss_f 5).toNatClampNeg → (m_ss_f 5).toNatClampNeg - k < n → f_X6_goesRound m_ss_f m_ca_f = f_X6_goesRound_L2 m_ss_f n k u_m_ss_f u_m_ca_f → lv_has ls 2 [(0, .ref m), (1, .int (nI k))] → ww D A sZ.heap L F1 H locs → (wi L F1 m (eM m_ss m_im m_re m_sa m_ke m_so m_si m_el m_kd m_kt m_hi m_th m_po m_ba m_en m_tl m_nu m_ca m_ha m_hs m_co)) → (wi L F1 m_ss (eI cI 55 u_m_ss_f)) → (wi L F1 m_ca (eI cI 12 u_m_ca_f)) → wk (fun q : Nat => q ≠ m_ss ∧ q ≠ m_ca ∧ True) F1 F → W pZ l eZ ({ frames := 6, cells := 0, slots := 0, locals := 141 } : Room) sZ mZ [.ref m].toArray below meth cZ H locs 0 0 (MQ below (wQv D A (fun L1 F1 => L1 = L ∧ ∃ y9 : (Nat → Int32) × (Nat → Int32), y9 = (f_X6_goesRound m_ss_f m_ca_f) ∧ (gk y9.1 m_ss_f) ∧ F1 m_ss = (eI cI 55 y9.1) ∧ F1 m_ca = (eI cI 12 y9.2) ∧ wk (fun q : Nat => q ≠ m_ss ∧ q ≠ m_ca ∧ True) F1 F)) [.ref m].toArray sZ 0 0 A) (F0 mZ 2 ls []) := by
    intro n; induction n with
    | zero => intro k u_m_ss_f u_m_ca_f F1 H locs ls _ hkT hmeas; exact absurd hmeas (Nat.not_lt_zero _)
    | succ n ih =>
      intro k u_m_ss_f u_m_ca_f F1 H locs ls hi0 hkT hmeas hq hl w h_m h_m_ss h_m_ca hk
      have hk31 : k < 2147483648 := Nat.lt_of_le_of_lt hkT (w_clamp_lt _)
      have h5u : 0 ≤ (u_m_ss_f 5).toInt ∧ (u_m_ss_f 5).toInt ≤ 12 := (by rw [hi0 5 (by decide)]; exact h5)
      have hhiu : 0 ≤ (u_m_ss_f 2).toInt ∧ (u_m_ss_f 2).toInt ≤ 1000 := (by rw [hi0 2 (by decide)]; exact hhi)
      have hd1u : ¬ (u_m_ss_f 1) = 0 := (by rw [hi0 1 (by decide)]; exact hd1)
      have hr5u : ¬ (u_m_ss_f 6) = 0 → ¬ (u_m_ss_f 5) = 0 := (by rw [hi0 6 (by decide), hi0 5 (by decide)]; exact hr5)
      have hstu : ∀ p : Int32, 0 ≤ p.toInt ∧ p.toInt < 12 → (u_m_ss_f (((7 + (4 * p)) + 1).toNatClampNeg)).toInt ≤ 1000 := (fun p hp => by rw [hi0 _ (gix_ne4 hp (by decide))]; exact hst p hp)
      have hq := hq.trans (f_X6_goesRound_L2_s m_ss_f n k u_m_ss_f u_m_ca_f)
      refine lv_iload_n hx hb dX6_goesRound_2 rfl (lv_at hl 1 rfl) ?_
      refine lv_aload_n hx hb dX6_goesRound_3 rfl (lv_at hl 0 rfl) ?_
      refine w_get (v := .ref m_ss) hx hb hts i_X6 hown hK w h_m rfl 0 (by decide) (hts _ m_0) rfl dX6_goesRound_4 ?_
      refine lv_iconst (v := 5) hx hb dX6_goesRound_7 (by decide) ?_
      refine w_ild (j := 5) hx hb hK w h_m_ss (vp_in_nI (n := 5) (N := 55) (by decide) (by decide)) rfl dX6_goesRound_8 ?_
      refine lv_icmp_ge (tgt := 29) hx hb dX6_goesRound_9 (by decide) (fun c1 => ?_) (fun c1 => ?_)
      · skip
        have hq := hq.trans (if_pos c1)
        refine lv_iconst (v := 0) hx hb dX6_goesRound_29 (by decide) ?_
        refine lv_istore_n (lv' := [(1, .int 0), (0, .ref m)]) hx hb dX6_goesRound_30 rfl hl (by decide) rfl (fun ls hl => ?_)
        have hL31 : ∀ (n k : Nat) (u_m_ss_f : Nat → Int32) (F1 : Nat → va_E) (H : Heap) (locs : List Loc) (ls : Array Slot), (gk u_m_ss_f m_ss_f) → k ≤ (m_ss_f 5).toNatClampNeg → (m_ss_f 5).toNatClampNeg - k < n → f_X6_goesRound m_ss_f m_ca_f = f_X6_goesRound_L31 u_m_ca_f n k u_m_ss_f → lv_has ls 2 [(0, .ref m), (1, .int (nI k))] → ww D A sZ.heap L F1 H locs → (wi L F1 m (eM m_ss m_im m_re m_sa m_ke m_so m_si m_el m_kd m_kt m_hi m_th m_po m_ba m_en m_tl m_nu m_ca m_ha m_hs m_co)) → (wi L F1 m_ss (eI cI 55 u_m_ss_f)) → (wi L F1 m_ca (eI cI 12 u_m_ca_f)) → wk (fun q : Nat => q ≠ m_ss ∧ q ≠ m_ca ∧ True) F1 F → W pZ l eZ ({ frames := 6, cells := 0, slots := 0, locals := 141 } : Room) sZ mZ [.ref m].toArray below meth cZ H locs 0 0 (MQ below (wQv D A (fun L1 F1 => L1 = L ∧ ∃ y9 : (Nat → Int32) × (Nat → Int32), y9 = (f_X6_goesRound m_ss_f m_ca_f) ∧ (gk y9.1 m_ss_f) ∧ F1 m_ss = (eI cI 55 y9.1) ∧ F1 m_ca = (eI cI 12 y9.2) ∧ wk (fun q : Nat => q ≠ m_ss ∧ q ≠ m_ca ∧ True) F1 F)) [.ref m].toArray sZ 0 0 A) (F0 mZ 31 ls []) := by
          intro n; induction n with
          | zero => intro k u_m_ss_f F1 H locs ls _ hkT hmeas; exact absurd hmeas (Nat.not_lt_zero _)
          | succ n ih =>
            intro k u_m_ss_f F1 H locs ls hi0 hkT hmeas hq hl w h_m h_m_ss h_m_ca hk
            have hk31 : k < 2147483648 := Nat.lt_of_le_of_lt hkT (w_clamp_lt _)
            have hq := hq.trans (f_X6_goesRound_L31_s u_m_ca_f n k u_m_ss_f)
            refine lv_iload_n hx hb dX6_goesRound_31 rfl (lv_at hl 1 rfl) ?_
            refine lv_aload_n hx hb dX6_goesRound_32 rfl (lv_at hl 0 rfl) ?_
            refine w_get (v := .ref m_ss) hx hb hts i_X6 hown hK w h_m rfl 0 (by decide) (hts _ m_0) rfl dX6_goesRound_33 ?_
            refine lv_iconst (v := 5) hx hb dX6_goesRound_36 (by decide) ?_
            refine w_ild (j := 5) hx hb hK w h_m_ss (vp_in_nI (n := 5) (N := 55) (by decide) (by decide)) rfl dX6_goesRound_37 ?_
            refine lv_icmp_ge (tgt := 66) hx hb dX6_goesRound_38 (by decide) (fun c2 => ?_) (fun c2 => ?_)
            · skip
              have hq := hq.trans (if_pos c2)
              refine lv_aload_n hx hb dX6_goesRound_66 rfl (lv_at hl 0 rfl) ?_
              refine w_get (v := .ref m_ss) hx hb hts i_X6 hown hK w h_m rfl 0 (by decide) (hts _ m_0) rfl dX6_goesRound_67 ?_
              refine lv_bipush (v := 6) hx hb dX6_goesRound_70 (by decide) ?_
              refine lv_dup2_11 hx hb dX6_goesRound_72 rfl rfl ?_
              refine w_ild (j := 6) hx hb hK w h_m_ss (vp_in_nI (n := 6) (N := 55) (by decide) (by decide)) rfl dX6_goesRound_73 ?_
              refine lv_iconst (v := 1) hx hb dX6_goesRound_74 (by decide) ?_
              refine lv_iadd hx hb dX6_goesRound_75 ?_
              have ho3 := h_m_ss
              refine w_ist (j := 6) hx hb hK w h_m_ss (vp_in_nI (n := 6) (N := 55) (by decide) (by decide)) rfl dX6_goesRound_76 (fun H locs w h_m_ss => ?_)
              have h_m := h_m.upw h_m_ss (wi.ne h_m ho3 (by intro h; cases h))
              have h_m_ca := h_m_ca.upw h_m_ss ne_m_ca_m_ss
              have hk := hk.upw h_m_ss (fun q h => h.1)
              exact w_vret hx hb hr hlocks w ⟨rfl, _, hq.symm, (hi0.up (Or.inl rfl)), h_m_ss.2, h_m_ca.2, hk⟩ (Nat.le_refl _) (Nat.le_refl _) dX6_goesRound_77
            · skip
              have hq := hq.trans (if_neg c2)
              have hlt38 : k < (u_m_ss_f 5).toNatClampNeg := w_ltk hk31 c2
              rw [hi0.i5] at hlt38
              have hk12 : k < 12 := w_k12 hlt38 h5.2
              refine lv_aload_n hx hb dX6_goesRound_41 rfl (lv_at hl 0 rfl) ?_
              refine w_get (v := .ref m_ss) hx hb hts i_X6 hown hK w h_m rfl 0 (by decide) (hts _ m_0) rfl dX6_goesRound_42 ?_
              refine lv_bipush (v := 7) hx hb dX6_goesRound_45 (by decide) ?_
              refine lv_iconst (v := 4) hx hb dX6_goesRound_47 (by decide) ?_
              refine lv_iload_n hx hb dX6_goesRound_48 rfl (lv_at hl 1 rfl) ?_
              refine lv_imul hx hb dX6_goesRound_49 ?_
              refine lv_iadd hx hb dX6_goesRound_50 ?_
              refine lv_iconst (v := 3) hx hb dX6_goesRound_51 (by decide) ?_
              refine lv_iadd hx hb dX6_goesRound_52 ?_
              refine lv_aload_n hx hb dX6_goesRound_53 rfl (lv_at hl 0 rfl) ?_
              refine w_get (v := .ref m_ca) hx hb hts i_X6 hown hK w h_m rfl 17 (by decide) (hts _ m_2) rfl dX6_goesRound_54 ?_
              refine lv_iload_n hx hb dX6_goesRound_57 rfl (lv_at hl 1 rfl) ?_
              refine w_ild (j := k) hx hb hK w h_m_ca (vp_in_nI (by omega) (by omega)) (nI_clamp (by omega)) dX6_goesRound_58 ?_
              have ho4 := h_m_ss
              refine w_ist (j := (10 + 4 * k)) hx hb hK w h_m_ss (gix2 (nIb (by omega)) (by decide)) (gidx3 (by omega)) dX6_goesRound_59 (fun H locs w h_m_ss => ?_)
              have h_m := h_m.upw h_m_ss (wi.ne h_m ho4 (by intro h; cases h))
              have h_m_ca := h_m_ca.upw h_m_ss ne_m_ca_m_ss
              have hk := hk.upw h_m_ss (fun q h => h.1)
              refine lv_iinc (v := (nI (k + 1))) (lv' := [(1, .int (nI (k + 1))), (0, .ref m)]) hx hb dX6_goesRound_60 hl (k := 1) rfl (w_inc _) (by decide) rfl (fun ls hl => ?_)
              refine lv_goto (tgt := 31) hx hb dX6_goesRound_63 (by decide) ?_
              exact ih ((k + 1)) (upd u_m_ss_f (10 + 4 * k) (u_m_ca_f k)) _ _ _ _ (hi0.up (hi0.i10 hk12)) (by omega) (by omega) hq (lv_sub hl [1, 0] rfl) w h_m h_m_ss h_m_ca hk
        exact hL31 ((m_ss_f 5).toNatClampNeg + 1) 0 u_m_ss_f _ _ _ _ (fun i h4 _ _ => hi0 i h4) (Nat.zero_le _) (by omega) hq (lv_sub hl [1, 0] rfl) w h_m h_m_ss h_m_ca hk
      · skip
        have hq := hq.trans (if_neg c1)
        have hlt9 : k < (u_m_ss_f 5).toNatClampNeg := w_ltk hk31 c1
        rw [hi0 5 (by decide)] at hlt9
        have hk12 : k < 12 := w_k12 hlt9 h5.2
        refine lv_aload_n hx hb dX6_goesRound_12 rfl (lv_at hl 0 rfl) ?_
        refine w_get (v := .ref m_ca) hx hb hts i_X6 hown hK w h_m rfl 17 (by decide) (hts _ m_2) rfl dX6_goesRound_13 ?_
        refine lv_iload_n hx hb dX6_goesRound_16 rfl (lv_at hl 1 rfl) ?_
        refine lv_aload_n hx hb dX6_goesRound_17 rfl (lv_at hl 0 rfl) ?_
        refine lv_iload_n hx hb dX6_goesRound_18 rfl (lv_at hl 1 rfl) ?_
        refine w_finj (w_runV (rm := ({ frames := 5, cells := 0, slots := 0, locals := 118 } : Room)) (As := [.int (nI k)]) (rest := [.int (nI k), .ref m_ca]) (n := 1) hx hb hml hts hown hK w (c_X6_cardOf l D cI cP cS cL L _ m (nI k) m_ss m_im m_re m_sa m_ke m_so m_si m_el m_kd m_kt m_hi m_th m_po m_ba m_en m_tl m_nu m_ca m_ha m_hs m_co u_m_ss_f h_m h_m_ss (nIb (by omega)) h5u hhiu hd1u hr5u hstu) gX6_goesRound_X6_cardOf rfl rfl rfl (by decide +kernel) ⟨(Nat.le_of_ble_eq_true rfl), (Nat.le_of_ble_eq_true rfl)⟩ h_m rfl rfl hl.1 rfl (Nat.le_of_ble_eq_true rfl) dX6_goesRound_19 ⟨(Nat.le_of_ble_eq_true rfl), (Nat.le_of_ble_eq_true rfl)⟩) w hA (fun r9 F1 H locs hp w => ?_)
        obtain ⟨x19, hx19, e19_0, hr9, hw0, hk9⟩ := hp
        subst hr9
        have hq := hq.trans (w_bnd hx19)
        have h_m := h_m.keep hk9 ⟨(wi.ne h_m h_m_ss (by intro h; cases h)), trivial⟩
        have h_m_ca := h_m_ca.keep hk9 ⟨ne_m_ca_m_ss, trivial⟩
        have h_m_ss := h_m_ss.new hw0
        have hk := hk.call hk9 (fun q h => ⟨h.1, trivial⟩)
        have ho5 := h_m_ca
        refine w_ist (j := k) hx hb hK w h_m_ca (vp_in_nI (by omega) (by omega)) (nI_clamp (by omega)) dX6_goesRound_22 (fun H locs w h_m_ca => ?_)
        have h_m := h_m.upw h_m_ca (wi.ne h_m ho5 (by intro h; cases h))
        have h_m_ss := h_m_ss.upw h_m_ca ne_m_ss_m_ca
        have hk := hk.upw h_m_ca (fun q h => h.2.1)
        refine lv_iinc (v := (nI (k + 1))) (lv' := [(1, .int (nI (k + 1))), (0, .ref m)]) hx hb dX6_goesRound_23 hl (k := 1) rfl (w_inc _) (by decide) rfl (fun ls hl => ?_)
        refine lv_goto (tgt := 2) hx hb dX6_goesRound_26 (by decide) ?_
        exact ih ((k + 1)) x19.2 (upd u_m_ca_f k x19.1) _ _ _ _ (fun i hi => (e19_0 i hi).trans (hi0 i hi)) (by omega) (by omega) hq (lv_sub hl [1, 0] rfl) w h_m h_m_ss h_m_ca hk
  exact hL2 ((m_ss_f 5).toNatClampNeg + 1) 0 m_ss_f m_ca_f _ _ _ _ (fun i _ => rfl) (Nat.zero_le _) (by omega) hq (lv_sub hl [1, 0] rfl) w h_m h_m_ss h_m_ca hk
def f_X6_round (m_ss_f : Nat → Int32) (m_ca_f : Nat → Int32) : Int32 × (Nat → Int32) × (Nat → Int32) := if (m_ss_f 6) = (99 : Int32) then ((-2), m_ss_f, m_ca_f) else (if (m_ss_f 5) = (0 : Int32) then ((-3), m_ss_f, m_ca_f) else (bnd (f_X6_goesRound m_ss_f m_ca_f) (fun x28 : (Nat → Int32) × (Nat → Int32) => ((x28.1 6), x28.1, x28.2))))
set_option maxHeartbeats 400000 in
set_option maxRecDepth 100000 in
theorem c_X6_round (l : Launch) (D : va_G) (cI cP cS cL : ClassId) (L : List Nat) (F : Nat → va_E) (m : Nat) (m_ss : Nat) (m_im : Nat) (m_re : Nat) (m_sa : Nat) (m_ke : Nat) (m_so : Nat) (m_si : Nat) (m_el : Nat) (m_kd : Nat) (m_kt : Nat) (m_hi : Int32) (m_th : Int32) (m_po : Int32) (m_ba : Int32) (m_en : Int32) (m_tl : Int32) (m_nu : Nat) (m_ca : Nat) (m_ha : Nat) (m_hs : Int32) (m_co : Nat) (m_ss_f : Nat → Int32) (m_ca_f : Nat → Int32) (h_m : wi L F m (eM m_ss m_im m_re m_sa m_ke m_so m_si m_el m_kd m_kt m_hi m_th m_po m_ba m_en m_tl m_nu m_ca m_ha m_hs m_co)) (h_m_ss : wi L F m_ss (eI cI 55 m_ss_f)) (h_m_ca : wi L F m_ca (eI cI 12 m_ca_f)) (h5 : 0 ≤ (m_ss_f 5).toInt ∧ (m_ss_f 5).toInt ≤ 12) (hhi : 0 ≤ (m_ss_f 2).toInt ∧ (m_ss_f 2).toInt ≤ 1000) (hd1 : ¬ (m_ss_f 1) = 0) (hr5 : ¬ (m_ss_f 6) = 0 → ¬ (m_ss_f 5) = 0) (hst : ∀ p : Int32, 0 ≤ p.toInt ∧ p.toInt < 12 → (m_ss_f (((7 + (4 * p)) + 1).toNatClampNeg)).toInt ≤ 1000) (ne_m_ca_m_ss : m_ca ≠ m_ss) (ne_m_ss_m_ca : m_ss ≠ m_ca) : wMj l D cI cP cS cL yX6_round wsX6_round ({ frames := 7, cells := 0, slots := 0, locals := 162 } : Room) [.ref m] L F (fun r1 F1 => ∃ y9 : Int32 × (Nat → Int32) × (Nat → Int32), y9 = (f_X6_round m_ss_f m_ca_f) ∧ r1 = y9.1 ∧ F1 m_ss = (eI cI 55 y9.2.1) ∧ F1 m_ca = (eI cI 12 y9.2.2) ∧ wk (fun q : Nat => q ≠ m_ss ∧ q ≠ m_ca ∧ True) F1 F) := by
  refine wM.of (cc := cX6_round) (maxL := 1) (ret := (some .int)) (by decide) rfl (Nat.le_of_ble_eq_true rfl) ?_
  intro pZ eZ sZ mZ below meth cZ A ls C hl w
  obtain ⟨hx, hb, hr, hml, hts, hown, hlocks, hK, hA, hin⟩ := C
  have hown : sZ.vm.findClass RX6 = some mZ.cls := hown
  have hl : lv_has ls 1 [(0, .ref m)] := hl
  have m_0 : ((.fieldLink RX6 9 "TwoThirdsModel" "s" "[I") : Cond) ∈ wsX6_round := by decide +kernel
  have i_X6 : ∀ w ∈ wsX60, w ∈ wsX6_round := by decide +kernel
  have hk : wk (fun q : Nat => q ≠ m_ss ∧ q ≠ m_ca ∧ True) F F := wk.rf
  have hq : f_X6_round m_ss_f m_ca_f = f_X6_round m_ss_f m_ca_f := rfl
  refine lv_aload_n hx hb dX6_round_0 rfl (lv_at hl 0 rfl) ?_
  refine w_get (v := .ref m_ss) hx hb hts i_X6 hown hK w h_m rfl 0 (by decide) (hts _ m_0) rfl dX6_round_1 ?_
  refine lv_bipush (v := 6) hx hb dX6_round_4 (by decide) ?_
  refine w_ild (j := 6) hx hb hK w h_m_ss (vp_in_nI (n := 6) (N := 55) (by decide) (by decide)) rfl dX6_round_6 ?_
  refine lv_bipush (v := 99) hx hb dX6_round_7 (by decide) ?_
  refine lv_icmp_ne (tgt := 15) hx hb dX6_round_9 (by decide) (fun c1 => ?_) (fun c1 => ?_)
  · skip
    have hq := hq.trans (if_neg c1)
    refine lv_aload_n hx hb dX6_round_15 rfl (lv_at hl 0 rfl) ?_
    refine w_get (v := .ref m_ss) hx hb hts i_X6 hown hK w h_m rfl 0 (by decide) (hts _ m_0) rfl dX6_round_16 ?_
    refine lv_iconst (v := 5) hx hb dX6_round_19 (by decide) ?_
    refine w_ild (j := 5) hx hb hK w h_m_ss (vp_in_nI (n := 5) (N := 55) (by decide) (by decide)) rfl dX6_round_20 ?_
    refine lv_if_ne (tgt := 27) hx hb dX6_round_21 (by decide) (fun c2 => ?_) (fun c2 => ?_)
    · skip
      have hq := hq.trans (if_neg c2)
      refine lv_aload_n hx hb dX6_round_27 rfl (lv_at hl 0 rfl) ?_
      refine w_finw (w_runV (rm := ({ frames := 6, cells := 0, slots := 0, locals := 141 } : Room)) (As := []) (rest := []) (n := 0) hx hb hml hts hown hK w (c_X6_goesRound l D cI cP cS cL L _ m m_ss m_im m_re m_sa m_ke m_so m_si m_el m_kd m_kt m_hi m_th m_po m_ba m_en m_tl m_nu m_ca m_ha m_hs m_co m_ss_f m_ca_f h_m h_m_ss h_m_ca h5 hhi hd1 hr5 hst ne_m_ca_m_ss ne_m_ss_m_ca) gX6_round_X6_goesRound rfl rfl rfl (by decide +kernel) ⟨(Nat.le_of_ble_eq_true rfl), (Nat.le_of_ble_eq_true rfl)⟩ h_m rfl rfl hl.1 rfl (Nat.le_of_ble_eq_true rfl) dX6_round_28 ⟨(Nat.le_of_ble_eq_true rfl), (Nat.le_of_ble_eq_true rfl)⟩) w hA (fun F1 H locs hp w => ?_)
      obtain ⟨x28, hx28, e28_0, hw0, hw1, hk9⟩ := hp
      have hq := hq.trans (w_bnd hx28)
      have h_m := h_m.keep hk9 ⟨(wi.ne h_m h_m_ss (by intro h; cases h)), (wi.ne h_m h_m_ca (by intro h; cases h)), trivial⟩
      have h_m_ss := h_m_ss.new hw0
      have h_m_ca := h_m_ca.new hw1
      have hk := hk.call hk9 (fun q h => ⟨h.1, h.2.1, trivial⟩)
      refine lv_aload_n hx hb dX6_round_31 rfl (lv_at hl 0 rfl) ?_
      refine w_get (v := .ref m_ss) hx hb hts i_X6 hown hK w h_m rfl 0 (by decide) (hts _ m_0) rfl dX6_round_32 ?_
      refine lv_bipush (v := 6) hx hb dX6_round_35 (by decide) ?_
      refine w_ild (j := 6) hx hb hK w h_m_ss (vp_in_nI (n := 6) (N := 55) (by decide) (by decide)) rfl dX6_round_37 ?_
      exact w_iret hx hb hr hlocks w ⟨rfl, _, hq.symm, rfl, h_m_ss.2, h_m_ca.2, hk⟩ (Nat.le_refl _) (Nat.le_refl _) dX6_round_38
    · skip
      have hq := hq.trans (if_pos c2)
      refine lv_bipush (v := (-3)) hx hb dX6_round_24 (by decide) ?_
      exact w_iret hx hb hr hlocks w ⟨rfl, _, hq.symm, rfl, h_m_ss.2, h_m_ca.2, hk⟩ (Nat.le_refl _) (Nat.le_refl _) dX6_round_26
  · skip
    have hq := hq.trans (if_pos c1)
    refine lv_bipush (v := (-2)) hx hb dX6_round_12 (by decide) ?_
    exact w_iret hx hb hr hlocks w ⟨rfl, _, hq.symm, rfl, h_m_ss.2, h_m_ca.2, hk⟩ (Nat.le_refl _) (Nat.le_refl _) dX6_round_14
def f_X6_anew_L10  : Nat → Nat → (Nat → Int32) → Int32 × (Nat → Int32)
  | 0, _, _ => (0, (fun _ => 0))
  | n + 1, k, u_m_ss_f => if (u_m_ss_f 5) ≤ (nI k) then ((u_m_ss_f 5), u_m_ss_f) else (f_X6_anew_L10 n ((k + 1)) (upd u_m_ss_f (10 + 4 * k) (-1)))
theorem f_X6_anew_L10_s  (n k : Nat) (u_m_ss_f : Nat → Int32) : f_X6_anew_L10 (n + 1) k u_m_ss_f = (if (u_m_ss_f 5) ≤ (nI k) then ((u_m_ss_f 5), u_m_ss_f) else (f_X6_anew_L10 n ((k + 1)) (upd u_m_ss_f (10 + 4 * k) (-1)))) := rfl
def f_X6_anew (m_ss_f : Nat → Int32) : Int32 × (Nat → Int32) := f_X6_anew_L10 ((m_ss_f 5).toNatClampNeg + 1) 0 (upd m_ss_f 6 0)
set_option maxHeartbeats 400000 in
set_option maxRecDepth 100000 in
theorem c_X6_anew (l : Launch) (D : va_G) (cI cP cS cL : ClassId) (L : List Nat) (F : Nat → va_E) (m : Nat) (m_ss : Nat) (m_im : Nat) (m_re : Nat) (m_sa : Nat) (m_ke : Nat) (m_so : Nat) (m_si : Nat) (m_el : Nat) (m_kd : Nat) (m_kt : Nat) (m_hi : Int32) (m_th : Int32) (m_po : Int32) (m_ba : Int32) (m_en : Int32) (m_tl : Int32) (m_nu : Nat) (m_ca : Nat) (m_ha : Nat) (m_hs : Int32) (m_co : Nat) (m_ss_f : Nat → Int32) (h_m : wi L F m (eM m_ss m_im m_re m_sa m_ke m_so m_si m_el m_kd m_kt m_hi m_th m_po m_ba m_en m_tl m_nu m_ca m_ha m_hs m_co)) (h_m_ss : wi L F m_ss (eI cI 55 m_ss_f)) (h5 : 0 ≤ (m_ss_f 5).toInt ∧ (m_ss_f 5).toInt ≤ 12) : wMj l D cI cP cS cL yX6_anew wsX6_anew ({ frames := 0, cells := 0, slots := 0, locals := 0 } : Room) [.ref m] L F (fun r1 F1 => ∃ y9 : Int32 × (Nat → Int32), y9 = (f_X6_anew m_ss_f) ∧ r1 = y9.1 ∧ F1 m_ss = (eI cI 55 y9.2) ∧ wk (fun q : Nat => q ≠ m_ss ∧ True) F1 F) := by
  refine wM.of (cc := cX6_anew) (maxL := 2) (ret := (some .int)) (by decide) rfl (Nat.le_of_ble_eq_true rfl) ?_
  intro pZ eZ sZ mZ below meth cZ A ls C hl w
  obtain ⟨hx, hb, hr, hml, hts, hown, hlocks, hK, hA, hin⟩ := C
  have hown : sZ.vm.findClass RX6 = some mZ.cls := hown
  have hl : lv_has ls 2 [(0, .ref m)] := hl
  have m_0 : ((.fieldLink RX6 9 "TwoThirdsModel" "s" "[I") : Cond) ∈ wsX6_anew := by decide +kernel
  have i_X6 : ∀ w ∈ wsX60, w ∈ wsX6_anew := by decide +kernel
  have hk : wk (fun q : Nat => q ≠ m_ss ∧ True) F F := wk.rf
  have hq : f_X6_anew m_ss_f = f_X6_anew m_ss_f := rfl
  refine lv_aload_n hx hb dX6_anew_0 rfl (lv_at hl 0 rfl) ?_
  refine w_get (v := .ref m_ss) hx hb hts i_X6 hown hK w h_m rfl 0 (by decide) (hts _ m_0) rfl dX6_anew_1 ?_
  refine lv_bipush (v := 6) hx hb dX6_anew_4 (by decide) ?_
  refine lv_iconst (v := 0) hx hb dX6_anew_6 (by decide) ?_
  have ho1 := h_m_ss
  refine w_ist (j := 6) hx hb hK w h_m_ss (vp_in_nI (n := 6) (N := 55) (by decide) (by decide)) rfl dX6_anew_7 (fun H locs w h_m_ss => ?_)
  have h_m := h_m.upw h_m_ss (wi.ne h_m ho1 (by intro h; cases h))
  have hk := hk.upw h_m_ss (fun q h => h.1)
  refine lv_iconst (v := 0) hx hb dX6_anew_8 (by decide) ?_
  refine lv_istore_n (lv' := [(1, .int 0), (0, .ref m)]) hx hb dX6_anew_9 rfl hl (by decide) rfl (fun ls hl => ?_)
  have hL10 : ∀ (n k : Nat) (u_m_ss_f : Nat → Int32) (F1 : Nat → va_E) (H : Heap) (locs : List Loc) (ls : Array Slot), (u_m_ss_f 5 = m_ss_f 5) → k ≤ (m_ss_f 5).toNatClampNeg → (m_ss_f 5).toNatClampNeg - k < n → f_X6_anew m_ss_f = f_X6_anew_L10 n k u_m_ss_f → lv_has ls 2 [(0, .ref m), (1, .int (nI k))] → ww D A sZ.heap L F1 H locs → (wi L F1 m (eM m_ss m_im m_re m_sa m_ke m_so m_si m_el m_kd m_kt m_hi m_th m_po m_ba m_en m_tl m_nu m_ca m_ha m_hs m_co)) → (wi L F1 m_ss (eI cI 55 u_m_ss_f)) → wk (fun q : Nat => q ≠ m_ss ∧ True) F1 F → W pZ l eZ ({ frames := 0, cells := 0, slots := 0, locals := 0 } : Room) sZ mZ [.ref m].toArray below meth cZ H locs 0 0 (MQ below (wQi D A (fun r1 L1 F1 => L1 = L ∧ ∃ y9 : Int32 × (Nat → Int32), y9 = (f_X6_anew m_ss_f) ∧ r1 = y9.1 ∧ F1 m_ss = (eI cI 55 y9.2) ∧ wk (fun q : Nat => q ≠ m_ss ∧ True) F1 F)) [.ref m].toArray sZ 0 0 A) (F0 mZ 10 ls []) := by
    intro n; induction n with
    | zero => intro k u_m_ss_f F1 H locs ls _ hkT hmeas; exact absurd hmeas (Nat.not_lt_zero _)
    | succ n ih =>
      intro k u_m_ss_f F1 H locs ls hi0 hkT hmeas hq hl w h_m h_m_ss hk
      have hk31 : k < 2147483648 := Nat.lt_of_le_of_lt hkT (w_clamp_lt _)
      have hq := hq.trans (f_X6_anew_L10_s  n k u_m_ss_f)
      refine lv_iload_n hx hb dX6_anew_10 rfl (lv_at hl 1 rfl) ?_
      refine lv_aload_n hx hb dX6_anew_11 rfl (lv_at hl 0 rfl) ?_
      refine w_get (v := .ref m_ss) hx hb hts i_X6 hown hK w h_m rfl 0 (by decide) (hts _ m_0) rfl dX6_anew_12 ?_
      refine lv_iconst (v := 5) hx hb dX6_anew_15 (by decide) ?_
      refine w_ild (j := 5) hx hb hK w h_m_ss (vp_in_nI (n := 5) (N := 55) (by decide) (by decide)) rfl dX6_anew_16 ?_
      refine lv_icmp_ge (tgt := 40) hx hb dX6_anew_17 (by decide) (fun c2 => ?_) (fun c2 => ?_)
      · skip
        have hq := hq.trans (if_pos c2)
        refine lv_aload_n hx hb dX6_anew_40 rfl (lv_at hl 0 rfl) ?_
        refine w_get (v := .ref m_ss) hx hb hts i_X6 hown hK w h_m rfl 0 (by decide) (hts _ m_0) rfl dX6_anew_41 ?_
        refine lv_iconst (v := 5) hx hb dX6_anew_44 (by decide) ?_
        refine w_ild (j := 5) hx hb hK w h_m_ss (vp_in_nI (n := 5) (N := 55) (by decide) (by decide)) rfl dX6_anew_45 ?_
        exact w_iret hx hb hr hlocks w ⟨rfl, _, hq.symm, rfl, h_m_ss.2, hk⟩ (Nat.le_refl _) (Nat.le_refl _) dX6_anew_46
      · skip
        have hq := hq.trans (if_neg c2)
        have hlt17 : k < (u_m_ss_f 5).toNatClampNeg := w_ltk hk31 c2
        rw [hi0] at hlt17
        have hk12 : k < 12 := w_k12 hlt17 h5.2
        refine lv_aload_n hx hb dX6_anew_20 rfl (lv_at hl 0 rfl) ?_
        refine w_get (v := .ref m_ss) hx hb hts i_X6 hown hK w h_m rfl 0 (by decide) (hts _ m_0) rfl dX6_anew_21 ?_
        refine lv_bipush (v := 7) hx hb dX6_anew_24 (by decide) ?_
        refine lv_iconst (v := 4) hx hb dX6_anew_26 (by decide) ?_
        refine lv_iload_n hx hb dX6_anew_27 rfl (lv_at hl 1 rfl) ?_
        refine lv_imul hx hb dX6_anew_28 ?_
        refine lv_iadd hx hb dX6_anew_29 ?_
        refine lv_iconst (v := 3) hx hb dX6_anew_30 (by decide) ?_
        refine lv_iadd hx hb dX6_anew_31 ?_
        refine lv_iconst (v := (-1)) hx hb dX6_anew_32 (by decide) ?_
        have ho3 := h_m_ss
        refine w_ist (j := (10 + 4 * k)) hx hb hK w h_m_ss (gix2 (nIb (by omega)) (by decide)) (gidx3 (by omega)) dX6_anew_33 (fun H locs w h_m_ss => ?_)
        have h_m := h_m.upw h_m_ss (wi.ne h_m ho3 (by intro h; cases h))
        have hk := hk.upw h_m_ss (fun q h => h.1)
        refine lv_iinc (v := (nI (k + 1))) (lv' := [(1, .int (nI (k + 1))), (0, .ref m)]) hx hb dX6_anew_34 hl (k := 1) rfl (w_inc _) (by decide) rfl (fun ls hl => ?_)
        refine lv_goto (tgt := 10) hx hb dX6_anew_37 (by decide) ?_
        exact ih ((k + 1)) (upd u_m_ss_f (10 + 4 * k) (-1)) _ _ _ _ (by simp only [upd]; rw [if_neg (by omega)]; exact hi0) (by omega) (by omega) hq (lv_sub hl [1, 0] rfl) w h_m h_m_ss hk
  exact hL10 ((m_ss_f 5).toNatClampNeg + 1) 0 (upd m_ss_f 6 0) _ _ _ _ rfl (Nat.zero_le _) (by omega) hq (lv_sub hl [1, 0] rfl) w h_m h_m_ss hk
def f_X6_takesLast_L12 (m_ss_f : Nat → Int32) : Nat → Nat → (Nat → Int32) → (Nat → Int32) × Int32
  | 0, _, _ => ((fun _ => 0), 0)
  | n + 1, k, u_m_ha_f => if (m_ss_f 5) ≤ (nI k) then (u_m_ha_f, (m_ss_f 5)) else (f_X6_takesLast_L12 m_ss_f n ((k + 1)) (upd u_m_ha_f k (f_X6_get (nI k) 3 m_ss_f)))
theorem f_X6_takesLast_L12_s (m_ss_f : Nat → Int32) (n k : Nat) (u_m_ha_f : Nat → Int32) : f_X6_takesLast_L12 m_ss_f (n + 1) k u_m_ha_f = (if (m_ss_f 5) ≤ (nI k) then (u_m_ha_f, (m_ss_f 5)) else (f_X6_takesLast_L12 m_ss_f n ((k + 1)) (upd u_m_ha_f k (f_X6_get (nI k) 3 m_ss_f)))) := rfl
def f_X6_takesLast (m_ss_f : Nat → Int32) (m_ha_f : Nat → Int32) : (Nat → Int32) × Int32 := f_X6_takesLast_L12 m_ss_f ((m_ss_f 5).toNatClampNeg + 1) 0 m_ha_f
set_option maxHeartbeats 400000 in
set_option maxRecDepth 100000 in
theorem c_X6_takesLast (l : Launch) (D : va_G) (cI cP cS cL : ClassId) (L : List Nat) (F : Nat → va_E) (m : Nat) (m_ss : Nat) (m_im : Nat) (m_re : Nat) (m_sa : Nat) (m_ke : Nat) (m_so : Nat) (m_si : Nat) (m_el : Nat) (m_kd : Nat) (m_kt : Nat) (m_hi : Int32) (m_th : Int32) (m_po : Int32) (m_ba : Int32) (m_en : Int32) (m_tl : Int32) (m_nu : Nat) (m_ca : Nat) (m_ha : Nat) (m_hs : Int32) (m_co : Nat) (m_ss_f : Nat → Int32) (m_ha_f : Nat → Int32) (h_m : wi L F m (eM m_ss m_im m_re m_sa m_ke m_so m_si m_el m_kd m_kt m_hi m_th m_po m_ba m_en m_tl m_nu m_ca m_ha m_hs m_co)) (h_m_ss : wi L F m_ss (eI cI 55 m_ss_f)) (h_m_ha : wi L F m_ha (eI cI 100 m_ha_f)) (h5 : 0 ≤ (m_ss_f 5).toInt ∧ (m_ss_f 5).toInt ≤ 12) (ne_m_ss_m_ha : m_ss ≠ m_ha) : wMw l D cI cP cS cL yX6_takesLast wsX6_takesLast ({ frames := 1, cells := 0, slots := 0, locals := 22 } : Room) [.ref m] L F (fun F1 => ∃ y9 : (Nat → Int32) × Int32, y9 = (f_X6_takesLast m_ss_f m_ha_f) ∧ (y9.2.toInt ≤ 100) ∧ (y9.2 = m_ss_f 5) ∧ F1 m = (eM m_ss m_im m_re m_sa m_ke m_so m_si m_el m_kd m_kt m_hi m_th m_po m_ba m_en m_tl m_nu m_ca m_ha y9.2 m_co) ∧ F1 m_ha = (eI cI 100 y9.1) ∧ wk (fun q : Nat => q ≠ m ∧ q ≠ m_ha ∧ True) F1 F) := by
  refine wM.of (cc := cX6_takesLast) (maxL := 2) (ret := none) (by decide) rfl (Nat.le_of_ble_eq_true rfl) ?_
  intro pZ eZ sZ mZ below meth cZ A ls C hl w
  obtain ⟨hx, hb, hr, hml, hts, hown, hlocks, hK, hA, hin⟩ := C
  have hown : sZ.vm.findClass RX6 = some mZ.cls := hown
  have hl : lv_has ls 2 [(0, .ref m)] := hl
  have m_0 : ((.fieldLink RX6 9 "TwoThirdsModel" "s" "[I") : Cond) ∈ wsX6_takesLast := by decide +kernel
  have i_X6 : ∀ w ∈ wsX60, w ∈ wsX6_takesLast := by decide +kernel
  have m_2 : ((.fieldLink RX6 171 "TwoThirdsModel" "hands" "I") : Cond) ∈ wsX6_takesLast := by decide +kernel
  have m_3 : ((.fieldLink RX6 46 "TwoThirdsModel" "hand" "[I") : Cond) ∈ wsX6_takesLast := by decide +kernel
  have hk : wk (fun q : Nat => q ≠ m ∧ q ≠ m_ha ∧ True) F F := wk.rf
  have hq : f_X6_takesLast m_ss_f m_ha_f = f_X6_takesLast m_ss_f m_ha_f := rfl
  refine lv_aload_n hx hb dX6_takesLast_0 rfl (lv_at hl 0 rfl) ?_
  refine lv_aload_n hx hb dX6_takesLast_1 rfl (lv_at hl 0 rfl) ?_
  refine w_get (v := .ref m_ss) hx hb hts i_X6 hown hK w h_m rfl 0 (by decide) (hts _ m_0) rfl dX6_takesLast_2 ?_
  refine lv_iconst (v := 5) hx hb dX6_takesLast_5 (by decide) ?_
  refine w_ild (j := 5) hx hb hK w h_m_ss (vp_in_nI (n := 5) (N := 55) (by decide) (by decide)) rfl dX6_takesLast_6 ?_
  have ho1 := h_m
  refine w_put (fs2 := [.ref m_ss, .ref m_im, .ref m_re, .ref m_sa, .ref m_ke, .ref m_so, .ref m_si, .ref m_el, .ref m_kd, .ref m_kt, .int m_hi, .int m_th, .int m_po, .int m_ba, .int m_en, .int m_tl, .ref m_nu, .ref m_ca, .ref m_ha, .int (m_ss_f 5), .ref m_co]) hx hb hts i_X6 tyX6 tyX6_ok nmX6 hown hK w h_m rfl 19 (by decide) (hts _ m_2) rfl rfl rfl (Nat.le_of_ble_eq_true rfl) rfl dX6_takesLast_7 (fun H locs w h_m => ?_)
  have h_m_ss := h_m_ss.upw h_m (wi.ne h_m_ss ho1 (by intro h; cases h))
  have h_m_ha := h_m_ha.upw h_m (wi.ne h_m_ha ho1 (by intro h; cases h))
  have hk := hk.upw h_m (fun q h => h.1)
  refine lv_iconst (v := 0) hx hb dX6_takesLast_10 (by decide) ?_
  refine lv_istore_n (lv' := [(1, .int 0), (0, .ref m)]) hx hb dX6_takesLast_11 rfl hl (by decide) rfl (fun ls hl => ?_)
  have hL12 : ∀ (n k : Nat) (u_m_ha_f : Nat → Int32) (F1 : Nat → va_E) (H : Heap) (locs : List Loc) (ls : Array Slot), k ≤ (m_ss_f 5).toNatClampNeg → (m_ss_f 5).toNatClampNeg - k < n → f_X6_takesLast m_ss_f m_ha_f = f_X6_takesLast_L12 m_ss_f n k u_m_ha_f → lv_has ls 2 [(0, .ref m), (1, .int (nI k))] → ww D A sZ.heap L F1 H locs → (wi L F1 m (eM m_ss m_im m_re m_sa m_ke m_so m_si m_el m_kd m_kt m_hi m_th m_po m_ba m_en m_tl m_nu m_ca m_ha (m_ss_f 5) m_co)) → (wi L F1 m_ss (eI cI 55 m_ss_f)) → (wi L F1 m_ha (eI cI 100 u_m_ha_f)) → wk (fun q : Nat => q ≠ m ∧ q ≠ m_ha ∧ True) F1 F → W pZ l eZ ({ frames := 1, cells := 0, slots := 0, locals := 22 } : Room) sZ mZ [.ref m].toArray below meth cZ H locs 0 0 (MQ below (wQv D A (fun L1 F1 => L1 = L ∧ ∃ y9 : (Nat → Int32) × Int32, y9 = (f_X6_takesLast m_ss_f m_ha_f) ∧ (y9.2.toInt ≤ 100) ∧ (y9.2 = m_ss_f 5) ∧ F1 m = (eM m_ss m_im m_re m_sa m_ke m_so m_si m_el m_kd m_kt m_hi m_th m_po m_ba m_en m_tl m_nu m_ca m_ha y9.2 m_co) ∧ F1 m_ha = (eI cI 100 y9.1) ∧ wk (fun q : Nat => q ≠ m ∧ q ≠ m_ha ∧ True) F1 F)) [.ref m].toArray sZ 0 0 A) (F0 mZ 12 ls []) := by
    intro n; induction n with
    | zero => intro k u_m_ha_f F1 H locs ls hkT hmeas; exact absurd hmeas (Nat.not_lt_zero _)
    | succ n ih =>
      intro k u_m_ha_f F1 H locs ls hkT hmeas hq hl w h_m h_m_ss h_m_ha hk
      have hk31 : k < 2147483648 := Nat.lt_of_le_of_lt hkT (w_clamp_lt _)
      have hq := hq.trans (f_X6_takesLast_L12_s m_ss_f n k u_m_ha_f)
      refine lv_iload_n hx hb dX6_takesLast_12 rfl (lv_at hl 1 rfl) ?_
      refine lv_aload_n hx hb dX6_takesLast_13 rfl (lv_at hl 0 rfl) ?_
      refine w_get (v := .ref m_ss) hx hb hts i_X6 hown hK w h_m rfl 0 (by decide) (hts _ m_0) rfl dX6_takesLast_14 ?_
      refine lv_iconst (v := 5) hx hb dX6_takesLast_17 (by decide) ?_
      refine w_ild (j := 5) hx hb hK w h_m_ss (vp_in_nI (n := 5) (N := 55) (by decide) (by decide)) rfl dX6_takesLast_18 ?_
      refine lv_icmp_ge (tgt := 40) hx hb dX6_takesLast_19 (by decide) (fun c2 => ?_) (fun c2 => ?_)
      · skip
        have hq := hq.trans (if_pos c2)
        exact w_vret hx hb hr hlocks w ⟨rfl, _, hq.symm, (Int.le_trans h5.2 (by decide)), rfl, h_m.2, h_m_ha.2, hk⟩ (Nat.le_refl _) (Nat.le_refl _) dX6_takesLast_40
      · skip
        have hq := hq.trans (if_neg c2)
        have hlt19 : k < (m_ss_f 5).toNatClampNeg := w_ltk hk31 c2
        have hk12 : k < 12 := w_k12 hlt19 h5.2
        refine lv_aload_n hx hb dX6_takesLast_22 rfl (lv_at hl 0 rfl) ?_
        refine w_get (v := .ref m_ha) hx hb hts i_X6 hown hK w h_m rfl 18 (by decide) (hts _ m_3) rfl dX6_takesLast_23 ?_
        refine lv_iload_n hx hb dX6_takesLast_26 rfl (lv_at hl 1 rfl) ?_
        refine lv_aload_n hx hb dX6_takesLast_27 rfl (lv_at hl 0 rfl) ?_
        refine lv_iload_n hx hb dX6_takesLast_28 rfl (lv_at hl 1 rfl) ?_
        refine lv_iconst (v := 3) hx hb dX6_takesLast_29 (by decide) ?_
        refine w_finI (w_runV (rm := ({ frames := 0, cells := 0, slots := 0, locals := 0 } : Room)) (As := [.int (nI k), .int 3]) (rest := [.int (nI k), .ref m_ha]) (n := 2) hx hb hml hts hown hK w (c_X6_get l D cI cP cS cL L _ m (nI k) 3 m_ss m_im m_re m_sa m_ke m_so m_si m_el m_kd m_kt m_hi m_th m_po m_ba m_en m_tl m_nu m_ca m_ha (m_ss_f 5) m_co m_ss_f h_m h_m_ss (gix2 (nIb (by omega)) (by decide))) gX6_takesLast_X6_get rfl rfl rfl (by decide +kernel) ⟨(Nat.le_of_ble_eq_true rfl), (Nat.le_of_ble_eq_true rfl)⟩ h_m rfl rfl hl.1 rfl (Nat.le_of_ble_eq_true rfl) dX6_takesLast_30 ⟨(Nat.le_of_ble_eq_true rfl), (Nat.le_of_ble_eq_true rfl)⟩) w hA (fun H locs w => ?_)
        have ho3 := h_m_ha
        refine w_ist (j := k) hx hb hK w h_m_ha (vp_in_nI (by omega) (by omega)) (nI_clamp (by omega)) dX6_takesLast_33 (fun H locs w h_m_ha => ?_)
        have h_m := h_m.upw h_m_ha (wi.ne h_m ho3 (by intro h; cases h))
        have h_m_ss := h_m_ss.upw h_m_ha ne_m_ss_m_ha
        have hk := hk.upw h_m_ha (fun q h => h.2.1)
        refine lv_iinc (v := (nI (k + 1))) (lv' := [(1, .int (nI (k + 1))), (0, .ref m)]) hx hb dX6_takesLast_34 hl (k := 1) rfl (w_inc _) (by decide) rfl (fun ls hl => ?_)
        refine lv_goto (tgt := 12) hx hb dX6_takesLast_37 (by decide) ?_
        exact ih ((k + 1)) (upd u_m_ha_f k (f_X6_get (nI k) 3 m_ss_f)) _ _ _ _ (by omega) (by omega) hq (lv_sub hl [1, 0] rfl) w h_m h_m_ss h_m_ha hk
  exact hL12 ((m_ss_f 5).toNatClampNeg + 1) 0 m_ha_f _ _ _ _ (Nat.zero_le _) (by omega) hq (lv_sub hl [1, 0] rfl) w h_m h_m_ss h_m_ha hk
def f_X6_sumOf_L4 (m_hs : Int32) (m_ha_f : Nat → Int32) : Nat → Nat → Int32 → Int32
  | 0, _, _ => 0
  | n + 1, k, v1 => if m_hs ≤ (nI k) then v1 else (f_X6_sumOf_L4 m_hs m_ha_f n ((k + 1)) (v1 + (m_ha_f k)))
theorem f_X6_sumOf_L4_s (m_hs : Int32) (m_ha_f : Nat → Int32) (n k : Nat) (v1 : Int32) : f_X6_sumOf_L4 m_hs m_ha_f (n + 1) k v1 = (if m_hs ≤ (nI k) then v1 else (f_X6_sumOf_L4 m_hs m_ha_f n ((k + 1)) (v1 + (m_ha_f k)))) := rfl
def f_X6_sumOf (m_hs : Int32) (m_ha_f : Nat → Int32) : Int32 := f_X6_sumOf_L4 m_hs m_ha_f (m_hs.toNatClampNeg + 1) 0 0
set_option maxHeartbeats 400000 in
set_option maxRecDepth 100000 in
theorem c_X6_sumOf (l : Launch) (D : va_G) (cI cP cS cL : ClassId) (L : List Nat) (F : Nat → va_E) (m : Nat) (m_ss : Nat) (m_im : Nat) (m_re : Nat) (m_sa : Nat) (m_ke : Nat) (m_so : Nat) (m_si : Nat) (m_el : Nat) (m_kd : Nat) (m_kt : Nat) (m_hi : Int32) (m_th : Int32) (m_po : Int32) (m_ba : Int32) (m_en : Int32) (m_tl : Int32) (m_nu : Nat) (m_ca : Nat) (m_ha : Nat) (m_hs : Int32) (m_co : Nat) (m_ha_f : Nat → Int32) (h_m : wi L F m (eM m_ss m_im m_re m_sa m_ke m_so m_si m_el m_kd m_kt m_hi m_th m_po m_ba m_en m_tl m_nu m_ca m_ha m_hs m_co)) (h_m_ha : wi L F m_ha (eI cI 100 m_ha_f)) (hhs : m_hs.toInt ≤ 100) : wMI l D cI cP cS cL yX6_sumOf wsX6_sumOf ({ frames := 0, cells := 0, slots := 0, locals := 0 } : Room) [.ref m] L F (f_X6_sumOf m_hs m_ha_f) F := by
  refine wM.of (cc := cX6_sumOf) (maxL := 3) (ret := (some .int)) (by decide) rfl (Nat.le_of_ble_eq_true rfl) ?_
  intro pZ eZ sZ mZ below meth cZ A ls C hl w
  obtain ⟨hx, hb, hr, hml, hts, hown, hlocks, hK, hA, hin⟩ := C
  have hown : sZ.vm.findClass RX6 = some mZ.cls := hown
  have hl : lv_has ls 3 [(0, .ref m)] := hl
  have m_0 : ((.fieldLink RX6 171 "TwoThirdsModel" "hands" "I") : Cond) ∈ wsX6_sumOf := by decide +kernel
  have i_X6 : ∀ w ∈ wsX60, w ∈ wsX6_sumOf := by decide +kernel
  have m_2 : ((.fieldLink RX6 46 "TwoThirdsModel" "hand" "[I") : Cond) ∈ wsX6_sumOf := by decide +kernel
  have hq : f_X6_sumOf m_hs m_ha_f = f_X6_sumOf m_hs m_ha_f := rfl
  refine lv_iconst (v := 0) hx hb dX6_sumOf_0 (by decide) ?_
  refine lv_istore_n (lv' := [(1, .int 0), (0, .ref m)]) hx hb dX6_sumOf_1 rfl hl (by decide) rfl (fun ls hl => ?_)
  refine lv_iconst (v := 0) hx hb dX6_sumOf_2 (by decide) ?_
  refine lv_istore_n (lv' := [(2, .int 0), (1, .int 0), (0, .ref m)]) hx hb dX6_sumOf_3 rfl hl (by decide) rfl (fun ls hl => ?_)
  have hL4 : ∀ (n k : Nat) (v1 : Int32) (H : Heap) (locs : List Loc) (ls : Array Slot), k ≤ m_hs.toNatClampNeg → m_hs.toNatClampNeg - k < n → f_X6_sumOf m_hs m_ha_f = f_X6_sumOf_L4 m_hs m_ha_f n k v1 → lv_has ls 3 [(0, .ref m), (1, .int v1), (2, .int (nI k))] → ww D A sZ.heap L F H locs → W pZ l eZ ({ frames := 0, cells := 0, slots := 0, locals := 0 } : Room) sZ mZ [.ref m].toArray below meth cZ H locs 0 0 (MQ below (wQi D A (fun r1 L1 F1 => r1 = (f_X6_sumOf m_hs m_ha_f) ∧ L1 = L ∧ F1 = F)) [.ref m].toArray sZ 0 0 A) (F0 mZ 4 ls []) := by
    intro n; induction n with
    | zero => intro k v1 H locs ls hkT hmeas; exact absurd hmeas (Nat.not_lt_zero _)
    | succ n ih =>
      intro k v1 H locs ls hkT hmeas hq hl w
      have hk31 : k < 2147483648 := Nat.lt_of_le_of_lt hkT (w_clamp_lt _)
      have hq := hq.trans (f_X6_sumOf_L4_s m_hs m_ha_f n k v1)
      refine lv_iload_n hx hb dX6_sumOf_4 rfl (lv_at hl 2 rfl) ?_
      refine lv_aload_n hx hb dX6_sumOf_5 rfl (lv_at hl 0 rfl) ?_
      refine w_get (v := .int m_hs) hx hb hts i_X6 hown hK w h_m rfl 19 (by decide) (hts _ m_0) rfl dX6_sumOf_6 ?_
      refine lv_icmp_ge (tgt := 27) hx hb dX6_sumOf_9 (by decide) (fun c1 => ?_) (fun c1 => ?_)
      · skip
        have hq := hq.trans (if_pos c1)
        refine lv_iload_n hx hb dX6_sumOf_27 rfl (lv_at hl 1 rfl) ?_
        exact w_iret hx hb hr hlocks w ⟨hq.symm, rfl, rfl⟩ (Nat.le_refl _) (Nat.le_refl _) dX6_sumOf_28
      · skip
        have hq := hq.trans (if_neg c1)
        have hlt9 : k < m_hs.toNatClampNeg := w_ltk hk31 c1
        have hk100 : k < 100 := w_k100 hlt9 hhs
        refine lv_iload_n hx hb dX6_sumOf_12 rfl (lv_at hl 1 rfl) ?_
        refine lv_aload_n hx hb dX6_sumOf_13 rfl (lv_at hl 0 rfl) ?_
        refine w_get (v := .ref m_ha) hx hb hts i_X6 hown hK w h_m rfl 18 (by decide) (hts _ m_2) rfl dX6_sumOf_14 ?_
        refine lv_iload_n hx hb dX6_sumOf_17 rfl (lv_at hl 2 rfl) ?_
        refine w_ild (j := k) hx hb hK w h_m_ha (vp_in_nI (by omega) (by omega)) (nI_clamp (by omega)) dX6_sumOf_18 ?_
        refine lv_iadd hx hb dX6_sumOf_19 ?_
        refine lv_istore_n (lv' := [(1, .int (v1 + (m_ha_f k))), (0, .ref m), (2, .int (nI k))]) hx hb dX6_sumOf_20 rfl hl (by decide) rfl (fun ls hl => ?_)
        refine lv_iinc (v := (nI (k + 1))) (lv' := [(2, .int (nI (k + 1))), (1, .int (v1 + (m_ha_f k))), (0, .ref m)]) hx hb dX6_sumOf_21 hl (k := 2) rfl (w_inc _) (by decide) rfl (fun ls hl => ?_)
        refine lv_goto (tgt := 4) hx hb dX6_sumOf_24 (by decide) ?_
        exact ih ((k + 1)) (v1 + (m_ha_f k)) _ _ _ (by omega) (by omega) hq (lv_sub hl [2, 1, 0] rfl) w
  exact hL4 (m_hs.toNatClampNeg + 1) 0 0 _ _ _ (Nat.zero_le _) (by omega) hq (lv_sub hl [2, 1, 0] rfl) w
def f_X6_amount (v : Int32) : Int32 := if (0 : Int32) ≤ v then v else (-v)
set_option maxHeartbeats 400000 in
set_option maxRecDepth 100000 in
theorem c_X6_amount (l : Launch) (D : va_G) (cI cP cS cL : ClassId) (L : List Nat) (F : Nat → va_E) (v : Int32)  : wMI l D cI cP cS cL yX6_amount wsX6_amount ({ frames := 0, cells := 0, slots := 0, locals := 0 } : Room) [.int v] L F (f_X6_amount v) F := by
  refine wM.of (cc := cX6_amount) (maxL := 1) (ret := (some .int)) (by decide) rfl (Nat.le_of_ble_eq_true rfl) ?_
  intro pZ eZ sZ mZ below meth cZ A ls C hl w
  obtain ⟨hx, hb, hr, hml, hts, hown, hlocks, hK, hA, hin⟩ := C
  have hown : sZ.vm.findClass RX6 = some mZ.cls := hown
  have hl : lv_has ls 1 [(0, .int v)] := hl
  have hq : f_X6_amount v = f_X6_amount v := rfl
  refine lv_iload_n hx hb dX6_amount_0 rfl (lv_at hl 0 rfl) ?_
  refine lv_if_ge (tgt := 9) hx hb dX6_amount_1 (by decide) (fun c1 => ?_) (fun c1 => ?_)
  · skip
    have hq := hq.trans (if_pos c1)
    refine lv_iload_n hx hb dX6_amount_9 rfl (lv_at hl 0 rfl) ?_
    exact w_iret hx hb hr hlocks w ⟨hq.symm, rfl, rfl⟩ (Nat.le_refl _) (Nat.le_refl _) dX6_amount_10
  · skip
    have hq := hq.trans (if_neg c1)
    refine lv_iload_n hx hb dX6_amount_4 rfl (lv_at hl 0 rfl) ?_
    refine lv_ineg hx hb dX6_amount_5 ?_
    refine lv_goto (tgt := 10) hx hb dX6_amount_6 (by decide) ?_
    exact w_iret hx hb hr hlocks w ⟨hq.symm, rfl, rfl⟩ (Nat.le_refl _) (Nat.le_refl _) dX6_amount_10
def f_X6_farOf (card : Int32) (sum : Int32) (n0 : Int32) (m_ss_f : Nat → Int32) : Int32 := (((card * (m_ss_f 1)) * n0) - ((m_ss_f 0) * sum))
set_option maxHeartbeats 400000 in
set_option maxRecDepth 100000 in
theorem c_X6_farOf (l : Launch) (D : va_G) (cI cP cS cL : ClassId) (L : List Nat) (F : Nat → va_E) (m : Nat) (card : Int32) (sum : Int32) (n0 : Int32) (m_ss : Nat) (m_im : Nat) (m_re : Nat) (m_sa : Nat) (m_ke : Nat) (m_so : Nat) (m_si : Nat) (m_el : Nat) (m_kd : Nat) (m_kt : Nat) (m_hi : Int32) (m_th : Int32) (m_po : Int32) (m_ba : Int32) (m_en : Int32) (m_tl : Int32) (m_nu : Nat) (m_ca : Nat) (m_ha : Nat) (m_hs : Int32) (m_co : Nat) (m_ss_f : Nat → Int32) (h_m : wi L F m (eM m_ss m_im m_re m_sa m_ke m_so m_si m_el m_kd m_kt m_hi m_th m_po m_ba m_en m_tl m_nu m_ca m_ha m_hs m_co)) (h_m_ss : wi L F m_ss (eI cI 55 m_ss_f)) : wMI l D cI cP cS cL yX6_farOf wsX6_farOf ({ frames := 0, cells := 0, slots := 0, locals := 0 } : Room) [.ref m, .int card, .int sum, .int n0] L F (f_X6_farOf card sum n0 m_ss_f) F := by
  refine wM.of (cc := cX6_farOf) (maxL := 4) (ret := (some .int)) (by decide) rfl (Nat.le_of_ble_eq_true rfl) ?_
  intro pZ eZ sZ mZ below meth cZ A ls C hl w
  obtain ⟨hx, hb, hr, hml, hts, hown, hlocks, hK, hA, hin⟩ := C
  have hown : sZ.vm.findClass RX6 = some mZ.cls := hown
  have hl : lv_has ls 4 [(0, .ref m), (1, .int card), (2, .int sum), (3, .int n0)] := hl
  have m_0 : ((.fieldLink RX6 9 "TwoThirdsModel" "s" "[I") : Cond) ∈ wsX6_farOf := by decide +kernel
  have i_X6 : ∀ w ∈ wsX60, w ∈ wsX6_farOf := by decide +kernel
  have hq : f_X6_farOf card sum n0 m_ss_f = f_X6_farOf card sum n0 m_ss_f := rfl
  refine lv_iload_n hx hb dX6_farOf_0 rfl (lv_at hl 1 rfl) ?_
  refine lv_aload_n hx hb dX6_farOf_1 rfl (lv_at hl 0 rfl) ?_
  refine w_get (v := .ref m_ss) hx hb hts i_X6 hown hK w h_m rfl 0 (by decide) (hts _ m_0) rfl dX6_farOf_2 ?_
  refine lv_iconst (v := 1) hx hb dX6_farOf_5 (by decide) ?_
  refine w_ild (j := 1) hx hb hK w h_m_ss (vp_in_nI (n := 1) (N := 55) (by decide) (by decide)) rfl dX6_farOf_6 ?_
  refine lv_imul hx hb dX6_farOf_7 ?_
  refine lv_iload_n hx hb dX6_farOf_8 rfl (lv_at hl 3 rfl) ?_
  refine lv_imul hx hb dX6_farOf_9 ?_
  refine lv_aload_n hx hb dX6_farOf_10 rfl (lv_at hl 0 rfl) ?_
  refine w_get (v := .ref m_ss) hx hb hts i_X6 hown hK w h_m rfl 0 (by decide) (hts _ m_0) rfl dX6_farOf_11 ?_
  refine lv_iconst (v := 0) hx hb dX6_farOf_14 (by decide) ?_
  refine w_ild (j := 0) hx hb hK w h_m_ss (vp_in_nI (n := 0) (N := 55) (by decide) (by decide)) rfl dX6_farOf_15 ?_
  refine lv_iload_n hx hb dX6_farOf_16 rfl (lv_at hl 2 rfl) ?_
  refine lv_imul hx hb dX6_farOf_17 ?_
  refine lv_isub hx hb dX6_farOf_18 ?_
  exact w_iret hx hb hr hlocks w ⟨hq.symm, rfl, rfl⟩ (Nat.le_refl _) (Nat.le_refl _) dX6_farOf_19
def f_X6_wins (card : Int32) (sum : Int32) (least : Int32) (m_hs : Int32) (m_ss_f : Nat → Int32) : Int32 := if (m_ss_f 3) = (0 : Int32) then (if (f_X6_amount (f_X6_farOf card sum m_hs m_ss_f)) = least then 1 else 0) else (if (0 : Int32) < (f_X6_farOf card sum m_hs m_ss_f) then 0 else (if card = least then 1 else 0))
theorem z_X6_wins (card : Int32) (sum : Int32) (least : Int32) (m_hs : Int32) (m_ss_f : Nat → Int32) : (f_X6_wins card sum least m_hs m_ss_f) = 0 ∨ (f_X6_wins card sum least m_hs m_ss_f) = 1 := by
  unfold f_X6_wins
  try simp only [bnd]
  repeat' split
  all_goals first | exact Or.inl rfl | exact Or.inr rfl
set_option maxHeartbeats 400000 in
set_option maxRecDepth 100000 in
theorem c_X6_wins (l : Launch) (D : va_G) (cI cP cS cL : ClassId) (L : List Nat) (F : Nat → va_E) (m : Nat) (card : Int32) (sum : Int32) (least : Int32) (m_ss : Nat) (m_im : Nat) (m_re : Nat) (m_sa : Nat) (m_ke : Nat) (m_so : Nat) (m_si : Nat) (m_el : Nat) (m_kd : Nat) (m_kt : Nat) (m_hi : Int32) (m_th : Int32) (m_po : Int32) (m_ba : Int32) (m_en : Int32) (m_tl : Int32) (m_nu : Nat) (m_ca : Nat) (m_ha : Nat) (m_hs : Int32) (m_co : Nat) (m_ss_f : Nat → Int32) (h_m : wi L F m (eM m_ss m_im m_re m_sa m_ke m_so m_si m_el m_kd m_kt m_hi m_th m_po m_ba m_en m_tl m_nu m_ca m_ha m_hs m_co)) (h_m_ss : wi L F m_ss (eI cI 55 m_ss_f)) : wMI l D cI cP cS cL yX6_wins wsX6_wins ({ frames := 1, cells := 0, slots := 0, locals := 23 } : Room) [.ref m, .int card, .int sum, .int least] L F (f_X6_wins card sum least m_hs m_ss_f) F := by
  refine wM.of (cc := cX6_wins) (maxL := 5) (ret := (some .boolean)) (by decide) rfl (Nat.le_of_ble_eq_true rfl) ?_
  intro pZ eZ sZ mZ below meth cZ A ls C hl w
  obtain ⟨hx, hb, hr, hml, hts, hown, hlocks, hK, hA, hin⟩ := C
  have hown : sZ.vm.findClass RX6 = some mZ.cls := hown
  have hl : lv_has ls 5 [(0, .ref m), (1, .int card), (2, .int sum), (3, .int least)] := hl
  have m_0 : ((.fieldLink RX6 171 "TwoThirdsModel" "hands" "I") : Cond) ∈ wsX6_wins := by decide +kernel
  have i_X6 : ∀ w ∈ wsX60, w ∈ wsX6_wins := by decide +kernel
  have m_2 : ((.fieldLink RX6 9 "TwoThirdsModel" "s" "[I") : Cond) ∈ wsX6_wins := by decide +kernel
  have hq : f_X6_wins card sum least m_hs m_ss_f = f_X6_wins card sum least m_hs m_ss_f := rfl
  refine lv_aload_n hx hb dX6_wins_0 rfl (lv_at hl 0 rfl) ?_
  refine lv_iload_n hx hb dX6_wins_1 rfl (lv_at hl 1 rfl) ?_
  refine lv_iload_n hx hb dX6_wins_2 rfl (lv_at hl 2 rfl) ?_
  refine lv_aload_n hx hb dX6_wins_3 rfl (lv_at hl 0 rfl) ?_
  refine w_get (v := .int m_hs) hx hb hts i_X6 hown hK w h_m rfl 19 (by decide) (hts _ m_0) rfl dX6_wins_4 ?_
  refine w_finI (w_runV (rm := ({ frames := 0, cells := 0, slots := 0, locals := 0 } : Room)) (As := [.int card, .int sum, .int m_hs]) (rest := []) (n := 3) hx hb hml hts hown hK w (c_X6_farOf l D cI cP cS cL L _ m card sum m_hs m_ss m_im m_re m_sa m_ke m_so m_si m_el m_kd m_kt m_hi m_th m_po m_ba m_en m_tl m_nu m_ca m_ha m_hs m_co m_ss_f h_m h_m_ss) gX6_wins_X6_farOf rfl rfl rfl (by decide +kernel) ⟨(Nat.le_of_ble_eq_true rfl), (Nat.le_of_ble_eq_true rfl)⟩ h_m rfl rfl hl.1 rfl (Nat.le_of_ble_eq_true rfl) dX6_wins_7 ⟨(Nat.le_of_ble_eq_true rfl), (Nat.le_of_ble_eq_true rfl)⟩) w hA (fun H locs w => ?_)
  refine lv_istore (lv' := [(4, .int (f_X6_farOf card sum m_hs m_ss_f)), (0, .ref m), (1, .int card), (2, .int sum), (3, .int least)]) hx hb dX6_wins_10 hl (by decide) rfl (fun ls hl => ?_)
  refine lv_aload_n hx hb dX6_wins_12 rfl (lv_at hl 1 rfl) ?_
  refine w_get (v := .ref m_ss) hx hb hts i_X6 hown hK w h_m rfl 0 (by decide) (hts _ m_2) rfl dX6_wins_13 ?_
  refine lv_iconst (v := 3) hx hb dX6_wins_16 (by decide) ?_
  refine w_ild (j := 3) hx hb hK w h_m_ss (vp_in_nI (n := 3) (N := 55) (by decide) (by decide)) rfl dX6_wins_17 ?_
  refine lv_if_ne (tgt := 38) hx hb dX6_wins_18 (by decide) (fun c1 => ?_) (fun c1 => ?_)
  · skip
    have hq := hq.trans (if_neg c1)
    refine lv_iload hx hb dX6_wins_38 (lv_at hl 0 rfl) ?_
    refine lv_if_gt (tgt := 52) hx hb dX6_wins_40 (by decide) (fun c2 => ?_) (fun c2 => ?_)
    · skip
      have hq := hq.trans (if_pos c2)
      refine lv_iconst (v := 0) hx hb dX6_wins_52 (by decide) ?_
      exact w_zret hx hb hr hlocks w rfl ⟨hq.symm, rfl, rfl⟩ (Nat.le_refl _) (Nat.le_refl _) dX6_wins_53
    · skip
      have hq := hq.trans (if_neg c2)
      refine lv_iload_n hx hb dX6_wins_43 rfl (lv_at hl 2 rfl) ?_
      refine lv_iload_n hx hb dX6_wins_44 rfl (lv_at hl 4 rfl) ?_
      refine lv_icmp_ne (tgt := 52) hx hb dX6_wins_45 (by decide) (fun c3 => ?_) (fun c3 => ?_)
      · skip
        have hq := hq.trans (if_neg c3)
        refine lv_iconst (v := 0) hx hb dX6_wins_52 (by decide) ?_
        exact w_zret hx hb hr hlocks w rfl ⟨hq.symm, rfl, rfl⟩ (Nat.le_refl _) (Nat.le_refl _) dX6_wins_53
      · skip
        have hq := hq.trans (if_pos c3)
        refine lv_iconst (v := 1) hx hb dX6_wins_48 (by decide) ?_
        refine lv_goto (tgt := 53) hx hb dX6_wins_49 (by decide) ?_
        exact w_zret hx hb hr hlocks w rfl ⟨hq.symm, rfl, rfl⟩ (Nat.le_refl _) (Nat.le_refl _) dX6_wins_53
  · skip
    have hq := hq.trans (if_pos c1)
    refine lv_iload hx hb dX6_wins_21 (lv_at hl 0 rfl) ?_
    refine w_finI (w_runS (rm := ({ frames := 0, cells := 0, slots := 0, locals := 0 } : Room)) (As := [.int (f_X6_farOf card sum m_hs m_ss_f)]) (rest := []) (n := 1) hx hb hml hts hown hK w (c_X6_amount l D cI cP cS cL L _ (f_X6_farOf card sum m_hs m_ss_f) ) gX6_wins_X6_amount rfl rfl rfl (by decide +kernel) ⟨(Nat.le_of_ble_eq_true rfl), (Nat.le_of_ble_eq_true rfl)⟩ rfl hl.1 rfl (Nat.le_of_ble_eq_true rfl) dX6_wins_23 ⟨(Nat.le_of_ble_eq_true rfl), (Nat.le_of_ble_eq_true rfl)⟩) w hA (fun H locs w => ?_)
    refine lv_iload_n hx hb dX6_wins_26 rfl (lv_at hl 4 rfl) ?_
    refine lv_icmp_ne (tgt := 34) hx hb dX6_wins_27 (by decide) (fun c4 => ?_) (fun c4 => ?_)
    · skip
      have hq := hq.trans (if_neg c4)
      refine lv_iconst (v := 0) hx hb dX6_wins_34 (by decide) ?_
      refine lv_goto (tgt := 53) hx hb dX6_wins_35 (by decide) ?_
      exact w_zret hx hb hr hlocks w rfl ⟨hq.symm, rfl, rfl⟩ (Nat.le_refl _) (Nat.le_refl _) dX6_wins_53
    · skip
      have hq := hq.trans (if_pos c4)
      refine lv_iconst (v := 1) hx hb dX6_wins_30 (by decide) ?_
      refine lv_goto (tgt := 53) hx hb dX6_wins_31 (by decide) ?_
      exact w_zret hx hb hr hlocks w rfl ⟨hq.symm, rfl, rfl⟩ (Nat.le_refl _) (Nat.le_refl _) dX6_wins_53
def f_X6_bestOf_L4 (sum : Int32) (m_hs : Int32) (m_ss_f : Nat → Int32) (m_ha_f : Nat → Int32) : Nat → Nat → Int32 → Int32
  | 0, _, _ => 0
  | n + 1, k, v2 => if m_hs ≤ (nI k) then v2 else (if (m_ss_f 3) = (0 : Int32) then (if v2 < (0 : Int32) then (f_X6_bestOf_L4 sum m_hs m_ss_f m_ha_f n ((k + 1)) (f_X6_amount (f_X6_farOf (m_ha_f k) sum m_hs m_ss_f))) else (if v2 ≤ (f_X6_amount (f_X6_farOf (m_ha_f k) sum m_hs m_ss_f)) then (f_X6_bestOf_L4 sum m_hs m_ss_f m_ha_f n ((k + 1)) v2) else (f_X6_bestOf_L4 sum m_hs m_ss_f m_ha_f n ((k + 1)) (f_X6_amount (f_X6_farOf (m_ha_f k) sum m_hs m_ss_f))))) else (if (0 : Int32) < (f_X6_farOf (m_ha_f k) sum m_hs m_ss_f) then (f_X6_bestOf_L4 sum m_hs m_ss_f m_ha_f n ((k + 1)) v2) else (if (m_ha_f k) ≤ v2 then (f_X6_bestOf_L4 sum m_hs m_ss_f m_ha_f n ((k + 1)) v2) else (f_X6_bestOf_L4 sum m_hs m_ss_f m_ha_f n ((k + 1)) (m_ha_f k)))))
theorem f_X6_bestOf_L4_s (sum : Int32) (m_hs : Int32) (m_ss_f : Nat → Int32) (m_ha_f : Nat → Int32) (n k : Nat) (v2 : Int32) : f_X6_bestOf_L4 sum m_hs m_ss_f m_ha_f (n + 1) k v2 = (if m_hs ≤ (nI k) then v2 else (if (m_ss_f 3) = (0 : Int32) then (if v2 < (0 : Int32) then (f_X6_bestOf_L4 sum m_hs m_ss_f m_ha_f n ((k + 1)) (f_X6_amount (f_X6_farOf (m_ha_f k) sum m_hs m_ss_f))) else (if v2 ≤ (f_X6_amount (f_X6_farOf (m_ha_f k) sum m_hs m_ss_f)) then (f_X6_bestOf_L4 sum m_hs m_ss_f m_ha_f n ((k + 1)) v2) else (f_X6_bestOf_L4 sum m_hs m_ss_f m_ha_f n ((k + 1)) (f_X6_amount (f_X6_farOf (m_ha_f k) sum m_hs m_ss_f))))) else (if (0 : Int32) < (f_X6_farOf (m_ha_f k) sum m_hs m_ss_f) then (f_X6_bestOf_L4 sum m_hs m_ss_f m_ha_f n ((k + 1)) v2) else (if (m_ha_f k) ≤ v2 then (f_X6_bestOf_L4 sum m_hs m_ss_f m_ha_f n ((k + 1)) v2) else (f_X6_bestOf_L4 sum m_hs m_ss_f m_ha_f n ((k + 1)) (m_ha_f k)))))) := rfl
def f_X6_bestOf (sum : Int32) (m_hs : Int32) (m_ss_f : Nat → Int32) (m_ha_f : Nat → Int32) : Int32 := f_X6_bestOf_L4 sum m_hs m_ss_f m_ha_f (m_hs.toNatClampNeg + 1) 0 (-1)
set_option maxHeartbeats 400000 in
set_option maxRecDepth 100000 in
theorem c_X6_bestOf (l : Launch) (D : va_G) (cI cP cS cL : ClassId) (L : List Nat) (F : Nat → va_E) (m : Nat) (sum : Int32) (m_ss : Nat) (m_im : Nat) (m_re : Nat) (m_sa : Nat) (m_ke : Nat) (m_so : Nat) (m_si : Nat) (m_el : Nat) (m_kd : Nat) (m_kt : Nat) (m_hi : Int32) (m_th : Int32) (m_po : Int32) (m_ba : Int32) (m_en : Int32) (m_tl : Int32) (m_nu : Nat) (m_ca : Nat) (m_ha : Nat) (m_hs : Int32) (m_co : Nat) (m_ss_f : Nat → Int32) (m_ha_f : Nat → Int32) (h_m : wi L F m (eM m_ss m_im m_re m_sa m_ke m_so m_si m_el m_kd m_kt m_hi m_th m_po m_ba m_en m_tl m_nu m_ca m_ha m_hs m_co)) (h_m_ss : wi L F m_ss (eI cI 55 m_ss_f)) (h_m_ha : wi L F m_ha (eI cI 100 m_ha_f)) (hhs : m_hs.toInt ≤ 100) : wMI l D cI cP cS cL yX6_bestOf wsX6_bestOf ({ frames := 1, cells := 0, slots := 0, locals := 23 } : Room) [.ref m, .int sum] L F (f_X6_bestOf sum m_hs m_ss_f m_ha_f) F := by
  refine wM.of (cc := cX6_bestOf) (maxL := 5) (ret := (some .int)) (by decide) rfl (Nat.le_of_ble_eq_true rfl) ?_
  intro pZ eZ sZ mZ below meth cZ A ls C hl w
  obtain ⟨hx, hb, hr, hml, hts, hown, hlocks, hK, hA, hin⟩ := C
  have hown : sZ.vm.findClass RX6 = some mZ.cls := hown
  have hl : lv_has ls 5 [(0, .ref m), (1, .int sum)] := hl
  have m_0 : ((.fieldLink RX6 171 "TwoThirdsModel" "hands" "I") : Cond) ∈ wsX6_bestOf := by decide +kernel
  have i_X6 : ∀ w ∈ wsX60, w ∈ wsX6_bestOf := by decide +kernel
  have m_2 : ((.fieldLink RX6 46 "TwoThirdsModel" "hand" "[I") : Cond) ∈ wsX6_bestOf := by decide +kernel
  have m_3 : ((.fieldLink RX6 9 "TwoThirdsModel" "s" "[I") : Cond) ∈ wsX6_bestOf := by decide +kernel
  have hq : f_X6_bestOf sum m_hs m_ss_f m_ha_f = f_X6_bestOf sum m_hs m_ss_f m_ha_f := rfl
  refine lv_iconst (v := (-1)) hx hb dX6_bestOf_0 (by decide) ?_
  refine lv_istore_n (lv' := [(2, .int (-1)), (0, .ref m), (1, .int sum)]) hx hb dX6_bestOf_1 rfl hl (by decide) rfl (fun ls hl => ?_)
  refine lv_iconst (v := 0) hx hb dX6_bestOf_2 (by decide) ?_
  refine lv_istore_n (lv' := [(3, .int 0), (2, .int (-1)), (0, .ref m), (1, .int sum)]) hx hb dX6_bestOf_3 rfl hl (by decide) rfl (fun ls hl => ?_)
  have hL4 : ∀ (n k : Nat) (v2 : Int32) (H : Heap) (locs : List Loc) (ls : Array Slot), k ≤ m_hs.toNatClampNeg → m_hs.toNatClampNeg - k < n → f_X6_bestOf sum m_hs m_ss_f m_ha_f = f_X6_bestOf_L4 sum m_hs m_ss_f m_ha_f n k v2 → lv_has ls 5 [(0, .ref m), (1, .int sum), (2, .int v2), (3, .int (nI k))] → ww D A sZ.heap L F H locs → W pZ l eZ ({ frames := 1, cells := 0, slots := 0, locals := 23 } : Room) sZ mZ [.ref m, .int sum].toArray below meth cZ H locs 0 0 (MQ below (wQi D A (fun r1 L1 F1 => r1 = (f_X6_bestOf sum m_hs m_ss_f m_ha_f) ∧ L1 = L ∧ F1 = F)) [.ref m, .int sum].toArray sZ 0 0 A) (F0 mZ 4 ls []) := by
    intro n; induction n with
    | zero => intro k v2 H locs ls hkT hmeas; exact absurd hmeas (Nat.not_lt_zero _)
    | succ n ih =>
      intro k v2 H locs ls hkT hmeas hq hl w
      have hk31 : k < 2147483648 := Nat.lt_of_le_of_lt hkT (w_clamp_lt _)
      have hq := hq.trans (f_X6_bestOf_L4_s sum m_hs m_ss_f m_ha_f n k v2)
      refine lv_iload_n hx hb dX6_bestOf_4 rfl (lv_at hl 3 rfl) ?_
      refine lv_aload_n hx hb dX6_bestOf_5 rfl (lv_at hl 0 rfl) ?_
      refine w_get (v := .int m_hs) hx hb hts i_X6 hown hK w h_m rfl 19 (by decide) (hts _ m_0) rfl dX6_bestOf_6 ?_
      refine lv_icmp_ge (tgt := 92) hx hb dX6_bestOf_9 (by decide) (fun c1 => ?_) (fun c1 => ?_)
      · skip
        have hq := hq.trans (if_pos c1)
        refine lv_iload_n hx hb dX6_bestOf_92 rfl (lv_at hl 2 rfl) ?_
        exact w_iret hx hb hr hlocks w ⟨hq.symm, rfl, rfl⟩ (Nat.le_refl _) (Nat.le_refl _) dX6_bestOf_93
      · skip
        have hq := hq.trans (if_neg c1)
        have hlt9 : k < m_hs.toNatClampNeg := w_ltk hk31 c1
        have hk100 : k < 100 := w_k100 hlt9 hhs
        refine lv_aload_n hx hb dX6_bestOf_12 rfl (lv_at hl 0 rfl) ?_
        refine lv_aload_n hx hb dX6_bestOf_13 rfl (lv_at hl 0 rfl) ?_
        refine w_get (v := .ref m_ha) hx hb hts i_X6 hown hK w h_m rfl 18 (by decide) (hts _ m_2) rfl dX6_bestOf_14 ?_
        refine lv_iload_n hx hb dX6_bestOf_17 rfl (lv_at hl 3 rfl) ?_
        refine w_ild (j := k) hx hb hK w h_m_ha (vp_in_nI (by omega) (by omega)) (nI_clamp (by omega)) dX6_bestOf_18 ?_
        refine lv_iload_n hx hb dX6_bestOf_19 rfl (lv_at hl 1 rfl) ?_
        refine lv_aload_n hx hb dX6_bestOf_20 rfl (lv_at hl 0 rfl) ?_
        refine w_get (v := .int m_hs) hx hb hts i_X6 hown hK w h_m rfl 19 (by decide) (hts _ m_0) rfl dX6_bestOf_21 ?_
        refine w_finI (w_runV (rm := ({ frames := 0, cells := 0, slots := 0, locals := 0 } : Room)) (As := [.int (m_ha_f k), .int sum, .int m_hs]) (rest := []) (n := 3) hx hb hml hts hown hK w (c_X6_farOf l D cI cP cS cL L _ m (m_ha_f k) sum m_hs m_ss m_im m_re m_sa m_ke m_so m_si m_el m_kd m_kt m_hi m_th m_po m_ba m_en m_tl m_nu m_ca m_ha m_hs m_co m_ss_f h_m h_m_ss) gX6_bestOf_X6_farOf rfl rfl rfl (by decide +kernel) ⟨(Nat.le_of_ble_eq_true rfl), (Nat.le_of_ble_eq_true rfl)⟩ h_m rfl rfl hl.1 rfl (Nat.le_of_ble_eq_true rfl) dX6_bestOf_24 ⟨(Nat.le_of_ble_eq_true rfl), (Nat.le_of_ble_eq_true rfl)⟩) w hA (fun H locs w => ?_)
        refine lv_istore (lv' := [(4, .int (f_X6_farOf (m_ha_f k) sum m_hs m_ss_f)), (0, .ref m), (1, .int sum), (2, .int v2), (3, .int (nI k))]) hx hb dX6_bestOf_27 hl (by decide) rfl (fun ls hl => ?_)
        refine lv_aload_n hx hb dX6_bestOf_29 rfl (lv_at hl 1 rfl) ?_
        refine w_get (v := .ref m_ss) hx hb hts i_X6 hown hK w h_m rfl 0 (by decide) (hts _ m_3) rfl dX6_bestOf_30 ?_
        refine lv_iconst (v := 3) hx hb dX6_bestOf_33 (by decide) ?_
        refine w_ild (j := 3) hx hb hK w h_m_ss (vp_in_nI (n := 3) (N := 55) (by decide) (by decide)) rfl dX6_bestOf_34 ?_
        refine lv_if_ne (tgt := 64) hx hb dX6_bestOf_35 (by decide) (fun c2 => ?_) (fun c2 => ?_)
        · skip
          have hq := hq.trans (if_neg c2)
          refine lv_iload hx hb dX6_bestOf_64 (lv_at hl 0 rfl) ?_
          refine lv_if_gt (tgt := 86) hx hb dX6_bestOf_66 (by decide) (fun c3 => ?_) (fun c3 => ?_)
          · skip
            have hq := hq.trans (if_pos c3)
            refine lv_iinc (v := (nI (k + 1))) (lv' := [(3, .int (nI (k + 1))), (4, .int (f_X6_farOf (m_ha_f k) sum m_hs m_ss_f)), (0, .ref m), (1, .int sum), (2, .int v2)]) hx hb dX6_bestOf_86 hl (k := 4) rfl (w_inc _) (by decide) rfl (fun ls hl => ?_)
            refine lv_goto (tgt := 4) hx hb dX6_bestOf_89 (by decide) ?_
            exact ih ((k + 1)) v2 _ _ _ (by omega) (by omega) hq (lv_sub hl [2, 3, 4, 0] rfl) w
          · skip
            have hq := hq.trans (if_neg c3)
            refine lv_aload_n hx hb dX6_bestOf_69 rfl (lv_at hl 1 rfl) ?_
            refine w_get (v := .ref m_ha) hx hb hts i_X6 hown hK w h_m rfl 18 (by decide) (hts _ m_2) rfl dX6_bestOf_70 ?_
            refine lv_iload_n hx hb dX6_bestOf_73 rfl (lv_at hl 4 rfl) ?_
            refine w_ild (j := k) hx hb hK w h_m_ha (vp_in_nI (by omega) (by omega)) (nI_clamp (by omega)) dX6_bestOf_74 ?_
            refine lv_iload_n hx hb dX6_bestOf_75 rfl (lv_at hl 3 rfl) ?_
            refine lv_icmp_le (tgt := 86) hx hb dX6_bestOf_76 (by decide) (fun c4 => ?_) (fun c4 => ?_)
            · skip
              have hq := hq.trans (if_pos c4)
              refine lv_iinc (v := (nI (k + 1))) (lv' := [(3, .int (nI (k + 1))), (4, .int (f_X6_farOf (m_ha_f k) sum m_hs m_ss_f)), (0, .ref m), (1, .int sum), (2, .int v2)]) hx hb dX6_bestOf_86 hl (k := 4) rfl (w_inc _) (by decide) rfl (fun ls hl => ?_)
              refine lv_goto (tgt := 4) hx hb dX6_bestOf_89 (by decide) ?_
              exact ih ((k + 1)) v2 _ _ _ (by omega) (by omega) hq (lv_sub hl [2, 3, 4, 0] rfl) w
            · skip
              have hq := hq.trans (if_neg c4)
              refine lv_aload_n hx hb dX6_bestOf_79 rfl (lv_at hl 1 rfl) ?_
              refine w_get (v := .ref m_ha) hx hb hts i_X6 hown hK w h_m rfl 18 (by decide) (hts _ m_2) rfl dX6_bestOf_80 ?_
              refine lv_iload_n hx hb dX6_bestOf_83 rfl (lv_at hl 4 rfl) ?_
              refine w_ild (j := k) hx hb hK w h_m_ha (vp_in_nI (by omega) (by omega)) (nI_clamp (by omega)) dX6_bestOf_84 ?_
              refine lv_istore_n (lv' := [(2, .int (m_ha_f k)), (4, .int (f_X6_farOf (m_ha_f k) sum m_hs m_ss_f)), (0, .ref m), (1, .int sum), (3, .int (nI k))]) hx hb dX6_bestOf_85 rfl hl (by decide) rfl (fun ls hl => ?_)
              refine lv_iinc (v := (nI (k + 1))) (lv' := [(3, .int (nI (k + 1))), (2, .int (m_ha_f k)), (4, .int (f_X6_farOf (m_ha_f k) sum m_hs m_ss_f)), (0, .ref m), (1, .int sum)]) hx hb dX6_bestOf_86 hl (k := 4) rfl (w_inc _) (by decide) rfl (fun ls hl => ?_)
              refine lv_goto (tgt := 4) hx hb dX6_bestOf_89 (by decide) ?_
              exact ih ((k + 1)) (m_ha_f k) _ _ _ (by omega) (by omega) hq (lv_sub hl [3, 4, 1, 0] rfl) w
        · skip
          have hq := hq.trans (if_pos c2)
          refine lv_iload_n hx hb dX6_bestOf_38 rfl (lv_at hl 3 rfl) ?_
          refine lv_if_lt (tgt := 51) hx hb dX6_bestOf_39 (by decide) (fun c5 => ?_) (fun c5 => ?_)
          · skip
            have hq := hq.trans (if_pos c5)
            refine lv_iload hx hb dX6_bestOf_51 (lv_at hl 0 rfl) ?_
            refine w_finI (w_runS (rm := ({ frames := 0, cells := 0, slots := 0, locals := 0 } : Room)) (As := [.int (f_X6_farOf (m_ha_f k) sum m_hs m_ss_f)]) (rest := []) (n := 1) hx hb hml hts hown hK w (c_X6_amount l D cI cP cS cL L _ (f_X6_farOf (m_ha_f k) sum m_hs m_ss_f) ) gX6_bestOf_X6_amount rfl rfl rfl (by decide +kernel) ⟨(Nat.le_of_ble_eq_true rfl), (Nat.le_of_ble_eq_true rfl)⟩ rfl hl.1 rfl (Nat.le_of_ble_eq_true rfl) dX6_bestOf_53 ⟨(Nat.le_of_ble_eq_true rfl), (Nat.le_of_ble_eq_true rfl)⟩) w hA (fun H locs w => ?_)
            refine lv_goto (tgt := 60) hx hb dX6_bestOf_56 (by decide) ?_
            refine lv_istore_n (lv' := [(2, .int (f_X6_amount (f_X6_farOf (m_ha_f k) sum m_hs m_ss_f))), (4, .int (f_X6_farOf (m_ha_f k) sum m_hs m_ss_f)), (0, .ref m), (1, .int sum), (3, .int (nI k))]) hx hb dX6_bestOf_60 rfl hl (by decide) rfl (fun ls hl => ?_)
            refine lv_goto (tgt := 86) hx hb dX6_bestOf_61 (by decide) ?_
            refine lv_iinc (v := (nI (k + 1))) (lv' := [(3, .int (nI (k + 1))), (2, .int (f_X6_amount (f_X6_farOf (m_ha_f k) sum m_hs m_ss_f))), (4, .int (f_X6_farOf (m_ha_f k) sum m_hs m_ss_f)), (0, .ref m), (1, .int sum)]) hx hb dX6_bestOf_86 hl (k := 4) rfl (w_inc _) (by decide) rfl (fun ls hl => ?_)
            refine lv_goto (tgt := 4) hx hb dX6_bestOf_89 (by decide) ?_
            exact ih ((k + 1)) (f_X6_amount (f_X6_farOf (m_ha_f k) sum m_hs m_ss_f)) _ _ _ (by omega) (by omega) hq (lv_sub hl [3, 4, 1, 0] rfl) w
          · skip
            have hq := hq.trans (if_neg c5)
            refine lv_iload hx hb dX6_bestOf_42 (lv_at hl 0 rfl) ?_
            refine w_finI (w_runS (rm := ({ frames := 0, cells := 0, slots := 0, locals := 0 } : Room)) (As := [.int (f_X6_farOf (m_ha_f k) sum m_hs m_ss_f)]) (rest := []) (n := 1) hx hb hml hts hown hK w (c_X6_amount l D cI cP cS cL L _ (f_X6_farOf (m_ha_f k) sum m_hs m_ss_f) ) gX6_bestOf_X6_amount rfl rfl rfl (by decide +kernel) ⟨(Nat.le_of_ble_eq_true rfl), (Nat.le_of_ble_eq_true rfl)⟩ rfl hl.1 rfl (Nat.le_of_ble_eq_true rfl) dX6_bestOf_44 ⟨(Nat.le_of_ble_eq_true rfl), (Nat.le_of_ble_eq_true rfl)⟩) w hA (fun H locs w => ?_)
            refine lv_iload_n hx hb dX6_bestOf_47 rfl (lv_at hl 3 rfl) ?_
            refine lv_icmp_ge (tgt := 59) hx hb dX6_bestOf_48 (by decide) (fun c6 => ?_) (fun c6 => ?_)
            · skip
              have hq := hq.trans (if_pos c6)
              refine lv_iload_n hx hb dX6_bestOf_59 rfl (lv_at hl 3 rfl) ?_
              refine lv_istore_n (lv' := [(2, .int v2), (4, .int (f_X6_farOf (m_ha_f k) sum m_hs m_ss_f)), (0, .ref m), (1, .int sum), (3, .int (nI k))]) hx hb dX6_bestOf_60 rfl hl (by decide) rfl (fun ls hl => ?_)
              refine lv_goto (tgt := 86) hx hb dX6_bestOf_61 (by decide) ?_
              refine lv_iinc (v := (nI (k + 1))) (lv' := [(3, .int (nI (k + 1))), (2, .int v2), (4, .int (f_X6_farOf (m_ha_f k) sum m_hs m_ss_f)), (0, .ref m), (1, .int sum)]) hx hb dX6_bestOf_86 hl (k := 4) rfl (w_inc _) (by decide) rfl (fun ls hl => ?_)
              refine lv_goto (tgt := 4) hx hb dX6_bestOf_89 (by decide) ?_
              exact ih ((k + 1)) v2 _ _ _ (by omega) (by omega) hq (lv_sub hl [3, 4, 1, 0] rfl) w
            · skip
              have hq := hq.trans (if_neg c6)
              refine lv_iload hx hb dX6_bestOf_51 (lv_at hl 0 rfl) ?_
              refine w_finI (w_runS (rm := ({ frames := 0, cells := 0, slots := 0, locals := 0 } : Room)) (As := [.int (f_X6_farOf (m_ha_f k) sum m_hs m_ss_f)]) (rest := []) (n := 1) hx hb hml hts hown hK w (c_X6_amount l D cI cP cS cL L _ (f_X6_farOf (m_ha_f k) sum m_hs m_ss_f) ) gX6_bestOf_X6_amount rfl rfl rfl (by decide +kernel) ⟨(Nat.le_of_ble_eq_true rfl), (Nat.le_of_ble_eq_true rfl)⟩ rfl hl.1 rfl (Nat.le_of_ble_eq_true rfl) dX6_bestOf_53 ⟨(Nat.le_of_ble_eq_true rfl), (Nat.le_of_ble_eq_true rfl)⟩) w hA (fun H locs w => ?_)
              refine lv_goto (tgt := 60) hx hb dX6_bestOf_56 (by decide) ?_
              refine lv_istore_n (lv' := [(2, .int (f_X6_amount (f_X6_farOf (m_ha_f k) sum m_hs m_ss_f))), (4, .int (f_X6_farOf (m_ha_f k) sum m_hs m_ss_f)), (0, .ref m), (1, .int sum), (3, .int (nI k))]) hx hb dX6_bestOf_60 rfl hl (by decide) rfl (fun ls hl => ?_)
              refine lv_goto (tgt := 86) hx hb dX6_bestOf_61 (by decide) ?_
              refine lv_iinc (v := (nI (k + 1))) (lv' := [(3, .int (nI (k + 1))), (2, .int (f_X6_amount (f_X6_farOf (m_ha_f k) sum m_hs m_ss_f))), (4, .int (f_X6_farOf (m_ha_f k) sum m_hs m_ss_f)), (0, .ref m), (1, .int sum)]) hx hb dX6_bestOf_86 hl (k := 4) rfl (w_inc _) (by decide) rfl (fun ls hl => ?_)
              refine lv_goto (tgt := 4) hx hb dX6_bestOf_89 (by decide) ?_
              exact ih ((k + 1)) (f_X6_amount (f_X6_farOf (m_ha_f k) sum m_hs m_ss_f)) _ _ _ (by omega) (by omega) hq (lv_sub hl [3, 4, 1, 0] rfl) w
  exact hL4 (m_hs.toNatClampNeg + 1) 0 (-1) _ _ _ (Nat.zero_le _) (by omega) hq (lv_sub hl [2, 3, 1, 0] rfl) w
def f_X6_winnersOf_L17 (what : Int32) (m_hs : Int32) (m_ss_f : Nat → Int32) (m_ha_f : Nat → Int32) : Nat → Nat → Int32 → Int32
  | 0, _, _ => 0
  | n + 1, k, v4 => if m_hs ≤ (nI k) then (if what = (1 : Int32) then (-4) else v4) else (if (f_X6_wins (m_ha_f k) (f_X6_sumOf m_hs m_ha_f) (f_X6_bestOf (f_X6_sumOf m_hs m_ha_f) m_hs m_ss_f m_ha_f) m_hs m_ss_f) = (0 : Int32) then (f_X6_winnersOf_L17 what m_hs m_ss_f m_ha_f n ((k + 1)) v4) else (if what = (1 : Int32) then (nI k) else (f_X6_winnersOf_L17 what m_hs m_ss_f m_ha_f n ((k + 1)) (v4 + 1))))
theorem f_X6_winnersOf_L17_s (what : Int32) (m_hs : Int32) (m_ss_f : Nat → Int32) (m_ha_f : Nat → Int32) (n k : Nat) (v4 : Int32) : f_X6_winnersOf_L17 what m_hs m_ss_f m_ha_f (n + 1) k v4 = (if m_hs ≤ (nI k) then (if what = (1 : Int32) then (-4) else v4) else (if (f_X6_wins (m_ha_f k) (f_X6_sumOf m_hs m_ha_f) (f_X6_bestOf (f_X6_sumOf m_hs m_ha_f) m_hs m_ss_f m_ha_f) m_hs m_ss_f) = (0 : Int32) then (f_X6_winnersOf_L17 what m_hs m_ss_f m_ha_f n ((k + 1)) v4) else (if what = (1 : Int32) then (nI k) else (f_X6_winnersOf_L17 what m_hs m_ss_f m_ha_f n ((k + 1)) (v4 + 1))))) := rfl
def f_X6_winnersOf (what : Int32) (m_hs : Int32) (m_ss_f : Nat → Int32) (m_ha_f : Nat → Int32) : Int32 := f_X6_winnersOf_L17 what m_hs m_ss_f m_ha_f (m_hs.toNatClampNeg + 1) 0 0
set_option maxHeartbeats 400000 in
set_option maxRecDepth 100000 in
theorem c_X6_winnersOf (l : Launch) (D : va_G) (cI cP cS cL : ClassId) (L : List Nat) (F : Nat → va_E) (m : Nat) (what : Int32) (m_ss : Nat) (m_im : Nat) (m_re : Nat) (m_sa : Nat) (m_ke : Nat) (m_so : Nat) (m_si : Nat) (m_el : Nat) (m_kd : Nat) (m_kt : Nat) (m_hi : Int32) (m_th : Int32) (m_po : Int32) (m_ba : Int32) (m_en : Int32) (m_tl : Int32) (m_nu : Nat) (m_ca : Nat) (m_ha : Nat) (m_hs : Int32) (m_co : Nat) (m_ss_f : Nat → Int32) (m_ha_f : Nat → Int32) (h_m : wi L F m (eM m_ss m_im m_re m_sa m_ke m_so m_si m_el m_kd m_kt m_hi m_th m_po m_ba m_en m_tl m_nu m_ca m_ha m_hs m_co)) (h_m_ss : wi L F m_ss (eI cI 55 m_ss_f)) (h_m_ha : wi L F m_ha (eI cI 100 m_ha_f)) (hhs : m_hs.toInt ≤ 100) : wMI l D cI cP cS cL yX6_winnersOf wsX6_winnersOf ({ frames := 2, cells := 0, slots := 0, locals := 47 } : Room) [.ref m, .int what] L F (f_X6_winnersOf what m_hs m_ss_f m_ha_f) F := by
  refine wM.of (cc := cX6_winnersOf) (maxL := 6) (ret := (some .int)) (by decide) rfl (Nat.le_of_ble_eq_true rfl) ?_
  intro pZ eZ sZ mZ below meth cZ A ls C hl w
  obtain ⟨hx, hb, hr, hml, hts, hown, hlocks, hK, hA, hin⟩ := C
  have hown : sZ.vm.findClass RX6 = some mZ.cls := hown
  have hl : lv_has ls 6 [(0, .ref m), (1, .int what)] := hl
  have m_0 : ((.fieldLink RX6 171 "TwoThirdsModel" "hands" "I") : Cond) ∈ wsX6_winnersOf := by decide +kernel
  have i_X6 : ∀ w ∈ wsX60, w ∈ wsX6_winnersOf := by decide +kernel
  have m_2 : ((.fieldLink RX6 46 "TwoThirdsModel" "hand" "[I") : Cond) ∈ wsX6_winnersOf := by decide +kernel
  have hq : f_X6_winnersOf what m_hs m_ss_f m_ha_f = f_X6_winnersOf what m_hs m_ss_f m_ha_f := rfl
  refine lv_aload_n hx hb dX6_winnersOf_0 rfl (lv_at hl 0 rfl) ?_
  refine w_finI (w_runV (rm := ({ frames := 0, cells := 0, slots := 0, locals := 0 } : Room)) (As := []) (rest := []) (n := 0) hx hb hml hts hown hK w (c_X6_sumOf l D cI cP cS cL L _ m m_ss m_im m_re m_sa m_ke m_so m_si m_el m_kd m_kt m_hi m_th m_po m_ba m_en m_tl m_nu m_ca m_ha m_hs m_co m_ha_f h_m h_m_ha hhs) gX6_winnersOf_X6_sumOf rfl rfl rfl (by decide +kernel) ⟨(Nat.le_of_ble_eq_true rfl), (Nat.le_of_ble_eq_true rfl)⟩ h_m rfl rfl hl.1 rfl (Nat.le_of_ble_eq_true rfl) dX6_winnersOf_1 ⟨(Nat.le_of_ble_eq_true rfl), (Nat.le_of_ble_eq_true rfl)⟩) w hA (fun H locs w => ?_)
  refine lv_istore_n (lv' := [(2, .int (f_X6_sumOf m_hs m_ha_f)), (0, .ref m), (1, .int what)]) hx hb dX6_winnersOf_4 rfl hl (by decide) rfl (fun ls hl => ?_)
  refine lv_aload_n hx hb dX6_winnersOf_5 rfl (lv_at hl 1 rfl) ?_
  refine lv_iload_n hx hb dX6_winnersOf_6 rfl (lv_at hl 0 rfl) ?_
  refine w_finI (w_runV (rm := ({ frames := 1, cells := 0, slots := 0, locals := 23 } : Room)) (As := [.int (f_X6_sumOf m_hs m_ha_f)]) (rest := []) (n := 1) hx hb hml hts hown hK w (c_X6_bestOf l D cI cP cS cL L _ m (f_X6_sumOf m_hs m_ha_f) m_ss m_im m_re m_sa m_ke m_so m_si m_el m_kd m_kt m_hi m_th m_po m_ba m_en m_tl m_nu m_ca m_ha m_hs m_co m_ss_f m_ha_f h_m h_m_ss h_m_ha hhs) gX6_winnersOf_X6_bestOf rfl rfl rfl (by decide +kernel) ⟨(Nat.le_of_ble_eq_true rfl), (Nat.le_of_ble_eq_true rfl)⟩ h_m rfl rfl hl.1 rfl (Nat.le_of_ble_eq_true rfl) dX6_winnersOf_7 ⟨(Nat.le_of_ble_eq_true rfl), (Nat.le_of_ble_eq_true rfl)⟩) w hA (fun H locs w => ?_)
  refine lv_istore_n (lv' := [(3, .int (f_X6_bestOf (f_X6_sumOf m_hs m_ha_f) m_hs m_ss_f m_ha_f)), (2, .int (f_X6_sumOf m_hs m_ha_f)), (0, .ref m), (1, .int what)]) hx hb dX6_winnersOf_10 rfl hl (by decide) rfl (fun ls hl => ?_)
  refine lv_iconst (v := 0) hx hb dX6_winnersOf_11 (by decide) ?_
  refine lv_istore (lv' := [(4, .int 0), (3, .int (f_X6_bestOf (f_X6_sumOf m_hs m_ha_f) m_hs m_ss_f m_ha_f)), (2, .int (f_X6_sumOf m_hs m_ha_f)), (0, .ref m), (1, .int what)]) hx hb dX6_winnersOf_12 hl (by decide) rfl (fun ls hl => ?_)
  refine lv_iconst (v := 0) hx hb dX6_winnersOf_14 (by decide) ?_
  refine lv_istore (lv' := [(5, .int 0), (4, .int 0), (3, .int (f_X6_bestOf (f_X6_sumOf m_hs m_ha_f) m_hs m_ss_f m_ha_f)), (2, .int (f_X6_sumOf m_hs m_ha_f)), (0, .ref m), (1, .int what)]) hx hb dX6_winnersOf_15 hl (by decide) rfl (fun ls hl => ?_)
  have hL17 : ∀ (n k : Nat) (v4 : Int32) (H : Heap) (locs : List Loc) (ls : Array Slot), k ≤ m_hs.toNatClampNeg → m_hs.toNatClampNeg - k < n → f_X6_winnersOf what m_hs m_ss_f m_ha_f = f_X6_winnersOf_L17 what m_hs m_ss_f m_ha_f n k v4 → lv_has ls 6 [(0, .ref m), (1, .int what), (2, .int (f_X6_sumOf m_hs m_ha_f)), (3, .int (f_X6_bestOf (f_X6_sumOf m_hs m_ha_f) m_hs m_ss_f m_ha_f)), (4, .int v4), (5, .int (nI k))] → ww D A sZ.heap L F H locs → W pZ l eZ ({ frames := 2, cells := 0, slots := 0, locals := 47 } : Room) sZ mZ [.ref m, .int what].toArray below meth cZ H locs 0 0 (MQ below (wQi D A (fun r1 L1 F1 => r1 = (f_X6_winnersOf what m_hs m_ss_f m_ha_f) ∧ L1 = L ∧ F1 = F)) [.ref m, .int what].toArray sZ 0 0 A) (F0 mZ 17 ls []) := by
    intro n; induction n with
    | zero => intro k v4 H locs ls hkT hmeas; exact absurd hmeas (Nat.not_lt_zero _)
    | succ n ih =>
      intro k v4 H locs ls hkT hmeas hq hl w
      have hk31 : k < 2147483648 := Nat.lt_of_le_of_lt hkT (w_clamp_lt _)
      have hq := hq.trans (f_X6_winnersOf_L17_s what m_hs m_ss_f m_ha_f n k v4)
      refine lv_iload hx hb dX6_winnersOf_17 (lv_at hl 5 rfl) ?_
      refine lv_aload_n hx hb dX6_winnersOf_19 rfl (lv_at hl 0 rfl) ?_
      refine w_get (v := .int m_hs) hx hb hts i_X6 hown hK w h_m rfl 19 (by decide) (hts _ m_0) rfl dX6_winnersOf_20 ?_
      refine lv_icmp_ge (tgt := 62) hx hb dX6_winnersOf_23 (by decide) (fun c1 => ?_) (fun c1 => ?_)
      · skip
        have hq := hq.trans (if_pos c1)
        refine lv_iload_n hx hb dX6_winnersOf_62 rfl (lv_at hl 1 rfl) ?_
        refine lv_iconst (v := 1) hx hb dX6_winnersOf_63 (by decide) ?_
        refine lv_icmp_ne (tgt := 72) hx hb dX6_winnersOf_64 (by decide) (fun c2 => ?_) (fun c2 => ?_)
        · skip
          have hq := hq.trans (if_neg c2)
          refine lv_iload hx hb dX6_winnersOf_72 (lv_at hl 4 rfl) ?_
          exact w_iret hx hb hr hlocks w ⟨hq.symm, rfl, rfl⟩ (Nat.le_refl _) (Nat.le_refl _) dX6_winnersOf_74
        · skip
          have hq := hq.trans (if_pos c2)
          refine lv_bipush (v := (-4)) hx hb dX6_winnersOf_67 (by decide) ?_
          refine lv_goto (tgt := 74) hx hb dX6_winnersOf_69 (by decide) ?_
          exact w_iret hx hb hr hlocks w ⟨hq.symm, rfl, rfl⟩ (Nat.le_refl _) (Nat.le_refl _) dX6_winnersOf_74
      · skip
        have hq := hq.trans (if_neg c1)
        have hlt23 : k < m_hs.toNatClampNeg := w_ltk hk31 c1
        have hk100 : k < 100 := w_k100 hlt23 hhs
        refine lv_aload_n hx hb dX6_winnersOf_26 rfl (lv_at hl 0 rfl) ?_
        refine lv_aload_n hx hb dX6_winnersOf_27 rfl (lv_at hl 0 rfl) ?_
        refine w_get (v := .ref m_ha) hx hb hts i_X6 hown hK w h_m rfl 18 (by decide) (hts _ m_2) rfl dX6_winnersOf_28 ?_
        refine lv_iload hx hb dX6_winnersOf_31 (lv_at hl 5 rfl) ?_
        refine w_ild (j := k) hx hb hK w h_m_ha (vp_in_nI (by omega) (by omega)) (nI_clamp (by omega)) dX6_winnersOf_33 ?_
        refine lv_iload_n hx hb dX6_winnersOf_34 rfl (lv_at hl 2 rfl) ?_
        refine lv_iload_n hx hb dX6_winnersOf_35 rfl (lv_at hl 3 rfl) ?_
        refine w_finI (w_runV (rm := ({ frames := 1, cells := 0, slots := 0, locals := 23 } : Room)) (As := [.int (m_ha_f k), .int (f_X6_sumOf m_hs m_ha_f), .int (f_X6_bestOf (f_X6_sumOf m_hs m_ha_f) m_hs m_ss_f m_ha_f)]) (rest := []) (n := 3) hx hb hml hts hown hK w (c_X6_wins l D cI cP cS cL L _ m (m_ha_f k) (f_X6_sumOf m_hs m_ha_f) (f_X6_bestOf (f_X6_sumOf m_hs m_ha_f) m_hs m_ss_f m_ha_f) m_ss m_im m_re m_sa m_ke m_so m_si m_el m_kd m_kt m_hi m_th m_po m_ba m_en m_tl m_nu m_ca m_ha m_hs m_co m_ss_f h_m h_m_ss) gX6_winnersOf_X6_wins rfl rfl rfl (by decide +kernel) ⟨(Nat.le_of_ble_eq_true rfl), (Nat.le_of_ble_eq_true rfl)⟩ h_m rfl rfl hl.1 rfl (Nat.le_of_ble_eq_true rfl) dX6_winnersOf_36 ⟨(Nat.le_of_ble_eq_true rfl), (Nat.le_of_ble_eq_true rfl)⟩) w hA (fun H locs w => ?_)
        refine lv_if_ne (tgt := 45) hx hb dX6_winnersOf_39 (by decide) (fun c3 => ?_) (fun c3 => ?_)
        · skip
          have hq := hq.trans (if_neg c3)
          refine lv_iload_n hx hb dX6_winnersOf_45 rfl (lv_at hl 1 rfl) ?_
          refine lv_iconst (v := 1) hx hb dX6_winnersOf_46 (by decide) ?_
          refine lv_icmp_ne (tgt := 53) hx hb dX6_winnersOf_47 (by decide) (fun c4 => ?_) (fun c4 => ?_)
          · skip
            have hq := hq.trans (if_neg c4)
            refine lv_iinc (v := (v4 + 1)) (lv' := [(4, .int (v4 + 1)), (0, .ref m), (1, .int what), (2, .int (f_X6_sumOf m_hs m_ha_f)), (3, .int (f_X6_bestOf (f_X6_sumOf m_hs m_ha_f) m_hs m_ss_f m_ha_f)), (5, .int (nI k))]) hx hb dX6_winnersOf_53 hl (k := 4) rfl rfl (by decide) rfl (fun ls hl => ?_)
            refine lv_iinc (v := (nI (k + 1))) (lv' := [(5, .int (nI (k + 1))), (4, .int (v4 + 1)), (0, .ref m), (1, .int what), (2, .int (f_X6_sumOf m_hs m_ha_f)), (3, .int (f_X6_bestOf (f_X6_sumOf m_hs m_ha_f) m_hs m_ss_f m_ha_f))]) hx hb dX6_winnersOf_56 hl (k := 5) rfl (w_inc _) (by decide) rfl (fun ls hl => ?_)
            refine lv_goto (tgt := 17) hx hb dX6_winnersOf_59 (by decide) ?_
            exact ih ((k + 1)) (v4 + 1) _ _ _ (by omega) (by omega) hq (lv_sub hl [2, 3, 4, 5, 1, 0] rfl) w
          · skip
            have hq := hq.trans (if_pos c4)
            refine lv_iload hx hb dX6_winnersOf_50 (lv_at hl 5 rfl) ?_
            exact w_iret hx hb hr hlocks w ⟨hq.symm, rfl, rfl⟩ (Nat.le_refl _) (Nat.le_refl _) dX6_winnersOf_52
        · skip
          have hq := hq.trans (if_pos c3)
          refine lv_goto (tgt := 56) hx hb dX6_winnersOf_42 (by decide) ?_
          refine lv_iinc (v := (nI (k + 1))) (lv' := [(5, .int (nI (k + 1))), (0, .ref m), (1, .int what), (2, .int (f_X6_sumOf m_hs m_ha_f)), (3, .int (f_X6_bestOf (f_X6_sumOf m_hs m_ha_f) m_hs m_ss_f m_ha_f)), (4, .int v4)]) hx hb dX6_winnersOf_56 hl (k := 5) rfl (w_inc _) (by decide) rfl (fun ls hl => ?_)
          refine lv_goto (tgt := 17) hx hb dX6_winnersOf_59 (by decide) ?_
          exact ih ((k + 1)) v4 _ _ _ (by omega) (by omega) hq (lv_sub hl [1, 2, 3, 4, 5, 0] rfl) w
  exact hL17 (m_hs.toNatClampNeg + 1) 0 0 _ _ _ (Nat.zero_le _) (by omega) hq (lv_sub hl [4, 5, 3, 2, 1, 0] rfl) w
def f_X6_last (what : Int32) (m_hs : Int32) (m_ss_f : Nat → Int32) (m_ha_f : Nat → Int32) : Int32 × (Nat → Int32) × Int32 := if (f_X6_isIn (what.toInt64) 0 2) = (0 : Int32) then ((-1), m_ha_f, m_hs) else (if (m_ss_f 6) = (0 : Int32) then ((-3), m_ha_f, m_hs) else (bnd (f_X6_takesLast m_ss_f m_ha_f) (fun x28 : (Nat → Int32) × Int32 => if what = (0 : Int32) then ((f_X6_sumOf x28.2 x28.1), x28.1, x28.2) else ((f_X6_winnersOf (what - 1) x28.2 m_ss_f x28.1), x28.1, x28.2))))
set_option maxHeartbeats 400000 in
set_option maxRecDepth 100000 in
theorem c_X6_last (l : Launch) (D : va_G) (cI cP cS cL : ClassId) (L : List Nat) (F : Nat → va_E) (m : Nat) (what : Int32) (m_ss : Nat) (m_im : Nat) (m_re : Nat) (m_sa : Nat) (m_ke : Nat) (m_so : Nat) (m_si : Nat) (m_el : Nat) (m_kd : Nat) (m_kt : Nat) (m_hi : Int32) (m_th : Int32) (m_po : Int32) (m_ba : Int32) (m_en : Int32) (m_tl : Int32) (m_nu : Nat) (m_ca : Nat) (m_ha : Nat) (m_hs : Int32) (m_co : Nat) (m_ss_f : Nat → Int32) (m_ha_f : Nat → Int32) (h_m : wi L F m (eM m_ss m_im m_re m_sa m_ke m_so m_si m_el m_kd m_kt m_hi m_th m_po m_ba m_en m_tl m_nu m_ca m_ha m_hs m_co)) (h_m_ss : wi L F m_ss (eI cI 55 m_ss_f)) (h_m_ha : wi L F m_ha (eI cI 100 m_ha_f)) (h5 : 0 ≤ (m_ss_f 5).toInt ∧ (m_ss_f 5).toInt ≤ 12) (ne_m_ss_m_ha : m_ss ≠ m_ha) : wMj l D cI cP cS cL yX6_last wsX6_last ({ frames := 3, cells := 0, slots := 0, locals := 72 } : Room) [.ref m, .int what] L F (fun r1 F1 => ∃ y9 : Int32 × (Nat → Int32) × Int32, y9 = (f_X6_last what m_hs m_ss_f m_ha_f) ∧ r1 = y9.1 ∧ F1 m = (eM m_ss m_im m_re m_sa m_ke m_so m_si m_el m_kd m_kt m_hi m_th m_po m_ba m_en m_tl m_nu m_ca m_ha y9.2.2 m_co) ∧ F1 m_ha = (eI cI 100 y9.2.1) ∧ wk (fun q : Nat => q ≠ m ∧ q ≠ m_ha ∧ True) F1 F) := by
  refine wM.of (cc := cX6_last) (maxL := 2) (ret := (some .int)) (by decide) rfl (Nat.le_of_ble_eq_true rfl) ?_
  intro pZ eZ sZ mZ below meth cZ A ls C hl w
  obtain ⟨hx, hb, hr, hml, hts, hown, hlocks, hK, hA, hin⟩ := C
  have hown : sZ.vm.findClass RX6 = some mZ.cls := hown
  have hl : lv_has ls 2 [(0, .ref m), (1, .int what)] := hl
  have m_0 : ((.constantLong RX6 190 2) : Cond) ∈ wsX6_last := by decide +kernel
  have m_1 : ((.fieldLink RX6 9 "TwoThirdsModel" "s" "[I") : Cond) ∈ wsX6_last := by decide +kernel
  have i_X6 : ∀ w ∈ wsX60, w ∈ wsX6_last := by decide +kernel
  have hk : wk (fun q : Nat => q ≠ m ∧ q ≠ m_ha ∧ True) F F := wk.rf
  have hq : f_X6_last what m_hs m_ss_f m_ha_f = f_X6_last what m_hs m_ss_f m_ha_f := rfl
  refine lv_iload_n hx hb dX6_last_0 rfl (lv_at hl 1 rfl) ?_
  refine lv_i2l (v := (what.toInt64)) hx hb dX6_last_1 rfl ?_
  refine lv_lconst (v := 0) hx hb dX6_last_2 (by decide) ?_
  refine lv_ldc2 (v := 2) hx hb hown (hts _ m_0) dX6_last_3 ?_
  refine w_finI (w_runS (rm := ({ frames := 0, cells := 0, slots := 0, locals := 0 } : Room)) (As := [.long (what.toInt64), .long 0, .long 2]) (rest := []) (n := 3) hx hb hml hts hown hK w (c_X6_isIn l D cI cP cS cL L _ (what.toInt64) 0 2 ) gX6_last_X6_isIn rfl rfl rfl (by decide +kernel) ⟨(Nat.le_of_ble_eq_true rfl), (Nat.le_of_ble_eq_true rfl)⟩ rfl hl.1 rfl (Nat.le_of_ble_eq_true rfl) dX6_last_6 ⟨(Nat.le_of_ble_eq_true rfl), (Nat.le_of_ble_eq_true rfl)⟩) w hA (fun H locs w => ?_)
  refine lv_if_ne (tgt := 14) hx hb dX6_last_9 (by decide) (fun c1 => ?_) (fun c1 => ?_)
  · skip
    have hq := hq.trans (if_neg c1)
    refine lv_aload_n hx hb dX6_last_14 rfl (lv_at hl 0 rfl) ?_
    refine w_get (v := .ref m_ss) hx hb hts i_X6 hown hK w h_m rfl 0 (by decide) (hts _ m_1) rfl dX6_last_15 ?_
    refine lv_bipush (v := 6) hx hb dX6_last_18 (by decide) ?_
    refine w_ild (j := 6) hx hb hK w h_m_ss (vp_in_nI (n := 6) (N := 55) (by decide) (by decide)) rfl dX6_last_20 ?_
    refine lv_if_ne (tgt := 27) hx hb dX6_last_21 (by decide) (fun c2 => ?_) (fun c2 => ?_)
    · skip
      have hq := hq.trans (if_neg c2)
      refine lv_aload_n hx hb dX6_last_27 rfl (lv_at hl 0 rfl) ?_
      refine w_finw (w_runV (rm := ({ frames := 1, cells := 0, slots := 0, locals := 22 } : Room)) (As := []) (rest := []) (n := 0) hx hb hml hts hown hK w (c_X6_takesLast l D cI cP cS cL L _ m m_ss m_im m_re m_sa m_ke m_so m_si m_el m_kd m_kt m_hi m_th m_po m_ba m_en m_tl m_nu m_ca m_ha m_hs m_co m_ss_f m_ha_f h_m h_m_ss h_m_ha h5 ne_m_ss_m_ha) gX6_last_X6_takesLast rfl rfl rfl (by decide +kernel) ⟨(Nat.le_of_ble_eq_true rfl), (Nat.le_of_ble_eq_true rfl)⟩ h_m rfl rfl hl.1 rfl (Nat.le_of_ble_eq_true rfl) dX6_last_28 ⟨(Nat.le_of_ble_eq_true rfl), (Nat.le_of_ble_eq_true rfl)⟩) w hA (fun F1 H locs hp w => ?_)
      obtain ⟨x28, hx28, e28_0, e28_1, hw0, hw1, hk9⟩ := hp
      have hq := hq.trans (w_bnd hx28)
      have h_m_ss := h_m_ss.keep hk9 ⟨(wi.ne h_m_ss h_m (by intro h; cases h)), ne_m_ss_m_ha, trivial⟩
      have h_m := h_m.new hw0
      have h_m_ha := h_m_ha.new hw1
      have hk := hk.call hk9 (fun q h => ⟨h.1, h.2.1, trivial⟩)
      refine lv_iload_n hx hb dX6_last_31 rfl (lv_at hl 1 rfl) ?_
      refine lv_if_ne (tgt := 42) hx hb dX6_last_32 (by decide) (fun c3 => ?_) (fun c3 => ?_)
      · skip
        have hq := hq.trans (if_neg c3)
        refine lv_aload_n hx hb dX6_last_42 rfl (lv_at hl 0 rfl) ?_
        refine lv_iload_n hx hb dX6_last_43 rfl (lv_at hl 1 rfl) ?_
        refine lv_iconst (v := 1) hx hb dX6_last_44 (by decide) ?_
        refine lv_isub hx hb dX6_last_45 ?_
        refine w_finI (w_runV (rm := ({ frames := 2, cells := 0, slots := 0, locals := 47 } : Room)) (As := [.int (what - 1)]) (rest := []) (n := 1) hx hb hml hts hown hK w (c_X6_winnersOf l D cI cP cS cL L _ m (what - 1) m_ss m_im m_re m_sa m_ke m_so m_si m_el m_kd m_kt m_hi m_th m_po m_ba m_en m_tl m_nu m_ca m_ha x28.2 m_co m_ss_f x28.1 h_m h_m_ss h_m_ha e28_0) gX6_last_X6_winnersOf rfl rfl rfl (by decide +kernel) ⟨(Nat.le_of_ble_eq_true rfl), (Nat.le_of_ble_eq_true rfl)⟩ h_m rfl rfl hl.1 rfl (Nat.le_of_ble_eq_true rfl) dX6_last_46 ⟨(Nat.le_of_ble_eq_true rfl), (Nat.le_of_ble_eq_true rfl)⟩) w hA (fun H locs w => ?_)
        exact w_iret hx hb hr hlocks w ⟨rfl, _, hq.symm, rfl, h_m.2, h_m_ha.2, hk⟩ (Nat.le_refl _) (Nat.le_refl _) dX6_last_49
      · skip
        have hq := hq.trans (if_pos c3)
        refine lv_aload_n hx hb dX6_last_35 rfl (lv_at hl 0 rfl) ?_
        refine w_finI (w_runV (rm := ({ frames := 0, cells := 0, slots := 0, locals := 0 } : Room)) (As := []) (rest := []) (n := 0) hx hb hml hts hown hK w (c_X6_sumOf l D cI cP cS cL L _ m m_ss m_im m_re m_sa m_ke m_so m_si m_el m_kd m_kt m_hi m_th m_po m_ba m_en m_tl m_nu m_ca m_ha x28.2 m_co x28.1 h_m h_m_ha e28_0) gX6_last_X6_sumOf rfl rfl rfl (by decide +kernel) ⟨(Nat.le_of_ble_eq_true rfl), (Nat.le_of_ble_eq_true rfl)⟩ h_m rfl rfl hl.1 rfl (Nat.le_of_ble_eq_true rfl) dX6_last_36 ⟨(Nat.le_of_ble_eq_true rfl), (Nat.le_of_ble_eq_true rfl)⟩) w hA (fun H locs w => ?_)
        refine lv_goto (tgt := 49) hx hb dX6_last_39 (by decide) ?_
        exact w_iret hx hb hr hlocks w ⟨rfl, _, hq.symm, rfl, h_m.2, h_m_ha.2, hk⟩ (Nat.le_refl _) (Nat.le_refl _) dX6_last_49
    · skip
      have hq := hq.trans (if_pos c2)
      refine lv_bipush (v := (-3)) hx hb dX6_last_24 (by decide) ?_
      exact w_iret hx hb hr hlocks w ⟨rfl, _, hq.symm, rfl, h_m.2, h_m_ha.2, hk⟩ (Nat.le_refl _) (Nat.le_refl _) dX6_last_26
  · skip
    have hq := hq.trans (if_pos c1)
    refine lv_iconst (v := (-1)) hx hb dX6_last_12 (by decide) ?_
    exact w_iret hx hb hr hlocks w ⟨rfl, _, hq.symm, rfl, h_m.2, h_m_ha.2, hk⟩ (Nat.le_refl _) (Nat.le_refl _) dX6_last_13
