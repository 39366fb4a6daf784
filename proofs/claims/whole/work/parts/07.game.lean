def f_J7_fill_53178_L5 (v : Int32) (a_n : Nat) : Nat → Nat → (Nat → Int32) → (Nat → Int32)
  | 0, _, _ => (fun _ => 0)
  | n + 1, k, u_a_f => if (Int32.ofNat a_n) ≤ (nI k) then u_a_f else (f_J7_fill_53178_L5 v a_n n ((k + 1)) (upd u_a_f k v))
theorem f_J7_fill_53178_L5_s (v : Int32) (a_n : Nat) (n k : Nat) (u_a_f : Nat → Int32) : f_J7_fill_53178_L5 v a_n (n + 1) k u_a_f = (if (Int32.ofNat a_n) ≤ (nI k) then u_a_f else (f_J7_fill_53178_L5 v a_n n ((k + 1)) (upd u_a_f k v))) := rfl
def f_J7_fill_53178 (v : Int32) (a_n : Nat) (a_f : Nat → Int32) : (Nat → Int32) := f_J7_fill_53178_L5 v a_n (a_n + 1) 0 a_f
set_option maxHeartbeats 400000 in
set_option maxRecDepth 100000 in
theorem c_J7_fill_53178 (l : Launch) (D : va_G) (cI cP cS cL : ClassId) (L : List Nat) (F : Nat → va_E) (a : Nat) (v : Int32) (a_n : Nat) (a_f : Nat → Int32) (h_a : wi L F a (eI cI a_n a_f)) (hn : a_n < 2147483648) : wMw l D cI cP cS cL yJ7_fill_53178 wsJ7_fill_53178 ({ frames := 0, cells := 0, slots := 0, locals := 0 } : Room) [.ref a, .int v] L F (fun F1 => ∃ y9 : (Nat → Int32), y9 = (f_J7_fill_53178 v a_n a_f) ∧ F1 a = (eI cI a_n y9) ∧ wk (fun q : Nat => q ≠ a ∧ True) F1 F) := by
  refine wM.of (cc := cJ7_fill_53178) (maxL := 4) (ret := none) (by decide) rfl (Nat.le_of_ble_eq_true rfl) ?_
  intro pZ eZ sZ mZ below meth cZ A ls C hl w
  obtain ⟨hx, hb, hr, hml, hts, hown, hlocks, hK, hA, hin⟩ := C
  have hown : sZ.vm.findClass RJ7 = some mZ.cls := hown
  have hl : lv_has ls 4 [(0, .ref a), (1, .int v)] := hl
  have hk : wk (fun q : Nat => q ≠ a ∧ True) F F := wk.rf
  have hq : f_J7_fill_53178 v a_n a_f = f_J7_fill_53178 v a_n a_f := rfl
  refine lv_iconst (v := 0) hx hb dJ7_fill_53178_0 (by decide) ?_
  refine lv_istore_n (lv' := [(2, .int 0), (0, .ref a), (1, .int v)]) hx hb dJ7_fill_53178_1 rfl hl (by decide) rfl (fun ls hl => ?_)
  refine lv_aload_n hx hb dJ7_fill_53178_2 rfl (lv_at hl 1 rfl) ?_
  refine w_len (v := (Int32.ofNat a_n)) hx hb hK w h_a 0 rfl rfl dJ7_fill_53178_3 ?_
  refine lv_istore_n (lv' := [(3, .int (Int32.ofNat a_n)), (2, .int 0), (0, .ref a), (1, .int v)]) hx hb dJ7_fill_53178_4 rfl hl (by decide) rfl (fun ls hl => ?_)
  have hL5 : ∀ (n k : Nat) (u_a_f : Nat → Int32) (F1 : Nat → va_E) (H : Heap) (locs : List Loc) (ls : Array Slot), k ≤ a_n → a_n - k < n → f_J7_fill_53178 v a_n a_f = f_J7_fill_53178_L5 v a_n n k u_a_f → lv_has ls 4 [(0, .ref a), (1, .int v), (2, .int (nI k)), (3, .int (Int32.ofNat a_n))] → ww D A sZ.heap L F1 H locs → (wi L F1 a (eI cI a_n u_a_f)) → wk (fun q : Nat => q ≠ a ∧ True) F1 F → W pZ l eZ ({ frames := 0, cells := 0, slots := 0, locals := 0 } : Room) sZ mZ [.ref a, .int v].toArray below meth cZ H locs 0 0 (MQ below (wQv D A (fun L1 F1 => L1 = L ∧ ∃ y9 : (Nat → Int32), y9 = (f_J7_fill_53178 v a_n a_f) ∧ F1 a = (eI cI a_n y9) ∧ wk (fun q : Nat => q ≠ a ∧ True) F1 F)) [.ref a, .int v].toArray sZ 0 0 A) (F0 mZ 5 ls []) := by
    intro n; induction n with
    | zero => intro k u_a_f F1 H locs ls hkT hmeas; exact absurd hmeas (Nat.not_lt_zero _)
    | succ n ih =>
      intro k u_a_f F1 H locs ls hkT hmeas hq hl w h_a hk
      have hk31 : k < 2147483648 := by omega
      have hq := hq.trans (f_J7_fill_53178_L5_s v a_n n k u_a_f)
      refine lv_iload_n hx hb dJ7_fill_53178_5 rfl (lv_at hl 2 rfl) ?_
      refine lv_iload_n hx hb dJ7_fill_53178_6 rfl (lv_at hl 3 rfl) ?_
      refine lv_icmp_ge (tgt := 20) hx hb dJ7_fill_53178_7 (by decide) (fun c1 => ?_) (fun c1 => ?_)
      · skip
        have hq := hq.trans (if_pos c1)
        exact w_vret hx hb hr hlocks w ⟨rfl, _, hq.symm, h_a.2, hk⟩ (Nat.le_refl _) (Nat.le_refl _) dJ7_fill_53178_20
      · skip
        have hq := hq.trans (if_neg c1)
        have hlt7 : k < (Int32.ofNat a_n).toNatClampNeg := w_ltk hk31 c1
        have hlt7 : k < a_n := by rw [show Int32.ofNat a_n = nI a_n from rfl, nI_clamp (by omega)] at hlt7; exact hlt7
        refine lv_aload_n hx hb dJ7_fill_53178_10 rfl (lv_at hl 0 rfl) ?_
        refine lv_iload_n hx hb dJ7_fill_53178_11 rfl (lv_at hl 2 rfl) ?_
        refine lv_iload_n hx hb dJ7_fill_53178_12 rfl (lv_at hl 1 rfl) ?_
        have ho2 := h_a
        refine w_ist (j := k) hx hb hK w h_a (vp_in_nI hlt7 (by omega)) (nI_clamp (by omega)) dJ7_fill_53178_13 (fun H locs w h_a => ?_)
        have hk := hk.upw h_a (fun q h => h.1)
        refine lv_iinc (v := (nI (k + 1))) (lv' := [(2, .int (nI (k + 1))), (0, .ref a), (1, .int v), (3, .int (Int32.ofNat a_n))]) hx hb dJ7_fill_53178_14 hl (k := 2) rfl (w_inc _) (by decide) rfl (fun ls hl => ?_)
        refine lv_goto (tgt := 5) hx hb dJ7_fill_53178_17 (by decide) ?_
        exact ih ((k + 1)) (upd u_a_f k v) _ _ _ _ (by omega) (by omega) hq (lv_sub hl [1, 2, 0, 3] rfl) w h_a hk
  exact hL5 (a_n + 1) 0 a_f _ _ _ _ (Nat.zero_le _) (by omega) hq (lv_sub hl [2, 3, 1, 0] rfl) w h_a hk
def f_X3_begin (newSort : Int32) (newSize : Int32) (r_e_n : Nat) (r_e_f : Nat → Int32) : Int32 × Int32 × (Nat → Int32) := if (0 : Int32) ≤ newSize then (bnd (f_J7_fill_53178 0 r_e_n r_e_f) (fun x31 : (Nat → Int32) => (newSort, (if (Int32.ofNat r_e_n) < newSize then (Int32.ofNat r_e_n) else newSize), x31))) else (bnd (f_J7_fill_53178 0 r_e_n r_e_f) (fun x31 : (Nat → Int32) => (newSort, 0, x31)))
set_option maxHeartbeats 400000 in
set_option maxRecDepth 100000 in
theorem c_X3_begin (l : Launch) (D : va_G) (cI cP cS cL : ClassId) (L : List Nat) (F : Nat → va_E) (r : Nat) (newSort : Int32) (newSize : Int32) (r_e : Nat) (r_so : Int32) (r_sz : Int32) (r_e_n : Nat) (r_e_f : Nat → Int32) (h_r : wi L F r (eR r_e r_so r_sz)) (h_r_e : wi L F r_e (eI cI r_e_n r_e_f)) (hn : r_e_n < 2147483648) : wMw l D cI cP cS cL yX3_begin wsX3_begin ({ frames := 1, cells := 0, slots := 0, locals := 23 } : Room) [.ref r, .int newSort, .int newSize] L F (fun F1 => ∃ y9 : Int32 × Int32 × (Nat → Int32), y9 = (f_X3_begin newSort newSize r_e_n r_e_f) ∧ F1 r = (eR r_e y9.1 y9.2.1) ∧ F1 r_e = (eI cI r_e_n y9.2.2) ∧ wk (fun q : Nat => q ≠ r ∧ q ≠ r_e ∧ True) F1 F) := by
  refine wM.of (cc := cX3_begin) (maxL := 3) (ret := none) (by decide) rfl (Nat.le_of_ble_eq_true rfl) ?_
  intro pZ eZ sZ mZ below meth cZ A ls C hl w
  obtain ⟨hx, hb, hr, hml, hts, hown, hlocks, hK, hA, hin⟩ := C
  have hown : sZ.vm.findClass RX3 = some mZ.cls := hown
  have hl : lv_has ls 3 [(0, .ref r), (1, .int newSort), (2, .int newSize)] := hl
  have m_0 : ((.fieldLink RX3 15 "TwoThirds$Row" "sort" "I") : Cond) ∈ wsX3_begin := by decide +kernel
  have i_X3 : ∀ w ∈ wsX30, w ∈ wsX3_begin := by decide +kernel
  have m_2 : ((.fieldLink RX3 9 "TwoThirds$Row" "elements" "[I") : Cond) ∈ wsX3_begin := by decide +kernel
  have m_3 : ((.methodLink RX3 19 Lib.Math.min.name) : Cond) ∈ wsX3_begin := by decide +kernel
  have m_4 : ((.static Lib.Math.min.name) : Cond) ∈ wsX3_begin := by decide +kernel
  have m_5 : ((.initialized "java/lang/Math") : Cond) ∈ wsX3_begin := by decide +kernel
  have m_6 : ((.code Lib.Math.min.name Lib.Math.min.code 2 (some .int)) : Cond) ∈ wsX3_begin := by decide +kernel
  have m_7 : ((.fieldLink RX3 25 "TwoThirds$Row" "size" "I") : Cond) ∈ wsX3_begin := by decide +kernel
  have hk : wk (fun q : Nat => q ≠ r ∧ q ≠ r_e ∧ True) F F := wk.rf
  have hq : f_X3_begin newSort newSize r_e_n r_e_f = f_X3_begin newSort newSize r_e_n r_e_f := rfl
  refine lv_aload_n hx hb dX3_begin_0 rfl (lv_at hl 0 rfl) ?_
  refine lv_iload_n hx hb dX3_begin_1 rfl (lv_at hl 1 rfl) ?_
  have ho1 := h_r
  refine w_put (fs2 := [.ref r_e, .int newSort, .int r_sz]) hx hb hts i_X3 tyX3 tyX3_ok nmX3 hown hK w h_r rfl 1 (by decide) (hts _ m_0) rfl rfl rfl (Nat.le_of_ble_eq_true rfl) rfl dX3_begin_2 (fun H locs w h_r => ?_)
  have h_r_e := h_r_e.upw h_r (wi.ne h_r_e ho1 (by intro h; cases h))
  have hk := hk.upw h_r (fun q h => h.1)
  refine lv_aload_n hx hb dX3_begin_5 rfl (lv_at hl 0 rfl) ?_
  refine lv_iload_n hx hb dX3_begin_6 rfl (lv_at hl 2 rfl) ?_
  refine lv_if_ge (tgt := 14) hx hb dX3_begin_7 (by decide) (fun c2 => ?_) (fun c2 => ?_)
  · skip
    have hq := hq.trans (if_pos c2)
    refine lv_iload_n hx hb dX3_begin_14 rfl (lv_at hl 2 rfl) ?_
    refine lv_aload_n hx hb dX3_begin_15 rfl (lv_at hl 0 rfl) ?_
    refine w_get (v := .ref r_e) hx hb hts i_X3 hown hK w h_r rfl 0 (by decide) (hts _ m_2) rfl dX3_begin_16 ?_
    refine w_len (v := (Int32.ofNat r_e_n)) hx hb hK w h_r_e 0 rfl rfl dX3_begin_19 ?_
    refine va_mmin hx hb (hml.trans hl.1.symm) hown (hts _ m_3) (hts _ m_4) (hts _ m_5) (hts _ m_6) (Nat.le_of_ble_eq_true rfl) (Nat.le_of_ble_eq_true rfl) (Nat.zero_le _) (Nat.zero_le _) dX3_begin_20 ?_
    have ho3 := h_r
    refine w_put (fs2 := [.ref r_e, .int newSort, .int (if (Int32.ofNat r_e_n) < newSize then (Int32.ofNat r_e_n) else newSize)]) hx hb hts i_X3 tyX3 tyX3_ok nmX3 hown hK w h_r rfl 2 (by decide) (hts _ m_7) rfl rfl rfl (Nat.le_of_ble_eq_true rfl) rfl dX3_begin_23 (fun H locs w h_r => ?_)
    have h_r_e := h_r_e.upw h_r (wi.ne h_r_e ho3 (by intro h; cases h))
    have hk := hk.upw h_r (fun q h => h.1)
    refine lv_aload_n hx hb dX3_begin_26 rfl (lv_at hl 0 rfl) ?_
    refine w_get (v := .ref r_e) hx hb hts i_X3 hown hK w h_r rfl 0 (by decide) (hts _ m_2) rfl dX3_begin_27 ?_
    refine lv_iconst (v := 0) hx hb dX3_begin_30 (by decide) ?_
    refine w_finw (w_runS (rm := ({ frames := 0, cells := 0, slots := 0, locals := 0 } : Room)) (As := [.ref r_e, .int 0]) (rest := []) (n := 2) hx hb hml hts hown hK w (c_J7_fill_53178 l D cI cP cS cL L _ r_e 0 r_e_n r_e_f h_r_e hn) gX3_begin_J7_fill_53178 rfl rfl rfl (by decide +kernel) ⟨(Nat.le_of_ble_eq_true rfl), (Nat.le_of_ble_eq_true rfl)⟩ rfl hl.1 rfl (Nat.le_of_ble_eq_true rfl) dX3_begin_31 ⟨(Nat.le_of_ble_eq_true rfl), (Nat.le_of_ble_eq_true rfl)⟩) w hA (fun F1 H locs hp w => ?_)
    obtain ⟨x31, hx31, hw0, hk9⟩ := hp
    have hq := hq.trans (w_bnd hx31)
    have h_r := h_r.keep hk9 ⟨(wi.ne h_r h_r_e (by intro h; cases h)), trivial⟩
    have h_r_e := h_r_e.new hw0
    have hk := hk.call hk9 (fun q h => ⟨h.2.1, trivial⟩)
    exact w_vret hx hb hr hlocks w ⟨rfl, _, hq.symm, h_r.2, h_r_e.2, hk⟩ (Nat.le_refl _) (Nat.le_refl _) dX3_begin_34
  · skip
    have hq := hq.trans (if_neg c2)
    refine lv_iconst (v := 0) hx hb dX3_begin_10 (by decide) ?_
    refine lv_goto (tgt := 23) hx hb dX3_begin_11 (by decide) ?_
    have ho4 := h_r
    refine w_put (fs2 := [.ref r_e, .int newSort, .int 0]) hx hb hts i_X3 tyX3 tyX3_ok nmX3 hown hK w h_r rfl 2 (by decide) (hts _ m_7) rfl rfl rfl (Nat.le_of_ble_eq_true rfl) rfl dX3_begin_23 (fun H locs w h_r => ?_)
    have h_r_e := h_r_e.upw h_r (wi.ne h_r_e ho4 (by intro h; cases h))
    have hk := hk.upw h_r (fun q h => h.1)
    refine lv_aload_n hx hb dX3_begin_26 rfl (lv_at hl 0 rfl) ?_
    refine w_get (v := .ref r_e) hx hb hts i_X3 hown hK w h_r rfl 0 (by decide) (hts _ m_2) rfl dX3_begin_27 ?_
    refine lv_iconst (v := 0) hx hb dX3_begin_30 (by decide) ?_
    refine w_finw (w_runS (rm := ({ frames := 0, cells := 0, slots := 0, locals := 0 } : Room)) (As := [.ref r_e, .int 0]) (rest := []) (n := 2) hx hb hml hts hown hK w (c_J7_fill_53178 l D cI cP cS cL L _ r_e 0 r_e_n r_e_f h_r_e hn) gX3_begin_J7_fill_53178 rfl rfl rfl (by decide +kernel) ⟨(Nat.le_of_ble_eq_true rfl), (Nat.le_of_ble_eq_true rfl)⟩ rfl hl.1 rfl (Nat.le_of_ble_eq_true rfl) dX3_begin_31 ⟨(Nat.le_of_ble_eq_true rfl), (Nat.le_of_ble_eq_true rfl)⟩) w hA (fun F1 H locs hp w => ?_)
    obtain ⟨x31, hx31, hw0, hk9⟩ := hp
    have hq := hq.trans (w_bnd hx31)
    have h_r := h_r.keep hk9 ⟨(wi.ne h_r h_r_e (by intro h; cases h)), trivial⟩
    have h_r_e := h_r_e.new hw0
    have hk := hk.call hk9 (fun q h => ⟨h.2.1, trivial⟩)
    exact w_vret hx hb hr hlocks w ⟨rfl, _, hq.symm, h_r.2, h_r_e.2, hk⟩ (Nat.le_refl _) (Nat.le_refl _) dX3_begin_34
theorem begin_le {so sz : Int32} {n : Nat} {f : Nat → Int32} (hn : n < 2147483648) : (f_X3_begin so sz n f).2.1.toInt ≤ n := by
  unfold f_X3_begin
  by_cases h : 0 ≤ sz
  · rw [if_pos h]
    show (if Int32.ofNat n < sz then Int32.ofNat n else sz).toInt ≤ n
    have h0 : (Int32.ofNat n).toInt = n := nI_toInt (n := n) (by omega)
    split
    · omega
    · rename_i h1
      rw [Int32.lt_iff_toInt_lt] at h1
      omega
  · rw [if_neg h]
    show (0 : Int32).toInt ≤ n
    rw [Int32.toInt_zero]
    omega
def f_X3_takeFrom_L14 (o_sz : Int32) (o_e_f : Nat → Int32) (x9 : Int32 × Int32 × (Nat → Int32)) : Nat → Nat → (Nat → Int32) → Int32 × Int32 × (Nat → Int32)
  | 0, _, _ => (0, 0, (fun _ => 0))
  | n + 1, k, u_r_e_f => if x9.2.1 ≤ (nI k) then (x9.1, x9.2.1, u_r_e_f) else (f_X3_takeFrom_L14 o_sz o_e_f x9 n ((k + 1)) (upd u_r_e_f k (f_X3_at (nI k) o_sz o_e_f)))
theorem f_X3_takeFrom_L14_s (o_sz : Int32) (o_e_f : Nat → Int32) (x9 : Int32 × Int32 × (Nat → Int32)) (n k : Nat) (u_r_e_f : Nat → Int32) : f_X3_takeFrom_L14 o_sz o_e_f x9 (n + 1) k u_r_e_f = (if x9.2.1 ≤ (nI k) then (x9.1, x9.2.1, u_r_e_f) else (f_X3_takeFrom_L14 o_sz o_e_f x9 n ((k + 1)) (upd u_r_e_f k (f_X3_at (nI k) o_sz o_e_f)))) := rfl
def f_X3_takeFrom (r_e_n : Nat) (r_e_f : Nat → Int32) (o_so : Int32) (o_sz : Int32) (o_e_f : Nat → Int32) : Int32 × Int32 × (Nat → Int32) := (bnd (f_X3_begin o_so o_sz r_e_n r_e_f) (fun x9 : Int32 × Int32 × (Nat → Int32) => f_X3_takeFrom_L14 o_sz o_e_f x9 (x9.2.1.toNatClampNeg + 1) 0 x9.2.2))
set_option maxHeartbeats 400000 in
set_option maxRecDepth 100000 in
theorem c_X3_takeFrom (l : Launch) (D : va_G) (cI cP cS cL : ClassId) (L : List Nat) (F : Nat → va_E) (r : Nat) (o : Nat) (r_e : Nat) (r_so : Int32) (r_sz : Int32) (r_e_n : Nat) (r_e_f : Nat → Int32) (o_e : Nat) (o_so : Int32) (o_sz : Int32) (o_e_n : Nat) (o_e_f : Nat → Int32) (h_r : wi L F r (eR r_e r_so r_sz)) (h_r_e : wi L F r_e (eI cI r_e_n r_e_f)) (h_o : wi L F o (eR o_e o_so o_sz)) (h_o_e : wi L F o_e (eI cI o_e_n o_e_f)) (hn : r_e_n < 2147483648) (hz : o_sz.toInt ≤ o_e_n) (ne_or : o ≠ r) (ne_oer : o_e ≠ r_e) : wMw l D cI cP cS cL yX3_takeFrom wsX3_takeFrom ({ frames := 2, cells := 0, slots := 0, locals := 45 } : Room) [.ref r, .ref o] L F (fun F1 => ∃ y9 : Int32 × Int32 × (Nat → Int32), y9 = (f_X3_takeFrom r_e_n r_e_f o_so o_sz o_e_f) ∧ F1 r = (eR r_e y9.1 y9.2.1) ∧ F1 r_e = (eI cI r_e_n y9.2.2) ∧ wk (fun q : Nat => q ≠ r ∧ q ≠ r_e ∧ True) F1 F) := by
  refine wM.of (cc := cX3_takeFrom) (maxL := 3) (ret := none) (by decide) rfl (Nat.le_of_ble_eq_true rfl) ?_
  intro pZ eZ sZ mZ below meth cZ A ls C hl w
  obtain ⟨hx, hb, hr, hml, hts, hown, hlocks, hK, hA, hin⟩ := C
  have hown : sZ.vm.findClass RX3 = some mZ.cls := hown
  have hl : lv_has ls 3 [(0, .ref r), (1, .ref o)] := hl
  have m_0 : ((.fieldLink RX3 15 "TwoThirds$Row" "sort" "I") : Cond) ∈ wsX3_takeFrom := by decide +kernel
  have i_X3 : ∀ w ∈ wsX30, w ∈ wsX3_takeFrom := by decide +kernel
  have m_2 : ((.fieldLink RX3 25 "TwoThirds$Row" "size" "I") : Cond) ∈ wsX3_takeFrom := by decide +kernel
  have m_3 : ((.fieldLink RX3 9 "TwoThirds$Row" "elements" "[I") : Cond) ∈ wsX3_takeFrom := by decide +kernel
  have hk : wk (fun q : Nat => q ≠ r ∧ q ≠ r_e ∧ True) F F := wk.rf
  have hq : f_X3_takeFrom r_e_n r_e_f o_so o_sz o_e_f = f_X3_takeFrom r_e_n r_e_f o_so o_sz o_e_f := rfl
  refine lv_aload_n hx hb dX3_takeFrom_0 rfl (lv_at hl 0 rfl) ?_
  refine lv_aload_n hx hb dX3_takeFrom_1 rfl (lv_at hl 1 rfl) ?_
  refine w_get (v := .int o_so) hx hb hts i_X3 hown hK w h_o rfl 1 (by decide) (hts _ m_0) rfl dX3_takeFrom_2 ?_
  refine lv_aload_n hx hb dX3_takeFrom_5 rfl (lv_at hl 1 rfl) ?_
  refine w_get (v := .int o_sz) hx hb hts i_X3 hown hK w h_o rfl 2 (by decide) (hts _ m_2) rfl dX3_takeFrom_6 ?_
  refine w_finw (w_runV (rm := ({ frames := 1, cells := 0, slots := 0, locals := 23 } : Room)) (As := [.int o_so, .int o_sz]) (rest := []) (n := 2) hx hb hml hts hown hK w (c_X3_begin l D cI cP cS cL L _ r o_so o_sz r_e r_so r_sz r_e_n r_e_f h_r h_r_e hn) gX3_takeFrom_X3_begin rfl rfl rfl (by decide +kernel) ⟨(Nat.le_of_ble_eq_true rfl), (Nat.le_of_ble_eq_true rfl)⟩ h_r rfl rfl hl.1 rfl (Nat.le_of_ble_eq_true rfl) dX3_takeFrom_9 ⟨(Nat.le_of_ble_eq_true rfl), (Nat.le_of_ble_eq_true rfl)⟩) w hA (fun F1 H locs hp w => ?_)
  obtain ⟨x9, hx9, hw0, hw1, hk9⟩ := hp
  have hq := hq.trans (w_bnd hx9)
  have h_o := h_o.keep hk9 ⟨ne_or, (wi.ne h_o h_r_e (by intro h; cases h)), trivial⟩
  have h_o_e := h_o_e.keep hk9 ⟨(wi.ne h_o_e h_r (by intro h; cases h)), ne_oer, trivial⟩
  have h_r := h_r.new hw0
  have h_r_e := h_r_e.new hw1
  have hk := hk.call hk9 (fun q h => ⟨h.1, h.2.1, trivial⟩)
  refine lv_iconst (v := 0) hx hb dX3_takeFrom_12 (by decide) ?_
  refine lv_istore_n (lv' := [(2, .int 0), (0, .ref r), (1, .ref o)]) hx hb dX3_takeFrom_13 rfl hl (by decide) rfl (fun ls hl => ?_)
  have hL14 : ∀ (n k : Nat) (u_r_e_f : Nat → Int32) (F1 : Nat → va_E) (H : Heap) (locs : List Loc) (ls : Array Slot), k ≤ x9.2.1.toNatClampNeg → x9.2.1.toNatClampNeg - k < n → f_X3_takeFrom r_e_n r_e_f o_so o_sz o_e_f = f_X3_takeFrom_L14 o_sz o_e_f x9 n k u_r_e_f → lv_has ls 3 [(0, .ref r), (1, .ref o), (2, .int (nI k))] → ww D A sZ.heap L F1 H locs → (wi L F1 r (eR r_e x9.1 x9.2.1)) → (wi L F1 r_e (eI cI r_e_n u_r_e_f)) → (wi L F1 o (eR o_e o_so o_sz)) → (wi L F1 o_e (eI cI o_e_n o_e_f)) → wk (fun q : Nat => q ≠ r ∧ q ≠ r_e ∧ True) F1 F → W pZ l eZ ({ frames := 2, cells := 0, slots := 0, locals := 45 } : Room) sZ mZ [.ref r, .ref o].toArray below meth cZ H locs 0 0 (MQ below (wQv D A (fun L1 F1 => L1 = L ∧ ∃ y9 : Int32 × Int32 × (Nat → Int32), y9 = (f_X3_takeFrom r_e_n r_e_f o_so o_sz o_e_f) ∧ F1 r = (eR r_e y9.1 y9.2.1) ∧ F1 r_e = (eI cI r_e_n y9.2.2) ∧ wk (fun q : Nat => q ≠ r ∧ q ≠ r_e ∧ True) F1 F)) [.ref r, .ref o].toArray sZ 0 0 A) (F0 mZ 14 ls []) := by
    intro n; induction n with
    | zero => intro k u_r_e_f F1 H locs ls hkT hmeas; exact absurd hmeas (Nat.not_lt_zero _)
    | succ n ih =>
      intro k u_r_e_f F1 H locs ls hkT hmeas hq hl w h_r h_r_e h_o h_o_e hk
      have hk31 : k < 2147483648 := Nat.lt_of_le_of_lt hkT (w_clamp_lt _)
      have hq := hq.trans (f_X3_takeFrom_L14_s o_sz o_e_f x9 n k u_r_e_f)
      refine lv_iload_n hx hb dX3_takeFrom_14 rfl (lv_at hl 2 rfl) ?_
      refine lv_aload_n hx hb dX3_takeFrom_15 rfl (lv_at hl 0 rfl) ?_
      refine w_get (v := .int x9.2.1) hx hb hts i_X3 hown hK w h_r rfl 2 (by decide) (hts _ m_2) rfl dX3_takeFrom_16 ?_
      refine lv_icmp_ge (tgt := 39) hx hb dX3_takeFrom_19 (by decide) (fun c1 => ?_) (fun c1 => ?_)
      · skip
        have hq := hq.trans (if_pos c1)
        exact w_vret hx hb hr hlocks w ⟨rfl, _, hq.symm, h_r.2, h_r_e.2, hk⟩ (Nat.le_refl _) (Nat.le_refl _) dX3_takeFrom_39
      · skip
        have hq := hq.trans (if_neg c1)
        have hlt19 : k < x9.2.1.toNatClampNeg := w_ltk hk31 c1
        refine lv_aload_n hx hb dX3_takeFrom_22 rfl (lv_at hl 0 rfl) ?_
        refine w_get (v := .ref r_e) hx hb hts i_X3 hown hK w h_r rfl 0 (by decide) (hts _ m_3) rfl dX3_takeFrom_23 ?_
        refine lv_iload_n hx hb dX3_takeFrom_26 rfl (lv_at hl 2 rfl) ?_
        refine lv_aload_n hx hb dX3_takeFrom_27 rfl (lv_at hl 1 rfl) ?_
        refine lv_iload_n hx hb dX3_takeFrom_28 rfl (lv_at hl 2 rfl) ?_
        refine w_finI (w_runV (rm := ({ frames := 0, cells := 0, slots := 0, locals := 0 } : Room)) (As := [.int (nI k)]) (rest := [.int (nI k), .ref r_e]) (n := 1) hx hb hml hts hown hK w (c_X3_at l D cI cP cS cL L _ o (nI k) o_e o_so o_sz o_e_n o_e_f h_o h_o_e hz) gX3_takeFrom_X3_at rfl rfl rfl (by decide +kernel) ⟨(Nat.le_of_ble_eq_true rfl), (Nat.le_of_ble_eq_true rfl)⟩ h_o rfl rfl hl.1 rfl (Nat.le_of_ble_eq_true rfl) dX3_takeFrom_29 ⟨(Nat.le_of_ble_eq_true rfl), (Nat.le_of_ble_eq_true rfl)⟩) w hA (fun H locs w => ?_)
        have ho2 := h_r_e
        refine w_ist (j := k) hx hb hK w h_r_e (w_inK hlt19 (by rw [hx9]; exact begin_le hn)) (nI_clamp (by omega)) dX3_takeFrom_32 (fun H locs w h_r_e => ?_)
        have h_r := h_r.upw h_r_e (wi.ne h_r ho2 (by intro h; cases h))
        have h_o := h_o.upw h_r_e (wi.ne h_o ho2 (by intro h; cases h))
        have h_o_e := h_o_e.upw h_r_e ne_oer
        have hk := hk.upw h_r_e (fun q h => h.2.1)
        refine lv_iinc (v := (nI (k + 1))) (lv' := [(2, .int (nI (k + 1))), (0, .ref r), (1, .ref o)]) hx hb dX3_takeFrom_33 hl (k := 2) rfl (w_inc _) (by decide) rfl (fun ls hl => ?_)
        refine lv_goto (tgt := 14) hx hb dX3_takeFrom_36 (by decide) ?_
        exact ih ((k + 1)) (upd u_r_e_f k (f_X3_at (nI k) o_sz o_e_f)) _ _ _ _ (by omega) (by omega) hq (lv_sub hl [1, 2, 0] rfl) w h_r h_r_e h_o h_o_e hk
  exact hL14 (x9.2.1.toNatClampNeg + 1) 0 x9.2.2 _ _ _ _ (Nat.zero_le _) (by omega) hq (lv_sub hl [1, 2, 0] rfl) w h_r h_r_e h_o h_o_e hk
def f_X0_mixed_L10 (k0 : Int32) (g_up : Int32) (g_down : Int32) (g_high : Int32) : Nat → Nat → Int32 → Int32 → Int32
  | 0, _, _, _ => 0
  | n + 1, k, v2, v3 => if k0 < (nI k) then v2 else (f_X0_mixed_L10 k0 g_up g_down g_high n ((k + 1)) (f_X0_shareOf (f_X5_over (v3 + v2) (nI k)) g_up g_down g_high) (v3 + v2))
theorem f_X0_mixed_L10_s (k0 : Int32) (g_up : Int32) (g_down : Int32) (g_high : Int32) (n k : Nat) (v2 : Int32) (v3 : Int32) : f_X0_mixed_L10 k0 g_up g_down g_high (n + 1) k v2 v3 = (if k0 < (nI k) then v2 else (f_X0_mixed_L10 k0 g_up g_down g_high n ((k + 1)) (f_X0_shareOf (f_X5_over (v3 + v2) (nI k)) g_up g_down g_high) (v3 + v2))) := rfl
def f_X0_mixed (k0 : Int32) (g_up : Int32) (g_down : Int32) (g_high : Int32) : Int32 := f_X0_mixed_L10 k0 g_up g_down g_high (k0.toNatClampNeg + 1 + 1) 1 (f_X0_middle g_high) 0
set_option maxHeartbeats 400000 in
set_option maxRecDepth 100000 in
theorem c_X0_mixed (l : Launch) (D : va_G) (cI cP cS cL : ClassId) (L : List Nat) (F : Nat → va_E) (g : Nat) (k0 : Int32) (g_up : Int32) (g_down : Int32) (g_high : Int32) (g_prize : Int32) (g_z : Int32) (g_rounds : Int32) (g_people : Int32) (g_pa : Nat) (g_cr : Nat) (g_ls : Int32) (h_g : wi L F g (eG g_up g_down g_high g_prize g_z g_rounds g_people g_pa g_cr g_ls)) (hst : k0.toInt ≤ 1000) : wMI l D cI cP cS cL yX0_mixed wsX0_mixed ({ frames := 2, cells := 0, slots := 0, locals := 42 } : Room) [.ref g, .int k0] L F (f_X0_mixed k0 g_up g_down g_high) F := by
  refine wM.of (cc := cX0_mixed) (maxL := 5) (ret := (some .int)) (by decide) rfl (Nat.le_of_ble_eq_true rfl) ?_
  intro pZ eZ sZ mZ below meth cZ A ls C hl w
  obtain ⟨hx, hb, hr, hml, hts, hown, hlocks, hK, hA, hin⟩ := C
  have hown : sZ.vm.findClass RX0 = some mZ.cls := hown
  have hl : lv_has ls 5 [(0, .ref g), (1, .int k0)] := hl
  have m_0 : ((.initialized RX5) : Cond) ∈ wsX0_mixed := by decide +kernel
  have m_1 : ((.static yX5_over) : Cond) ∈ wsX0_mixed := by decide +kernel
  have hq : f_X0_mixed k0 g_up g_down g_high = f_X0_mixed k0 g_up g_down g_high := rfl
  refine lv_aload_n hx hb dX0_mixed_0 rfl (lv_at hl 0 rfl) ?_
  refine w_finI (w_runV (rm := ({ frames := 0, cells := 0, slots := 0, locals := 0 } : Room)) (As := []) (rest := []) (n := 0) hx hb hml hts hown hK w (c_X0_middle l D cI cP cS cL L _ g g_up g_down g_high g_prize g_z g_rounds g_people g_pa g_cr g_ls h_g) gX0_mixed_X0_middle rfl rfl rfl (by decide +kernel) ⟨(Nat.le_of_ble_eq_true rfl), (Nat.le_of_ble_eq_true rfl)⟩ h_g rfl rfl hl.1 rfl (Nat.le_of_ble_eq_true rfl) dX0_mixed_1 ⟨(Nat.le_of_ble_eq_true rfl), (Nat.le_of_ble_eq_true rfl)⟩) w hA (fun H locs w => ?_)
  refine lv_istore_n (lv' := [(2, .int (f_X0_middle g_high)), (0, .ref g), (1, .int k0)]) hx hb dX0_mixed_4 rfl hl (by decide) rfl (fun ls hl => ?_)
  refine lv_iconst (v := 0) hx hb dX0_mixed_5 (by decide) ?_
  refine lv_istore_n (lv' := [(3, .int 0), (2, .int (f_X0_middle g_high)), (0, .ref g), (1, .int k0)]) hx hb dX0_mixed_6 rfl hl (by decide) rfl (fun ls hl => ?_)
  refine lv_iconst (v := 1) hx hb dX0_mixed_7 (by decide) ?_
  refine lv_istore (lv' := [(4, .int 1), (3, .int 0), (2, .int (f_X0_middle g_high)), (0, .ref g), (1, .int k0)]) hx hb dX0_mixed_8 hl (by decide) rfl (fun ls hl => ?_)
  have hL10 : ∀ (n k : Nat) (v2 : Int32) (v3 : Int32) (H : Heap) (locs : List Loc) (ls : Array Slot), k ≤ k0.toNatClampNeg + 1 → k0.toNatClampNeg + 1 - k < n → f_X0_mixed k0 g_up g_down g_high = f_X0_mixed_L10 k0 g_up g_down g_high n k v2 v3 → lv_has ls 5 [(0, .ref g), (1, .int k0), (2, .int v2), (3, .int v3), (4, .int (nI k))] → ww D A sZ.heap L F H locs → W pZ l eZ ({ frames := 2, cells := 0, slots := 0, locals := 42 } : Room) sZ mZ [.ref g, .int k0].toArray below meth cZ H locs 0 0 (MQ below (wQi D A (fun r1 L1 F1 => r1 = (f_X0_mixed k0 g_up g_down g_high) ∧ L1 = L ∧ F1 = F)) [.ref g, .int k0].toArray sZ 0 0 A) (F0 mZ 10 ls []) := by
    intro n; induction n with
    | zero => intro k v2 v3 H locs ls hkT hmeas; exact absurd hmeas (Nat.not_lt_zero _)
    | succ n ih =>
      intro k v2 v3 H locs ls hkT hmeas hq hl w
      have hk31 : k < 2147483648 := (by have := hst; have : k0.toNatClampNeg = k0.toInt.toNat := rfl; omega)
      have hq := hq.trans (f_X0_mixed_L10_s k0 g_up g_down g_high n k v2 v3)
      refine lv_iload hx hb dX0_mixed_10 (lv_at hl 4 rfl) ?_
      refine lv_iload_n hx hb dX0_mixed_12 rfl (lv_at hl 1 rfl) ?_
      refine lv_icmp_gt (tgt := 37) hx hb dX0_mixed_13 (by decide) (fun c1 => ?_) (fun c1 => ?_)
      · skip
        have hq := hq.trans (if_pos c1)
        refine lv_iload_n hx hb dX0_mixed_37 rfl (lv_at hl 2 rfl) ?_
        exact w_iret hx hb hr hlocks w ⟨hq.symm, rfl, rfl⟩ (Nat.le_refl _) (Nat.le_refl _) dX0_mixed_38
      · skip
        have hq := hq.trans (if_neg c1)
        have hlt13 : k < k0.toNatClampNeg + 1 := w_lek hk31 c1
        refine lv_iload_n hx hb dX0_mixed_16 rfl (lv_at hl 3 rfl) ?_
        refine lv_iload_n hx hb dX0_mixed_17 rfl (lv_at hl 2 rfl) ?_
        refine lv_iadd hx hb dX0_mixed_18 ?_
        refine lv_istore_n (lv' := [(3, .int (v3 + v2)), (0, .ref g), (1, .int k0), (2, .int v2), (4, .int (nI k))]) hx hb dX0_mixed_19 rfl hl (by decide) rfl (fun ls hl => ?_)
        refine lv_aload_n hx hb dX0_mixed_20 rfl (lv_at hl 1 rfl) ?_
        refine lv_iload_n hx hb dX0_mixed_21 rfl (lv_at hl 0 rfl) ?_
        refine lv_iload hx hb dX0_mixed_22 (lv_at hl 4 rfl) ?_
        refine w_finI (w_runN (rm := ({ frames := 0, cells := 0, slots := 0, locals := 0 } : Room)) (As := [.int (v3 + v2), .int (nI k)]) (rest := [.ref g]) (n := 2) hx hb hml hts hown hK w (c_X5_over l D cI cP cS cL L _ (v3 + v2) (nI k) ) gX0_mixed_X5_over_n105 rfl rfl rfl hK.2.1 m_0 m_1 (by decide +kernel) ⟨(Nat.le_of_ble_eq_true rfl), (Nat.le_of_ble_eq_true rfl)⟩ rfl hl.1 rfl (Nat.le_of_ble_eq_true rfl) dX0_mixed_24 ⟨(Nat.le_of_ble_eq_true rfl), (Nat.le_of_ble_eq_true rfl)⟩) w hA (fun H locs w => ?_)
        refine w_finI (w_runV (rm := ({ frames := 1, cells := 0, slots := 0, locals := 21 } : Room)) (As := [.int (f_X5_over (v3 + v2) (nI k))]) (rest := []) (n := 1) hx hb hml hts hown hK w (c_X0_shareOf l D cI cP cS cL L _ g (f_X5_over (v3 + v2) (nI k)) g_up g_down g_high g_prize g_z g_rounds g_people g_pa g_cr g_ls h_g) gX0_mixed_X0_shareOf rfl rfl rfl (by decide +kernel) ⟨(Nat.le_of_ble_eq_true rfl), (Nat.le_of_ble_eq_true rfl)⟩ h_g rfl rfl hl.1 rfl (Nat.le_of_ble_eq_true rfl) dX0_mixed_27 ⟨(Nat.le_of_ble_eq_true rfl), (Nat.le_of_ble_eq_true rfl)⟩) w hA (fun H locs w => ?_)
        refine lv_istore_n (lv' := [(2, .int (f_X0_shareOf (f_X5_over (v3 + v2) (nI k)) g_up g_down g_high)), (3, .int (v3 + v2)), (0, .ref g), (1, .int k0), (4, .int (nI k))]) hx hb dX0_mixed_30 rfl hl (by decide) rfl (fun ls hl => ?_)
        refine lv_iinc (v := (nI (k + 1))) (lv' := [(4, .int (nI (k + 1))), (2, .int (f_X0_shareOf (f_X5_over (v3 + v2) (nI k)) g_up g_down g_high)), (3, .int (v3 + v2)), (0, .ref g), (1, .int k0)]) hx hb dX0_mixed_31 hl (k := 4) rfl (w_inc _) (by decide) rfl (fun ls hl => ?_)
        refine lv_goto (tgt := 10) hx hb dX0_mixed_34 (by decide) ?_
        exact ih ((k + 1)) (f_X0_shareOf (f_X5_over (v3 + v2) (nI k)) g_up g_down g_high) (v3 + v2) _ _ _ (by omega) (by omega) hq (lv_sub hl [3, 4, 1, 2, 0] rfl) w
  exact hL10 (k0.toNatClampNeg + 1 + 1) 1 (f_X0_middle g_high) 0 _ _ _ (by omega) (by omega) hq (lv_sub hl [3, 4, 2, 1, 0] rfl) w
def f_X0_learned (k0 : Int32) (g_up : Int32) (g_down : Int32) (g_high : Int32) (g_rounds : Int32) (g_people : Int32) (g_ls : Int32) : Int32 := if g_rounds = (0 : Int32) then (f_X0_sharedTimes (f_X0_middle g_high) k0 g_up g_down g_high) else (if k0 = (0 : Int32) then (f_X0_sharedTimes (f_X5_over g_ls g_people) 1 g_up g_down g_high) else (f_X0_sharedTimes (f_X5_over g_ls g_people) k0 g_up g_down g_high))
set_option maxHeartbeats 400000 in
set_option maxRecDepth 100000 in
theorem c_X0_learned (l : Launch) (D : va_G) (cI cP cS cL : ClassId) (L : List Nat) (F : Nat → va_E) (g : Nat) (k0 : Int32) (g_up : Int32) (g_down : Int32) (g_high : Int32) (g_prize : Int32) (g_z : Int32) (g_rounds : Int32) (g_people : Int32) (g_pa : Nat) (g_cr : Nat) (g_ls : Int32) (h_g : wi L F g (eG g_up g_down g_high g_prize g_z g_rounds g_people g_pa g_cr g_ls)) : wMI l D cI cP cS cL yX0_learned wsX0_learned ({ frames := 3, cells := 0, slots := 0, locals := 66 } : Room) [.ref g, .int k0] L F (f_X0_learned k0 g_up g_down g_high g_rounds g_people g_ls) F := by
  refine wM.of (cc := cX0_learned) (maxL := 2) (ret := (some .int)) (by decide) rfl (Nat.le_of_ble_eq_true rfl) ?_
  intro pZ eZ sZ mZ below meth cZ A ls C hl w
  obtain ⟨hx, hb, hr, hml, hts, hown, hlocks, hK, hA, hin⟩ := C
  have hown : sZ.vm.findClass RX0 = some mZ.cls := hown
  have hl : lv_has ls 2 [(0, .ref g), (1, .int k0)] := hl
  have m_0 : ((.fieldLink RX0 43 "TwoThirds$Game" "rounds" "I") : Cond) ∈ wsX0_learned := by decide +kernel
  have i_X0 : ∀ w ∈ wsX00, w ∈ wsX0_learned := by decide +kernel
  have m_2 : ((.fieldLink RX0 56 "TwoThirds$Game" "lastSum" "I") : Cond) ∈ wsX0_learned := by decide +kernel
  have m_3 : ((.fieldLink RX0 46 "TwoThirds$Game" "people" "I") : Cond) ∈ wsX0_learned := by decide +kernel
  have m_4 : ((.initialized RX5) : Cond) ∈ wsX0_learned := by decide +kernel
  have m_5 : ((.static yX5_over) : Cond) ∈ wsX0_learned := by decide +kernel
  have hq : f_X0_learned k0 g_up g_down g_high g_rounds g_people g_ls = f_X0_learned k0 g_up g_down g_high g_rounds g_people g_ls := rfl
  refine lv_aload_n hx hb dX0_learned_0 rfl (lv_at hl 0 rfl) ?_
  refine w_get (v := .int g_rounds) hx hb hts i_X0 hown hK w h_g rfl 5 (by decide) (hts _ m_0) rfl dX0_learned_1 ?_
  refine lv_if_ne (tgt := 17) hx hb dX0_learned_4 (by decide) (fun c1 => ?_) (fun c1 => ?_)
  · skip
    have hq := hq.trans (if_neg c1)
    refine lv_aload_n hx hb dX0_learned_17 rfl (lv_at hl 0 rfl) ?_
    refine lv_aload_n hx hb dX0_learned_18 rfl (lv_at hl 0 rfl) ?_
    refine w_get (v := .int g_ls) hx hb hts i_X0 hown hK w h_g rfl 9 (by decide) (hts _ m_2) rfl dX0_learned_19 ?_
    refine lv_aload_n hx hb dX0_learned_22 rfl (lv_at hl 0 rfl) ?_
    refine w_get (v := .int g_people) hx hb hts i_X0 hown hK w h_g rfl 6 (by decide) (hts _ m_3) rfl dX0_learned_23 ?_
    refine w_finI (w_runN (rm := ({ frames := 0, cells := 0, slots := 0, locals := 0 } : Room)) (As := [.int g_ls, .int g_people]) (rest := [.ref g]) (n := 2) hx hb hml hts hown hK w (c_X5_over l D cI cP cS cL L _ g_ls g_people ) gX0_learned_X5_over_n105 rfl rfl rfl hK.2.1 m_4 m_5 (by decide +kernel) ⟨(Nat.le_of_ble_eq_true rfl), (Nat.le_of_ble_eq_true rfl)⟩ rfl hl.1 rfl (Nat.le_of_ble_eq_true rfl) dX0_learned_26 ⟨(Nat.le_of_ble_eq_true rfl), (Nat.le_of_ble_eq_true rfl)⟩) w hA (fun H locs w => ?_)
    refine lv_iload_n hx hb dX0_learned_29 rfl (lv_at hl 1 rfl) ?_
    refine lv_if_ne (tgt := 37) hx hb dX0_learned_30 (by decide) (fun c2 => ?_) (fun c2 => ?_)
    · skip
      have hq := hq.trans (if_neg c2)
      refine lv_iload_n hx hb dX0_learned_37 rfl (lv_at hl 1 rfl) ?_
      refine w_finI (w_runV (rm := ({ frames := 2, cells := 0, slots := 0, locals := 42 } : Room)) (As := [.int (f_X5_over g_ls g_people), .int k0]) (rest := []) (n := 2) hx hb hml hts hown hK w (c_X0_sharedTimes l D cI cP cS cL L _ g (f_X5_over g_ls g_people) k0 g_up g_down g_high g_prize g_z g_rounds g_people g_pa g_cr g_ls h_g) gX0_learned_X0_sharedTimes rfl rfl rfl (by decide +kernel) ⟨(Nat.le_of_ble_eq_true rfl), (Nat.le_of_ble_eq_true rfl)⟩ h_g rfl rfl hl.1 rfl (Nat.le_of_ble_eq_true rfl) dX0_learned_38 ⟨(Nat.le_of_ble_eq_true rfl), (Nat.le_of_ble_eq_true rfl)⟩) w hA (fun H locs w => ?_)
      exact w_iret hx hb hr hlocks w ⟨hq.symm, rfl, rfl⟩ (Nat.le_refl _) (Nat.le_refl _) dX0_learned_41
    · skip
      have hq := hq.trans (if_pos c2)
      refine lv_iconst (v := 1) hx hb dX0_learned_33 (by decide) ?_
      refine lv_goto (tgt := 38) hx hb dX0_learned_34 (by decide) ?_
      refine w_finI (w_runV (rm := ({ frames := 2, cells := 0, slots := 0, locals := 42 } : Room)) (As := [.int (f_X5_over g_ls g_people), .int 1]) (rest := []) (n := 2) hx hb hml hts hown hK w (c_X0_sharedTimes l D cI cP cS cL L _ g (f_X5_over g_ls g_people) 1 g_up g_down g_high g_prize g_z g_rounds g_people g_pa g_cr g_ls h_g) gX0_learned_X0_sharedTimes rfl rfl rfl (by decide +kernel) ⟨(Nat.le_of_ble_eq_true rfl), (Nat.le_of_ble_eq_true rfl)⟩ h_g rfl rfl hl.1 rfl (Nat.le_of_ble_eq_true rfl) dX0_learned_38 ⟨(Nat.le_of_ble_eq_true rfl), (Nat.le_of_ble_eq_true rfl)⟩) w hA (fun H locs w => ?_)
      exact w_iret hx hb hr hlocks w ⟨hq.symm, rfl, rfl⟩ (Nat.le_refl _) (Nat.le_refl _) dX0_learned_41
  · skip
    have hq := hq.trans (if_pos c1)
    refine lv_aload_n hx hb dX0_learned_7 rfl (lv_at hl 0 rfl) ?_
    refine lv_aload_n hx hb dX0_learned_8 rfl (lv_at hl 0 rfl) ?_
    refine w_finI (w_runV (rm := ({ frames := 0, cells := 0, slots := 0, locals := 0 } : Room)) (As := []) (rest := [.ref g]) (n := 0) hx hb hml hts hown hK w (c_X0_middle l D cI cP cS cL L _ g g_up g_down g_high g_prize g_z g_rounds g_people g_pa g_cr g_ls h_g) gX0_learned_X0_middle rfl rfl rfl (by decide +kernel) ⟨(Nat.le_of_ble_eq_true rfl), (Nat.le_of_ble_eq_true rfl)⟩ h_g rfl rfl hl.1 rfl (Nat.le_of_ble_eq_true rfl) dX0_learned_9 ⟨(Nat.le_of_ble_eq_true rfl), (Nat.le_of_ble_eq_true rfl)⟩) w hA (fun H locs w => ?_)
    refine lv_iload_n hx hb dX0_learned_12 rfl (lv_at hl 1 rfl) ?_
    refine w_finI (w_runV (rm := ({ frames := 2, cells := 0, slots := 0, locals := 42 } : Room)) (As := [.int (f_X0_middle g_high), .int k0]) (rest := []) (n := 2) hx hb hml hts hown hK w (c_X0_sharedTimes l D cI cP cS cL L _ g (f_X0_middle g_high) k0 g_up g_down g_high g_prize g_z g_rounds g_people g_pa g_cr g_ls h_g) gX0_learned_X0_sharedTimes rfl rfl rfl (by decide +kernel) ⟨(Nat.le_of_ble_eq_true rfl), (Nat.le_of_ble_eq_true rfl)⟩ h_g rfl rfl hl.1 rfl (Nat.le_of_ble_eq_true rfl) dX0_learned_13 ⟨(Nat.le_of_ble_eq_true rfl), (Nat.le_of_ble_eq_true rfl)⟩) w hA (fun H locs w => ?_)
    exact w_iret hx hb hr hlocks w ⟨hq.symm, rfl, rfl⟩ (Nat.le_refl _) (Nat.le_refl _) dX0_learned_16
def f_X0_personAt_some (i0 : Int32) (pr : Nat → Nat) : Option Nat := (some (pr (i0.toNatClampNeg)))
set_option maxHeartbeats 400000 in
set_option maxRecDepth 100000 in
theorem c_X0_personAt_some (l : Launch) (D : va_G) (cI cP cS cL : ClassId) (L : List Nat) (F : Nat → va_E) (g : Nat) (i0 : Int32) (g_up : Int32) (g_down : Int32) (g_high : Int32) (g_prize : Int32) (g_z : Int32) (g_rounds : Int32) (g_people : Int32) (g_pa : Nat) (g_cr : Nat) (g_ls : Int32) (pr : Nat → Nat) (pr_nu : Nat → Int32) (pr_ki : Nat → Int32) (pr_st : Nat → Int32) (pr_sl : Nat → Int32) (h_g : wi L F g (eG g_up g_down g_high g_prize g_z g_rounds g_people g_pa g_cr g_ls)) (h_g_pa : wi L F g_pa (eQ cP 12 (fun i => some (pr i)))) (h_pr : ∀ i, i < 12 → wi L F (pr i) (eP (pr_nu i) (pr_ki i) (pr_st i) (pr_sl i))) (hc : ¬ i0 < 0 ∧ ¬ g_people ≤ i0) (hpp : g_people.toInt ≤ 12) : wMQ l D cI cP cS cL yX0_personAt wsX0_personAt ({ frames := 0, cells := 0, slots := 0, locals := 0 } : Room) [.ref g, .int i0] L F (f_X0_personAt_some i0 pr) F := by
  refine wM.of (cc := cX0_personAt) (maxL := 2) (ret := (some (.object "TwoThirds$Person"))) (by decide) rfl (Nat.le_of_ble_eq_true rfl) ?_
  intro pZ eZ sZ mZ below meth cZ A ls C hl w
  obtain ⟨hx, hb, hr, hml, hts, hown, hlocks, hK, hA, hin⟩ := C
  have hown : sZ.vm.findClass RX0 = some mZ.cls := hown
  have hl : lv_has ls 2 [(0, .ref g), (1, .int i0)] := hl
  have m_0 : ((.fieldLink RX0 46 "TwoThirds$Game" "people" "I") : Cond) ∈ wsX0_personAt := by decide +kernel
  have i_X0 : ∀ w ∈ wsX00, w ∈ wsX0_personAt := by decide +kernel
  have m_2 : ((.fieldLink RX0 29 "TwoThirds$Game" "persons" "[LTwoThirds$Person;") : Cond) ∈ wsX0_personAt := by decide +kernel
  have hq : f_X0_personAt_some i0 pr = f_X0_personAt_some i0 pr := rfl
  refine lv_iload_n hx hb dX0_personAt_0 rfl (lv_at hl 1 rfl) ?_
  refine lv_if_lt (tgt := 30) hx hb dX0_personAt_1 (by decide) (fun c => absurd c hc.1) (fun _ => ?_)
  refine lv_iload_n hx hb dX0_personAt_4 rfl (lv_at hl 1 rfl) ?_
  refine lv_aload_n hx hb dX0_personAt_5 rfl (lv_at hl 0 rfl) ?_
  refine w_get (v := .int g_people) hx hb hts i_X0 hown hK w h_g rfl 6 (by decide) (hts _ m_0) rfl dX0_personAt_6 ?_
  refine lv_icmp_ge (tgt := 30) hx hb dX0_personAt_9 (by decide) (fun c => absurd c hc.2) (fun _ => ?_)
  refine lv_iload_n hx hb dX0_personAt_12 rfl (lv_at hl 1 rfl) ?_
  refine lv_aload_n hx hb dX0_personAt_13 rfl (lv_at hl 0 rfl) ?_
  refine w_get (v := .ref g_pa) hx hb hts i_X0 hown hK w h_g rfl 7 (by decide) (hts _ m_2) rfl dX0_personAt_14 ?_
  refine w_len (v := 12) hx hb hK w h_g_pa 1 rfl rfl dX0_personAt_17 ?_
  refine lv_icmp_ge (tgt := 30) hx hb dX0_personAt_18 (by decide) (fun c => absurd c (w_not12 hc hpp)) (fun _ => ?_)
  refine lv_aload_n hx hb dX0_personAt_21 rfl (lv_at hl 0 rfl) ?_
  refine w_get (v := .ref g_pa) hx hb hts i_X0 hown hK w h_g rfl 7 (by decide) (hts _ m_2) rfl dX0_personAt_22 ?_
  refine lv_iload_n hx hb dX0_personAt_25 rfl (lv_at hl 1 rfl) ?_
  refine w_qldP (v := .ref (pr (i0.toNatClampNeg))) hx hb hK w h_g_pa (w_incP hc hpp) rfl dX0_personAt_26 ?_
  refine lv_goto (tgt := 31) hx hb dX0_personAt_27 (by decide) ?_
  exact w_qret hx hb hr hlocks w (r := (some (pr (i0.toNatClampNeg)))) rfl ⟨hq.symm, rfl, rfl⟩ (Nat.le_refl _) (Nat.le_refl _) dX0_personAt_31
def f_X0_personAt_none (i0 : Int32) : Option Nat := if i0 < (0 : Int32) then none else none
set_option maxHeartbeats 400000 in
set_option maxRecDepth 100000 in
theorem c_X0_personAt_none (l : Launch) (D : va_G) (cI cP cS cL : ClassId) (L : List Nat) (F : Nat → va_E) (g : Nat) (i0 : Int32) (g_up : Int32) (g_down : Int32) (g_high : Int32) (g_prize : Int32) (g_z : Int32) (g_rounds : Int32) (g_people : Int32) (g_pa : Nat) (g_cr : Nat) (g_ls : Int32) (pr : Nat → Nat) (h_g : wi L F g (eG g_up g_down g_high g_prize g_z g_rounds g_people g_pa g_cr g_ls)) (h_g_pa : wi L F g_pa (eQ cP 12 (fun i => some (pr i)))) (hc : ¬ (¬ i0 < 0 ∧ ¬ g_people ≤ i0)) : wMQ l D cI cP cS cL yX0_personAt wsX0_personAt ({ frames := 0, cells := 0, slots := 0, locals := 0 } : Room) [.ref g, .int i0] L F (f_X0_personAt_none i0) F := by
  refine wM.of (cc := cX0_personAt) (maxL := 2) (ret := (some (.object "TwoThirds$Person"))) (by decide) rfl (Nat.le_of_ble_eq_true rfl) ?_
  intro pZ eZ sZ mZ below meth cZ A ls C hl w
  obtain ⟨hx, hb, hr, hml, hts, hown, hlocks, hK, hA, hin⟩ := C
  have hown : sZ.vm.findClass RX0 = some mZ.cls := hown
  have hl : lv_has ls 2 [(0, .ref g), (1, .int i0)] := hl
  have m_0 : ((.fieldLink RX0 46 "TwoThirds$Game" "people" "I") : Cond) ∈ wsX0_personAt := by decide +kernel
  have i_X0 : ∀ w ∈ wsX00, w ∈ wsX0_personAt := by decide +kernel
  have hq : f_X0_personAt_none i0 = f_X0_personAt_none i0 := rfl
  refine lv_iload_n hx hb dX0_personAt_0 rfl (lv_at hl 1 rfl) ?_
  refine lv_if_lt (tgt := 30) hx hb dX0_personAt_1 (by decide) (fun c1 => ?_) (fun c1 => ?_)
  · skip
    have hq := hq.trans (if_pos c1)
    refine lv_null hx hb dX0_personAt_30 ?_
    exact w_qret hx hb hr hlocks w (r := none) rfl ⟨hq.symm, rfl, rfl⟩ (Nat.le_refl _) (Nat.le_refl _) dX0_personAt_31
  · skip
    have hq := hq.trans (if_neg c1)
    refine lv_iload_n hx hb dX0_personAt_4 rfl (lv_at hl 1 rfl) ?_
    refine lv_aload_n hx hb dX0_personAt_5 rfl (lv_at hl 0 rfl) ?_
    refine w_get (v := .int g_people) hx hb hts i_X0 hown hK w h_g rfl 6 (by decide) (hts _ m_0) rfl dX0_personAt_6 ?_
    refine lv_icmp_ge (tgt := 30) hx hb dX0_personAt_9 (by decide) (fun _ => ?_) (fun c => absurd (Classical.byContradiction fun q => hc ⟨by assumption, q⟩) c)
    refine lv_null hx hb dX0_personAt_30 ?_
    exact w_qret hx hb hr hlocks w (r := none) rfl ⟨hq.symm, rfl, rfl⟩ (Nat.le_refl _) (Nat.le_refl _) dX0_personAt_31
def f_X0_allSteps_L4 (g_people : Int32) (pr_st : Nat → Int32) : Nat → Nat → Int32 → Int32
  | 0, _, _ => 0
  | n + 1, k, v1 => if g_people ≤ (nI k) then v1 else (if (12 : Int32) ≤ (nI k) then v1 else (f_X0_allSteps_L4 g_people pr_st n ((k + 1)) (v1 + (pr_st k))))
theorem f_X0_allSteps_L4_s (g_people : Int32) (pr_st : Nat → Int32) (n k : Nat) (v1 : Int32) : f_X0_allSteps_L4 g_people pr_st (n + 1) k v1 = (if g_people ≤ (nI k) then v1 else (if (12 : Int32) ≤ (nI k) then v1 else (f_X0_allSteps_L4 g_people pr_st n ((k + 1)) (v1 + (pr_st k))))) := rfl
def f_X0_allSteps (g_people : Int32) (pr_st : Nat → Int32) : Int32 := f_X0_allSteps_L4 g_people pr_st (g_people.toNatClampNeg + 1) 0 0
set_option maxHeartbeats 400000 in
set_option maxRecDepth 100000 in
theorem c_X0_allSteps (l : Launch) (D : va_G) (cI cP cS cL : ClassId) (L : List Nat) (F : Nat → va_E) (g : Nat) (g_up : Int32) (g_down : Int32) (g_high : Int32) (g_prize : Int32) (g_z : Int32) (g_rounds : Int32) (g_people : Int32) (g_pa : Nat) (g_cr : Nat) (g_ls : Int32) (pr : Nat → Nat) (pr_nu : Nat → Int32) (pr_ki : Nat → Int32) (pr_st : Nat → Int32) (pr_sl : Nat → Int32) (h_g : wi L F g (eG g_up g_down g_high g_prize g_z g_rounds g_people g_pa g_cr g_ls)) (h_g_pa : wi L F g_pa (eQ cP 12 (fun i => some (pr i)))) (h_pr : ∀ i, i < 12 → wi L F (pr i) (eP (pr_nu i) (pr_ki i) (pr_st i) (pr_sl i))) : wMI l D cI cP cS cL yX0_allSteps wsX0_allSteps ({ frames := 0, cells := 0, slots := 0, locals := 0 } : Room) [.ref g] L F (f_X0_allSteps g_people pr_st) F := by
  refine wM.of (cc := cX0_allSteps) (maxL := 3) (ret := (some .int)) (by decide) rfl (Nat.le_of_ble_eq_true rfl) ?_
  intro pZ eZ sZ mZ below meth cZ A ls C hl w
  obtain ⟨hx, hb, hr, hml, hts, hown, hlocks, hK, hA, hin⟩ := C
  have hown : sZ.vm.findClass RX0 = some mZ.cls := hown
  have hl : lv_has ls 3 [(0, .ref g)] := hl
  have m_0 : ((.fieldLink RX0 46 "TwoThirds$Game" "people" "I") : Cond) ∈ wsX0_allSteps := by decide +kernel
  have i_X0 : ∀ w ∈ wsX00, w ∈ wsX0_allSteps := by decide +kernel
  have m_2 : ((.fieldLink RX0 29 "TwoThirds$Game" "persons" "[LTwoThirds$Person;") : Cond) ∈ wsX0_allSteps := by decide +kernel
  have m_3 : ((.fieldLink RX0 59 "TwoThirds$Person" "stepCount" "I") : Cond) ∈ wsX0_allSteps := by decide +kernel
  have i_X1 : ∀ w ∈ wsX10, w ∈ wsX0_allSteps := by decide +kernel
  have hq : f_X0_allSteps g_people pr_st = f_X0_allSteps g_people pr_st := rfl
  refine lv_iconst (v := 0) hx hb dX0_allSteps_0 (by decide) ?_
  refine lv_istore_n (lv' := [(1, .int 0), (0, .ref g)]) hx hb dX0_allSteps_1 rfl hl (by decide) rfl (fun ls hl => ?_)
  refine lv_iconst (v := 0) hx hb dX0_allSteps_2 (by decide) ?_
  refine lv_istore_n (lv' := [(2, .int 0), (1, .int 0), (0, .ref g)]) hx hb dX0_allSteps_3 rfl hl (by decide) rfl (fun ls hl => ?_)
  have hL4 : ∀ (n k : Nat) (v1 : Int32) (H : Heap) (locs : List Loc) (ls : Array Slot), k ≤ g_people.toNatClampNeg → g_people.toNatClampNeg - k < n → f_X0_allSteps g_people pr_st = f_X0_allSteps_L4 g_people pr_st n k v1 → lv_has ls 3 [(0, .ref g), (1, .int v1), (2, .int (nI k))] → ww D A sZ.heap L F H locs → W pZ l eZ ({ frames := 0, cells := 0, slots := 0, locals := 0 } : Room) sZ mZ [.ref g].toArray below meth cZ H locs 0 0 (MQ below (wQi D A (fun r1 L1 F1 => r1 = (f_X0_allSteps g_people pr_st) ∧ L1 = L ∧ F1 = F)) [.ref g].toArray sZ 0 0 A) (F0 mZ 4 ls []) := by
    intro n; induction n with
    | zero => intro k v1 H locs ls hkT hmeas; exact absurd hmeas (Nat.not_lt_zero _)
    | succ n ih =>
      intro k v1 H locs ls hkT hmeas hq hl w
      have hk31 : k < 2147483648 := Nat.lt_of_le_of_lt hkT (w_clamp_lt _)
      have hq := hq.trans (f_X0_allSteps_L4_s g_people pr_st n k v1)
      refine lv_iload_n hx hb dX0_allSteps_4 rfl (lv_at hl 2 rfl) ?_
      refine lv_aload_n hx hb dX0_allSteps_5 rfl (lv_at hl 0 rfl) ?_
      refine w_get (v := .int g_people) hx hb hts i_X0 hown hK w h_g rfl 6 (by decide) (hts _ m_0) rfl dX0_allSteps_6 ?_
      refine lv_icmp_ge (tgt := 39) hx hb dX0_allSteps_9 (by decide) (fun c1 => ?_) (fun c1 => ?_)
      · skip
        have hq := hq.trans (if_pos c1)
        refine lv_iload_n hx hb dX0_allSteps_39 rfl (lv_at hl 1 rfl) ?_
        exact w_iret hx hb hr hlocks w ⟨hq.symm, rfl, rfl⟩ (Nat.le_refl _) (Nat.le_refl _) dX0_allSteps_40
      · skip
        have hq := hq.trans (if_neg c1)
        have hlt9 : k < g_people.toNatClampNeg := w_ltk hk31 c1
        refine lv_iload_n hx hb dX0_allSteps_12 rfl (lv_at hl 2 rfl) ?_
        refine lv_aload_n hx hb dX0_allSteps_13 rfl (lv_at hl 0 rfl) ?_
        refine w_get (v := .ref g_pa) hx hb hts i_X0 hown hK w h_g rfl 7 (by decide) (hts _ m_2) rfl dX0_allSteps_14 ?_
        refine w_len (v := 12) hx hb hK w h_g_pa 1 rfl rfl dX0_allSteps_17 ?_
        refine lv_icmp_ge (tgt := 39) hx hb dX0_allSteps_18 (by decide) (fun c2 => ?_) (fun c2 => ?_)
        · skip
          have hq := hq.trans (if_pos c2)
          refine lv_iload_n hx hb dX0_allSteps_39 rfl (lv_at hl 1 rfl) ?_
          exact w_iret hx hb hr hlocks w ⟨hq.symm, rfl, rfl⟩ (Nat.le_refl _) (Nat.le_refl _) dX0_allSteps_40
        · skip
          have hq := hq.trans (if_neg c2)
          have hlt18 : k < 12 := w_ltk hk31 c2
          refine lv_iload_n hx hb dX0_allSteps_21 rfl (lv_at hl 1 rfl) ?_
          refine lv_aload_n hx hb dX0_allSteps_22 rfl (lv_at hl 0 rfl) ?_
          refine w_get (v := .ref g_pa) hx hb hts i_X0 hown hK w h_g rfl 7 (by decide) (hts _ m_2) rfl dX0_allSteps_23 ?_
          refine lv_iload_n hx hb dX0_allSteps_26 rfl (lv_at hl 2 rfl) ?_
          refine w_qldP (v := .ref (pr k)) hx hb hK w h_g_pa (vp_in_nI hlt18 (by omega)) (congrArg (fun j => Value.ref (pr j)) (nI_clamp (by omega))) dX0_allSteps_27 ?_
          refine w_get (v := .int (pr_st k)) hx hb hts i_X1 hown hK w (h_pr k (by omega)) rfl 2 (by decide) (hts _ m_3) rfl dX0_allSteps_28 ?_
          refine lv_iadd hx hb dX0_allSteps_31 ?_
          refine lv_istore_n (lv' := [(1, .int (v1 + (pr_st k))), (0, .ref g), (2, .int (nI k))]) hx hb dX0_allSteps_32 rfl hl (by decide) rfl (fun ls hl => ?_)
          refine lv_iinc (v := (nI (k + 1))) (lv' := [(2, .int (nI (k + 1))), (1, .int (v1 + (pr_st k))), (0, .ref g)]) hx hb dX0_allSteps_33 hl (k := 2) rfl (w_inc _) (by decide) rfl (fun ls hl => ?_)
          refine lv_goto (tgt := 4) hx hb dX0_allSteps_36 (by decide) ?_
          exact ih ((k + 1)) (v1 + (pr_st k)) _ _ _ (by omega) (by omega) hq (lv_sub hl [2, 1, 0] rfl) w
  exact hL4 (g_people.toNatClampNeg + 1) 0 0 _ _ _ (Nat.zero_le _) (by omega) hq (lv_sub hl [2, 1, 0] rfl) w
def f_X0_change (what : Int32) (n0 : Int32) (g_up : Int32) (g_down : Int32) (g_high : Int32) (g_prize : Int32) (g_z : Int32) : Int32 × Int32 × Int32 × Int32 × Int32 := if what = (0 : Int32) then (n0, g_down, g_high, g_prize, g_z) else (if what = (1 : Int32) then (g_up, n0, g_high, g_prize, g_z) else (if what = (2 : Int32) then (g_up, g_down, n0, g_prize, g_z) else (if what = (3 : Int32) then (g_up, g_down, g_high, n0, g_z) else (g_up, g_down, g_high, g_prize, n0))))
set_option maxHeartbeats 400000 in
set_option maxRecDepth 100000 in
theorem c_X0_change (l : Launch) (D : va_G) (cI cP cS cL : ClassId) (L : List Nat) (F : Nat → va_E) (g : Nat) (what : Int32) (n0 : Int32) (g_up : Int32) (g_down : Int32) (g_high : Int32) (g_prize : Int32) (g_z : Int32) (g_rounds : Int32) (g_people : Int32) (g_pa : Nat) (g_cr : Nat) (g_ls : Int32) (h_g : wi L F g (eG g_up g_down g_high g_prize g_z g_rounds g_people g_pa g_cr g_ls)) : wMw l D cI cP cS cL yX0_change wsX0_change ({ frames := 0, cells := 0, slots := 0, locals := 0 } : Room) [.ref g, .int what, .int n0] L F (fun F1 => ∃ y9 : Int32 × Int32 × Int32 × Int32 × Int32, y9 = (f_X0_change what n0 g_up g_down g_high g_prize g_z) ∧ F1 g = (eG y9.1 y9.2.1 y9.2.2.1 y9.2.2.2.1 y9.2.2.2.2 g_rounds g_people g_pa g_cr g_ls) ∧ wk (fun q : Nat => q ≠ g ∧ True) F1 F) := by
  refine wM.of (cc := cX0_change) (maxL := 3) (ret := none) (by decide) rfl (Nat.le_of_ble_eq_true rfl) ?_
  intro pZ eZ sZ mZ below meth cZ A ls C hl w
  obtain ⟨hx, hb, hr, hml, hts, hown, hlocks, hK, hA, hin⟩ := C
  have hown : sZ.vm.findClass RX0 = some mZ.cls := hown
  have hl : lv_has ls 3 [(0, .ref g), (1, .int what), (2, .int n0)] := hl
  have m_0 : ((.fieldLink RX0 9 "TwoThirds$Game" "up" "I") : Cond) ∈ wsX0_change := by decide +kernel
  have i_X0 : ∀ w ∈ wsX00, w ∈ wsX0_change := by decide +kernel
  have m_2 : ((.fieldLink RX0 15 "TwoThirds$Game" "down" "I") : Cond) ∈ wsX0_change := by decide +kernel
  have m_3 : ((.fieldLink RX0 18 "TwoThirds$Game" "high" "I") : Cond) ∈ wsX0_change := by decide +kernel
  have m_4 : ((.fieldLink RX0 21 "TwoThirds$Game" "prize" "I") : Cond) ∈ wsX0_change := by decide +kernel
  have m_5 : ((.fieldLink RX0 24 "TwoThirds$Game" "z" "I") : Cond) ∈ wsX0_change := by decide +kernel
  have hk : wk (fun q : Nat => q ≠ g ∧ True) F F := wk.rf
  have hq : f_X0_change what n0 g_up g_down g_high g_prize g_z = f_X0_change what n0 g_up g_down g_high g_prize g_z := rfl
  refine lv_iload_n hx hb dX0_change_0 rfl (lv_at hl 1 rfl) ?_
  by_cases c1 : what = (0 : Int32)
  · skip
    have hq := hq.trans (if_pos c1)
    refine w_ts (v := 0) (off := 31) (tgt := 32) hx hb dX0_change_1 c1 (by decide) (by decide) rfl (by decide) ?_
    refine lv_aload_n hx hb dX0_change_32 rfl (lv_at hl 0 rfl) ?_
    refine lv_iload_n hx hb dX0_change_33 rfl (lv_at hl 2 rfl) ?_
    have ho2 := h_g
    refine w_put (fs2 := [.int n0, .int g_down, .int g_high, .int g_prize, .int g_z, .int g_rounds, .int g_people, .ref g_pa, .ref g_cr, .int g_ls]) hx hb hts i_X0 tyX0 tyX0_ok nmX0 hown hK w h_g rfl 0 (by decide) (hts _ m_0) rfl rfl rfl (Nat.le_of_ble_eq_true rfl) rfl dX0_change_34 (fun H locs w h_g => ?_)
    have hk := hk.upw h_g (fun q h => h.1)
    refine lv_goto (tgt := 69) hx hb dX0_change_37 (by decide) ?_
    exact w_vret hx hb hr hlocks w ⟨rfl, _, hq.symm, h_g.2, hk⟩ (Nat.le_refl _) (Nat.le_refl _) dX0_change_69
  · skip
    have hq := hq.trans (if_neg c1)
    by_cases c3 : what = (1 : Int32)
    · skip
      have hq := hq.trans (if_pos c3)
      refine w_ts (v := 1) (off := 39) (tgt := 40) hx hb dX0_change_1 c3 (by decide) (by decide) rfl (by decide) ?_
      refine lv_aload_n hx hb dX0_change_40 rfl (lv_at hl 0 rfl) ?_
      refine lv_iload_n hx hb dX0_change_41 rfl (lv_at hl 2 rfl) ?_
      have ho4 := h_g
      refine w_put (fs2 := [.int g_up, .int n0, .int g_high, .int g_prize, .int g_z, .int g_rounds, .int g_people, .ref g_pa, .ref g_cr, .int g_ls]) hx hb hts i_X0 tyX0 tyX0_ok nmX0 hown hK w h_g rfl 1 (by decide) (hts _ m_2) rfl rfl rfl (Nat.le_of_ble_eq_true rfl) rfl dX0_change_42 (fun H locs w h_g => ?_)
      have hk := hk.upw h_g (fun q h => h.1)
      refine lv_goto (tgt := 69) hx hb dX0_change_45 (by decide) ?_
      exact w_vret hx hb hr hlocks w ⟨rfl, _, hq.symm, h_g.2, hk⟩ (Nat.le_refl _) (Nat.le_refl _) dX0_change_69
    · skip
      have hq := hq.trans (if_neg c3)
      by_cases c5 : what = (2 : Int32)
      · skip
        have hq := hq.trans (if_pos c5)
        refine w_ts (v := 2) (off := 47) (tgt := 48) hx hb dX0_change_1 c5 (by decide) (by decide) rfl (by decide) ?_
        refine lv_aload_n hx hb dX0_change_48 rfl (lv_at hl 0 rfl) ?_
        refine lv_iload_n hx hb dX0_change_49 rfl (lv_at hl 2 rfl) ?_
        have ho6 := h_g
        refine w_put (fs2 := [.int g_up, .int g_down, .int n0, .int g_prize, .int g_z, .int g_rounds, .int g_people, .ref g_pa, .ref g_cr, .int g_ls]) hx hb hts i_X0 tyX0 tyX0_ok nmX0 hown hK w h_g rfl 2 (by decide) (hts _ m_3) rfl rfl rfl (Nat.le_of_ble_eq_true rfl) rfl dX0_change_50 (fun H locs w h_g => ?_)
        have hk := hk.upw h_g (fun q h => h.1)
        refine lv_goto (tgt := 69) hx hb dX0_change_53 (by decide) ?_
        exact w_vret hx hb hr hlocks w ⟨rfl, _, hq.symm, h_g.2, hk⟩ (Nat.le_refl _) (Nat.le_refl _) dX0_change_69
      · skip
        have hq := hq.trans (if_neg c5)
        by_cases c7 : what = (3 : Int32)
        · skip
          have hq := hq.trans (if_pos c7)
          refine w_ts (v := 3) (off := 55) (tgt := 56) hx hb dX0_change_1 c7 (by decide) (by decide) rfl (by decide) ?_
          refine lv_aload_n hx hb dX0_change_56 rfl (lv_at hl 0 rfl) ?_
          refine lv_iload_n hx hb dX0_change_57 rfl (lv_at hl 2 rfl) ?_
          have ho8 := h_g
          refine w_put (fs2 := [.int g_up, .int g_down, .int g_high, .int n0, .int g_z, .int g_rounds, .int g_people, .ref g_pa, .ref g_cr, .int g_ls]) hx hb hts i_X0 tyX0 tyX0_ok nmX0 hown hK w h_g rfl 3 (by decide) (hts _ m_4) rfl rfl rfl (Nat.le_of_ble_eq_true rfl) rfl dX0_change_58 (fun H locs w h_g => ?_)
          have hk := hk.upw h_g (fun q h => h.1)
          refine lv_goto (tgt := 69) hx hb dX0_change_61 (by decide) ?_
          exact w_vret hx hb hr hlocks w ⟨rfl, _, hq.symm, h_g.2, hk⟩ (Nat.le_refl _) (Nat.le_refl _) dX0_change_69
        · skip
          have hq := hq.trans (if_neg c7)
          refine lv_tableOut (tgt := 64) hx hb dX0_change_1 (by have q0 : ¬ what.toInt = 0 := w_ne c1 rfl; have q1 : ¬ what.toInt = 1 := w_ne c3 rfl; have q2 : ¬ what.toInt = 2 := w_ne c5 rfl; have q3 : ¬ what.toInt = 3 := w_ne c7 rfl; omega) (by decide) ?_
          refine lv_aload_n hx hb dX0_change_64 rfl (lv_at hl 0 rfl) ?_
          refine lv_iload_n hx hb dX0_change_65 rfl (lv_at hl 2 rfl) ?_
          have ho9 := h_g
          refine w_put (fs2 := [.int g_up, .int g_down, .int g_high, .int g_prize, .int n0, .int g_rounds, .int g_people, .ref g_pa, .ref g_cr, .int g_ls]) hx hb hts i_X0 tyX0 tyX0_ok nmX0 hown hK w h_g rfl 4 (by decide) (hts _ m_5) rfl rfl rfl (Nat.le_of_ble_eq_true rfl) rfl dX0_change_66 (fun H locs w h_g => ?_)
          have hk := hk.upw h_g (fun q h => h.1)
          exact w_vret hx hb hr hlocks w ⟨rfl, _, hq.symm, h_g.2, hk⟩ (Nat.le_refl _) (Nat.le_refl _) dX0_change_69
def f_X0_changeIfCanBe (what : Int32) (n0 : Int32) (g_up : Int32) (g_down : Int32) (g_high : Int32) (g_prize : Int32) (g_z : Int32) : Int32 × Int32 × Int32 × Int32 × Int32 × Int32 := if (f_X0_canBe what n0) = (0 : Int32) then (0, g_up, g_down, g_high, g_prize, g_z) else (bnd (f_X0_change what n0 g_up g_down g_high g_prize g_z) (fun x13 : Int32 × Int32 × Int32 × Int32 × Int32 => (1, x13.1, x13.2.1, x13.2.2.1, x13.2.2.2.1, x13.2.2.2.2)))
theorem z_X0_changeIfCanBe (what : Int32) (n0 : Int32) (g_up : Int32) (g_down : Int32) (g_high : Int32) (g_prize : Int32) (g_z : Int32) : (f_X0_changeIfCanBe what n0 g_up g_down g_high g_prize g_z).1 = 0 ∨ (f_X0_changeIfCanBe what n0 g_up g_down g_high g_prize g_z).1 = 1 := by
  unfold f_X0_changeIfCanBe
  try simp only [bnd]
  repeat' split
  all_goals first | exact Or.inl rfl | exact Or.inr rfl | exact z_X0_canBe _ _
set_option maxHeartbeats 400000 in
set_option maxRecDepth 100000 in
theorem c_X0_changeIfCanBe (l : Launch) (D : va_G) (cI cP cS cL : ClassId) (L : List Nat) (F : Nat → va_E) (g : Nat) (what : Int32) (n0 : Int32) (g_up : Int32) (g_down : Int32) (g_high : Int32) (g_prize : Int32) (g_z : Int32) (g_rounds : Int32) (g_people : Int32) (g_pa : Nat) (g_cr : Nat) (g_ls : Int32) (h_g : wi L F g (eG g_up g_down g_high g_prize g_z g_rounds g_people g_pa g_cr g_ls)) : wMj l D cI cP cS cL yX0_changeIfCanBe wsX0_changeIfCanBe ({ frames := 2, cells := 0, slots := 0, locals := 41 } : Room) [.ref g, .int what, .int n0] L F (fun r1 F1 => ∃ y9 : Int32 × Int32 × Int32 × Int32 × Int32 × Int32, y9 = (f_X0_changeIfCanBe what n0 g_up g_down g_high g_prize g_z) ∧ r1 = y9.1 ∧ F1 g = (eG y9.2.1 y9.2.2.1 y9.2.2.2.1 y9.2.2.2.2.1 y9.2.2.2.2.2 g_rounds g_people g_pa g_cr g_ls) ∧ wk (fun q : Nat => q ≠ g ∧ True) F1 F) := by
  refine wM.of (cc := cX0_changeIfCanBe) (maxL := 3) (ret := (some .boolean)) (by decide) rfl (Nat.le_of_ble_eq_true rfl) ?_
  intro pZ eZ sZ mZ below meth cZ A ls C hl w
  obtain ⟨hx, hb, hr, hml, hts, hown, hlocks, hK, hA, hin⟩ := C
  have hown : sZ.vm.findClass RX0 = some mZ.cls := hown
  have hl : lv_has ls 3 [(0, .ref g), (1, .int what), (2, .int n0)] := hl
  have hk : wk (fun q : Nat => q ≠ g ∧ True) F F := wk.rf
  have hq : f_X0_changeIfCanBe what n0 g_up g_down g_high g_prize g_z = f_X0_changeIfCanBe what n0 g_up g_down g_high g_prize g_z := rfl
  refine lv_iload_n hx hb dX0_changeIfCanBe_0 rfl (lv_at hl 1 rfl) ?_
  refine lv_iload_n hx hb dX0_changeIfCanBe_1 rfl (lv_at hl 2 rfl) ?_
  refine w_finI (w_runS (rm := ({ frames := 1, cells := 0, slots := 0, locals := 20 } : Room)) (As := [.int what, .int n0]) (rest := []) (n := 2) hx hb hml hts hown hK w (c_X0_canBe l D cI cP cS cL L _ what n0 ) gX0_changeIfCanBe_X0_canBe rfl rfl rfl (by decide +kernel) ⟨(Nat.le_of_ble_eq_true rfl), (Nat.le_of_ble_eq_true rfl)⟩ rfl hl.1 rfl (Nat.le_of_ble_eq_true rfl) dX0_changeIfCanBe_2 ⟨(Nat.le_of_ble_eq_true rfl), (Nat.le_of_ble_eq_true rfl)⟩) w hA (fun H locs w => ?_)
  refine lv_if_ne (tgt := 10) hx hb dX0_changeIfCanBe_5 (by decide) (fun c1 => ?_) (fun c1 => ?_)
  · skip
    have hq := hq.trans (if_neg c1)
    refine lv_aload_n hx hb dX0_changeIfCanBe_10 rfl (lv_at hl 0 rfl) ?_
    refine lv_iload_n hx hb dX0_changeIfCanBe_11 rfl (lv_at hl 1 rfl) ?_
    refine lv_iload_n hx hb dX0_changeIfCanBe_12 rfl (lv_at hl 2 rfl) ?_
    refine w_finw (w_runV (rm := ({ frames := 0, cells := 0, slots := 0, locals := 0 } : Room)) (As := [.int what, .int n0]) (rest := []) (n := 2) hx hb hml hts hown hK w (c_X0_change l D cI cP cS cL L _ g what n0 g_up g_down g_high g_prize g_z g_rounds g_people g_pa g_cr g_ls h_g) gX0_changeIfCanBe_X0_change rfl rfl rfl (by decide +kernel) ⟨(Nat.le_of_ble_eq_true rfl), (Nat.le_of_ble_eq_true rfl)⟩ h_g rfl rfl hl.1 rfl (Nat.le_of_ble_eq_true rfl) dX0_changeIfCanBe_13 ⟨(Nat.le_of_ble_eq_true rfl), (Nat.le_of_ble_eq_true rfl)⟩) w hA (fun F1 H locs hp w => ?_)
    obtain ⟨x13, hx13, hw0, hk9⟩ := hp
    have hq := hq.trans (w_bnd hx13)
    have h_g := h_g.new hw0
    have hk := hk.call hk9 (fun q h => ⟨h.1, trivial⟩)
    refine lv_iconst (v := 1) hx hb dX0_changeIfCanBe_16 (by decide) ?_
    exact w_zret hx hb hr hlocks w rfl ⟨rfl, _, hq.symm, rfl, h_g.2, hk⟩ (Nat.le_refl _) (Nat.le_refl _) dX0_changeIfCanBe_17
  · skip
    have hq := hq.trans (if_pos c1)
    refine lv_iconst (v := 0) hx hb dX0_changeIfCanBe_8 (by decide) ?_
    exact w_zret hx hb hr hlocks w rfl ⟨rfl, _, hq.symm, rfl, h_g.2, hk⟩ (Nat.le_refl _) (Nat.le_refl _) dX0_changeIfCanBe_9
def f_X0_addPerson (kind : Int32) (sc : Int32) (slip : Int32) (g_people : Int32) (pr_nu : Nat → Int32) (pr_ki : Nat → Int32) (pr_st : Nat → Int32) (pr_sl : Nat → Int32) : Int32 × Int32 × (Nat → Int32) × (Nat → Int32) × (Nat → Int32) × (Nat → Int32) := if kind < (0 : Int32) then (0, g_people, pr_nu, pr_ki, pr_st, pr_sl) else (if (7 : Int32) < kind then (0, g_people, pr_nu, pr_ki, pr_st, pr_sl) else (if (f_X5_isStepCount sc) = (0 : Int32) then (0, g_people, pr_nu, pr_ki, pr_st, pr_sl) else (if (20 : Int32) < slip then (0, g_people, pr_nu, pr_ki, pr_st, pr_sl) else (if g_people < (12 : Int32) then (bnd (f_X1_begin g_people kind sc slip) (fun x53 : Int32 × Int32 × Int32 × Int32 => (1, (g_people + 1), (upd pr_nu (g_people.toNatClampNeg) x53.1), (upd pr_ki (g_people.toNatClampNeg) x53.2.1), (upd pr_st (g_people.toNatClampNeg) x53.2.2.1), (upd pr_sl (g_people.toNatClampNeg) x53.2.2.2)))) else (0, g_people, pr_nu, pr_ki, pr_st, pr_sl)))))
theorem z_X0_addPerson (kind : Int32) (sc : Int32) (slip : Int32) (g_people : Int32) (pr_nu : Nat → Int32) (pr_ki : Nat → Int32) (pr_st : Nat → Int32) (pr_sl : Nat → Int32) : (f_X0_addPerson kind sc slip g_people pr_nu pr_ki pr_st pr_sl).1 = 0 ∨ (f_X0_addPerson kind sc slip g_people pr_nu pr_ki pr_st pr_sl).1 = 1 := by
  unfold f_X0_addPerson
  try simp only [bnd]
  repeat' split
  all_goals first | exact Or.inl rfl | exact Or.inr rfl | exact z_X5_isStepCount _
set_option maxHeartbeats 400000 in
set_option maxRecDepth 100000 in
theorem c_X0_addPerson (l : Launch) (D : va_G) (cI cP cS cL : ClassId) (L : List Nat) (F : Nat → va_E) (g : Nat) (kind : Int32) (sc : Int32) (slip : Int32) (g_up : Int32) (g_down : Int32) (g_high : Int32) (g_prize : Int32) (g_z : Int32) (g_rounds : Int32) (g_people : Int32) (g_pa : Nat) (g_cr : Nat) (g_ls : Int32) (pr : Nat → Nat) (pr_nu : Nat → Int32) (pr_ki : Nat → Int32) (pr_st : Nat → Int32) (pr_sl : Nat → Int32) (h_g : wi L F g (eG g_up g_down g_high g_prize g_z g_rounds g_people g_pa g_cr g_ls)) (h_g_pa : wi L F g_pa (eQ cP 12 (fun i => some (pr i)))) (h_pr : ∀ i, i < 12 → wi L F (pr i) (eP (pr_nu i) (pr_ki i) (pr_st i) (pr_sl i))) (hp0 : 0 ≤ g_people.toInt) (hinj_pr : ∀ i k, i < 12 → k < 12 → pr i = pr k → i = k) : wMj l D cI cP cS cL yX0_addPerson wsX0_addPerson ({ frames := 1, cells := 0, slots := 0, locals := 24 } : Room) [.ref g, .int kind, .int sc, .int slip] L F (fun r1 F1 => ∃ y9 : Int32 × Int32 × (Nat → Int32) × (Nat → Int32) × (Nat → Int32) × (Nat → Int32), y9 = (f_X0_addPerson kind sc slip g_people pr_nu pr_ki pr_st pr_sl) ∧ r1 = y9.1 ∧ F1 g = (eG g_up g_down g_high g_prize g_z g_rounds y9.2.1 g_pa g_cr g_ls) ∧ (∀ i, i < 12 → F1 (pr i) = (eP (y9.2.2.1 i) (y9.2.2.2.1 i) (y9.2.2.2.2.1 i) (y9.2.2.2.2.2 i))) ∧ wk (fun q : Nat => q ≠ g ∧ (∀ i, i < 12 → q ≠ pr i) ∧ True) F1 F) := by
  refine wM.of (cc := cX0_addPerson) (maxL := 4) (ret := (some .boolean)) (by decide) rfl (Nat.le_of_ble_eq_true rfl) ?_
  intro pZ eZ sZ mZ below meth cZ A ls C hl w
  obtain ⟨hx, hb, hr, hml, hts, hown, hlocks, hK, hA, hin⟩ := C
  have hown : sZ.vm.findClass RX0 = some mZ.cls := hown
  have hl : lv_has ls 4 [(0, .ref g), (1, .int kind), (2, .int sc), (3, .int slip)] := hl
  have m_0 : ((.initialized RX5) : Cond) ∈ wsX0_addPerson := by decide +kernel
  have m_1 : ((.static yX5_isStepCount) : Cond) ∈ wsX0_addPerson := by decide +kernel
  have m_2 : ((.fieldLink RX0 46 "TwoThirds$Game" "people" "I") : Cond) ∈ wsX0_addPerson := by decide +kernel
  have i_X0 : ∀ w ∈ wsX00, w ∈ wsX0_addPerson := by decide +kernel
  have m_4 : ((.fieldLink RX0 29 "TwoThirds$Game" "persons" "[LTwoThirds$Person;") : Cond) ∈ wsX0_addPerson := by decide +kernel
  have hk : wk (fun q : Nat => q ≠ g ∧ (∀ i, i < 12 → q ≠ pr i) ∧ True) F F := wk.rf
  have hq : f_X0_addPerson kind sc slip g_people pr_nu pr_ki pr_st pr_sl = f_X0_addPerson kind sc slip g_people pr_nu pr_ki pr_st pr_sl := rfl
  refine lv_iload_n hx hb dX0_addPerson_0 rfl (lv_at hl 1 rfl) ?_
  refine lv_if_lt (tgt := 35) hx hb dX0_addPerson_1 (by decide) (fun c1 => ?_) (fun c1 => ?_)
  · skip
    have hq := hq.trans (if_pos c1)
    refine lv_iconst (v := 0) hx hb dX0_addPerson_35 (by decide) ?_
    exact w_zret hx hb hr hlocks w rfl ⟨rfl, _, hq.symm, rfl, h_g.2, (fun i hi => (h_pr i hi).2), hk⟩ (Nat.le_refl _) (Nat.le_refl _) dX0_addPerson_36
  · skip
    have hq := hq.trans (if_neg c1)
    refine lv_iload_n hx hb dX0_addPerson_4 rfl (lv_at hl 1 rfl) ?_
    refine lv_bipush (v := 7) hx hb dX0_addPerson_5 (by decide) ?_
    refine lv_icmp_gt (tgt := 35) hx hb dX0_addPerson_7 (by decide) (fun c2 => ?_) (fun c2 => ?_)
    · skip
      have hq := hq.trans (if_pos c2)
      refine lv_iconst (v := 0) hx hb dX0_addPerson_35 (by decide) ?_
      exact w_zret hx hb hr hlocks w rfl ⟨rfl, _, hq.symm, rfl, h_g.2, (fun i hi => (h_pr i hi).2), hk⟩ (Nat.le_refl _) (Nat.le_refl _) dX0_addPerson_36
    · skip
      have hq := hq.trans (if_neg c2)
      refine lv_iload_n hx hb dX0_addPerson_10 rfl (lv_at hl 2 rfl) ?_
      refine w_finI (w_runN (rm := ({ frames := 0, cells := 0, slots := 0, locals := 0 } : Room)) (As := [.int sc]) (rest := []) (n := 1) hx hb hml hts hown hK w (c_X5_isStepCount l D cI cP cS cL L _ sc ) gX0_addPerson_X5_isStepCount_n95 rfl rfl rfl hK.2.2.2.1 m_0 m_1 (by decide +kernel) ⟨(Nat.le_of_ble_eq_true rfl), (Nat.le_of_ble_eq_true rfl)⟩ rfl hl.1 rfl (Nat.le_of_ble_eq_true rfl) dX0_addPerson_11 ⟨(Nat.le_of_ble_eq_true rfl), (Nat.le_of_ble_eq_true rfl)⟩) w hA (fun H locs w => ?_)
      refine lv_if_eq (tgt := 35) hx hb dX0_addPerson_14 (by decide) (fun c3 => ?_) (fun c3 => ?_)
      · skip
        have hq := hq.trans (if_pos c3)
        refine lv_iconst (v := 0) hx hb dX0_addPerson_35 (by decide) ?_
        exact w_zret hx hb hr hlocks w rfl ⟨rfl, _, hq.symm, rfl, h_g.2, (fun i hi => (h_pr i hi).2), hk⟩ (Nat.le_refl _) (Nat.le_refl _) dX0_addPerson_36
      · skip
        have hq := hq.trans (if_neg c3)
        refine lv_iload_n hx hb dX0_addPerson_17 rfl (lv_at hl 3 rfl) ?_
        refine lv_bipush (v := 20) hx hb dX0_addPerson_18 (by decide) ?_
        refine lv_icmp_gt (tgt := 35) hx hb dX0_addPerson_20 (by decide) (fun c4 => ?_) (fun c4 => ?_)
        · skip
          have hq := hq.trans (if_pos c4)
          refine lv_iconst (v := 0) hx hb dX0_addPerson_35 (by decide) ?_
          exact w_zret hx hb hr hlocks w rfl ⟨rfl, _, hq.symm, rfl, h_g.2, (fun i hi => (h_pr i hi).2), hk⟩ (Nat.le_refl _) (Nat.le_refl _) dX0_addPerson_36
        · skip
          have hq := hq.trans (if_neg c4)
          refine lv_aload_n hx hb dX0_addPerson_23 rfl (lv_at hl 0 rfl) ?_
          refine w_get (v := .int g_people) hx hb hts i_X0 hown hK w h_g rfl 6 (by decide) (hts _ m_2) rfl dX0_addPerson_24 ?_
          refine lv_aload_n hx hb dX0_addPerson_27 rfl (lv_at hl 0 rfl) ?_
          refine w_get (v := .ref g_pa) hx hb hts i_X0 hown hK w h_g rfl 7 (by decide) (hts _ m_4) rfl dX0_addPerson_28 ?_
          refine w_len (v := 12) hx hb hK w h_g_pa 1 rfl rfl dX0_addPerson_31 ?_
          refine lv_icmp_lt (tgt := 37) hx hb dX0_addPerson_32 (by decide) (fun c5 => ?_) (fun c5 => ?_)
          · skip
            have hq := hq.trans (if_pos c5)
            refine lv_aload_n hx hb dX0_addPerson_37 rfl (lv_at hl 0 rfl) ?_
            refine w_get (v := .ref g_pa) hx hb hts i_X0 hown hK w h_g rfl 7 (by decide) (hts _ m_4) rfl dX0_addPerson_38 ?_
            refine lv_aload_n hx hb dX0_addPerson_41 rfl (lv_at hl 0 rfl) ?_
            refine w_get (v := .int g_people) hx hb hts i_X0 hown hK w h_g rfl 6 (by decide) (hts _ m_2) rfl dX0_addPerson_42 ?_
            have hj : g_people.toNatClampNeg < 12 := w_ltT (by assumption)
            refine w_qldP (v := .ref (pr (g_people.toNatClampNeg))) hx hb hK w h_g_pa (w_in2 hp0 (by assumption)) rfl dX0_addPerson_45 ?_
            refine lv_aload_n hx hb dX0_addPerson_46 rfl (lv_at hl 0 rfl) ?_
            refine w_get (v := .int g_people) hx hb hts i_X0 hown hK w h_g rfl 6 (by decide) (hts _ m_2) rfl dX0_addPerson_47 ?_
            refine lv_iload_n hx hb dX0_addPerson_50 rfl (lv_at hl 1 rfl) ?_
            refine lv_iload_n hx hb dX0_addPerson_51 rfl (lv_at hl 2 rfl) ?_
            refine lv_iload_n hx hb dX0_addPerson_52 rfl (lv_at hl 3 rfl) ?_
            refine w_finw (w_runV (rm := ({ frames := 0, cells := 0, slots := 0, locals := 0 } : Room)) (As := [.int g_people, .int kind, .int sc, .int slip]) (rest := []) (n := 4) hx hb hml hts hown hK w (c_X1_begin l D cI cP cS cL L _ (pr (g_people.toNatClampNeg)) g_people kind sc slip (pr_nu (g_people.toNatClampNeg)) (pr_ki (g_people.toNatClampNeg)) (pr_st (g_people.toNatClampNeg)) (pr_sl (g_people.toNatClampNeg)) (h_pr (g_people.toNatClampNeg) (by omega))) gX0_addPerson_X1_begin rfl rfl rfl (by decide +kernel) ⟨(Nat.le_of_ble_eq_true rfl), (Nat.le_of_ble_eq_true rfl)⟩ (h_pr (g_people.toNatClampNeg) (by omega)) rfl rfl hl.1 rfl (Nat.le_of_ble_eq_true rfl) dX0_addPerson_53 ⟨(Nat.le_of_ble_eq_true rfl), (Nat.le_of_ble_eq_true rfl)⟩) w hA (fun F1 H locs hp w => ?_)
            obtain ⟨x53, hx53, hw0, hk9⟩ := hp
            have hq := hq.trans (w_bnd hx53)
            have hf6 := fam_new (E := (fun i => (eP (pr_nu i) (pr_ki i) (pr_st i) (pr_sl i)))) (E2 := (fun i => (eP ((upd pr_nu (g_people.toNatClampNeg) x53.1) i) ((upd pr_ki (g_people.toNatClampNeg) x53.2.1) i) ((upd pr_st (g_people.toNatClampNeg) x53.2.2.1) i) ((upd pr_sl (g_people.toNatClampNeg) x53.2.2.2) i)))) h_pr (by omega) hw0 hk9 (fun i hi hne => ⟨(fun q => hne (hinj_pr i (g_people.toNatClampNeg) hi (by omega) q)), trivial⟩) (by simp [upd, va_up]) (fun i hi => by simp [upd, va_up, hi])
            have h_g := h_g.keep hk9 ⟨(wi.ne h_g (h_pr (g_people.toNatClampNeg) (by omega)) (by intro h; cases h)), trivial⟩
            have h_g_pa := h_g_pa.keep hk9 ⟨(wi.ne h_g_pa (h_pr (g_people.toNatClampNeg) (by omega)) (by intro h; cases h)), trivial⟩
            have h_pr := hf6
            have hk := hk.call hk9 (fun q h => ⟨(h.2.1 (g_people.toNatClampNeg) (by omega)), trivial⟩)
            refine lv_aload_n hx hb dX0_addPerson_56 rfl (lv_at hl 0 rfl) ?_
            refine lv_dup hx hb dX0_addPerson_57 rfl ?_
            refine w_get (v := .int g_people) hx hb hts i_X0 hown hK w h_g rfl 6 (by decide) (hts _ m_2) rfl dX0_addPerson_58 ?_
            refine lv_iconst (v := 1) hx hb dX0_addPerson_61 (by decide) ?_
            refine lv_iadd hx hb dX0_addPerson_62 ?_
            have ho7 := h_g
            refine w_put (fs2 := [.int g_up, .int g_down, .int g_high, .int g_prize, .int g_z, .int g_rounds, .int (g_people + 1), .ref g_pa, .ref g_cr, .int g_ls]) hx hb hts i_X0 tyX0 tyX0_ok nmX0 hown hK w h_g rfl 6 (by decide) (hts _ m_2) rfl rfl rfl (Nat.le_of_ble_eq_true rfl) rfl dX0_addPerson_63 (fun H locs w h_g => ?_)
            have h_g_pa := h_g_pa.upw h_g (wi.ne h_g_pa ho7 (by intro h; cases h))
            have h_pr := fun i (hi : i < 12) => (h_pr i hi).upw h_g (wi.ne (h_pr i hi) ho7 (by intro h; cases h))
            have hk := hk.upw h_g (fun q h => h.1)
            refine lv_iconst (v := 1) hx hb dX0_addPerson_66 (by decide) ?_
            exact w_zret hx hb hr hlocks w rfl ⟨rfl, _, hq.symm, rfl, h_g.2, (fun i hi => (h_pr i hi).2), hk⟩ (Nat.le_refl _) (Nat.le_refl _) dX0_addPerson_67
          · skip
            have hq := hq.trans (if_neg c5)
            refine lv_iconst (v := 0) hx hb dX0_addPerson_35 (by decide) ?_
            exact w_zret hx hb hr hlocks w rfl ⟨rfl, _, hq.symm, rfl, h_g.2, (fun i hi => (h_pr i hi).2), hk⟩ (Nat.le_refl _) (Nat.le_refl _) dX0_addPerson_36
def f_X0_drawBelow (n0 : Int32) (g_z : Int32) : Int32 × Int32 := if (1 : Int32) ≤ n0 then ((((((g_z * 1103515245) + 12345) &&& 2147483647) / 65536) - ((((g_z * 1103515245) + 12345) &&& 2147483647) / 65536) / n0 * n0), ((g_z * 1103515245) + 12345)) else (0, ((g_z * 1103515245) + 12345))
set_option maxHeartbeats 400000 in
set_option maxRecDepth 100000 in
theorem c_X0_drawBelow (l : Launch) (D : va_G) (cI cP cS cL : ClassId) (L : List Nat) (F : Nat → va_E) (g : Nat) (n0 : Int32) (g_up : Int32) (g_down : Int32) (g_high : Int32) (g_prize : Int32) (g_z : Int32) (g_rounds : Int32) (g_people : Int32) (g_pa : Nat) (g_cr : Nat) (g_ls : Int32) (h_g : wi L F g (eG g_up g_down g_high g_prize g_z g_rounds g_people g_pa g_cr g_ls)) : wMj l D cI cP cS cL yX0_drawBelow wsX0_drawBelow ({ frames := 0, cells := 0, slots := 0, locals := 0 } : Room) [.ref g, .int n0] L F (fun r1 F1 => ∃ y9 : Int32 × Int32, y9 = (f_X0_drawBelow n0 g_z) ∧ r1 = y9.1 ∧ F1 g = (eG g_up g_down g_high g_prize y9.2 g_rounds g_people g_pa g_cr g_ls) ∧ wk (fun q : Nat => q ≠ g ∧ True) F1 F) := by
  refine wM.of (cc := cX0_drawBelow) (maxL := 3) (ret := (some .int)) (by decide) rfl (Nat.le_of_ble_eq_true rfl) ?_
  intro pZ eZ sZ mZ below meth cZ A ls C hl w
  obtain ⟨hx, hb, hr, hml, hts, hown, hlocks, hK, hA, hin⟩ := C
  have hown : sZ.vm.findClass RX0 = some mZ.cls := hown
  have hl : lv_has ls 3 [(0, .ref g), (1, .int n0)] := hl
  have m_0 : ((.fieldLink RX0 24 "TwoThirds$Game" "z" "I") : Cond) ∈ wsX0_drawBelow := by decide +kernel
  have i_X0 : ∀ w ∈ wsX00, w ∈ wsX0_drawBelow := by decide +kernel
  have m_2 : ((.constant RX0 102 1103515245) : Cond) ∈ wsX0_drawBelow := by decide +kernel
  have m_3 : ((.constant RX0 103 2147483647) : Cond) ∈ wsX0_drawBelow := by decide +kernel
  have m_4 : ((.constant RX0 104 65536) : Cond) ∈ wsX0_drawBelow := by decide +kernel
  have hk : wk (fun q : Nat => q ≠ g ∧ True) F F := wk.rf
  have hq : f_X0_drawBelow n0 g_z = f_X0_drawBelow n0 g_z := rfl
  refine lv_aload_n hx hb dX0_drawBelow_0 rfl (lv_at hl 0 rfl) ?_
  refine lv_aload_n hx hb dX0_drawBelow_1 rfl (lv_at hl 0 rfl) ?_
  refine w_get (v := .int g_z) hx hb hts i_X0 hown hK w h_g rfl 4 (by decide) (hts _ m_0) rfl dX0_drawBelow_2 ?_
  refine lv_ldc (v := 1103515245) hx hb hown (hts _ m_2) dX0_drawBelow_5 ?_
  refine lv_imul hx hb dX0_drawBelow_7 ?_
  refine lv_sipush (v := 12345) hx hb dX0_drawBelow_8 (by decide) ?_
  refine lv_iadd hx hb dX0_drawBelow_11 ?_
  have ho1 := h_g
  refine w_put (fs2 := [.int g_up, .int g_down, .int g_high, .int g_prize, .int ((g_z * 1103515245) + 12345), .int g_rounds, .int g_people, .ref g_pa, .ref g_cr, .int g_ls]) hx hb hts i_X0 tyX0 tyX0_ok nmX0 hown hK w h_g rfl 4 (by decide) (hts _ m_0) rfl rfl rfl (Nat.le_of_ble_eq_true rfl) rfl dX0_drawBelow_12 (fun H locs w h_g => ?_)
  have hk := hk.upw h_g (fun q h => h.1)
  refine lv_aload_n hx hb dX0_drawBelow_15 rfl (lv_at hl 0 rfl) ?_
  refine w_get (v := .int ((g_z * 1103515245) + 12345)) hx hb hts i_X0 hown hK w h_g rfl 4 (by decide) (hts _ m_0) rfl dX0_drawBelow_16 ?_
  refine lv_ldc (v := 2147483647) hx hb hown (hts _ m_3) dX0_drawBelow_19 ?_
  refine lv_iand hx hb dX0_drawBelow_21 ?_
  refine lv_ldc (v := 65536) hx hb hown (hts _ m_4) dX0_drawBelow_22 ?_
  refine lv_idiv hx hb dX0_drawBelow_24 (by decide) ?_
  refine lv_istore_n (lv' := [(2, .int ((((g_z * 1103515245) + 12345) &&& 2147483647) / 65536)), (0, .ref g), (1, .int n0)]) hx hb dX0_drawBelow_25 rfl hl (by decide) rfl (fun ls hl => ?_)
  refine lv_iload_n hx hb dX0_drawBelow_26 rfl (lv_at hl 2 rfl) ?_
  refine lv_iconst (v := 1) hx hb dX0_drawBelow_27 (by decide) ?_
  refine lv_icmp_ge (tgt := 35) hx hb dX0_drawBelow_28 (by decide) (fun c2 => ?_) (fun c2 => ?_)
  · skip
    have hq := hq.trans (if_pos c2)
    refine lv_iload_n hx hb dX0_drawBelow_35 rfl (lv_at hl 0 rfl) ?_
    refine lv_iload_n hx hb dX0_drawBelow_36 rfl (lv_at hl 2 rfl) ?_
    refine lv_irem hx hb dX0_drawBelow_37 (w_ge1 (by assumption)) ?_
    exact w_iret hx hb hr hlocks w ⟨rfl, _, hq.symm, rfl, h_g.2, hk⟩ (Nat.le_refl _) (Nat.le_refl _) dX0_drawBelow_38
  · skip
    have hq := hq.trans (if_neg c2)
    refine lv_iconst (v := 0) hx hb dX0_drawBelow_31 (by decide) ?_
    refine lv_goto (tgt := 38) hx hb dX0_drawBelow_32 (by decide) ?_
    exact w_iret hx hb hr hlocks w ⟨rfl, _, hq.symm, rfl, h_g.2, hk⟩ (Nat.le_refl _) (Nat.le_refl _) dX0_drawBelow_38
def f_X0_heldBy (g_up : Int32) (g_down : Int32) (g_high : Int32) (g_z : Int32) (g_rounds : Int32) (g_people : Int32) (g_ls : Int32) (q_ki : Int32) (q_st : Int32) : Int32 × Int32 := if q_ki = (1 : Int32) then (bnd (f_X0_drawBelow (g_high + 1) g_z) (fun x55 : Int32 × Int32 => (x55.1, x55.2))) else (if q_ki = (2 : Int32) then ((f_X0_stepped q_st g_up g_down g_high), g_z) else (if q_ki = (3 : Int32) then ((f_X0_mixed q_st g_up g_down g_high), g_z) else (if q_ki = (4 : Int32) then (if g_down < g_up then (g_high, g_z) else (0, g_z)) else (if q_ki = (5 : Int32) then (g_high, g_z) else (if q_ki = (6 : Int32) then ((f_X0_learned q_st g_up g_down g_high g_rounds g_people g_ls), g_z) else (if q_ki = (7 : Int32) then (bnd (f_X0_drawBelow (g_high + 1) g_z) (fun x119 : Int32 × Int32 => ((f_X0_heldToCards ((x119.1 / 2) + (f_X0_middle g_high)) g_high), x119.2))) else ((f_X0_middle g_high), g_z)))))))
set_option maxHeartbeats 400000 in
set_option maxRecDepth 100000 in
theorem c_X0_heldBy (l : Launch) (D : va_G) (cI cP cS cL : ClassId) (L : List Nat) (F : Nat → va_E) (g : Nat) (q : Nat) (g_up : Int32) (g_down : Int32) (g_high : Int32) (g_prize : Int32) (g_z : Int32) (g_rounds : Int32) (g_people : Int32) (g_pa : Nat) (g_cr : Nat) (g_ls : Int32) (q_nu : Int32) (q_ki : Int32) (q_st : Int32) (q_sl : Int32) (h_g : wi L F g (eG g_up g_down g_high g_prize g_z g_rounds g_people g_pa g_cr g_ls)) (h_q : wi L F q (eP q_nu q_ki q_st q_sl)) (hst : q_st.toInt ≤ 1000) : wMj l D cI cP cS cL yX0_heldBy wsX0_heldBy ({ frames := 4, cells := 0, slots := 0, locals := 87 } : Room) [.ref g, .ref q] L F (fun r1 F1 => ∃ y9 : Int32 × Int32, y9 = (f_X0_heldBy g_up g_down g_high g_z g_rounds g_people g_ls q_ki q_st) ∧ r1 = y9.1 ∧ F1 g = (eG g_up g_down g_high g_prize y9.2 g_rounds g_people g_pa g_cr g_ls) ∧ wk (fun q : Nat => q ≠ g ∧ True) F1 F) := by
  refine wM.of (cc := cX0_heldBy) (maxL := 2) (ret := (some .int)) (by decide) rfl (Nat.le_of_ble_eq_true rfl) ?_
  intro pZ eZ sZ mZ below meth cZ A ls C hl w
  obtain ⟨hx, hb, hr, hml, hts, hown, hlocks, hK, hA, hin⟩ := C
  have hown : sZ.vm.findClass RX0 = some mZ.cls := hown
  have hl : lv_has ls 2 [(0, .ref g), (1, .ref q)] := hl
  have m_0 : ((.fieldLink RX0 123 "TwoThirds$Person" "kind" "I") : Cond) ∈ wsX0_heldBy := by decide +kernel
  have i_X1 : ∀ w ∈ wsX10, w ∈ wsX0_heldBy := by decide +kernel
  have m_2 : ((.fieldLink RX0 18 "TwoThirds$Game" "high" "I") : Cond) ∈ wsX0_heldBy := by decide +kernel
  have i_X0 : ∀ w ∈ wsX00, w ∈ wsX0_heldBy := by decide +kernel
  have m_4 : ((.fieldLink RX0 59 "TwoThirds$Person" "stepCount" "I") : Cond) ∈ wsX0_heldBy := by decide +kernel
  have m_5 : ((.fieldLink RX0 9 "TwoThirds$Game" "up" "I") : Cond) ∈ wsX0_heldBy := by decide +kernel
  have m_6 : ((.fieldLink RX0 15 "TwoThirds$Game" "down" "I") : Cond) ∈ wsX0_heldBy := by decide +kernel
  have hk : wk (fun q : Nat => q ≠ g ∧ True) F F := wk.rf
  have hq : f_X0_heldBy g_up g_down g_high g_z g_rounds g_people g_ls q_ki q_st = f_X0_heldBy g_up g_down g_high g_z g_rounds g_people g_ls q_ki q_st := rfl
  refine lv_aload_n hx hb dX0_heldBy_0 rfl (lv_at hl 1 rfl) ?_
  refine w_get (v := .int q_ki) hx hb hts i_X1 hown hK w h_q rfl 1 (by decide) (hts _ m_0) rfl dX0_heldBy_1 ?_
  by_cases c1 : q_ki = (1 : Int32)
  · skip
    have hq := hq.trans (if_pos c1)
    refine w_ts (v := 1) (off := 44) (tgt := 48) hx hb dX0_heldBy_4 c1 (by decide) (by decide) rfl (by decide) ?_
    refine lv_aload_n hx hb dX0_heldBy_48 rfl (lv_at hl 0 rfl) ?_
    refine lv_aload_n hx hb dX0_heldBy_49 rfl (lv_at hl 0 rfl) ?_
    refine w_get (v := .int g_high) hx hb hts i_X0 hown hK w h_g rfl 2 (by decide) (hts _ m_2) rfl dX0_heldBy_50 ?_
    refine lv_iconst (v := 1) hx hb dX0_heldBy_53 (by decide) ?_
    refine lv_iadd hx hb dX0_heldBy_54 ?_
    refine w_finj (w_runV (rm := ({ frames := 0, cells := 0, slots := 0, locals := 0 } : Room)) (As := [.int (g_high + 1)]) (rest := []) (n := 1) hx hb hml hts hown hK w (c_X0_drawBelow l D cI cP cS cL L _ g (g_high + 1) g_up g_down g_high g_prize g_z g_rounds g_people g_pa g_cr g_ls h_g) gX0_heldBy_X0_drawBelow rfl rfl rfl (by decide +kernel) ⟨(Nat.le_of_ble_eq_true rfl), (Nat.le_of_ble_eq_true rfl)⟩ h_g rfl rfl hl.1 rfl (Nat.le_of_ble_eq_true rfl) dX0_heldBy_55 ⟨(Nat.le_of_ble_eq_true rfl), (Nat.le_of_ble_eq_true rfl)⟩) w hA (fun r9 F1 H locs hp w => ?_)
    obtain ⟨x55, hx55, hr9, hw0, hk9⟩ := hp
    subst hr9
    have hq := hq.trans (w_bnd hx55)
    have h_q := h_q.keep hk9 ⟨(wi.ne h_q h_g (by intro h; cases h)), trivial⟩
    have h_g := h_g.new hw0
    have hk := hk.call hk9 (fun q h => ⟨h.1, trivial⟩)
    exact w_iret hx hb hr hlocks w ⟨rfl, _, hq.symm, rfl, h_g.2, hk⟩ (Nat.le_refl _) (Nat.le_refl _) dX0_heldBy_58
  · skip
    have hq := hq.trans (if_neg c1)
    by_cases c2 : q_ki = (2 : Int32)
    · skip
      have hq := hq.trans (if_pos c2)
      refine w_ts (v := 2) (off := 55) (tgt := 59) hx hb dX0_heldBy_4 c2 (by decide) (by decide) rfl (by decide) ?_
      refine lv_aload_n hx hb dX0_heldBy_59 rfl (lv_at hl 0 rfl) ?_
      refine lv_aload_n hx hb dX0_heldBy_60 rfl (lv_at hl 1 rfl) ?_
      refine w_get (v := .int q_st) hx hb hts i_X1 hown hK w h_q rfl 2 (by decide) (hts _ m_4) rfl dX0_heldBy_61 ?_
      refine w_finI (w_runV (rm := ({ frames := 3, cells := 0, slots := 0, locals := 66 } : Room)) (As := [.int q_st]) (rest := []) (n := 1) hx hb hml hts hown hK w (c_X0_stepped l D cI cP cS cL L _ g q_st g_up g_down g_high g_prize g_z g_rounds g_people g_pa g_cr g_ls h_g) gX0_heldBy_X0_stepped rfl rfl rfl (by decide +kernel) ⟨(Nat.le_of_ble_eq_true rfl), (Nat.le_of_ble_eq_true rfl)⟩ h_g rfl rfl hl.1 rfl (Nat.le_of_ble_eq_true rfl) dX0_heldBy_64 ⟨(Nat.le_of_ble_eq_true rfl), (Nat.le_of_ble_eq_true rfl)⟩) w hA (fun H locs w => ?_)
      exact w_iret hx hb hr hlocks w ⟨rfl, _, hq.symm, rfl, h_g.2, hk⟩ (Nat.le_refl _) (Nat.le_refl _) dX0_heldBy_67
    · skip
      have hq := hq.trans (if_neg c2)
      by_cases c3 : q_ki = (3 : Int32)
      · skip
        have hq := hq.trans (if_pos c3)
        refine w_ts (v := 3) (off := 64) (tgt := 68) hx hb dX0_heldBy_4 c3 (by decide) (by decide) rfl (by decide) ?_
        refine lv_aload_n hx hb dX0_heldBy_68 rfl (lv_at hl 0 rfl) ?_
        refine lv_aload_n hx hb dX0_heldBy_69 rfl (lv_at hl 1 rfl) ?_
        refine w_get (v := .int q_st) hx hb hts i_X1 hown hK w h_q rfl 2 (by decide) (hts _ m_4) rfl dX0_heldBy_70 ?_
        refine w_finI (w_runV (rm := ({ frames := 2, cells := 0, slots := 0, locals := 42 } : Room)) (As := [.int q_st]) (rest := []) (n := 1) hx hb hml hts hown hK w (c_X0_mixed l D cI cP cS cL L _ g q_st g_up g_down g_high g_prize g_z g_rounds g_people g_pa g_cr g_ls h_g hst) gX0_heldBy_X0_mixed rfl rfl rfl (by decide +kernel) ⟨(Nat.le_of_ble_eq_true rfl), (Nat.le_of_ble_eq_true rfl)⟩ h_g rfl rfl hl.1 rfl (Nat.le_of_ble_eq_true rfl) dX0_heldBy_73 ⟨(Nat.le_of_ble_eq_true rfl), (Nat.le_of_ble_eq_true rfl)⟩) w hA (fun H locs w => ?_)
        exact w_iret hx hb hr hlocks w ⟨rfl, _, hq.symm, rfl, h_g.2, hk⟩ (Nat.le_refl _) (Nat.le_refl _) dX0_heldBy_76
      · skip
        have hq := hq.trans (if_neg c3)
        by_cases c4 : q_ki = (4 : Int32)
        · skip
          have hq := hq.trans (if_pos c4)
          refine w_ts (v := 4) (off := 73) (tgt := 77) hx hb dX0_heldBy_4 c4 (by decide) (by decide) rfl (by decide) ?_
          refine lv_aload_n hx hb dX0_heldBy_77 rfl (lv_at hl 0 rfl) ?_
          refine w_get (v := .int g_up) hx hb hts i_X0 hown hK w h_g rfl 0 (by decide) (hts _ m_5) rfl dX0_heldBy_78 ?_
          refine lv_aload_n hx hb dX0_heldBy_81 rfl (lv_at hl 0 rfl) ?_
          refine w_get (v := .int g_down) hx hb hts i_X0 hown hK w h_g rfl 1 (by decide) (hts _ m_6) rfl dX0_heldBy_82 ?_
          refine lv_icmp_gt (tgt := 92) hx hb dX0_heldBy_85 (by decide) (fun c5 => ?_) (fun c5 => ?_)
          · skip
            have hq := hq.trans (if_pos c5)
            refine lv_aload_n hx hb dX0_heldBy_92 rfl (lv_at hl 0 rfl) ?_
            refine w_get (v := .int g_high) hx hb hts i_X0 hown hK w h_g rfl 2 (by decide) (hts _ m_2) rfl dX0_heldBy_93 ?_
            exact w_iret hx hb hr hlocks w ⟨rfl, _, hq.symm, rfl, h_g.2, hk⟩ (Nat.le_refl _) (Nat.le_refl _) dX0_heldBy_96
          · skip
            have hq := hq.trans (if_neg c5)
            refine lv_iconst (v := 0) hx hb dX0_heldBy_88 (by decide) ?_
            refine lv_goto (tgt := 96) hx hb dX0_heldBy_89 (by decide) ?_
            exact w_iret hx hb hr hlocks w ⟨rfl, _, hq.symm, rfl, h_g.2, hk⟩ (Nat.le_refl _) (Nat.le_refl _) dX0_heldBy_96
        · skip
          have hq := hq.trans (if_neg c4)
          by_cases c6 : q_ki = (5 : Int32)
          · skip
            have hq := hq.trans (if_pos c6)
            refine w_ts (v := 5) (off := 93) (tgt := 97) hx hb dX0_heldBy_4 c6 (by decide) (by decide) rfl (by decide) ?_
            refine lv_aload_n hx hb dX0_heldBy_97 rfl (lv_at hl 0 rfl) ?_
            refine w_get (v := .int g_high) hx hb hts i_X0 hown hK w h_g rfl 2 (by decide) (hts _ m_2) rfl dX0_heldBy_98 ?_
            exact w_iret hx hb hr hlocks w ⟨rfl, _, hq.symm, rfl, h_g.2, hk⟩ (Nat.le_refl _) (Nat.le_refl _) dX0_heldBy_101
          · skip
            have hq := hq.trans (if_neg c6)
            by_cases c7 : q_ki = (6 : Int32)
            · skip
              have hq := hq.trans (if_pos c7)
              refine w_ts (v := 6) (off := 98) (tgt := 102) hx hb dX0_heldBy_4 c7 (by decide) (by decide) rfl (by decide) ?_
              refine lv_aload_n hx hb dX0_heldBy_102 rfl (lv_at hl 0 rfl) ?_
              refine lv_aload_n hx hb dX0_heldBy_103 rfl (lv_at hl 1 rfl) ?_
              refine w_get (v := .int q_st) hx hb hts i_X1 hown hK w h_q rfl 2 (by decide) (hts _ m_4) rfl dX0_heldBy_104 ?_
              refine w_finI (w_runV (rm := ({ frames := 3, cells := 0, slots := 0, locals := 66 } : Room)) (As := [.int q_st]) (rest := []) (n := 1) hx hb hml hts hown hK w (c_X0_learned l D cI cP cS cL L _ g q_st g_up g_down g_high g_prize g_z g_rounds g_people g_pa g_cr g_ls h_g) gX0_heldBy_X0_learned rfl rfl rfl (by decide +kernel) ⟨(Nat.le_of_ble_eq_true rfl), (Nat.le_of_ble_eq_true rfl)⟩ h_g rfl rfl hl.1 rfl (Nat.le_of_ble_eq_true rfl) dX0_heldBy_107 ⟨(Nat.le_of_ble_eq_true rfl), (Nat.le_of_ble_eq_true rfl)⟩) w hA (fun H locs w => ?_)
              exact w_iret hx hb hr hlocks w ⟨rfl, _, hq.symm, rfl, h_g.2, hk⟩ (Nat.le_refl _) (Nat.le_refl _) dX0_heldBy_110
            · skip
              have hq := hq.trans (if_neg c7)
              by_cases c8 : q_ki = (7 : Int32)
              · skip
                have hq := hq.trans (if_pos c8)
                refine w_ts (v := 7) (off := 107) (tgt := 111) hx hb dX0_heldBy_4 c8 (by decide) (by decide) rfl (by decide) ?_
                refine lv_aload_n hx hb dX0_heldBy_111 rfl (lv_at hl 0 rfl) ?_
                refine lv_aload_n hx hb dX0_heldBy_112 rfl (lv_at hl 0 rfl) ?_
                refine lv_aload_n hx hb dX0_heldBy_113 rfl (lv_at hl 0 rfl) ?_
                refine w_get (v := .int g_high) hx hb hts i_X0 hown hK w h_g rfl 2 (by decide) (hts _ m_2) rfl dX0_heldBy_114 ?_
                refine lv_iconst (v := 1) hx hb dX0_heldBy_117 (by decide) ?_
                refine lv_iadd hx hb dX0_heldBy_118 ?_
                refine w_finj (w_runV (rm := ({ frames := 0, cells := 0, slots := 0, locals := 0 } : Room)) (As := [.int (g_high + 1)]) (rest := [.ref g]) (n := 1) hx hb hml hts hown hK w (c_X0_drawBelow l D cI cP cS cL L _ g (g_high + 1) g_up g_down g_high g_prize g_z g_rounds g_people g_pa g_cr g_ls h_g) gX0_heldBy_X0_drawBelow rfl rfl rfl (by decide +kernel) ⟨(Nat.le_of_ble_eq_true rfl), (Nat.le_of_ble_eq_true rfl)⟩ h_g rfl rfl hl.1 rfl (Nat.le_of_ble_eq_true rfl) dX0_heldBy_119 ⟨(Nat.le_of_ble_eq_true rfl), (Nat.le_of_ble_eq_true rfl)⟩) w hA (fun r9 F1 H locs hp w => ?_)
                obtain ⟨x119, hx119, hr9, hw0, hk9⟩ := hp
                subst hr9
                have hq := hq.trans (w_bnd hx119)
                have h_q := h_q.keep hk9 ⟨(wi.ne h_q h_g (by intro h; cases h)), trivial⟩
                have h_g := h_g.new hw0
                have hk := hk.call hk9 (fun q h => ⟨h.1, trivial⟩)
                refine lv_iconst (v := 2) hx hb dX0_heldBy_122 (by decide) ?_
                refine lv_idiv hx hb dX0_heldBy_123 (by decide) ?_
                refine lv_aload_n hx hb dX0_heldBy_124 rfl (lv_at hl 0 rfl) ?_
                refine w_finI (w_runV (rm := ({ frames := 0, cells := 0, slots := 0, locals := 0 } : Room)) (As := []) (rest := [.int (x119.1 / 2), .ref g]) (n := 0) hx hb hml hts hown hK w (c_X0_middle l D cI cP cS cL L _ g g_up g_down g_high g_prize x119.2 g_rounds g_people g_pa g_cr g_ls h_g) gX0_heldBy_X0_middle rfl rfl rfl (by decide +kernel) ⟨(Nat.le_of_ble_eq_true rfl), (Nat.le_of_ble_eq_true rfl)⟩ h_g rfl rfl hl.1 rfl (Nat.le_of_ble_eq_true rfl) dX0_heldBy_125 ⟨(Nat.le_of_ble_eq_true rfl), (Nat.le_of_ble_eq_true rfl)⟩) w hA (fun H locs w => ?_)
                refine lv_iadd hx hb dX0_heldBy_128 ?_
                refine w_finI (w_runV (rm := ({ frames := 0, cells := 0, slots := 0, locals := 0 } : Room)) (As := [.int ((x119.1 / 2) + (f_X0_middle g_high))]) (rest := []) (n := 1) hx hb hml hts hown hK w (c_X0_heldToCards l D cI cP cS cL L _ g ((x119.1 / 2) + (f_X0_middle g_high)) g_up g_down g_high g_prize x119.2 g_rounds g_people g_pa g_cr g_ls h_g) gX0_heldBy_X0_heldToCards rfl rfl rfl (by decide +kernel) ⟨(Nat.le_of_ble_eq_true rfl), (Nat.le_of_ble_eq_true rfl)⟩ h_g rfl rfl hl.1 rfl (Nat.le_of_ble_eq_true rfl) dX0_heldBy_129 ⟨(Nat.le_of_ble_eq_true rfl), (Nat.le_of_ble_eq_true rfl)⟩) w hA (fun H locs w => ?_)
                exact w_iret hx hb hr hlocks w ⟨rfl, _, hq.symm, rfl, h_g.2, hk⟩ (Nat.le_refl _) (Nat.le_refl _) dX0_heldBy_132
              · skip
                have hq := hq.trans (if_neg c8)
                refine lv_tableOut (tgt := 133) hx hb dX0_heldBy_4 (by have q0 : ¬ q_ki.toInt = 1 := w_ne c1 rfl; have q1 : ¬ q_ki.toInt = 2 := w_ne c2 rfl; have q2 : ¬ q_ki.toInt = 3 := w_ne c3 rfl; have q3 : ¬ q_ki.toInt = 4 := w_ne c4 rfl; have q4 : ¬ q_ki.toInt = 5 := w_ne c6 rfl; have q5 : ¬ q_ki.toInt = 6 := w_ne c7 rfl; have q6 : ¬ q_ki.toInt = 7 := w_ne c8 rfl; omega) (by decide) ?_
                refine lv_aload_n hx hb dX0_heldBy_133 rfl (lv_at hl 0 rfl) ?_
                refine w_finI (w_runV (rm := ({ frames := 0, cells := 0, slots := 0, locals := 0 } : Room)) (As := []) (rest := []) (n := 0) hx hb hml hts hown hK w (c_X0_middle l D cI cP cS cL L _ g g_up g_down g_high g_prize g_z g_rounds g_people g_pa g_cr g_ls h_g) gX0_heldBy_X0_middle rfl rfl rfl (by decide +kernel) ⟨(Nat.le_of_ble_eq_true rfl), (Nat.le_of_ble_eq_true rfl)⟩ h_g rfl rfl hl.1 rfl (Nat.le_of_ble_eq_true rfl) dX0_heldBy_134 ⟨(Nat.le_of_ble_eq_true rfl), (Nat.le_of_ble_eq_true rfl)⟩) w hA (fun H locs w => ?_)
                exact w_iret hx hb hr hlocks w ⟨rfl, _, hq.symm, rfl, h_g.2, hk⟩ (Nat.le_refl _) (Nat.le_refl _) dX0_heldBy_137
def f_X0_cardOf (g_up : Int32) (g_down : Int32) (g_high : Int32) (g_z : Int32) (g_rounds : Int32) (g_people : Int32) (g_ls : Int32) (q_ki : Int32) (q_st : Int32) (q_sl : Int32) : Int32 × Int32 := (bnd (f_X0_heldBy g_up g_down g_high g_z g_rounds g_people g_ls q_ki q_st) (fun x2 : Int32 × Int32 => if q_sl = (0 : Int32) then (x2.1, x2.2) else (bnd (f_X0_drawBelow ((2 * q_sl) + 1) x2.2) (fun x26 : Int32 × Int32 => ((f_X0_heldToCards ((x2.1 + x26.1) - q_sl) g_high), x26.2)))))
set_option maxHeartbeats 400000 in
set_option maxRecDepth 100000 in
theorem c_X0_cardOf (l : Launch) (D : va_G) (cI cP cS cL : ClassId) (L : List Nat) (F : Nat → va_E) (g : Nat) (q : Nat) (g_up : Int32) (g_down : Int32) (g_high : Int32) (g_prize : Int32) (g_z : Int32) (g_rounds : Int32) (g_people : Int32) (g_pa : Nat) (g_cr : Nat) (g_ls : Int32) (q_nu : Int32) (q_ki : Int32) (q_st : Int32) (q_sl : Int32) (h_g : wi L F g (eG g_up g_down g_high g_prize g_z g_rounds g_people g_pa g_cr g_ls)) (h_q : wi L F q (eP q_nu q_ki q_st q_sl)) (hst : q_st.toInt ≤ 1000) : wMj l D cI cP cS cL yX0_cardOf wsX0_cardOf ({ frames := 5, cells := 0, slots := 0, locals := 108 } : Room) [.ref g, .ref q] L F (fun r1 F1 => ∃ y9 : Int32 × Int32, y9 = (f_X0_cardOf g_up g_down g_high g_z g_rounds g_people g_ls q_ki q_st q_sl) ∧ r1 = y9.1 ∧ F1 g = (eG g_up g_down g_high g_prize y9.2 g_rounds g_people g_pa g_cr g_ls) ∧ wk (fun q : Nat => q ≠ g ∧ True) F1 F) := by
  refine wM.of (cc := cX0_cardOf) (maxL := 3) (ret := (some .int)) (by decide) rfl (Nat.le_of_ble_eq_true rfl) ?_
  intro pZ eZ sZ mZ below meth cZ A ls C hl w
  obtain ⟨hx, hb, hr, hml, hts, hown, hlocks, hK, hA, hin⟩ := C
  have hown : sZ.vm.findClass RX0 = some mZ.cls := hown
  have hl : lv_has ls 3 [(0, .ref g), (1, .ref q)] := hl
  have m_0 : ((.fieldLink RX0 142 "TwoThirds$Person" "slip" "I") : Cond) ∈ wsX0_cardOf := by decide +kernel
  have i_X1 : ∀ w ∈ wsX10, w ∈ wsX0_cardOf := by decide +kernel
  have hk : wk (fun q : Nat => q ≠ g ∧ True) F F := wk.rf
  have hq : f_X0_cardOf g_up g_down g_high g_z g_rounds g_people g_ls q_ki q_st q_sl = f_X0_cardOf g_up g_down g_high g_z g_rounds g_people g_ls q_ki q_st q_sl := rfl
  refine lv_aload_n hx hb dX0_cardOf_0 rfl (lv_at hl 0 rfl) ?_
  refine lv_aload_n hx hb dX0_cardOf_1 rfl (lv_at hl 1 rfl) ?_
  refine w_finj (w_runV (rm := ({ frames := 4, cells := 0, slots := 0, locals := 87 } : Room)) (As := [.ref q]) (rest := []) (n := 1) hx hb hml hts hown hK w (c_X0_heldBy l D cI cP cS cL L _ g q g_up g_down g_high g_prize g_z g_rounds g_people g_pa g_cr g_ls q_nu q_ki q_st q_sl h_g h_q hst) gX0_cardOf_X0_heldBy rfl rfl rfl (by decide +kernel) ⟨(Nat.le_of_ble_eq_true rfl), (Nat.le_of_ble_eq_true rfl)⟩ h_g rfl rfl hl.1 rfl (Nat.le_of_ble_eq_true rfl) dX0_cardOf_2 ⟨(Nat.le_of_ble_eq_true rfl), (Nat.le_of_ble_eq_true rfl)⟩) w hA (fun r9 F1 H locs hp w => ?_)
  obtain ⟨x2, hx2, hr9, hw0, hk9⟩ := hp
  subst hr9
  have hq := hq.trans (w_bnd hx2)
  have h_q := h_q.keep hk9 ⟨(wi.ne h_q h_g (by intro h; cases h)), trivial⟩
  have h_g := h_g.new hw0
  have hk := hk.call hk9 (fun q h => ⟨h.1, trivial⟩)
  refine lv_istore_n (lv' := [(2, .int x2.1), (0, .ref g), (1, .ref q)]) hx hb dX0_cardOf_5 rfl hl (by decide) rfl (fun ls hl => ?_)
  refine lv_aload_n hx hb dX0_cardOf_6 rfl (lv_at hl 2 rfl) ?_
  refine w_get (v := .int q_sl) hx hb hts i_X1 hown hK w h_q rfl 3 (by decide) (hts _ m_0) rfl dX0_cardOf_7 ?_
  refine lv_if_ne (tgt := 15) hx hb dX0_cardOf_10 (by decide) (fun c1 => ?_) (fun c1 => ?_)
  · skip
    have hq := hq.trans (if_neg c1)
    refine lv_aload_n hx hb dX0_cardOf_15 rfl (lv_at hl 1 rfl) ?_
    refine lv_iload_n hx hb dX0_cardOf_16 rfl (lv_at hl 0 rfl) ?_
    refine lv_aload_n hx hb dX0_cardOf_17 rfl (lv_at hl 1 rfl) ?_
    refine lv_iconst (v := 2) hx hb dX0_cardOf_18 (by decide) ?_
    refine lv_aload_n hx hb dX0_cardOf_19 rfl (lv_at hl 2 rfl) ?_
    refine w_get (v := .int q_sl) hx hb hts i_X1 hown hK w h_q rfl 3 (by decide) (hts _ m_0) rfl dX0_cardOf_20 ?_
    refine lv_imul hx hb dX0_cardOf_23 ?_
    refine lv_iconst (v := 1) hx hb dX0_cardOf_24 (by decide) ?_
    refine lv_iadd hx hb dX0_cardOf_25 ?_
    refine w_finj (w_runV (rm := ({ frames := 0, cells := 0, slots := 0, locals := 0 } : Room)) (As := [.int ((2 * q_sl) + 1)]) (rest := [.int x2.1, .ref g]) (n := 1) hx hb hml hts hown hK w (c_X0_drawBelow l D cI cP cS cL L _ g ((2 * q_sl) + 1) g_up g_down g_high g_prize x2.2 g_rounds g_people g_pa g_cr g_ls h_g) gX0_cardOf_X0_drawBelow rfl rfl rfl (by decide +kernel) ⟨(Nat.le_of_ble_eq_true rfl), (Nat.le_of_ble_eq_true rfl)⟩ h_g rfl rfl hl.1 rfl (Nat.le_of_ble_eq_true rfl) dX0_cardOf_26 ⟨(Nat.le_of_ble_eq_true rfl), (Nat.le_of_ble_eq_true rfl)⟩) w hA (fun r9 F1 H locs hp w => ?_)
    obtain ⟨x26, hx26, hr9, hw0, hk9⟩ := hp
    subst hr9
    have hq := hq.trans (w_bnd hx26)
    have h_q := h_q.keep hk9 ⟨(wi.ne h_q h_g (by intro h; cases h)), trivial⟩
    have h_g := h_g.new hw0
    have hk := hk.call hk9 (fun q h => ⟨h.1, trivial⟩)
    refine lv_iadd hx hb dX0_cardOf_29 ?_
    refine lv_aload_n hx hb dX0_cardOf_30 rfl (lv_at hl 2 rfl) ?_
    refine w_get (v := .int q_sl) hx hb hts i_X1 hown hK w h_q rfl 3 (by decide) (hts _ m_0) rfl dX0_cardOf_31 ?_
    refine lv_isub hx hb dX0_cardOf_34 ?_
    refine w_finI (w_runV (rm := ({ frames := 0, cells := 0, slots := 0, locals := 0 } : Room)) (As := [.int ((x2.1 + x26.1) - q_sl)]) (rest := []) (n := 1) hx hb hml hts hown hK w (c_X0_heldToCards l D cI cP cS cL L _ g ((x2.1 + x26.1) - q_sl) g_up g_down g_high g_prize x26.2 g_rounds g_people g_pa g_cr g_ls h_g) gX0_cardOf_X0_heldToCards rfl rfl rfl (by decide +kernel) ⟨(Nat.le_of_ble_eq_true rfl), (Nat.le_of_ble_eq_true rfl)⟩ h_g rfl rfl hl.1 rfl (Nat.le_of_ble_eq_true rfl) dX0_cardOf_35 ⟨(Nat.le_of_ble_eq_true rfl), (Nat.le_of_ble_eq_true rfl)⟩) w hA (fun H locs w => ?_)
    exact w_iret hx hb hr hlocks w ⟨rfl, _, hq.symm, rfl, h_g.2, hk⟩ (Nat.le_refl _) (Nat.le_refl _) dX0_cardOf_38
  · skip
    have hq := hq.trans (if_pos c1)
    refine lv_iload_n hx hb dX0_cardOf_13 rfl (lv_at hl 0 rfl) ?_
    exact w_iret hx hb hr hlocks w ⟨rfl, _, hq.symm, rfl, h_g.2, hk⟩ (Nat.le_refl _) (Nat.le_refl _) dX0_cardOf_14
def f_X0_play_L14 (g_up : Int32) (g_down : Int32) (g_high : Int32) (g_rounds : Int32) (g_people : Int32) (g_ls : Int32) (pr_ki : Nat → Int32) (pr_st : Nat → Int32) (pr_sl : Nat → Int32) (x9 : Int32 × Int32 × (Nat → Int32)) : Nat → Nat → (Int32) → (Nat → Int32) → Int32 × Int32 × Int32 × Int32 × Int32 × (Nat → Int32)
  | 0, _, _, _ => (0, 0, 0, 0, 0, (fun _ => 0))
  | n + 1, k, u_g_z, u_g_cr_e_f => if g_people ≤ (nI k) then (u_g_z, (g_rounds + 1), (f_X3_sum x9.2.1 u_g_cr_e_f), x9.1, x9.2.1, u_g_cr_e_f) else (if (12 : Int32) ≤ (nI k) then (u_g_z, (g_rounds + 1), (f_X3_sum x9.2.1 u_g_cr_e_f), x9.1, x9.2.1, u_g_cr_e_f) else (bnd (f_X0_cardOf g_up g_down g_high u_g_z g_rounds g_people g_ls (pr_ki k) (pr_st k) (pr_sl k)) (fun x43 : Int32 × Int32 => (bnd (f_X3_write (nI k) x43.1 x9.1 x9.2.1 u_g_cr_e_f) (fun x46 : (Nat → Int32) => f_X0_play_L14 g_up g_down g_high g_rounds g_people g_ls pr_ki pr_st pr_sl x9 n ((k + 1)) x43.2 x46)))))
theorem f_X0_play_L14_s (g_up : Int32) (g_down : Int32) (g_high : Int32) (g_rounds : Int32) (g_people : Int32) (g_ls : Int32) (pr_ki : Nat → Int32) (pr_st : Nat → Int32) (pr_sl : Nat → Int32) (x9 : Int32 × Int32 × (Nat → Int32)) (n k : Nat) (u_g_z : Int32) (u_g_cr_e_f : Nat → Int32) : f_X0_play_L14 g_up g_down g_high g_rounds g_people g_ls pr_ki pr_st pr_sl x9 (n + 1) k u_g_z u_g_cr_e_f = (if g_people ≤ (nI k) then (u_g_z, (g_rounds + 1), (f_X3_sum x9.2.1 u_g_cr_e_f), x9.1, x9.2.1, u_g_cr_e_f) else (if (12 : Int32) ≤ (nI k) then (u_g_z, (g_rounds + 1), (f_X3_sum x9.2.1 u_g_cr_e_f), x9.1, x9.2.1, u_g_cr_e_f) else (bnd (f_X0_cardOf g_up g_down g_high u_g_z g_rounds g_people g_ls (pr_ki k) (pr_st k) (pr_sl k)) (fun x43 : Int32 × Int32 => (bnd (f_X3_write (nI k) x43.1 x9.1 x9.2.1 u_g_cr_e_f) (fun x46 : (Nat → Int32) => f_X0_play_L14 g_up g_down g_high g_rounds g_people g_ls pr_ki pr_st pr_sl x9 n ((k + 1)) x43.2 x46)))))) := rfl
def f_X0_play (g_up : Int32) (g_down : Int32) (g_high : Int32) (g_z : Int32) (g_rounds : Int32) (g_people : Int32) (g_ls : Int32) (g_cr_e_n : Nat) (g_cr_e_f : Nat → Int32) (pr_ki : Nat → Int32) (pr_st : Nat → Int32) (pr_sl : Nat → Int32) : Int32 × Int32 × Int32 × Int32 × Int32 × (Nat → Int32) := (bnd (f_X3_begin 2 g_people g_cr_e_n g_cr_e_f) (fun x9 : Int32 × Int32 × (Nat → Int32) => f_X0_play_L14 g_up g_down g_high g_rounds g_people g_ls pr_ki pr_st pr_sl x9 (g_people.toNatClampNeg + 1) 0 g_z x9.2.2))
set_option maxHeartbeats 400000 in
set_option maxRecDepth 100000 in
theorem c_X0_play (l : Launch) (D : va_G) (cI cP cS cL : ClassId) (L : List Nat) (F : Nat → va_E) (g : Nat) (g_up : Int32) (g_down : Int32) (g_high : Int32) (g_prize : Int32) (g_z : Int32) (g_rounds : Int32) (g_people : Int32) (g_pa : Nat) (g_cr : Nat) (g_ls : Int32) (g_cr_e : Nat) (g_cr_so : Int32) (g_cr_sz : Int32) (g_cr_e_n : Nat) (g_cr_e_f : Nat → Int32) (pr : Nat → Nat) (pr_nu : Nat → Int32) (pr_ki : Nat → Int32) (pr_st : Nat → Int32) (pr_sl : Nat → Int32) (h_g : wi L F g (eG g_up g_down g_high g_prize g_z g_rounds g_people g_pa g_cr g_ls)) (h_g_pa : wi L F g_pa (eQ cP 12 (fun i => some (pr i)))) (h_g_cr : wi L F g_cr (eR g_cr_e g_cr_so g_cr_sz)) (h_g_cr_e : wi L F g_cr_e (eI cI g_cr_e_n g_cr_e_f)) (h_pr : ∀ i, i < 12 → wi L F (pr i) (eP (pr_nu i) (pr_ki i) (pr_st i) (pr_sl i))) (hn : g_cr_e_n < 2147483648) (hsts : ∀ i, i < 12 → (pr_st i).toInt ≤ 1000) : wMw l D cI cP cS cL yX0_play wsX0_play ({ frames := 6, cells := 0, slots := 0, locals := 130 } : Room) [.ref g] L F (fun F1 => ∃ y9 : Int32 × Int32 × Int32 × Int32 × Int32 × (Nat → Int32), y9 = (f_X0_play g_up g_down g_high g_z g_rounds g_people g_ls g_cr_e_n g_cr_e_f pr_ki pr_st pr_sl) ∧ F1 g = (eG g_up g_down g_high g_prize y9.1 y9.2.1 g_people g_pa g_cr y9.2.2.1) ∧ F1 g_cr = (eR g_cr_e y9.2.2.2.1 y9.2.2.2.2.1) ∧ F1 g_cr_e = (eI cI g_cr_e_n y9.2.2.2.2.2) ∧ wk (fun q : Nat => q ≠ g ∧ q ≠ g_cr ∧ q ≠ g_cr_e ∧ True) F1 F) := by
  refine wM.of (cc := cX0_play) (maxL := 2) (ret := none) (by decide) rfl (Nat.le_of_ble_eq_true rfl) ?_
  intro pZ eZ sZ mZ below meth cZ A ls C hl w
  obtain ⟨hx, hb, hr, hml, hts, hown, hlocks, hK, hA, hin⟩ := C
  have hown : sZ.vm.findClass RX0 = some mZ.cls := hown
  have hl : lv_has ls 2 [(0, .ref g)] := hl
  have m_0 : ((.fieldLink RX0 39 "TwoThirds$Game" "cards" "LTwoThirds$Row;") : Cond) ∈ wsX0_play := by decide +kernel
  have i_X0 : ∀ w ∈ wsX00, w ∈ wsX0_play := by decide +kernel
  have m_2 : ((.fieldLink RX0 46 "TwoThirds$Game" "people" "I") : Cond) ∈ wsX0_play := by decide +kernel
  have m_3 : ((.fieldLink RX0 56 "TwoThirds$Game" "lastSum" "I") : Cond) ∈ wsX0_play := by decide +kernel
  have m_4 : ((.fieldLink RX0 43 "TwoThirds$Game" "rounds" "I") : Cond) ∈ wsX0_play := by decide +kernel
  have m_5 : ((.fieldLink RX0 29 "TwoThirds$Game" "persons" "[LTwoThirds$Person;") : Cond) ∈ wsX0_play := by decide +kernel
  have hk : wk (fun q : Nat => q ≠ g ∧ q ≠ g_cr ∧ q ≠ g_cr_e ∧ True) F F := wk.rf
  have hq : f_X0_play g_up g_down g_high g_z g_rounds g_people g_ls g_cr_e_n g_cr_e_f pr_ki pr_st pr_sl = f_X0_play g_up g_down g_high g_z g_rounds g_people g_ls g_cr_e_n g_cr_e_f pr_ki pr_st pr_sl := rfl
  refine lv_aload_n hx hb dX0_play_0 rfl (lv_at hl 0 rfl) ?_
  refine w_get (v := .ref g_cr) hx hb hts i_X0 hown hK w h_g rfl 8 (by decide) (hts _ m_0) rfl dX0_play_1 ?_
  refine lv_iconst (v := 2) hx hb dX0_play_4 (by decide) ?_
  refine lv_aload_n hx hb dX0_play_5 rfl (lv_at hl 0 rfl) ?_
  refine w_get (v := .int g_people) hx hb hts i_X0 hown hK w h_g rfl 6 (by decide) (hts _ m_2) rfl dX0_play_6 ?_
  refine w_finw (w_runV (rm := ({ frames := 1, cells := 0, slots := 0, locals := 23 } : Room)) (As := [.int 2, .int g_people]) (rest := []) (n := 2) hx hb hml hts hown hK w (c_X3_begin l D cI cP cS cL L _ g_cr 2 g_people g_cr_e g_cr_so g_cr_sz g_cr_e_n g_cr_e_f h_g_cr h_g_cr_e hn) gX0_play_X3_begin rfl rfl rfl (by decide +kernel) ⟨(Nat.le_of_ble_eq_true rfl), (Nat.le_of_ble_eq_true rfl)⟩ h_g_cr rfl rfl hl.1 rfl (Nat.le_of_ble_eq_true rfl) dX0_play_9 ⟨(Nat.le_of_ble_eq_true rfl), (Nat.le_of_ble_eq_true rfl)⟩) w hA (fun F1 H locs hp w => ?_)
  obtain ⟨x9, hx9, hw0, hw1, hk9⟩ := hp
  have hq := hq.trans (w_bnd hx9)
  have h_g := h_g.keep hk9 ⟨(wi.ne h_g h_g_cr (by intro h; cases h)), (wi.ne h_g h_g_cr_e (by intro h; cases h)), trivial⟩
  have h_g_pa := h_g_pa.keep hk9 ⟨(wi.ne h_g_pa h_g_cr (by intro h; cases h)), (wi.ne h_g_pa h_g_cr_e (by intro h; cases h)), trivial⟩
  have h_pr := fun i (hi : i < 12) => (h_pr i hi).keep hk9 ⟨(wi.ne (h_pr i hi) h_g_cr (by intro h; cases h)), (wi.ne (h_pr i hi) h_g_cr_e (by intro h; cases h)), trivial⟩
  have h_g_cr := h_g_cr.new hw0
  have h_g_cr_e := h_g_cr_e.new hw1
  have hk := hk.call hk9 (fun q h => ⟨h.2.1, h.2.2.1, trivial⟩)
  refine lv_iconst (v := 0) hx hb dX0_play_12 (by decide) ?_
  refine lv_istore_n (lv' := [(1, .int 0), (0, .ref g)]) hx hb dX0_play_13 rfl hl (by decide) rfl (fun ls hl => ?_)
  have hL14 : ∀ (n k : Nat) (u_g_z : Int32) (u_g_cr_e_f : Nat → Int32) (F1 : Nat → va_E) (H : Heap) (locs : List Loc) (ls : Array Slot), k ≤ g_people.toNatClampNeg → g_people.toNatClampNeg - k < n → f_X0_play g_up g_down g_high g_z g_rounds g_people g_ls g_cr_e_n g_cr_e_f pr_ki pr_st pr_sl = f_X0_play_L14 g_up g_down g_high g_rounds g_people g_ls pr_ki pr_st pr_sl x9 n k u_g_z u_g_cr_e_f → lv_has ls 2 [(0, .ref g), (1, .int (nI k))] → ww D A sZ.heap L F1 H locs → (wi L F1 g (eG g_up g_down g_high g_prize u_g_z g_rounds g_people g_pa g_cr g_ls)) → (wi L F1 g_pa (eQ cP 12 (fun i => some (pr i)))) → (wi L F1 g_cr (eR g_cr_e x9.1 x9.2.1)) → (wi L F1 g_cr_e (eI cI g_cr_e_n u_g_cr_e_f)) → (∀ i, i < 12 → wi L F1 (pr i) (eP (pr_nu i) (pr_ki i) (pr_st i) (pr_sl i))) → wk (fun q : Nat => q ≠ g ∧ q ≠ g_cr ∧ q ≠ g_cr_e ∧ True) F1 F → W pZ l eZ ({ frames := 6, cells := 0, slots := 0, locals := 130 } : Room) sZ mZ [.ref g].toArray below meth cZ H locs 0 0 (MQ below (wQv D A (fun L1 F1 => L1 = L ∧ ∃ y9 : Int32 × Int32 × Int32 × Int32 × Int32 × (Nat → Int32), y9 = (f_X0_play g_up g_down g_high g_z g_rounds g_people g_ls g_cr_e_n g_cr_e_f pr_ki pr_st pr_sl) ∧ F1 g = (eG g_up g_down g_high g_prize y9.1 y9.2.1 g_people g_pa g_cr y9.2.2.1) ∧ F1 g_cr = (eR g_cr_e y9.2.2.2.1 y9.2.2.2.2.1) ∧ F1 g_cr_e = (eI cI g_cr_e_n y9.2.2.2.2.2) ∧ wk (fun q : Nat => q ≠ g ∧ q ≠ g_cr ∧ q ≠ g_cr_e ∧ True) F1 F)) [.ref g].toArray sZ 0 0 A) (F0 mZ 14 ls []) := by
    intro n; induction n with
    | zero => intro k u_g_z u_g_cr_e_f F1 H locs ls hkT hmeas; exact absurd hmeas (Nat.not_lt_zero _)
    | succ n ih =>
      intro k u_g_z u_g_cr_e_f F1 H locs ls hkT hmeas hq hl w h_g h_g_pa h_g_cr h_g_cr_e h_pr hk
      have hk31 : k < 2147483648 := Nat.lt_of_le_of_lt hkT (w_clamp_lt _)
      have hq := hq.trans (f_X0_play_L14_s g_up g_down g_high g_rounds g_people g_ls pr_ki pr_st pr_sl x9 n k u_g_z u_g_cr_e_f)
      refine lv_iload_n hx hb dX0_play_14 rfl (lv_at hl 1 rfl) ?_
      refine lv_aload_n hx hb dX0_play_15 rfl (lv_at hl 0 rfl) ?_
      refine w_get (v := .int g_people) hx hb hts i_X0 hown hK w h_g rfl 6 (by decide) (hts _ m_2) rfl dX0_play_16 ?_
      refine lv_icmp_ge (tgt := 55) hx hb dX0_play_19 (by decide) (fun c1 => ?_) (fun c1 => ?_)
      · skip
        have hq := hq.trans (if_pos c1)
        refine lv_aload_n hx hb dX0_play_55 rfl (lv_at hl 0 rfl) ?_
        refine lv_aload_n hx hb dX0_play_56 rfl (lv_at hl 0 rfl) ?_
        refine w_get (v := .ref g_cr) hx hb hts i_X0 hown hK w h_g rfl 8 (by decide) (hts _ m_0) rfl dX0_play_57 ?_
        refine w_finI (w_runV (rm := ({ frames := 0, cells := 0, slots := 0, locals := 0 } : Room)) (As := []) (rest := [.ref g]) (n := 0) hx hb hml hts hown hK w (c_X3_sum l D cI cP cS cL L _ g_cr g_cr_e x9.1 x9.2.1 g_cr_e_n u_g_cr_e_f h_g_cr h_g_cr_e (by rw [hx9]; exact begin_le hn)) gX0_play_X3_sum rfl rfl rfl (by decide +kernel) ⟨(Nat.le_of_ble_eq_true rfl), (Nat.le_of_ble_eq_true rfl)⟩ h_g_cr rfl rfl hl.1 rfl (Nat.le_of_ble_eq_true rfl) dX0_play_60 ⟨(Nat.le_of_ble_eq_true rfl), (Nat.le_of_ble_eq_true rfl)⟩) w hA (fun H locs w => ?_)
        have ho2 := h_g
        refine w_put (fs2 := [.int g_up, .int g_down, .int g_high, .int g_prize, .int u_g_z, .int g_rounds, .int g_people, .ref g_pa, .ref g_cr, .int (f_X3_sum x9.2.1 u_g_cr_e_f)]) hx hb hts i_X0 tyX0 tyX0_ok nmX0 hown hK w h_g rfl 9 (by decide) (hts _ m_3) rfl rfl rfl (Nat.le_of_ble_eq_true rfl) rfl dX0_play_63 (fun H locs w h_g => ?_)
        have h_g_pa := h_g_pa.upw h_g (wi.ne h_g_pa ho2 (by intro h; cases h))
        have h_g_cr := h_g_cr.upw h_g (wi.ne h_g_cr ho2 (by intro h; cases h))
        have h_g_cr_e := h_g_cr_e.upw h_g (wi.ne h_g_cr_e ho2 (by intro h; cases h))
        have h_pr := fun i (hi : i < 12) => (h_pr i hi).upw h_g (wi.ne (h_pr i hi) ho2 (by intro h; cases h))
        have hk := hk.upw h_g (fun q h => h.1)
        refine lv_aload_n hx hb dX0_play_66 rfl (lv_at hl 0 rfl) ?_
        refine lv_dup hx hb dX0_play_67 rfl ?_
        refine w_get (v := .int g_rounds) hx hb hts i_X0 hown hK w h_g rfl 5 (by decide) (hts _ m_4) rfl dX0_play_68 ?_
        refine lv_iconst (v := 1) hx hb dX0_play_71 (by decide) ?_
        refine lv_iadd hx hb dX0_play_72 ?_
        have ho3 := h_g
        refine w_put (fs2 := [.int g_up, .int g_down, .int g_high, .int g_prize, .int u_g_z, .int (g_rounds + 1), .int g_people, .ref g_pa, .ref g_cr, .int (f_X3_sum x9.2.1 u_g_cr_e_f)]) hx hb hts i_X0 tyX0 tyX0_ok nmX0 hown hK w h_g rfl 5 (by decide) (hts _ m_4) rfl rfl rfl (Nat.le_of_ble_eq_true rfl) rfl dX0_play_73 (fun H locs w h_g => ?_)
        have h_g_pa := h_g_pa.upw h_g (wi.ne h_g_pa ho3 (by intro h; cases h))
        have h_g_cr := h_g_cr.upw h_g (wi.ne h_g_cr ho3 (by intro h; cases h))
        have h_g_cr_e := h_g_cr_e.upw h_g (wi.ne h_g_cr_e ho3 (by intro h; cases h))
        have h_pr := fun i (hi : i < 12) => (h_pr i hi).upw h_g (wi.ne (h_pr i hi) ho3 (by intro h; cases h))
        have hk := hk.upw h_g (fun q h => h.1)
        exact w_vret hx hb hr hlocks w ⟨rfl, _, hq.symm, h_g.2, h_g_cr.2, h_g_cr_e.2, hk⟩ (Nat.le_refl _) (Nat.le_refl _) dX0_play_76
      · skip
        have hq := hq.trans (if_neg c1)
        have hlt19 : k < g_people.toNatClampNeg := w_ltk hk31 c1
        refine lv_iload_n hx hb dX0_play_22 rfl (lv_at hl 1 rfl) ?_
        refine lv_aload_n hx hb dX0_play_23 rfl (lv_at hl 0 rfl) ?_
        refine w_get (v := .ref g_pa) hx hb hts i_X0 hown hK w h_g rfl 7 (by decide) (hts _ m_5) rfl dX0_play_24 ?_
        refine w_len (v := 12) hx hb hK w h_g_pa 1 rfl rfl dX0_play_27 ?_
        refine lv_icmp_ge (tgt := 55) hx hb dX0_play_28 (by decide) (fun c4 => ?_) (fun c4 => ?_)
        · skip
          have hq := hq.trans (if_pos c4)
          refine lv_aload_n hx hb dX0_play_55 rfl (lv_at hl 0 rfl) ?_
          refine lv_aload_n hx hb dX0_play_56 rfl (lv_at hl 0 rfl) ?_
          refine w_get (v := .ref g_cr) hx hb hts i_X0 hown hK w h_g rfl 8 (by decide) (hts _ m_0) rfl dX0_play_57 ?_
          refine w_finI (w_runV (rm := ({ frames := 0, cells := 0, slots := 0, locals := 0 } : Room)) (As := []) (rest := [.ref g]) (n := 0) hx hb hml hts hown hK w (c_X3_sum l D cI cP cS cL L _ g_cr g_cr_e x9.1 x9.2.1 g_cr_e_n u_g_cr_e_f h_g_cr h_g_cr_e (by rw [hx9]; exact begin_le hn)) gX0_play_X3_sum rfl rfl rfl (by decide +kernel) ⟨(Nat.le_of_ble_eq_true rfl), (Nat.le_of_ble_eq_true rfl)⟩ h_g_cr rfl rfl hl.1 rfl (Nat.le_of_ble_eq_true rfl) dX0_play_60 ⟨(Nat.le_of_ble_eq_true rfl), (Nat.le_of_ble_eq_true rfl)⟩) w hA (fun H locs w => ?_)
          have ho5 := h_g
          refine w_put (fs2 := [.int g_up, .int g_down, .int g_high, .int g_prize, .int u_g_z, .int g_rounds, .int g_people, .ref g_pa, .ref g_cr, .int (f_X3_sum x9.2.1 u_g_cr_e_f)]) hx hb hts i_X0 tyX0 tyX0_ok nmX0 hown hK w h_g rfl 9 (by decide) (hts _ m_3) rfl rfl rfl (Nat.le_of_ble_eq_true rfl) rfl dX0_play_63 (fun H locs w h_g => ?_)
          have h_g_pa := h_g_pa.upw h_g (wi.ne h_g_pa ho5 (by intro h; cases h))
          have h_g_cr := h_g_cr.upw h_g (wi.ne h_g_cr ho5 (by intro h; cases h))
          have h_g_cr_e := h_g_cr_e.upw h_g (wi.ne h_g_cr_e ho5 (by intro h; cases h))
          have h_pr := fun i (hi : i < 12) => (h_pr i hi).upw h_g (wi.ne (h_pr i hi) ho5 (by intro h; cases h))
          have hk := hk.upw h_g (fun q h => h.1)
          refine lv_aload_n hx hb dX0_play_66 rfl (lv_at hl 0 rfl) ?_
          refine lv_dup hx hb dX0_play_67 rfl ?_
          refine w_get (v := .int g_rounds) hx hb hts i_X0 hown hK w h_g rfl 5 (by decide) (hts _ m_4) rfl dX0_play_68 ?_
          refine lv_iconst (v := 1) hx hb dX0_play_71 (by decide) ?_
          refine lv_iadd hx hb dX0_play_72 ?_
          have ho6 := h_g
          refine w_put (fs2 := [.int g_up, .int g_down, .int g_high, .int g_prize, .int u_g_z, .int (g_rounds + 1), .int g_people, .ref g_pa, .ref g_cr, .int (f_X3_sum x9.2.1 u_g_cr_e_f)]) hx hb hts i_X0 tyX0 tyX0_ok nmX0 hown hK w h_g rfl 5 (by decide) (hts _ m_4) rfl rfl rfl (Nat.le_of_ble_eq_true rfl) rfl dX0_play_73 (fun H locs w h_g => ?_)
          have h_g_pa := h_g_pa.upw h_g (wi.ne h_g_pa ho6 (by intro h; cases h))
          have h_g_cr := h_g_cr.upw h_g (wi.ne h_g_cr ho6 (by intro h; cases h))
          have h_g_cr_e := h_g_cr_e.upw h_g (wi.ne h_g_cr_e ho6 (by intro h; cases h))
          have h_pr := fun i (hi : i < 12) => (h_pr i hi).upw h_g (wi.ne (h_pr i hi) ho6 (by intro h; cases h))
          have hk := hk.upw h_g (fun q h => h.1)
          exact w_vret hx hb hr hlocks w ⟨rfl, _, hq.symm, h_g.2, h_g_cr.2, h_g_cr_e.2, hk⟩ (Nat.le_refl _) (Nat.le_refl _) dX0_play_76
        · skip
          have hq := hq.trans (if_neg c4)
          have hlt28 : k < 12 := w_ltk hk31 c4
          refine lv_aload_n hx hb dX0_play_31 rfl (lv_at hl 0 rfl) ?_
          refine w_get (v := .ref g_cr) hx hb hts i_X0 hown hK w h_g rfl 8 (by decide) (hts _ m_0) rfl dX0_play_32 ?_
          refine lv_iload_n hx hb dX0_play_35 rfl (lv_at hl 1 rfl) ?_
          refine lv_aload_n hx hb dX0_play_36 rfl (lv_at hl 0 rfl) ?_
          refine lv_aload_n hx hb dX0_play_37 rfl (lv_at hl 0 rfl) ?_
          refine w_get (v := .ref g_pa) hx hb hts i_X0 hown hK w h_g rfl 7 (by decide) (hts _ m_5) rfl dX0_play_38 ?_
          refine lv_iload_n hx hb dX0_play_41 rfl (lv_at hl 1 rfl) ?_
          refine w_qldP (v := .ref (pr k)) hx hb hK w h_g_pa (vp_in_nI hlt28 (by omega)) (congrArg (fun j => Value.ref (pr j)) (nI_clamp (by omega))) dX0_play_42 ?_
          refine w_finj (w_runV (rm := ({ frames := 5, cells := 0, slots := 0, locals := 108 } : Room)) (As := [.ref (pr k)]) (rest := [.int (nI k), .ref g_cr]) (n := 1) hx hb hml hts hown hK w (c_X0_cardOf l D cI cP cS cL L _ g (pr k) g_up g_down g_high g_prize u_g_z g_rounds g_people g_pa g_cr g_ls (pr_nu k) (pr_ki k) (pr_st k) (pr_sl k) h_g (h_pr k (by omega)) (hsts k hlt28)) gX0_play_X0_cardOf rfl rfl rfl (by decide +kernel) ⟨(Nat.le_of_ble_eq_true rfl), (Nat.le_of_ble_eq_true rfl)⟩ h_g rfl rfl hl.1 rfl (Nat.le_of_ble_eq_true rfl) dX0_play_43 ⟨(Nat.le_of_ble_eq_true rfl), (Nat.le_of_ble_eq_true rfl)⟩) w hA (fun r9 F1 H locs hp w => ?_)
          obtain ⟨x43, hx43, hr9, hw0, hk9⟩ := hp
          subst hr9
          have hq := hq.trans (w_bnd hx43)
          have h_g_pa := h_g_pa.keep hk9 ⟨(wi.ne h_g_pa h_g (by intro h; cases h)), trivial⟩
          have h_g_cr := h_g_cr.keep hk9 ⟨(wi.ne h_g_cr h_g (by intro h; cases h)), trivial⟩
          have h_g_cr_e := h_g_cr_e.keep hk9 ⟨(wi.ne h_g_cr_e h_g (by intro h; cases h)), trivial⟩
          have h_pr := fun i (hi : i < 12) => (h_pr i hi).keep hk9 ⟨(wi.ne (h_pr i hi) h_g (by intro h; cases h)), trivial⟩
          have h_g := h_g.new hw0
          have hk := hk.call hk9 (fun q h => ⟨h.1, trivial⟩)
          refine w_finw (w_runV (rm := ({ frames := 1, cells := 0, slots := 0, locals := 21 } : Room)) (As := [.int (nI k), .int x43.1]) (rest := []) (n := 2) hx hb hml hts hown hK w (c_X3_write l D cI cP cS cL L _ g_cr (nI k) x43.1 g_cr_e x9.1 x9.2.1 g_cr_e_n u_g_cr_e_f h_g_cr h_g_cr_e (by rw [hx9]; exact begin_le hn)) gX0_play_X3_write rfl rfl rfl (by decide +kernel) ⟨(Nat.le_of_ble_eq_true rfl), (Nat.le_of_ble_eq_true rfl)⟩ h_g_cr rfl rfl hl.1 rfl (Nat.le_of_ble_eq_true rfl) dX0_play_46 ⟨(Nat.le_of_ble_eq_true rfl), (Nat.le_of_ble_eq_true rfl)⟩) w hA (fun F1 H locs hp w => ?_)
          obtain ⟨x46, hx46, hw0, hk9⟩ := hp
          have hq := hq.trans (w_bnd hx46)
          have h_g := h_g.keep hk9 ⟨(wi.ne h_g h_g_cr_e (by intro h; cases h)), trivial⟩
          have h_g_pa := h_g_pa.keep hk9 ⟨(wi.ne h_g_pa h_g_cr_e (by intro h; cases h)), trivial⟩
          have h_g_cr := h_g_cr.keep hk9 ⟨(wi.ne h_g_cr h_g_cr_e (by intro h; cases h)), trivial⟩
          have h_pr := fun i (hi : i < 12) => (h_pr i hi).keep hk9 ⟨(wi.ne (h_pr i hi) h_g_cr_e (by intro h; cases h)), trivial⟩
          have h_g_cr_e := h_g_cr_e.new hw0
          have hk := hk.call hk9 (fun q h => ⟨h.2.2.1, trivial⟩)
          refine lv_iinc (v := (nI (k + 1))) (lv' := [(1, .int (nI (k + 1))), (0, .ref g)]) hx hb dX0_play_49 hl (k := 1) rfl (w_inc _) (by decide) rfl (fun ls hl => ?_)
          refine lv_goto (tgt := 14) hx hb dX0_play_52 (by decide) ?_
          exact ih ((k + 1)) x43.2 x46 _ _ _ _ (by omega) (by omega) hq (lv_sub hl [1, 0] rfl) w h_g h_g_pa h_g_cr h_g_cr_e h_pr hk
  exact hL14 (g_people.toNatClampNeg + 1) 0 g_z x9.2.2 _ _ _ _ (Nat.zero_le _) (by omega) hq (lv_sub hl [1, 0] rfl) w h_g h_g_pa h_g_cr h_g_cr_e h_pr hk
def f_X0_forgetRounds (g_cr_e_n : Nat) (g_cr_e_f : Nat → Int32) : Int32 × Int32 × Int32 × Int32 × (Nat → Int32) := (bnd (f_X3_begin 2 0 g_cr_e_n g_cr_e_f) (fun x16 : Int32 × Int32 × (Nat → Int32) => (0, 0, x16.1, x16.2.1, x16.2.2)))
set_option maxHeartbeats 400000 in
set_option maxRecDepth 100000 in
theorem c_X0_forgetRounds (l : Launch) (D : va_G) (cI cP cS cL : ClassId) (L : List Nat) (F : Nat → va_E) (g : Nat) (g_up : Int32) (g_down : Int32) (g_high : Int32) (g_prize : Int32) (g_z : Int32) (g_rounds : Int32) (g_people : Int32) (g_pa : Nat) (g_cr : Nat) (g_ls : Int32) (g_cr_e : Nat) (g_cr_so : Int32) (g_cr_sz : Int32) (g_cr_e_n : Nat) (g_cr_e_f : Nat → Int32) (h_g : wi L F g (eG g_up g_down g_high g_prize g_z g_rounds g_people g_pa g_cr g_ls)) (h_g_cr : wi L F g_cr (eR g_cr_e g_cr_so g_cr_sz)) (h_g_cr_e : wi L F g_cr_e (eI cI g_cr_e_n g_cr_e_f)) (hn : g_cr_e_n < 2147483648) : wMw l D cI cP cS cL yX0_forgetRounds wsX0_forgetRounds ({ frames := 2, cells := 0, slots := 0, locals := 45 } : Room) [.ref g] L F (fun F1 => ∃ y9 : Int32 × Int32 × Int32 × Int32 × (Nat → Int32), y9 = (f_X0_forgetRounds g_cr_e_n g_cr_e_f) ∧ F1 g = (eG g_up g_down g_high g_prize g_z y9.1 g_people g_pa g_cr y9.2.1) ∧ F1 g_cr = (eR g_cr_e y9.2.2.1 y9.2.2.2.1) ∧ F1 g_cr_e = (eI cI g_cr_e_n y9.2.2.2.2) ∧ wk (fun q : Nat => q ≠ g ∧ q ≠ g_cr ∧ q ≠ g_cr_e ∧ True) F1 F) := by
  refine wM.of (cc := cX0_forgetRounds) (maxL := 1) (ret := none) (by decide) rfl (Nat.le_of_ble_eq_true rfl) ?_
  intro pZ eZ sZ mZ below meth cZ A ls C hl w
  obtain ⟨hx, hb, hr, hml, hts, hown, hlocks, hK, hA, hin⟩ := C
  have hown : sZ.vm.findClass RX0 = some mZ.cls := hown
  have hl : lv_has ls 1 [(0, .ref g)] := hl
  have m_0 : ((.fieldLink RX0 43 "TwoThirds$Game" "rounds" "I") : Cond) ∈ wsX0_forgetRounds := by decide +kernel
  have i_X0 : ∀ w ∈ wsX00, w ∈ wsX0_forgetRounds := by decide +kernel
  have m_2 : ((.fieldLink RX0 56 "TwoThirds$Game" "lastSum" "I") : Cond) ∈ wsX0_forgetRounds := by decide +kernel
  have m_3 : ((.fieldLink RX0 39 "TwoThirds$Game" "cards" "LTwoThirds$Row;") : Cond) ∈ wsX0_forgetRounds := by decide +kernel
  have hk : wk (fun q : Nat => q ≠ g ∧ q ≠ g_cr ∧ q ≠ g_cr_e ∧ True) F F := wk.rf
  have hq : f_X0_forgetRounds g_cr_e_n g_cr_e_f = f_X0_forgetRounds g_cr_e_n g_cr_e_f := rfl
  refine lv_aload_n hx hb dX0_forgetRounds_0 rfl (lv_at hl 0 rfl) ?_
  refine lv_iconst (v := 0) hx hb dX0_forgetRounds_1 (by decide) ?_
  have ho1 := h_g
  refine w_put (fs2 := [.int g_up, .int g_down, .int g_high, .int g_prize, .int g_z, .int 0, .int g_people, .ref g_pa, .ref g_cr, .int g_ls]) hx hb hts i_X0 tyX0 tyX0_ok nmX0 hown hK w h_g rfl 5 (by decide) (hts _ m_0) rfl rfl rfl (Nat.le_of_ble_eq_true rfl) rfl dX0_forgetRounds_2 (fun H locs w h_g => ?_)
  have h_g_cr := h_g_cr.upw h_g (wi.ne h_g_cr ho1 (by intro h; cases h))
  have h_g_cr_e := h_g_cr_e.upw h_g (wi.ne h_g_cr_e ho1 (by intro h; cases h))
  have hk := hk.upw h_g (fun q h => h.1)
  refine lv_aload_n hx hb dX0_forgetRounds_5 rfl (lv_at hl 0 rfl) ?_
  refine lv_iconst (v := 0) hx hb dX0_forgetRounds_6 (by decide) ?_
  have ho2 := h_g
  refine w_put (fs2 := [.int g_up, .int g_down, .int g_high, .int g_prize, .int g_z, .int 0, .int g_people, .ref g_pa, .ref g_cr, .int 0]) hx hb hts i_X0 tyX0 tyX0_ok nmX0 hown hK w h_g rfl 9 (by decide) (hts _ m_2) rfl rfl rfl (Nat.le_of_ble_eq_true rfl) rfl dX0_forgetRounds_7 (fun H locs w h_g => ?_)
  have h_g_cr := h_g_cr.upw h_g (wi.ne h_g_cr ho2 (by intro h; cases h))
  have h_g_cr_e := h_g_cr_e.upw h_g (wi.ne h_g_cr_e ho2 (by intro h; cases h))
  have hk := hk.upw h_g (fun q h => h.1)
  refine lv_aload_n hx hb dX0_forgetRounds_10 rfl (lv_at hl 0 rfl) ?_
  refine w_get (v := .ref g_cr) hx hb hts i_X0 hown hK w h_g rfl 8 (by decide) (hts _ m_3) rfl dX0_forgetRounds_11 ?_
  refine lv_iconst (v := 2) hx hb dX0_forgetRounds_14 (by decide) ?_
  refine lv_iconst (v := 0) hx hb dX0_forgetRounds_15 (by decide) ?_
  refine w_finw (w_runV (rm := ({ frames := 1, cells := 0, slots := 0, locals := 23 } : Room)) (As := [.int 2, .int 0]) (rest := []) (n := 2) hx hb hml hts hown hK w (c_X3_begin l D cI cP cS cL L _ g_cr 2 0 g_cr_e g_cr_so g_cr_sz g_cr_e_n g_cr_e_f h_g_cr h_g_cr_e hn) gX0_forgetRounds_X3_begin rfl rfl rfl (by decide +kernel) ⟨(Nat.le_of_ble_eq_true rfl), (Nat.le_of_ble_eq_true rfl)⟩ h_g_cr rfl rfl hl.1 rfl (Nat.le_of_ble_eq_true rfl) dX0_forgetRounds_16 ⟨(Nat.le_of_ble_eq_true rfl), (Nat.le_of_ble_eq_true rfl)⟩) w hA (fun F1 H locs hp w => ?_)
  obtain ⟨x16, hx16, hw0, hw1, hk9⟩ := hp
  have hq := hq.trans (w_bnd hx16)
  have h_g := h_g.keep hk9 ⟨(wi.ne h_g h_g_cr (by intro h; cases h)), (wi.ne h_g h_g_cr_e (by intro h; cases h)), trivial⟩
  have h_g_cr := h_g_cr.new hw0
  have h_g_cr_e := h_g_cr_e.new hw1
  have hk := hk.call hk9 (fun q h => ⟨h.2.1, h.2.2.1, trivial⟩)
  exact w_vret hx hb hr hlocks w ⟨rfl, _, hq.symm, h_g.2, h_g_cr.2, h_g_cr_e.2, hk⟩ (Nat.le_refl _) (Nat.le_refl _) dX0_forgetRounds_19
def f_X0_areCards_L2 (g_high : Int32) (r_sz : Int32) (r_e_f : Nat → Int32) : Nat → Nat → Int32
  | 0, _ => 0
  | n + 1, k => if r_sz ≤ (nI k) then (if r_sz ≤ (0 : Int32) then 0 else 1) else (if (f_X0_isCard (f_X3_at (nI k) r_sz r_e_f) g_high) = (0 : Int32) then 0 else (f_X0_areCards_L2 g_high r_sz r_e_f n ((k + 1)) ))
theorem f_X0_areCards_L2_s (g_high : Int32) (r_sz : Int32) (r_e_f : Nat → Int32) (n k : Nat)  : f_X0_areCards_L2 g_high r_sz r_e_f (n + 1) k = (if r_sz ≤ (nI k) then (if r_sz ≤ (0 : Int32) then 0 else 1) else (if (f_X0_isCard (f_X3_at (nI k) r_sz r_e_f) g_high) = (0 : Int32) then 0 else (f_X0_areCards_L2 g_high r_sz r_e_f n ((k + 1)) ))) := rfl
def f_X0_areCards (g_high : Int32) (r_sz : Int32) (r_e_f : Nat → Int32) : Int32 := f_X0_areCards_L2 g_high r_sz r_e_f (r_sz.toNatClampNeg + 1) 0 
set_option maxHeartbeats 400000 in
set_option maxRecDepth 100000 in
theorem c_X0_areCards (l : Launch) (D : va_G) (cI cP cS cL : ClassId) (L : List Nat) (F : Nat → va_E) (g : Nat) (r : Nat) (g_up : Int32) (g_down : Int32) (g_high : Int32) (g_prize : Int32) (g_z : Int32) (g_rounds : Int32) (g_people : Int32) (g_pa : Nat) (g_cr : Nat) (g_ls : Int32) (r_e : Nat) (r_so : Int32) (r_sz : Int32) (r_e_n : Nat) (r_e_f : Nat → Int32) (h_g : wi L F g (eG g_up g_down g_high g_prize g_z g_rounds g_people g_pa g_cr g_ls)) (h_r : wi L F r (eR r_e r_so r_sz)) (h_r_e : wi L F r_e (eI cI r_e_n r_e_f)) (hz : r_sz.toInt ≤ r_e_n) : wMI l D cI cP cS cL yX0_areCards wsX0_areCards ({ frames := 1, cells := 0, slots := 0, locals := 21 } : Room) [.ref g, .ref r] L F (f_X0_areCards g_high r_sz r_e_f) F := by
  refine wM.of (cc := cX0_areCards) (maxL := 3) (ret := (some .boolean)) (by decide) rfl (Nat.le_of_ble_eq_true rfl) ?_
  intro pZ eZ sZ mZ below meth cZ A ls C hl w
  obtain ⟨hx, hb, hr, hml, hts, hown, hlocks, hK, hA, hin⟩ := C
  have hown : sZ.vm.findClass RX0 = some mZ.cls := hown
  have hl : lv_has ls 3 [(0, .ref g), (1, .ref r)] := hl
  have m_0 : ((.fieldLink RX0 156 "TwoThirds$Row" "size" "I") : Cond) ∈ wsX0_areCards := by decide +kernel
  have i_X3 : ∀ w ∈ wsX30, w ∈ wsX0_areCards := by decide +kernel
  have hq : f_X0_areCards g_high r_sz r_e_f = f_X0_areCards g_high r_sz r_e_f := rfl
  refine lv_iconst (v := 0) hx hb dX0_areCards_0 (by decide) ?_
  refine lv_istore_n (lv' := [(2, .int 0), (0, .ref g), (1, .ref r)]) hx hb dX0_areCards_1 rfl hl (by decide) rfl (fun ls hl => ?_)
  have hL2 : ∀ (n k : Nat)  (H : Heap) (locs : List Loc) (ls : Array Slot), k ≤ r_sz.toNatClampNeg → r_sz.toNatClampNeg - k < n → f_X0_areCards g_high r_sz r_e_f = f_X0_areCards_L2 g_high r_sz r_e_f n k → lv_has ls 3 [(0, .ref g), (1, .ref r), (2, .int (nI k))] → ww D A sZ.heap L F H locs → W pZ l eZ ({ frames := 1, cells := 0, slots := 0, locals := 21 } : Room) sZ mZ [.ref g, .ref r].toArray below meth cZ H locs 0 0 (MQ below (wQi D A (fun r1 L1 F1 => r1 = (f_X0_areCards g_high r_sz r_e_f) ∧ L1 = L ∧ F1 = F)) [.ref g, .ref r].toArray sZ 0 0 A) (F0 mZ 2 ls []) := by
    intro n; induction n with
    | zero => intro k H locs ls hkT hmeas; exact absurd hmeas (Nat.not_lt_zero _)
    | succ n ih =>
      intro k H locs ls hkT hmeas hq hl w
      have hk31 : k < 2147483648 := Nat.lt_of_le_of_lt hkT (w_clamp_lt _)
      have hq := hq.trans (f_X0_areCards_L2_s g_high r_sz r_e_f n k)
      refine lv_iload_n hx hb dX0_areCards_2 rfl (lv_at hl 2 rfl) ?_
      refine lv_aload_n hx hb dX0_areCards_3 rfl (lv_at hl 1 rfl) ?_
      refine w_get (v := .int r_sz) hx hb hts i_X3 hown hK w h_r rfl 2 (by decide) (hts _ m_0) rfl dX0_areCards_4 ?_
      refine lv_icmp_ge (tgt := 30) hx hb dX0_areCards_7 (by decide) (fun c1 => ?_) (fun c1 => ?_)
      · skip
        have hq := hq.trans (if_pos c1)
        refine lv_aload_n hx hb dX0_areCards_30 rfl (lv_at hl 1 rfl) ?_
        refine w_get (v := .int r_sz) hx hb hts i_X3 hown hK w h_r rfl 2 (by decide) (hts _ m_0) rfl dX0_areCards_31 ?_
        refine lv_if_le (tgt := 41) hx hb dX0_areCards_34 (by decide) (fun c2 => ?_) (fun c2 => ?_)
        · skip
          have hq := hq.trans (if_pos c2)
          refine lv_iconst (v := 0) hx hb dX0_areCards_41 (by decide) ?_
          exact w_zret hx hb hr hlocks w rfl ⟨hq.symm, rfl, rfl⟩ (Nat.le_refl _) (Nat.le_refl _) dX0_areCards_42
        · skip
          have hq := hq.trans (if_neg c2)
          refine lv_iconst (v := 1) hx hb dX0_areCards_37 (by decide) ?_
          refine lv_goto (tgt := 42) hx hb dX0_areCards_38 (by decide) ?_
          exact w_zret hx hb hr hlocks w rfl ⟨hq.symm, rfl, rfl⟩ (Nat.le_refl _) (Nat.le_refl _) dX0_areCards_42
      · skip
        have hq := hq.trans (if_neg c1)
        have hlt7 : k < r_sz.toNatClampNeg := w_ltk hk31 c1
        refine lv_aload_n hx hb dX0_areCards_10 rfl (lv_at hl 0 rfl) ?_
        refine lv_aload_n hx hb dX0_areCards_11 rfl (lv_at hl 1 rfl) ?_
        refine lv_iload_n hx hb dX0_areCards_12 rfl (lv_at hl 2 rfl) ?_
        refine w_finI (w_runV (rm := ({ frames := 0, cells := 0, slots := 0, locals := 0 } : Room)) (As := [.int (nI k)]) (rest := [.ref g]) (n := 1) hx hb hml hts hown hK w (c_X3_at l D cI cP cS cL L _ r (nI k) r_e r_so r_sz r_e_n r_e_f h_r h_r_e hz) gX0_areCards_X3_at rfl rfl rfl (by decide +kernel) ⟨(Nat.le_of_ble_eq_true rfl), (Nat.le_of_ble_eq_true rfl)⟩ h_r rfl rfl hl.1 rfl (Nat.le_of_ble_eq_true rfl) dX0_areCards_13 ⟨(Nat.le_of_ble_eq_true rfl), (Nat.le_of_ble_eq_true rfl)⟩) w hA (fun H locs w => ?_)
        refine w_finI (w_runV (rm := ({ frames := 0, cells := 0, slots := 0, locals := 0 } : Room)) (As := [.int (f_X3_at (nI k) r_sz r_e_f)]) (rest := []) (n := 1) hx hb hml hts hown hK w (c_X0_isCard l D cI cP cS cL L _ g (f_X3_at (nI k) r_sz r_e_f) g_up g_down g_high g_prize g_z g_rounds g_people g_pa g_cr g_ls h_g) gX0_areCards_X0_isCard rfl rfl rfl (by decide +kernel) ⟨(Nat.le_of_ble_eq_true rfl), (Nat.le_of_ble_eq_true rfl)⟩ h_g rfl rfl hl.1 rfl (Nat.le_of_ble_eq_true rfl) dX0_areCards_16 ⟨(Nat.le_of_ble_eq_true rfl), (Nat.le_of_ble_eq_true rfl)⟩) w hA (fun H locs w => ?_)
        refine lv_if_ne (tgt := 24) hx hb dX0_areCards_19 (by decide) (fun c3 => ?_) (fun c3 => ?_)
        · skip
          have hq := hq.trans (if_neg c3)
          refine lv_iinc (v := (nI (k + 1))) (lv' := [(2, .int (nI (k + 1))), (0, .ref g), (1, .ref r)]) hx hb dX0_areCards_24 hl (k := 2) rfl (w_inc _) (by decide) rfl (fun ls hl => ?_)
          refine lv_goto (tgt := 2) hx hb dX0_areCards_27 (by decide) ?_
          exact ih ((k + 1))  _ _ _ (by omega) (by omega) hq (lv_sub hl [1, 2, 0] rfl) w
        · skip
          have hq := hq.trans (if_pos c3)
          refine lv_iconst (v := 0) hx hb dX0_areCards_22 (by decide) ?_
          exact w_zret hx hb hr hlocks w rfl ⟨hq.symm, rfl, rfl⟩ (Nat.le_refl _) (Nat.le_refl _) dX0_areCards_23
  exact hL2 (r_sz.toNatClampNeg + 1) 0  _ _ _ (Nat.zero_le _) (by omega) hq (lv_sub hl [1, 2, 0] rfl) w
def f_X0_targetAbove (g_up : Int32) (r_sz : Int32) (r_e_f : Nat → Int32) : Int32 := (g_up * (f_X3_sum r_sz r_e_f))
set_option maxHeartbeats 400000 in
set_option maxRecDepth 100000 in
theorem c_X0_targetAbove (l : Launch) (D : va_G) (cI cP cS cL : ClassId) (L : List Nat) (F : Nat → va_E) (g : Nat) (r : Nat) (g_up : Int32) (g_down : Int32) (g_high : Int32) (g_prize : Int32) (g_z : Int32) (g_rounds : Int32) (g_people : Int32) (g_pa : Nat) (g_cr : Nat) (g_ls : Int32) (r_e : Nat) (r_so : Int32) (r_sz : Int32) (r_e_n : Nat) (r_e_f : Nat → Int32) (h_g : wi L F g (eG g_up g_down g_high g_prize g_z g_rounds g_people g_pa g_cr g_ls)) (h_r : wi L F r (eR r_e r_so r_sz)) (h_r_e : wi L F r_e (eI cI r_e_n r_e_f)) (hz : r_sz.toInt ≤ r_e_n) : wMI l D cI cP cS cL yX0_targetAbove wsX0_targetAbove ({ frames := 1, cells := 0, slots := 0, locals := 22 } : Room) [.ref g, .ref r] L F (f_X0_targetAbove g_up r_sz r_e_f) F := by
  refine wM.of (cc := cX0_targetAbove) (maxL := 2) (ret := (some .int)) (by decide) rfl (Nat.le_of_ble_eq_true rfl) ?_
  intro pZ eZ sZ mZ below meth cZ A ls C hl w
  obtain ⟨hx, hb, hr, hml, hts, hown, hlocks, hK, hA, hin⟩ := C
  have hown : sZ.vm.findClass RX0 = some mZ.cls := hown
  have hl : lv_has ls 2 [(0, .ref g), (1, .ref r)] := hl
  have m_0 : ((.fieldLink RX0 9 "TwoThirds$Game" "up" "I") : Cond) ∈ wsX0_targetAbove := by decide +kernel
  have i_X0 : ∀ w ∈ wsX00, w ∈ wsX0_targetAbove := by decide +kernel
  have hq : f_X0_targetAbove g_up r_sz r_e_f = f_X0_targetAbove g_up r_sz r_e_f := rfl
  refine lv_aload_n hx hb dX0_targetAbove_0 rfl (lv_at hl 0 rfl) ?_
  refine w_get (v := .int g_up) hx hb hts i_X0 hown hK w h_g rfl 0 (by decide) (hts _ m_0) rfl dX0_targetAbove_1 ?_
  refine lv_aload_n hx hb dX0_targetAbove_4 rfl (lv_at hl 1 rfl) ?_
  refine w_finI (w_runV (rm := ({ frames := 0, cells := 0, slots := 0, locals := 0 } : Room)) (As := []) (rest := [.int g_up]) (n := 0) hx hb hml hts hown hK w (c_X3_sum l D cI cP cS cL L _ r r_e r_so r_sz r_e_n r_e_f h_r h_r_e hz) gX0_targetAbove_X3_sum rfl rfl rfl (by decide +kernel) ⟨(Nat.le_of_ble_eq_true rfl), (Nat.le_of_ble_eq_true rfl)⟩ h_r rfl rfl hl.1 rfl (Nat.le_of_ble_eq_true rfl) dX0_targetAbove_5 ⟨(Nat.le_of_ble_eq_true rfl), (Nat.le_of_ble_eq_true rfl)⟩) w hA (fun H locs w => ?_)
  refine lv_imul hx hb dX0_targetAbove_8 ?_
  exact w_iret hx hb hr hlocks w ⟨hq.symm, rfl, rfl⟩ (Nat.le_refl _) (Nat.le_refl _) dX0_targetAbove_9
def f_X0_targetLine (g_down : Int32) (r_sz : Int32) : Int32 := (g_down * r_sz)
set_option maxHeartbeats 400000 in
set_option maxRecDepth 100000 in
theorem c_X0_targetLine (l : Launch) (D : va_G) (cI cP cS cL : ClassId) (L : List Nat) (F : Nat → va_E) (g : Nat) (r : Nat) (g_up : Int32) (g_down : Int32) (g_high : Int32) (g_prize : Int32) (g_z : Int32) (g_rounds : Int32) (g_people : Int32) (g_pa : Nat) (g_cr : Nat) (g_ls : Int32) (r_e : Nat) (r_so : Int32) (r_sz : Int32) (h_g : wi L F g (eG g_up g_down g_high g_prize g_z g_rounds g_people g_pa g_cr g_ls)) (h_r : wi L F r (eR r_e r_so r_sz)) : wMI l D cI cP cS cL yX0_targetLine wsX0_targetLine ({ frames := 0, cells := 0, slots := 0, locals := 0 } : Room) [.ref g, .ref r] L F (f_X0_targetLine g_down r_sz) F := by
  refine wM.of (cc := cX0_targetLine) (maxL := 2) (ret := (some .int)) (by decide) rfl (Nat.le_of_ble_eq_true rfl) ?_
  intro pZ eZ sZ mZ below meth cZ A ls C hl w
  obtain ⟨hx, hb, hr, hml, hts, hown, hlocks, hK, hA, hin⟩ := C
  have hown : sZ.vm.findClass RX0 = some mZ.cls := hown
  have hl : lv_has ls 2 [(0, .ref g), (1, .ref r)] := hl
  have m_0 : ((.fieldLink RX0 15 "TwoThirds$Game" "down" "I") : Cond) ∈ wsX0_targetLine := by decide +kernel
  have i_X0 : ∀ w ∈ wsX00, w ∈ wsX0_targetLine := by decide +kernel
  have m_2 : ((.fieldLink RX0 156 "TwoThirds$Row" "size" "I") : Cond) ∈ wsX0_targetLine := by decide +kernel
  have i_X3 : ∀ w ∈ wsX30, w ∈ wsX0_targetLine := by decide +kernel
  have hq : f_X0_targetLine g_down r_sz = f_X0_targetLine g_down r_sz := rfl
  refine lv_aload_n hx hb dX0_targetLine_0 rfl (lv_at hl 0 rfl) ?_
  refine w_get (v := .int g_down) hx hb hts i_X0 hown hK w h_g rfl 1 (by decide) (hts _ m_0) rfl dX0_targetLine_1 ?_
  refine lv_aload_n hx hb dX0_targetLine_4 rfl (lv_at hl 1 rfl) ?_
  refine w_get (v := .int r_sz) hx hb hts i_X3 hown hK w h_r rfl 2 (by decide) (hts _ m_2) rfl dX0_targetLine_5 ?_
  refine lv_imul hx hb dX0_targetLine_8 ?_
  exact w_iret hx hb hr hlocks w ⟨hq.symm, rfl, rfl⟩ (Nat.le_refl _) (Nat.le_refl _) dX0_targetLine_9
def f_X0_farFrom (above : Int32) (line : Int32) (card : Int32) (g_prize : Int32) : Int32 := if ((card * line) - above) ≤ (0 : Int32) then (-((card * line) - above)) else (if g_prize = (1 : Int32) then 2147483647 else ((card * line) - above))
set_option maxHeartbeats 400000 in
set_option maxRecDepth 100000 in
theorem c_X0_farFrom (l : Launch) (D : va_G) (cI cP cS cL : ClassId) (L : List Nat) (F : Nat → va_E) (g : Nat) (above : Int32) (line : Int32) (card : Int32) (g_up : Int32) (g_down : Int32) (g_high : Int32) (g_prize : Int32) (g_z : Int32) (g_rounds : Int32) (g_people : Int32) (g_pa : Nat) (g_cr : Nat) (g_ls : Int32) (h_g : wi L F g (eG g_up g_down g_high g_prize g_z g_rounds g_people g_pa g_cr g_ls)) : wMI l D cI cP cS cL yX0_farFrom wsX0_farFrom ({ frames := 0, cells := 0, slots := 0, locals := 0 } : Room) [.ref g, .int above, .int line, .int card] L F (f_X0_farFrom above line card g_prize) F := by
  refine wM.of (cc := cX0_farFrom) (maxL := 5) (ret := (some .int)) (by decide) rfl (Nat.le_of_ble_eq_true rfl) ?_
  intro pZ eZ sZ mZ below meth cZ A ls C hl w
  obtain ⟨hx, hb, hr, hml, hts, hown, hlocks, hK, hA, hin⟩ := C
  have hown : sZ.vm.findClass RX0 = some mZ.cls := hown
  have hl : lv_has ls 5 [(0, .ref g), (1, .int above), (2, .int line), (3, .int card)] := hl
  have m_0 : ((.fieldLink RX0 21 "TwoThirds$Game" "prize" "I") : Cond) ∈ wsX0_farFrom := by decide +kernel
  have i_X0 : ∀ w ∈ wsX00, w ∈ wsX0_farFrom := by decide +kernel
  have m_2 : ((.constant RX0 103 2147483647) : Cond) ∈ wsX0_farFrom := by decide +kernel
  have hq : f_X0_farFrom above line card g_prize = f_X0_farFrom above line card g_prize := rfl
  refine lv_iload_n hx hb dX0_farFrom_0 rfl (lv_at hl 3 rfl) ?_
  refine lv_iload_n hx hb dX0_farFrom_1 rfl (lv_at hl 2 rfl) ?_
  refine lv_imul hx hb dX0_farFrom_2 ?_
  refine lv_iload_n hx hb dX0_farFrom_3 rfl (lv_at hl 1 rfl) ?_
  refine lv_isub hx hb dX0_farFrom_4 ?_
  refine lv_istore (lv' := [(4, .int ((card * line) - above)), (0, .ref g), (1, .int above), (2, .int line), (3, .int card)]) hx hb dX0_farFrom_5 hl (by decide) rfl (fun ls hl => ?_)
  refine lv_iload hx hb dX0_farFrom_7 (lv_at hl 0 rfl) ?_
  refine lv_if_le (tgt := 28) hx hb dX0_farFrom_9 (by decide) (fun c1 => ?_) (fun c1 => ?_)
  · skip
    have hq := hq.trans (if_pos c1)
    refine lv_iload hx hb dX0_farFrom_28 (lv_at hl 0 rfl) ?_
    refine lv_ineg hx hb dX0_farFrom_30 ?_
    exact w_iret hx hb hr hlocks w ⟨hq.symm, rfl, rfl⟩ (Nat.le_refl _) (Nat.le_refl _) dX0_farFrom_31
  · skip
    have hq := hq.trans (if_neg c1)
    refine lv_aload_n hx hb dX0_farFrom_12 rfl (lv_at hl 1 rfl) ?_
    refine w_get (v := .int g_prize) hx hb hts i_X0 hown hK w h_g rfl 3 (by decide) (hts _ m_0) rfl dX0_farFrom_13 ?_
    refine lv_iconst (v := 1) hx hb dX0_farFrom_16 (by decide) ?_
    refine lv_icmp_ne (tgt := 25) hx hb dX0_farFrom_17 (by decide) (fun c2 => ?_) (fun c2 => ?_)
    · skip
      have hq := hq.trans (if_neg c2)
      refine lv_iload hx hb dX0_farFrom_25 (lv_at hl 0 rfl) ?_
      exact w_iret hx hb hr hlocks w ⟨hq.symm, rfl, rfl⟩ (Nat.le_refl _) (Nat.le_refl _) dX0_farFrom_27
    · skip
      have hq := hq.trans (if_pos c2)
      refine lv_ldc (v := 2147483647) hx hb hown (hts _ m_2) dX0_farFrom_20 ?_
      refine lv_goto (tgt := 27) hx hb dX0_farFrom_22 (by decide) ?_
      exact w_iret hx hb hr hlocks w ⟨hq.symm, rfl, rfl⟩ (Nat.le_refl _) (Nat.le_refl _) dX0_farFrom_27
def f_X0_firstWinner_L23 (g_up : Int32) (g_down : Int32) (g_prize : Int32) (r_sz : Int32) (r_e_f : Nat → Int32) : Nat → Nat → Int32 → Int32 → Int32
  | 0, _, _, _ => 0
  | n + 1, k, v4, v5 => if r_sz ≤ (nI k) then v4 else (if v5 ≤ (f_X0_farFrom (f_X0_targetAbove g_up r_sz r_e_f) (f_X0_targetLine g_down r_sz) (f_X3_at (nI k) r_sz r_e_f) g_prize) then (f_X0_firstWinner_L23 g_up g_down g_prize r_sz r_e_f n ((k + 1)) v4 v5) else (f_X0_firstWinner_L23 g_up g_down g_prize r_sz r_e_f n ((k + 1)) (nI k) (f_X0_farFrom (f_X0_targetAbove g_up r_sz r_e_f) (f_X0_targetLine g_down r_sz) (f_X3_at (nI k) r_sz r_e_f) g_prize)))
theorem f_X0_firstWinner_L23_s (g_up : Int32) (g_down : Int32) (g_prize : Int32) (r_sz : Int32) (r_e_f : Nat → Int32) (n k : Nat) (v4 : Int32) (v5 : Int32) : f_X0_firstWinner_L23 g_up g_down g_prize r_sz r_e_f (n + 1) k v4 v5 = (if r_sz ≤ (nI k) then v4 else (if v5 ≤ (f_X0_farFrom (f_X0_targetAbove g_up r_sz r_e_f) (f_X0_targetLine g_down r_sz) (f_X3_at (nI k) r_sz r_e_f) g_prize) then (f_X0_firstWinner_L23 g_up g_down g_prize r_sz r_e_f n ((k + 1)) v4 v5) else (f_X0_firstWinner_L23 g_up g_down g_prize r_sz r_e_f n ((k + 1)) (nI k) (f_X0_farFrom (f_X0_targetAbove g_up r_sz r_e_f) (f_X0_targetLine g_down r_sz) (f_X3_at (nI k) r_sz r_e_f) g_prize)))) := rfl
def f_X0_firstWinner (g_up : Int32) (g_down : Int32) (g_prize : Int32) (r_sz : Int32) (r_e_f : Nat → Int32) : Int32 := f_X0_firstWinner_L23 g_up g_down g_prize r_sz r_e_f (r_sz.toNatClampNeg + 1) 0 (-4) 2147483647
set_option maxHeartbeats 400000 in
set_option maxRecDepth 100000 in
theorem c_X0_firstWinner (l : Launch) (D : va_G) (cI cP cS cL : ClassId) (L : List Nat) (F : Nat → va_E) (g : Nat) (r : Nat) (g_up : Int32) (g_down : Int32) (g_high : Int32) (g_prize : Int32) (g_z : Int32) (g_rounds : Int32) (g_people : Int32) (g_pa : Nat) (g_cr : Nat) (g_ls : Int32) (r_e : Nat) (r_so : Int32) (r_sz : Int32) (r_e_n : Nat) (r_e_f : Nat → Int32) (h_g : wi L F g (eG g_up g_down g_high g_prize g_z g_rounds g_people g_pa g_cr g_ls)) (h_r : wi L F r (eR r_e r_so r_sz)) (h_r_e : wi L F r_e (eI cI r_e_n r_e_f)) (hz : r_sz.toInt ≤ r_e_n) : wMI l D cI cP cS cL yX0_firstWinner wsX0_firstWinner ({ frames := 2, cells := 0, slots := 0, locals := 43 } : Room) [.ref g, .ref r] L F (f_X0_firstWinner g_up g_down g_prize r_sz r_e_f) F := by
  refine wM.of (cc := cX0_firstWinner) (maxL := 8) (ret := (some .int)) (by decide) rfl (Nat.le_of_ble_eq_true rfl) ?_
  intro pZ eZ sZ mZ below meth cZ A ls C hl w
  obtain ⟨hx, hb, hr, hml, hts, hown, hlocks, hK, hA, hin⟩ := C
  have hown : sZ.vm.findClass RX0 = some mZ.cls := hown
  have hl : lv_has ls 8 [(0, .ref g), (1, .ref r)] := hl
  have m_0 : ((.constant RX0 103 2147483647) : Cond) ∈ wsX0_firstWinner := by decide +kernel
  have m_1 : ((.fieldLink RX0 156 "TwoThirds$Row" "size" "I") : Cond) ∈ wsX0_firstWinner := by decide +kernel
  have i_X3 : ∀ w ∈ wsX30, w ∈ wsX0_firstWinner := by decide +kernel
  have hq : f_X0_firstWinner g_up g_down g_prize r_sz r_e_f = f_X0_firstWinner g_up g_down g_prize r_sz r_e_f := rfl
  refine lv_aload_n hx hb dX0_firstWinner_0 rfl (lv_at hl 0 rfl) ?_
  refine lv_aload_n hx hb dX0_firstWinner_1 rfl (lv_at hl 1 rfl) ?_
  refine w_finI (w_runV (rm := ({ frames := 1, cells := 0, slots := 0, locals := 22 } : Room)) (As := [.ref r]) (rest := []) (n := 1) hx hb hml hts hown hK w (c_X0_targetAbove l D cI cP cS cL L _ g r g_up g_down g_high g_prize g_z g_rounds g_people g_pa g_cr g_ls r_e r_so r_sz r_e_n r_e_f h_g h_r h_r_e hz) gX0_firstWinner_X0_targetAbove rfl rfl rfl (by decide +kernel) ⟨(Nat.le_of_ble_eq_true rfl), (Nat.le_of_ble_eq_true rfl)⟩ h_g rfl rfl hl.1 rfl (Nat.le_of_ble_eq_true rfl) dX0_firstWinner_2 ⟨(Nat.le_of_ble_eq_true rfl), (Nat.le_of_ble_eq_true rfl)⟩) w hA (fun H locs w => ?_)
  refine lv_istore_n (lv' := [(2, .int (f_X0_targetAbove g_up r_sz r_e_f)), (0, .ref g), (1, .ref r)]) hx hb dX0_firstWinner_5 rfl hl (by decide) rfl (fun ls hl => ?_)
  refine lv_aload_n hx hb dX0_firstWinner_6 rfl (lv_at hl 1 rfl) ?_
  refine lv_aload_n hx hb dX0_firstWinner_7 rfl (lv_at hl 2 rfl) ?_
  refine w_finI (w_runV (rm := ({ frames := 0, cells := 0, slots := 0, locals := 0 } : Room)) (As := [.ref r]) (rest := []) (n := 1) hx hb hml hts hown hK w (c_X0_targetLine l D cI cP cS cL L _ g r g_up g_down g_high g_prize g_z g_rounds g_people g_pa g_cr g_ls r_e r_so r_sz h_g h_r) gX0_firstWinner_X0_targetLine rfl rfl rfl (by decide +kernel) ⟨(Nat.le_of_ble_eq_true rfl), (Nat.le_of_ble_eq_true rfl)⟩ h_g rfl rfl hl.1 rfl (Nat.le_of_ble_eq_true rfl) dX0_firstWinner_8 ⟨(Nat.le_of_ble_eq_true rfl), (Nat.le_of_ble_eq_true rfl)⟩) w hA (fun H locs w => ?_)
  refine lv_istore_n (lv' := [(3, .int (f_X0_targetLine g_down r_sz)), (2, .int (f_X0_targetAbove g_up r_sz r_e_f)), (0, .ref g), (1, .ref r)]) hx hb dX0_firstWinner_11 rfl hl (by decide) rfl (fun ls hl => ?_)
  refine lv_bipush (v := (-4)) hx hb dX0_firstWinner_12 (by decide) ?_
  refine lv_istore (lv' := [(4, .int (-4)), (3, .int (f_X0_targetLine g_down r_sz)), (2, .int (f_X0_targetAbove g_up r_sz r_e_f)), (0, .ref g), (1, .ref r)]) hx hb dX0_firstWinner_14 hl (by decide) rfl (fun ls hl => ?_)
  refine lv_ldc (v := 2147483647) hx hb hown (hts _ m_0) dX0_firstWinner_16 ?_
  refine lv_istore (lv' := [(5, .int 2147483647), (4, .int (-4)), (3, .int (f_X0_targetLine g_down r_sz)), (2, .int (f_X0_targetAbove g_up r_sz r_e_f)), (0, .ref g), (1, .ref r)]) hx hb dX0_firstWinner_18 hl (by decide) rfl (fun ls hl => ?_)
  refine lv_iconst (v := 0) hx hb dX0_firstWinner_20 (by decide) ?_
  refine lv_istore (lv' := [(6, .int 0), (5, .int 2147483647), (4, .int (-4)), (3, .int (f_X0_targetLine g_down r_sz)), (2, .int (f_X0_targetAbove g_up r_sz r_e_f)), (0, .ref g), (1, .ref r)]) hx hb dX0_firstWinner_21 hl (by decide) rfl (fun ls hl => ?_)
  have hL23 : ∀ (n k : Nat) (v4 : Int32) (v5 : Int32) (H : Heap) (locs : List Loc) (ls : Array Slot), k ≤ r_sz.toNatClampNeg → r_sz.toNatClampNeg - k < n → f_X0_firstWinner g_up g_down g_prize r_sz r_e_f = f_X0_firstWinner_L23 g_up g_down g_prize r_sz r_e_f n k v4 v5 → lv_has ls 8 [(0, .ref g), (1, .ref r), (2, .int (f_X0_targetAbove g_up r_sz r_e_f)), (3, .int (f_X0_targetLine g_down r_sz)), (4, .int v4), (5, .int v5), (6, .int (nI k))] → ww D A sZ.heap L F H locs → W pZ l eZ ({ frames := 2, cells := 0, slots := 0, locals := 43 } : Room) sZ mZ [.ref g, .ref r].toArray below meth cZ H locs 0 0 (MQ below (wQi D A (fun r1 L1 F1 => r1 = (f_X0_firstWinner g_up g_down g_prize r_sz r_e_f) ∧ L1 = L ∧ F1 = F)) [.ref g, .ref r].toArray sZ 0 0 A) (F0 mZ 23 ls []) := by
    intro n; induction n with
    | zero => intro k v4 v5 H locs ls hkT hmeas; exact absurd hmeas (Nat.not_lt_zero _)
    | succ n ih =>
      intro k v4 v5 H locs ls hkT hmeas hq hl w
      have hk31 : k < 2147483648 := Nat.lt_of_le_of_lt hkT (w_clamp_lt _)
      have hq := hq.trans (f_X0_firstWinner_L23_s g_up g_down g_prize r_sz r_e_f n k v4 v5)
      refine lv_iload hx hb dX0_firstWinner_23 (lv_at hl 6 rfl) ?_
      refine lv_aload_n hx hb dX0_firstWinner_25 rfl (lv_at hl 1 rfl) ?_
      refine w_get (v := .int r_sz) hx hb hts i_X3 hown hK w h_r rfl 2 (by decide) (hts _ m_1) rfl dX0_firstWinner_26 ?_
      refine lv_icmp_ge (tgt := 67) hx hb dX0_firstWinner_29 (by decide) (fun c1 => ?_) (fun c1 => ?_)
      · skip
        have hq := hq.trans (if_pos c1)
        refine lv_iload hx hb dX0_firstWinner_67 (lv_at hl 4 rfl) ?_
        exact w_iret hx hb hr hlocks w ⟨hq.symm, rfl, rfl⟩ (Nat.le_refl _) (Nat.le_refl _) dX0_firstWinner_69
      · skip
        have hq := hq.trans (if_neg c1)
        have hlt29 : k < r_sz.toNatClampNeg := w_ltk hk31 c1
        refine lv_aload_n hx hb dX0_firstWinner_32 rfl (lv_at hl 0 rfl) ?_
        refine lv_iload_n hx hb dX0_firstWinner_33 rfl (lv_at hl 2 rfl) ?_
        refine lv_iload_n hx hb dX0_firstWinner_34 rfl (lv_at hl 3 rfl) ?_
        refine lv_aload_n hx hb dX0_firstWinner_35 rfl (lv_at hl 1 rfl) ?_
        refine lv_iload hx hb dX0_firstWinner_36 (lv_at hl 6 rfl) ?_
        refine w_finI (w_runV (rm := ({ frames := 0, cells := 0, slots := 0, locals := 0 } : Room)) (As := [.int (nI k)]) (rest := [.int (f_X0_targetLine g_down r_sz), .int (f_X0_targetAbove g_up r_sz r_e_f), .ref g]) (n := 1) hx hb hml hts hown hK w (c_X3_at l D cI cP cS cL L _ r (nI k) r_e r_so r_sz r_e_n r_e_f h_r h_r_e hz) gX0_firstWinner_X3_at rfl rfl rfl (by decide +kernel) ⟨(Nat.le_of_ble_eq_true rfl), (Nat.le_of_ble_eq_true rfl)⟩ h_r rfl rfl hl.1 rfl (Nat.le_of_ble_eq_true rfl) dX0_firstWinner_38 ⟨(Nat.le_of_ble_eq_true rfl), (Nat.le_of_ble_eq_true rfl)⟩) w hA (fun H locs w => ?_)
        refine w_finI (w_runV (rm := ({ frames := 0, cells := 0, slots := 0, locals := 0 } : Room)) (As := [.int (f_X0_targetAbove g_up r_sz r_e_f), .int (f_X0_targetLine g_down r_sz), .int (f_X3_at (nI k) r_sz r_e_f)]) (rest := []) (n := 3) hx hb hml hts hown hK w (c_X0_farFrom l D cI cP cS cL L _ g (f_X0_targetAbove g_up r_sz r_e_f) (f_X0_targetLine g_down r_sz) (f_X3_at (nI k) r_sz r_e_f) g_up g_down g_high g_prize g_z g_rounds g_people g_pa g_cr g_ls h_g) gX0_firstWinner_X0_farFrom rfl rfl rfl (by decide +kernel) ⟨(Nat.le_of_ble_eq_true rfl), (Nat.le_of_ble_eq_true rfl)⟩ h_g rfl rfl hl.1 rfl (Nat.le_of_ble_eq_true rfl) dX0_firstWinner_41 ⟨(Nat.le_of_ble_eq_true rfl), (Nat.le_of_ble_eq_true rfl)⟩) w hA (fun H locs w => ?_)
        refine lv_istore (lv' := [(7, .int (f_X0_farFrom (f_X0_targetAbove g_up r_sz r_e_f) (f_X0_targetLine g_down r_sz) (f_X3_at (nI k) r_sz r_e_f) g_prize)), (0, .ref g), (1, .ref r), (2, .int (f_X0_targetAbove g_up r_sz r_e_f)), (3, .int (f_X0_targetLine g_down r_sz)), (4, .int v4), (5, .int v5), (6, .int (nI k))]) hx hb dX0_firstWinner_44 hl (by decide) rfl (fun ls hl => ?_)
        refine lv_iload hx hb dX0_firstWinner_46 (lv_at hl 0 rfl) ?_
        refine lv_iload hx hb dX0_firstWinner_48 (lv_at hl 6 rfl) ?_
        refine lv_icmp_ge (tgt := 61) hx hb dX0_firstWinner_50 (by decide) (fun c2 => ?_) (fun c2 => ?_)
        · skip
          have hq := hq.trans (if_pos c2)
          refine lv_iinc (v := (nI (k + 1))) (lv' := [(6, .int (nI (k + 1))), (7, .int (f_X0_farFrom (f_X0_targetAbove g_up r_sz r_e_f) (f_X0_targetLine g_down r_sz) (f_X3_at (nI k) r_sz r_e_f) g_prize)), (0, .ref g), (1, .ref r), (2, .int (f_X0_targetAbove g_up r_sz r_e_f)), (3, .int (f_X0_targetLine g_down r_sz)), (4, .int v4), (5, .int v5)]) hx hb dX0_firstWinner_61 hl (k := 7) rfl (w_inc _) (by decide) rfl (fun ls hl => ?_)
          refine lv_goto (tgt := 23) hx hb dX0_firstWinner_64 (by decide) ?_
          exact ih ((k + 1)) v4 v5 _ _ _ (by omega) (by omega) hq (lv_sub hl [2, 3, 4, 5, 6, 7, 0] rfl) w
        · skip
          have hq := hq.trans (if_neg c2)
          refine lv_iload hx hb dX0_firstWinner_53 (lv_at hl 0 rfl) ?_
          refine lv_istore (lv' := [(5, .int (f_X0_farFrom (f_X0_targetAbove g_up r_sz r_e_f) (f_X0_targetLine g_down r_sz) (f_X3_at (nI k) r_sz r_e_f) g_prize)), (7, .int (f_X0_farFrom (f_X0_targetAbove g_up r_sz r_e_f) (f_X0_targetLine g_down r_sz) (f_X3_at (nI k) r_sz r_e_f) g_prize)), (0, .ref g), (1, .ref r), (2, .int (f_X0_targetAbove g_up r_sz r_e_f)), (3, .int (f_X0_targetLine g_down r_sz)), (4, .int v4), (6, .int (nI k))]) hx hb dX0_firstWinner_55 hl (by decide) rfl (fun ls hl => ?_)
          refine lv_iload hx hb dX0_firstWinner_57 (lv_at hl 7 rfl) ?_
          refine lv_istore (lv' := [(4, .int (nI k)), (5, .int (f_X0_farFrom (f_X0_targetAbove g_up r_sz r_e_f) (f_X0_targetLine g_down r_sz) (f_X3_at (nI k) r_sz r_e_f) g_prize)), (7, .int (f_X0_farFrom (f_X0_targetAbove g_up r_sz r_e_f) (f_X0_targetLine g_down r_sz) (f_X3_at (nI k) r_sz r_e_f) g_prize)), (0, .ref g), (1, .ref r), (2, .int (f_X0_targetAbove g_up r_sz r_e_f)), (3, .int (f_X0_targetLine g_down r_sz)), (6, .int (nI k))]) hx hb dX0_firstWinner_59 hl (by decide) rfl (fun ls hl => ?_)
          refine lv_iinc (v := (nI (k + 1))) (lv' := [(6, .int (nI (k + 1))), (4, .int (nI k)), (5, .int (f_X0_farFrom (f_X0_targetAbove g_up r_sz r_e_f) (f_X0_targetLine g_down r_sz) (f_X3_at (nI k) r_sz r_e_f) g_prize)), (7, .int (f_X0_farFrom (f_X0_targetAbove g_up r_sz r_e_f) (f_X0_targetLine g_down r_sz) (f_X3_at (nI k) r_sz r_e_f) g_prize)), (0, .ref g), (1, .ref r), (2, .int (f_X0_targetAbove g_up r_sz r_e_f)), (3, .int (f_X0_targetLine g_down r_sz))]) hx hb dX0_firstWinner_61 hl (k := 7) rfl (w_inc _) (by decide) rfl (fun ls hl => ?_)
          refine lv_goto (tgt := 23) hx hb dX0_firstWinner_64 (by decide) ?_
          exact ih ((k + 1)) (nI k) (f_X0_farFrom (f_X0_targetAbove g_up r_sz r_e_f) (f_X0_targetLine g_down r_sz) (f_X3_at (nI k) r_sz r_e_f) g_prize) _ _ _ (by omega) (by omega) hq (lv_sub hl [4, 5, 6, 7, 1, 2, 0] rfl) w
  exact hL23 (r_sz.toNatClampNeg + 1) 0 (-4) 2147483647 _ _ _ (Nat.zero_le _) (by omega) hq (lv_sub hl [5, 6, 4, 3, 2, 1, 0] rfl) w
def f_X0_countWinners_L47 (g_up : Int32) (g_down : Int32) (g_prize : Int32) (r_sz : Int32) (r_e_f : Nat → Int32) : Nat → Nat → Int32 → Int32
  | 0, _, _ => 0
  | n + 1, k, v6 => if r_sz ≤ (nI k) then v6 else (if (f_X0_farFrom (f_X0_targetAbove g_up r_sz r_e_f) (f_X0_targetLine g_down r_sz) (f_X3_at (nI k) r_sz r_e_f) g_prize) = (f_X0_farFrom (f_X0_targetAbove g_up r_sz r_e_f) (f_X0_targetLine g_down r_sz) (f_X3_at (f_X0_firstWinner g_up g_down g_prize r_sz r_e_f) r_sz r_e_f) g_prize) then (f_X0_countWinners_L47 g_up g_down g_prize r_sz r_e_f n ((k + 1)) (v6 + 1)) else (f_X0_countWinners_L47 g_up g_down g_prize r_sz r_e_f n ((k + 1)) v6))
theorem f_X0_countWinners_L47_s (g_up : Int32) (g_down : Int32) (g_prize : Int32) (r_sz : Int32) (r_e_f : Nat → Int32) (n k : Nat) (v6 : Int32) : f_X0_countWinners_L47 g_up g_down g_prize r_sz r_e_f (n + 1) k v6 = (if r_sz ≤ (nI k) then v6 else (if (f_X0_farFrom (f_X0_targetAbove g_up r_sz r_e_f) (f_X0_targetLine g_down r_sz) (f_X3_at (nI k) r_sz r_e_f) g_prize) = (f_X0_farFrom (f_X0_targetAbove g_up r_sz r_e_f) (f_X0_targetLine g_down r_sz) (f_X3_at (f_X0_firstWinner g_up g_down g_prize r_sz r_e_f) r_sz r_e_f) g_prize) then (f_X0_countWinners_L47 g_up g_down g_prize r_sz r_e_f n ((k + 1)) (v6 + 1)) else (f_X0_countWinners_L47 g_up g_down g_prize r_sz r_e_f n ((k + 1)) v6))) := rfl
def f_X0_countWinners (g_up : Int32) (g_down : Int32) (g_prize : Int32) (r_sz : Int32) (r_e_f : Nat → Int32) : Int32 := if (f_X0_firstWinner g_up g_down g_prize r_sz r_e_f) = (-4 : Int32) then 0 else (f_X0_countWinners_L47 g_up g_down g_prize r_sz r_e_f (r_sz.toNatClampNeg + 1) 0 0)
set_option maxHeartbeats 400000 in
set_option maxRecDepth 100000 in
theorem c_X0_countWinners (l : Launch) (D : va_G) (cI cP cS cL : ClassId) (L : List Nat) (F : Nat → va_E) (g : Nat) (r : Nat) (g_up : Int32) (g_down : Int32) (g_high : Int32) (g_prize : Int32) (g_z : Int32) (g_rounds : Int32) (g_people : Int32) (g_pa : Nat) (g_cr : Nat) (g_ls : Int32) (r_e : Nat) (r_so : Int32) (r_sz : Int32) (r_e_n : Nat) (r_e_f : Nat → Int32) (h_g : wi L F g (eG g_up g_down g_high g_prize g_z g_rounds g_people g_pa g_cr g_ls)) (h_r : wi L F r (eR r_e r_so r_sz)) (h_r_e : wi L F r_e (eI cI r_e_n r_e_f)) (hz : r_sz.toInt ≤ r_e_n) : wMI l D cI cP cS cL yX0_countWinners wsX0_countWinners ({ frames := 3, cells := 0, slots := 0, locals := 70 } : Room) [.ref g, .ref r] L F (f_X0_countWinners g_up g_down g_prize r_sz r_e_f) F := by
  refine wM.of (cc := cX0_countWinners) (maxL := 8) (ret := (some .int)) (by decide) rfl (Nat.le_of_ble_eq_true rfl) ?_
  intro pZ eZ sZ mZ below meth cZ A ls C hl w
  obtain ⟨hx, hb, hr, hml, hts, hown, hlocks, hK, hA, hin⟩ := C
  have hown : sZ.vm.findClass RX0 = some mZ.cls := hown
  have hl : lv_has ls 8 [(0, .ref g), (1, .ref r)] := hl
  have m_0 : ((.fieldLink RX0 156 "TwoThirds$Row" "size" "I") : Cond) ∈ wsX0_countWinners := by decide +kernel
  have i_X3 : ∀ w ∈ wsX30, w ∈ wsX0_countWinners := by decide +kernel
  have hq : f_X0_countWinners g_up g_down g_prize r_sz r_e_f = f_X0_countWinners g_up g_down g_prize r_sz r_e_f := rfl
  refine lv_aload_n hx hb dX0_countWinners_0 rfl (lv_at hl 0 rfl) ?_
  refine lv_aload_n hx hb dX0_countWinners_1 rfl (lv_at hl 1 rfl) ?_
  refine w_finI (w_runV (rm := ({ frames := 2, cells := 0, slots := 0, locals := 43 } : Room)) (As := [.ref r]) (rest := []) (n := 1) hx hb hml hts hown hK w (c_X0_firstWinner l D cI cP cS cL L _ g r g_up g_down g_high g_prize g_z g_rounds g_people g_pa g_cr g_ls r_e r_so r_sz r_e_n r_e_f h_g h_r h_r_e hz) gX0_countWinners_X0_firstWinner rfl rfl rfl (by decide +kernel) ⟨(Nat.le_of_ble_eq_true rfl), (Nat.le_of_ble_eq_true rfl)⟩ h_g rfl rfl hl.1 rfl (Nat.le_of_ble_eq_true rfl) dX0_countWinners_2 ⟨(Nat.le_of_ble_eq_true rfl), (Nat.le_of_ble_eq_true rfl)⟩) w hA (fun H locs w => ?_)
  refine lv_istore_n (lv' := [(2, .int (f_X0_firstWinner g_up g_down g_prize r_sz r_e_f)), (0, .ref g), (1, .ref r)]) hx hb dX0_countWinners_5 rfl hl (by decide) rfl (fun ls hl => ?_)
  refine lv_iload_n hx hb dX0_countWinners_6 rfl (lv_at hl 0 rfl) ?_
  refine lv_bipush (v := (-4)) hx hb dX0_countWinners_7 (by decide) ?_
  refine lv_icmp_ne (tgt := 14) hx hb dX0_countWinners_9 (by decide) (fun c1 => ?_) (fun c1 => ?_)
  · skip
    have hq := hq.trans (if_neg c1)
    refine lv_aload_n hx hb dX0_countWinners_14 rfl (lv_at hl 1 rfl) ?_
    refine lv_aload_n hx hb dX0_countWinners_15 rfl (lv_at hl 2 rfl) ?_
    refine w_finI (w_runV (rm := ({ frames := 1, cells := 0, slots := 0, locals := 22 } : Room)) (As := [.ref r]) (rest := []) (n := 1) hx hb hml hts hown hK w (c_X0_targetAbove l D cI cP cS cL L _ g r g_up g_down g_high g_prize g_z g_rounds g_people g_pa g_cr g_ls r_e r_so r_sz r_e_n r_e_f h_g h_r h_r_e hz) gX0_countWinners_X0_targetAbove rfl rfl rfl (by decide +kernel) ⟨(Nat.le_of_ble_eq_true rfl), (Nat.le_of_ble_eq_true rfl)⟩ h_g rfl rfl hl.1 rfl (Nat.le_of_ble_eq_true rfl) dX0_countWinners_16 ⟨(Nat.le_of_ble_eq_true rfl), (Nat.le_of_ble_eq_true rfl)⟩) w hA (fun H locs w => ?_)
    refine lv_istore_n (lv' := [(3, .int (f_X0_targetAbove g_up r_sz r_e_f)), (2, .int (f_X0_firstWinner g_up g_down g_prize r_sz r_e_f)), (0, .ref g), (1, .ref r)]) hx hb dX0_countWinners_19 rfl hl (by decide) rfl (fun ls hl => ?_)
    refine lv_aload_n hx hb dX0_countWinners_20 rfl (lv_at hl 2 rfl) ?_
    refine lv_aload_n hx hb dX0_countWinners_21 rfl (lv_at hl 3 rfl) ?_
    refine w_finI (w_runV (rm := ({ frames := 0, cells := 0, slots := 0, locals := 0 } : Room)) (As := [.ref r]) (rest := []) (n := 1) hx hb hml hts hown hK w (c_X0_targetLine l D cI cP cS cL L _ g r g_up g_down g_high g_prize g_z g_rounds g_people g_pa g_cr g_ls r_e r_so r_sz h_g h_r) gX0_countWinners_X0_targetLine rfl rfl rfl (by decide +kernel) ⟨(Nat.le_of_ble_eq_true rfl), (Nat.le_of_ble_eq_true rfl)⟩ h_g rfl rfl hl.1 rfl (Nat.le_of_ble_eq_true rfl) dX0_countWinners_22 ⟨(Nat.le_of_ble_eq_true rfl), (Nat.le_of_ble_eq_true rfl)⟩) w hA (fun H locs w => ?_)
    refine lv_istore (lv' := [(4, .int (f_X0_targetLine g_down r_sz)), (3, .int (f_X0_targetAbove g_up r_sz r_e_f)), (2, .int (f_X0_firstWinner g_up g_down g_prize r_sz r_e_f)), (0, .ref g), (1, .ref r)]) hx hb dX0_countWinners_25 hl (by decide) rfl (fun ls hl => ?_)
    refine lv_aload_n hx hb dX0_countWinners_27 rfl (lv_at hl 3 rfl) ?_
    refine lv_iload_n hx hb dX0_countWinners_28 rfl (lv_at hl 1 rfl) ?_
    refine lv_iload hx hb dX0_countWinners_29 (lv_at hl 0 rfl) ?_
    refine lv_aload_n hx hb dX0_countWinners_31 rfl (lv_at hl 4 rfl) ?_
    refine lv_iload_n hx hb dX0_countWinners_32 rfl (lv_at hl 2 rfl) ?_
    refine w_finI (w_runV (rm := ({ frames := 0, cells := 0, slots := 0, locals := 0 } : Room)) (As := [.int (f_X0_firstWinner g_up g_down g_prize r_sz r_e_f)]) (rest := [.int (f_X0_targetLine g_down r_sz), .int (f_X0_targetAbove g_up r_sz r_e_f), .ref g]) (n := 1) hx hb hml hts hown hK w (c_X3_at l D cI cP cS cL L _ r (f_X0_firstWinner g_up g_down g_prize r_sz r_e_f) r_e r_so r_sz r_e_n r_e_f h_r h_r_e hz) gX0_countWinners_X3_at rfl rfl rfl (by decide +kernel) ⟨(Nat.le_of_ble_eq_true rfl), (Nat.le_of_ble_eq_true rfl)⟩ h_r rfl rfl hl.1 rfl (Nat.le_of_ble_eq_true rfl) dX0_countWinners_33 ⟨(Nat.le_of_ble_eq_true rfl), (Nat.le_of_ble_eq_true rfl)⟩) w hA (fun H locs w => ?_)
    refine w_finI (w_runV (rm := ({ frames := 0, cells := 0, slots := 0, locals := 0 } : Room)) (As := [.int (f_X0_targetAbove g_up r_sz r_e_f), .int (f_X0_targetLine g_down r_sz), .int (f_X3_at (f_X0_firstWinner g_up g_down g_prize r_sz r_e_f) r_sz r_e_f)]) (rest := []) (n := 3) hx hb hml hts hown hK w (c_X0_farFrom l D cI cP cS cL L _ g (f_X0_targetAbove g_up r_sz r_e_f) (f_X0_targetLine g_down r_sz) (f_X3_at (f_X0_firstWinner g_up g_down g_prize r_sz r_e_f) r_sz r_e_f) g_up g_down g_high g_prize g_z g_rounds g_people g_pa g_cr g_ls h_g) gX0_countWinners_X0_farFrom rfl rfl rfl (by decide +kernel) ⟨(Nat.le_of_ble_eq_true rfl), (Nat.le_of_ble_eq_true rfl)⟩ h_g rfl rfl hl.1 rfl (Nat.le_of_ble_eq_true rfl) dX0_countWinners_36 ⟨(Nat.le_of_ble_eq_true rfl), (Nat.le_of_ble_eq_true rfl)⟩) w hA (fun H locs w => ?_)
    refine lv_istore (lv' := [(5, .int (f_X0_farFrom (f_X0_targetAbove g_up r_sz r_e_f) (f_X0_targetLine g_down r_sz) (f_X3_at (f_X0_firstWinner g_up g_down g_prize r_sz r_e_f) r_sz r_e_f) g_prize)), (4, .int (f_X0_targetLine g_down r_sz)), (3, .int (f_X0_targetAbove g_up r_sz r_e_f)), (2, .int (f_X0_firstWinner g_up g_down g_prize r_sz r_e_f)), (0, .ref g), (1, .ref r)]) hx hb dX0_countWinners_39 hl (by decide) rfl (fun ls hl => ?_)
    refine lv_iconst (v := 0) hx hb dX0_countWinners_41 (by decide) ?_
    refine lv_istore (lv' := [(6, .int 0), (5, .int (f_X0_farFrom (f_X0_targetAbove g_up r_sz r_e_f) (f_X0_targetLine g_down r_sz) (f_X3_at (f_X0_firstWinner g_up g_down g_prize r_sz r_e_f) r_sz r_e_f) g_prize)), (4, .int (f_X0_targetLine g_down r_sz)), (3, .int (f_X0_targetAbove g_up r_sz r_e_f)), (2, .int (f_X0_firstWinner g_up g_down g_prize r_sz r_e_f)), (0, .ref g), (1, .ref r)]) hx hb dX0_countWinners_42 hl (by decide) rfl (fun ls hl => ?_)
    refine lv_iconst (v := 0) hx hb dX0_countWinners_44 (by decide) ?_
    refine lv_istore (lv' := [(7, .int 0), (6, .int 0), (5, .int (f_X0_farFrom (f_X0_targetAbove g_up r_sz r_e_f) (f_X0_targetLine g_down r_sz) (f_X3_at (f_X0_firstWinner g_up g_down g_prize r_sz r_e_f) r_sz r_e_f) g_prize)), (4, .int (f_X0_targetLine g_down r_sz)), (3, .int (f_X0_targetAbove g_up r_sz r_e_f)), (2, .int (f_X0_firstWinner g_up g_down g_prize r_sz r_e_f)), (0, .ref g), (1, .ref r)]) hx hb dX0_countWinners_45 hl (by decide) rfl (fun ls hl => ?_)
    have hL47 : ∀ (n k : Nat) (v6 : Int32) (H : Heap) (locs : List Loc) (ls : Array Slot), k ≤ r_sz.toNatClampNeg → r_sz.toNatClampNeg - k < n → f_X0_countWinners g_up g_down g_prize r_sz r_e_f = f_X0_countWinners_L47 g_up g_down g_prize r_sz r_e_f n k v6 → lv_has ls 8 [(0, .ref g), (1, .ref r), (2, .int (f_X0_firstWinner g_up g_down g_prize r_sz r_e_f)), (3, .int (f_X0_targetAbove g_up r_sz r_e_f)), (4, .int (f_X0_targetLine g_down r_sz)), (5, .int (f_X0_farFrom (f_X0_targetAbove g_up r_sz r_e_f) (f_X0_targetLine g_down r_sz) (f_X3_at (f_X0_firstWinner g_up g_down g_prize r_sz r_e_f) r_sz r_e_f) g_prize)), (6, .int v6), (7, .int (nI k))] → ww D A sZ.heap L F H locs → W pZ l eZ ({ frames := 3, cells := 0, slots := 0, locals := 70 } : Room) sZ mZ [.ref g, .ref r].toArray below meth cZ H locs 0 0 (MQ below (wQi D A (fun r1 L1 F1 => r1 = (f_X0_countWinners g_up g_down g_prize r_sz r_e_f) ∧ L1 = L ∧ F1 = F)) [.ref g, .ref r].toArray sZ 0 0 A) (F0 mZ 47 ls []) := by
      intro n; induction n with
      | zero => intro k v6 H locs ls hkT hmeas; exact absurd hmeas (Nat.not_lt_zero _)
      | succ n ih =>
        intro k v6 H locs ls hkT hmeas hq hl w
        have hk31 : k < 2147483648 := Nat.lt_of_le_of_lt hkT (w_clamp_lt _)
        have hq := hq.trans (f_X0_countWinners_L47_s g_up g_down g_prize r_sz r_e_f n k v6)
        refine lv_iload hx hb dX0_countWinners_47 (lv_at hl 7 rfl) ?_
        refine lv_aload_n hx hb dX0_countWinners_49 rfl (lv_at hl 1 rfl) ?_
        refine w_get (v := .int r_sz) hx hb hts i_X3 hown hK w h_r rfl 2 (by decide) (hts _ m_0) rfl dX0_countWinners_50 ?_
        refine lv_icmp_ge (tgt := 83) hx hb dX0_countWinners_53 (by decide) (fun c2 => ?_) (fun c2 => ?_)
        · skip
          have hq := hq.trans (if_pos c2)
          refine lv_iload hx hb dX0_countWinners_83 (lv_at hl 6 rfl) ?_
          exact w_iret hx hb hr hlocks w ⟨hq.symm, rfl, rfl⟩ (Nat.le_refl _) (Nat.le_refl _) dX0_countWinners_85
        · skip
          have hq := hq.trans (if_neg c2)
          have hlt53 : k < r_sz.toNatClampNeg := w_ltk hk31 c2
          refine lv_aload_n hx hb dX0_countWinners_56 rfl (lv_at hl 0 rfl) ?_
          refine lv_iload_n hx hb dX0_countWinners_57 rfl (lv_at hl 3 rfl) ?_
          refine lv_iload hx hb dX0_countWinners_58 (lv_at hl 4 rfl) ?_
          refine lv_aload_n hx hb dX0_countWinners_60 rfl (lv_at hl 1 rfl) ?_
          refine lv_iload hx hb dX0_countWinners_61 (lv_at hl 7 rfl) ?_
          refine w_finI (w_runV (rm := ({ frames := 0, cells := 0, slots := 0, locals := 0 } : Room)) (As := [.int (nI k)]) (rest := [.int (f_X0_targetLine g_down r_sz), .int (f_X0_targetAbove g_up r_sz r_e_f), .ref g]) (n := 1) hx hb hml hts hown hK w (c_X3_at l D cI cP cS cL L _ r (nI k) r_e r_so r_sz r_e_n r_e_f h_r h_r_e hz) gX0_countWinners_X3_at rfl rfl rfl (by decide +kernel) ⟨(Nat.le_of_ble_eq_true rfl), (Nat.le_of_ble_eq_true rfl)⟩ h_r rfl rfl hl.1 rfl (Nat.le_of_ble_eq_true rfl) dX0_countWinners_63 ⟨(Nat.le_of_ble_eq_true rfl), (Nat.le_of_ble_eq_true rfl)⟩) w hA (fun H locs w => ?_)
          refine w_finI (w_runV (rm := ({ frames := 0, cells := 0, slots := 0, locals := 0 } : Room)) (As := [.int (f_X0_targetAbove g_up r_sz r_e_f), .int (f_X0_targetLine g_down r_sz), .int (f_X3_at (nI k) r_sz r_e_f)]) (rest := []) (n := 3) hx hb hml hts hown hK w (c_X0_farFrom l D cI cP cS cL L _ g (f_X0_targetAbove g_up r_sz r_e_f) (f_X0_targetLine g_down r_sz) (f_X3_at (nI k) r_sz r_e_f) g_up g_down g_high g_prize g_z g_rounds g_people g_pa g_cr g_ls h_g) gX0_countWinners_X0_farFrom rfl rfl rfl (by decide +kernel) ⟨(Nat.le_of_ble_eq_true rfl), (Nat.le_of_ble_eq_true rfl)⟩ h_g rfl rfl hl.1 rfl (Nat.le_of_ble_eq_true rfl) dX0_countWinners_66 ⟨(Nat.le_of_ble_eq_true rfl), (Nat.le_of_ble_eq_true rfl)⟩) w hA (fun H locs w => ?_)
          refine lv_iload hx hb dX0_countWinners_69 (lv_at hl 5 rfl) ?_
          refine lv_icmp_ne (tgt := 77) hx hb dX0_countWinners_71 (by decide) (fun c3 => ?_) (fun c3 => ?_)
          · skip
            have hq := hq.trans (if_neg c3)
            refine lv_iinc (v := (nI (k + 1))) (lv' := [(7, .int (nI (k + 1))), (0, .ref g), (1, .ref r), (2, .int (f_X0_firstWinner g_up g_down g_prize r_sz r_e_f)), (3, .int (f_X0_targetAbove g_up r_sz r_e_f)), (4, .int (f_X0_targetLine g_down r_sz)), (5, .int (f_X0_farFrom (f_X0_targetAbove g_up r_sz r_e_f) (f_X0_targetLine g_down r_sz) (f_X3_at (f_X0_firstWinner g_up g_down g_prize r_sz r_e_f) r_sz r_e_f) g_prize)), (6, .int v6)]) hx hb dX0_countWinners_77 hl (k := 7) rfl (w_inc _) (by decide) rfl (fun ls hl => ?_)
            refine lv_goto (tgt := 47) hx hb dX0_countWinners_80 (by decide) ?_
            exact ih ((k + 1)) v6 _ _ _ (by omega) (by omega) hq (lv_sub hl [1, 2, 3, 4, 5, 6, 7, 0] rfl) w
          · skip
            have hq := hq.trans (if_pos c3)
            refine lv_iinc (v := (v6 + 1)) (lv' := [(6, .int (v6 + 1)), (0, .ref g), (1, .ref r), (2, .int (f_X0_firstWinner g_up g_down g_prize r_sz r_e_f)), (3, .int (f_X0_targetAbove g_up r_sz r_e_f)), (4, .int (f_X0_targetLine g_down r_sz)), (5, .int (f_X0_farFrom (f_X0_targetAbove g_up r_sz r_e_f) (f_X0_targetLine g_down r_sz) (f_X3_at (f_X0_firstWinner g_up g_down g_prize r_sz r_e_f) r_sz r_e_f) g_prize)), (7, .int (nI k))]) hx hb dX0_countWinners_74 hl (k := 6) rfl rfl (by decide) rfl (fun ls hl => ?_)
            refine lv_iinc (v := (nI (k + 1))) (lv' := [(7, .int (nI (k + 1))), (6, .int (v6 + 1)), (0, .ref g), (1, .ref r), (2, .int (f_X0_firstWinner g_up g_down g_prize r_sz r_e_f)), (3, .int (f_X0_targetAbove g_up r_sz r_e_f)), (4, .int (f_X0_targetLine g_down r_sz)), (5, .int (f_X0_farFrom (f_X0_targetAbove g_up r_sz r_e_f) (f_X0_targetLine g_down r_sz) (f_X3_at (f_X0_firstWinner g_up g_down g_prize r_sz r_e_f) r_sz r_e_f) g_prize))]) hx hb dX0_countWinners_77 hl (k := 7) rfl (w_inc _) (by decide) rfl (fun ls hl => ?_)
            refine lv_goto (tgt := 47) hx hb dX0_countWinners_80 (by decide) ?_
            exact ih ((k + 1)) (v6 + 1) _ _ _ (by omega) (by omega) hq (lv_sub hl [2, 3, 4, 5, 6, 7, 1, 0] rfl) w
    exact hL47 (r_sz.toNatClampNeg + 1) 0 0 _ _ _ (Nat.zero_le _) (by omega) hq (lv_sub hl [6, 7, 5, 4, 3, 2, 1, 0] rfl) w
  · skip
    have hq := hq.trans (if_pos c1)
    refine lv_iconst (v := 0) hx hb dX0_countWinners_12 (by decide) ?_
    exact w_iret hx hb hr hlocks w ⟨hq.symm, rfl, rfl⟩ (Nat.le_refl _) (Nat.le_refl _) dX0_countWinners_13
def f_X0_isWinner (i0 : Int32) (g_up : Int32) (g_down : Int32) (g_prize : Int32) (r_sz : Int32) (r_e_f : Nat → Int32) : Int32 := if (f_X0_firstWinner g_up g_down g_prize r_sz r_e_f) = (-4 : Int32) then 0 else (if (f_X3_hasPlace i0 r_sz) = (0 : Int32) then 0 else (if (f_X0_farFrom (f_X0_targetAbove g_up r_sz r_e_f) (f_X0_targetLine g_down r_sz) (f_X3_at i0 r_sz r_e_f) g_prize) = (f_X0_farFrom (f_X0_targetAbove g_up r_sz r_e_f) (f_X0_targetLine g_down r_sz) (f_X3_at (f_X0_firstWinner g_up g_down g_prize r_sz r_e_f) r_sz r_e_f) g_prize) then 1 else 0))
theorem z_X0_isWinner (i0 : Int32) (g_up : Int32) (g_down : Int32) (g_prize : Int32) (r_sz : Int32) (r_e_f : Nat → Int32) : (f_X0_isWinner i0 g_up g_down g_prize r_sz r_e_f) = 0 ∨ (f_X0_isWinner i0 g_up g_down g_prize r_sz r_e_f) = 1 := by
  unfold f_X0_isWinner
  try simp only [bnd]
  repeat' split
  all_goals first | exact Or.inl rfl | exact Or.inr rfl | exact z_X3_hasPlace _ _
set_option maxHeartbeats 400000 in
set_option maxRecDepth 100000 in
theorem c_X0_isWinner (l : Launch) (D : va_G) (cI cP cS cL : ClassId) (L : List Nat) (F : Nat → va_E) (g : Nat) (r : Nat) (i0 : Int32) (g_up : Int32) (g_down : Int32) (g_high : Int32) (g_prize : Int32) (g_z : Int32) (g_rounds : Int32) (g_people : Int32) (g_pa : Nat) (g_cr : Nat) (g_ls : Int32) (r_e : Nat) (r_so : Int32) (r_sz : Int32) (r_e_n : Nat) (r_e_f : Nat → Int32) (h_g : wi L F g (eG g_up g_down g_high g_prize g_z g_rounds g_people g_pa g_cr g_ls)) (h_r : wi L F r (eR r_e r_so r_sz)) (h_r_e : wi L F r_e (eI cI r_e_n r_e_f)) (hz : r_sz.toInt ≤ r_e_n) : wMI l D cI cP cS cL yX0_isWinner wsX0_isWinner ({ frames := 3, cells := 0, slots := 0, locals := 70 } : Room) [.ref g, .ref r, .int i0] L F (f_X0_isWinner i0 g_up g_down g_prize r_sz r_e_f) F := by
  refine wM.of (cc := cX0_isWinner) (maxL := 6) (ret := (some .boolean)) (by decide) rfl (Nat.le_of_ble_eq_true rfl) ?_
  intro pZ eZ sZ mZ below meth cZ A ls C hl w
  obtain ⟨hx, hb, hr, hml, hts, hown, hlocks, hK, hA, hin⟩ := C
  have hown : sZ.vm.findClass RX0 = some mZ.cls := hown
  have hl : lv_has ls 6 [(0, .ref g), (1, .ref r), (2, .int i0)] := hl
  have hq : f_X0_isWinner i0 g_up g_down g_prize r_sz r_e_f = f_X0_isWinner i0 g_up g_down g_prize r_sz r_e_f := rfl
  refine lv_aload_n hx hb dX0_isWinner_0 rfl (lv_at hl 0 rfl) ?_
  refine lv_aload_n hx hb dX0_isWinner_1 rfl (lv_at hl 1 rfl) ?_
  refine w_finI (w_runV (rm := ({ frames := 2, cells := 0, slots := 0, locals := 43 } : Room)) (As := [.ref r]) (rest := []) (n := 1) hx hb hml hts hown hK w (c_X0_firstWinner l D cI cP cS cL L _ g r g_up g_down g_high g_prize g_z g_rounds g_people g_pa g_cr g_ls r_e r_so r_sz r_e_n r_e_f h_g h_r h_r_e hz) gX0_isWinner_X0_firstWinner rfl rfl rfl (by decide +kernel) ⟨(Nat.le_of_ble_eq_true rfl), (Nat.le_of_ble_eq_true rfl)⟩ h_g rfl rfl hl.1 rfl (Nat.le_of_ble_eq_true rfl) dX0_isWinner_2 ⟨(Nat.le_of_ble_eq_true rfl), (Nat.le_of_ble_eq_true rfl)⟩) w hA (fun H locs w => ?_)
  refine lv_istore_n (lv' := [(3, .int (f_X0_firstWinner g_up g_down g_prize r_sz r_e_f)), (0, .ref g), (1, .ref r), (2, .int i0)]) hx hb dX0_isWinner_5 rfl hl (by decide) rfl (fun ls hl => ?_)
  refine lv_iload_n hx hb dX0_isWinner_6 rfl (lv_at hl 0 rfl) ?_
  refine lv_bipush (v := (-4)) hx hb dX0_isWinner_7 (by decide) ?_
  refine lv_icmp_eq (tgt := 20) hx hb dX0_isWinner_9 (by decide) (fun c1 => ?_) (fun c1 => ?_)
  · skip
    have hq := hq.trans (if_pos c1)
    refine lv_iconst (v := 0) hx hb dX0_isWinner_20 (by decide) ?_
    exact w_zret hx hb hr hlocks w rfl ⟨hq.symm, rfl, rfl⟩ (Nat.le_refl _) (Nat.le_refl _) dX0_isWinner_21
  · skip
    have hq := hq.trans (if_neg c1)
    refine lv_aload_n hx hb dX0_isWinner_12 rfl (lv_at hl 2 rfl) ?_
    refine lv_iload_n hx hb dX0_isWinner_13 rfl (lv_at hl 3 rfl) ?_
    refine w_finI (w_runV (rm := ({ frames := 0, cells := 0, slots := 0, locals := 0 } : Room)) (As := [.int i0]) (rest := []) (n := 1) hx hb hml hts hown hK w (c_X3_hasPlace l D cI cP cS cL L _ r i0 r_e r_so r_sz h_r) gX0_isWinner_X3_hasPlace rfl rfl rfl (by decide +kernel) ⟨(Nat.le_of_ble_eq_true rfl), (Nat.le_of_ble_eq_true rfl)⟩ h_r rfl rfl hl.1 rfl (Nat.le_of_ble_eq_true rfl) dX0_isWinner_14 ⟨(Nat.le_of_ble_eq_true rfl), (Nat.le_of_ble_eq_true rfl)⟩) w hA (fun H locs w => ?_)
    refine lv_if_ne (tgt := 22) hx hb dX0_isWinner_17 (by decide) (fun c2 => ?_) (fun c2 => ?_)
    · skip
      have hq := hq.trans (if_neg c2)
      refine lv_aload_n hx hb dX0_isWinner_22 rfl (lv_at hl 1 rfl) ?_
      refine lv_aload_n hx hb dX0_isWinner_23 rfl (lv_at hl 2 rfl) ?_
      refine w_finI (w_runV (rm := ({ frames := 1, cells := 0, slots := 0, locals := 22 } : Room)) (As := [.ref r]) (rest := []) (n := 1) hx hb hml hts hown hK w (c_X0_targetAbove l D cI cP cS cL L _ g r g_up g_down g_high g_prize g_z g_rounds g_people g_pa g_cr g_ls r_e r_so r_sz r_e_n r_e_f h_g h_r h_r_e hz) gX0_isWinner_X0_targetAbove rfl rfl rfl (by decide +kernel) ⟨(Nat.le_of_ble_eq_true rfl), (Nat.le_of_ble_eq_true rfl)⟩ h_g rfl rfl hl.1 rfl (Nat.le_of_ble_eq_true rfl) dX0_isWinner_24 ⟨(Nat.le_of_ble_eq_true rfl), (Nat.le_of_ble_eq_true rfl)⟩) w hA (fun H locs w => ?_)
      refine lv_istore (lv' := [(4, .int (f_X0_targetAbove g_up r_sz r_e_f)), (3, .int (f_X0_firstWinner g_up g_down g_prize r_sz r_e_f)), (0, .ref g), (1, .ref r), (2, .int i0)]) hx hb dX0_isWinner_27 hl (by decide) rfl (fun ls hl => ?_)
      refine lv_aload_n hx hb dX0_isWinner_29 rfl (lv_at hl 2 rfl) ?_
      refine lv_aload_n hx hb dX0_isWinner_30 rfl (lv_at hl 3 rfl) ?_
      refine w_finI (w_runV (rm := ({ frames := 0, cells := 0, slots := 0, locals := 0 } : Room)) (As := [.ref r]) (rest := []) (n := 1) hx hb hml hts hown hK w (c_X0_targetLine l D cI cP cS cL L _ g r g_up g_down g_high g_prize g_z g_rounds g_people g_pa g_cr g_ls r_e r_so r_sz h_g h_r) gX0_isWinner_X0_targetLine rfl rfl rfl (by decide +kernel) ⟨(Nat.le_of_ble_eq_true rfl), (Nat.le_of_ble_eq_true rfl)⟩ h_g rfl rfl hl.1 rfl (Nat.le_of_ble_eq_true rfl) dX0_isWinner_31 ⟨(Nat.le_of_ble_eq_true rfl), (Nat.le_of_ble_eq_true rfl)⟩) w hA (fun H locs w => ?_)
      refine lv_istore (lv' := [(5, .int (f_X0_targetLine g_down r_sz)), (4, .int (f_X0_targetAbove g_up r_sz r_e_f)), (3, .int (f_X0_firstWinner g_up g_down g_prize r_sz r_e_f)), (0, .ref g), (1, .ref r), (2, .int i0)]) hx hb dX0_isWinner_34 hl (by decide) rfl (fun ls hl => ?_)
      refine lv_aload_n hx hb dX0_isWinner_36 rfl (lv_at hl 3 rfl) ?_
      refine lv_iload hx hb dX0_isWinner_37 (lv_at hl 1 rfl) ?_
      refine lv_iload hx hb dX0_isWinner_39 (lv_at hl 0 rfl) ?_
      refine lv_aload_n hx hb dX0_isWinner_41 rfl (lv_at hl 4 rfl) ?_
      refine lv_iload_n hx hb dX0_isWinner_42 rfl (lv_at hl 5 rfl) ?_
      refine w_finI (w_runV (rm := ({ frames := 0, cells := 0, slots := 0, locals := 0 } : Room)) (As := [.int i0]) (rest := [.int (f_X0_targetLine g_down r_sz), .int (f_X0_targetAbove g_up r_sz r_e_f), .ref g]) (n := 1) hx hb hml hts hown hK w (c_X3_at l D cI cP cS cL L _ r i0 r_e r_so r_sz r_e_n r_e_f h_r h_r_e hz) gX0_isWinner_X3_at rfl rfl rfl (by decide +kernel) ⟨(Nat.le_of_ble_eq_true rfl), (Nat.le_of_ble_eq_true rfl)⟩ h_r rfl rfl hl.1 rfl (Nat.le_of_ble_eq_true rfl) dX0_isWinner_43 ⟨(Nat.le_of_ble_eq_true rfl), (Nat.le_of_ble_eq_true rfl)⟩) w hA (fun H locs w => ?_)
      refine w_finI (w_runV (rm := ({ frames := 0, cells := 0, slots := 0, locals := 0 } : Room)) (As := [.int (f_X0_targetAbove g_up r_sz r_e_f), .int (f_X0_targetLine g_down r_sz), .int (f_X3_at i0 r_sz r_e_f)]) (rest := []) (n := 3) hx hb hml hts hown hK w (c_X0_farFrom l D cI cP cS cL L _ g (f_X0_targetAbove g_up r_sz r_e_f) (f_X0_targetLine g_down r_sz) (f_X3_at i0 r_sz r_e_f) g_up g_down g_high g_prize g_z g_rounds g_people g_pa g_cr g_ls h_g) gX0_isWinner_X0_farFrom rfl rfl rfl (by decide +kernel) ⟨(Nat.le_of_ble_eq_true rfl), (Nat.le_of_ble_eq_true rfl)⟩ h_g rfl rfl hl.1 rfl (Nat.le_of_ble_eq_true rfl) dX0_isWinner_46 ⟨(Nat.le_of_ble_eq_true rfl), (Nat.le_of_ble_eq_true rfl)⟩) w hA (fun H locs w => ?_)
      refine lv_aload_n hx hb dX0_isWinner_49 rfl (lv_at hl 3 rfl) ?_
      refine lv_iload hx hb dX0_isWinner_50 (lv_at hl 1 rfl) ?_
      refine lv_iload hx hb dX0_isWinner_52 (lv_at hl 0 rfl) ?_
      refine lv_aload_n hx hb dX0_isWinner_54 rfl (lv_at hl 4 rfl) ?_
      refine lv_iload_n hx hb dX0_isWinner_55 rfl (lv_at hl 2 rfl) ?_
      refine w_finI (w_runV (rm := ({ frames := 0, cells := 0, slots := 0, locals := 0 } : Room)) (As := [.int (f_X0_firstWinner g_up g_down g_prize r_sz r_e_f)]) (rest := [.int (f_X0_targetLine g_down r_sz), .int (f_X0_targetAbove g_up r_sz r_e_f), .ref g, .int (f_X0_farFrom (f_X0_targetAbove g_up r_sz r_e_f) (f_X0_targetLine g_down r_sz) (f_X3_at i0 r_sz r_e_f) g_prize)]) (n := 1) hx hb hml hts hown hK w (c_X3_at l D cI cP cS cL L _ r (f_X0_firstWinner g_up g_down g_prize r_sz r_e_f) r_e r_so r_sz r_e_n r_e_f h_r h_r_e hz) gX0_isWinner_X3_at rfl rfl rfl (by decide +kernel) ⟨(Nat.le_of_ble_eq_true rfl), (Nat.le_of_ble_eq_true rfl)⟩ h_r rfl rfl hl.1 rfl (Nat.le_of_ble_eq_true rfl) dX0_isWinner_56 ⟨(Nat.le_of_ble_eq_true rfl), (Nat.le_of_ble_eq_true rfl)⟩) w hA (fun H locs w => ?_)
      refine w_finI (w_runV (rm := ({ frames := 0, cells := 0, slots := 0, locals := 0 } : Room)) (As := [.int (f_X0_targetAbove g_up r_sz r_e_f), .int (f_X0_targetLine g_down r_sz), .int (f_X3_at (f_X0_firstWinner g_up g_down g_prize r_sz r_e_f) r_sz r_e_f)]) (rest := [.int (f_X0_farFrom (f_X0_targetAbove g_up r_sz r_e_f) (f_X0_targetLine g_down r_sz) (f_X3_at i0 r_sz r_e_f) g_prize)]) (n := 3) hx hb hml hts hown hK w (c_X0_farFrom l D cI cP cS cL L _ g (f_X0_targetAbove g_up r_sz r_e_f) (f_X0_targetLine g_down r_sz) (f_X3_at (f_X0_firstWinner g_up g_down g_prize r_sz r_e_f) r_sz r_e_f) g_up g_down g_high g_prize g_z g_rounds g_people g_pa g_cr g_ls h_g) gX0_isWinner_X0_farFrom rfl rfl rfl (by decide +kernel) ⟨(Nat.le_of_ble_eq_true rfl), (Nat.le_of_ble_eq_true rfl)⟩ h_g rfl rfl hl.1 rfl (Nat.le_of_ble_eq_true rfl) dX0_isWinner_59 ⟨(Nat.le_of_ble_eq_true rfl), (Nat.le_of_ble_eq_true rfl)⟩) w hA (fun H locs w => ?_)
      refine lv_icmp_ne (tgt := 69) hx hb dX0_isWinner_62 (by decide) (fun c3 => ?_) (fun c3 => ?_)
      · skip
        have hq := hq.trans (if_neg c3)
        refine lv_iconst (v := 0) hx hb dX0_isWinner_69 (by decide) ?_
        exact w_zret hx hb hr hlocks w rfl ⟨hq.symm, rfl, rfl⟩ (Nat.le_refl _) (Nat.le_refl _) dX0_isWinner_70
      · skip
        have hq := hq.trans (if_pos c3)
        refine lv_iconst (v := 1) hx hb dX0_isWinner_65 (by decide) ?_
        refine lv_goto (tgt := 70) hx hb dX0_isWinner_66 (by decide) ?_
        exact w_zret hx hb hr hlocks w rfl ⟨hq.symm, rfl, rfl⟩ (Nat.le_refl _) (Nat.le_refl _) dX0_isWinner_70
    · skip
      have hq := hq.trans (if_pos c2)
      refine lv_iconst (v := 0) hx hb dX0_isWinner_20 (by decide) ?_
      exact w_zret hx hb hr hlocks w rfl ⟨hq.symm, rfl, rfl⟩ (Nat.le_refl _) (Nat.le_refl _) dX0_isWinner_21
def f_X0_bestAgainst_L27 (g_up : Int32) (g_down : Int32) (g_high : Int32) (g_prize : Int32) (r_sz : Int32) (r_e_f : Nat → Int32) : Nat → Nat → Int32 → Int32 → Int32
  | 0, _, _, _ => 0
  | n + 1, k, v4, v5 => if g_high < (nI k) then v4 else (if (f_X0_farFrom (g_up * ((f_X3_sum r_sz r_e_f) + (nI k))) (g_down * (r_sz + 1)) (nI k) g_prize) < v5 then (f_X0_bestAgainst_L27 g_up g_down g_high g_prize r_sz r_e_f n ((k + 1)) (nI k) (f_X0_farFrom (g_up * ((f_X3_sum r_sz r_e_f) + (nI k))) (g_down * (r_sz + 1)) (nI k) g_prize)) else (if g_prize = (1 : Int32) then (if (f_X0_farFrom (g_up * ((f_X3_sum r_sz r_e_f) + (nI k))) (g_down * (r_sz + 1)) (nI k) g_prize) = (2147483647 : Int32) then (f_X0_bestAgainst_L27 g_up g_down g_high g_prize r_sz r_e_f n ((k + 1)) v4 v5) else (f_X0_bestAgainst_L27 g_up g_down g_high g_prize r_sz r_e_f n ((k + 1)) (nI k) (f_X0_farFrom (g_up * ((f_X3_sum r_sz r_e_f) + (nI k))) (g_down * (r_sz + 1)) (nI k) g_prize))) else (f_X0_bestAgainst_L27 g_up g_down g_high g_prize r_sz r_e_f n ((k + 1)) v4 v5)))
theorem f_X0_bestAgainst_L27_s (g_up : Int32) (g_down : Int32) (g_high : Int32) (g_prize : Int32) (r_sz : Int32) (r_e_f : Nat → Int32) (n k : Nat) (v4 : Int32) (v5 : Int32) : f_X0_bestAgainst_L27 g_up g_down g_high g_prize r_sz r_e_f (n + 1) k v4 v5 = (if g_high < (nI k) then v4 else (if (f_X0_farFrom (g_up * ((f_X3_sum r_sz r_e_f) + (nI k))) (g_down * (r_sz + 1)) (nI k) g_prize) < v5 then (f_X0_bestAgainst_L27 g_up g_down g_high g_prize r_sz r_e_f n ((k + 1)) (nI k) (f_X0_farFrom (g_up * ((f_X3_sum r_sz r_e_f) + (nI k))) (g_down * (r_sz + 1)) (nI k) g_prize)) else (if g_prize = (1 : Int32) then (if (f_X0_farFrom (g_up * ((f_X3_sum r_sz r_e_f) + (nI k))) (g_down * (r_sz + 1)) (nI k) g_prize) = (2147483647 : Int32) then (f_X0_bestAgainst_L27 g_up g_down g_high g_prize r_sz r_e_f n ((k + 1)) v4 v5) else (f_X0_bestAgainst_L27 g_up g_down g_high g_prize r_sz r_e_f n ((k + 1)) (nI k) (f_X0_farFrom (g_up * ((f_X3_sum r_sz r_e_f) + (nI k))) (g_down * (r_sz + 1)) (nI k) g_prize))) else (f_X0_bestAgainst_L27 g_up g_down g_high g_prize r_sz r_e_f n ((k + 1)) v4 v5)))) := rfl
def f_X0_bestAgainst (g_up : Int32) (g_down : Int32) (g_high : Int32) (g_prize : Int32) (r_sz : Int32) (r_e_f : Nat → Int32) : Int32 := f_X0_bestAgainst_L27 g_up g_down g_high g_prize r_sz r_e_f (g_high.toNatClampNeg + 1 + 1) 0 0 2147483647
set_option maxHeartbeats 400000 in
set_option maxRecDepth 100000 in
theorem c_X0_bestAgainst (l : Launch) (D : va_G) (cI cP cS cL : ClassId) (L : List Nat) (F : Nat → va_E) (g : Nat) (r : Nat) (g_up : Int32) (g_down : Int32) (g_high : Int32) (g_prize : Int32) (g_z : Int32) (g_rounds : Int32) (g_people : Int32) (g_pa : Nat) (g_cr : Nat) (g_ls : Int32) (r_e : Nat) (r_so : Int32) (r_sz : Int32) (r_e_n : Nat) (r_e_f : Nat → Int32) (h_g : wi L F g (eG g_up g_down g_high g_prize g_z g_rounds g_people g_pa g_cr g_ls)) (h_r : wi L F r (eR r_e r_so r_sz)) (h_r_e : wi L F r_e (eI cI r_e_n r_e_f)) (hz : r_sz.toInt ≤ r_e_n) (hhi : g_high.toInt ≤ 1000) : wMI l D cI cP cS cL yX0_bestAgainst wsX0_bestAgainst ({ frames := 1, cells := 0, slots := 0, locals := 24 } : Room) [.ref g, .ref r] L F (f_X0_bestAgainst g_up g_down g_high g_prize r_sz r_e_f) F := by
  refine wM.of (cc := cX0_bestAgainst) (maxL := 8) (ret := (some .int)) (by decide) rfl (Nat.le_of_ble_eq_true rfl) ?_
  intro pZ eZ sZ mZ below meth cZ A ls C hl w
  obtain ⟨hx, hb, hr, hml, hts, hown, hlocks, hK, hA, hin⟩ := C
  have hown : sZ.vm.findClass RX0 = some mZ.cls := hown
  have hl : lv_has ls 8 [(0, .ref g), (1, .ref r)] := hl
  have m_0 : ((.fieldLink RX0 15 "TwoThirds$Game" "down" "I") : Cond) ∈ wsX0_bestAgainst := by decide +kernel
  have i_X0 : ∀ w ∈ wsX00, w ∈ wsX0_bestAgainst := by decide +kernel
  have m_2 : ((.fieldLink RX0 156 "TwoThirds$Row" "size" "I") : Cond) ∈ wsX0_bestAgainst := by decide +kernel
  have i_X3 : ∀ w ∈ wsX30, w ∈ wsX0_bestAgainst := by decide +kernel
  have m_4 : ((.constant RX0 103 2147483647) : Cond) ∈ wsX0_bestAgainst := by decide +kernel
  have m_5 : ((.fieldLink RX0 18 "TwoThirds$Game" "high" "I") : Cond) ∈ wsX0_bestAgainst := by decide +kernel
  have m_6 : ((.fieldLink RX0 9 "TwoThirds$Game" "up" "I") : Cond) ∈ wsX0_bestAgainst := by decide +kernel
  have m_7 : ((.fieldLink RX0 21 "TwoThirds$Game" "prize" "I") : Cond) ∈ wsX0_bestAgainst := by decide +kernel
  have hq : f_X0_bestAgainst g_up g_down g_high g_prize r_sz r_e_f = f_X0_bestAgainst g_up g_down g_high g_prize r_sz r_e_f := rfl
  refine lv_aload_n hx hb dX0_bestAgainst_0 rfl (lv_at hl 0 rfl) ?_
  refine w_get (v := .int g_down) hx hb hts i_X0 hown hK w h_g rfl 1 (by decide) (hts _ m_0) rfl dX0_bestAgainst_1 ?_
  refine lv_aload_n hx hb dX0_bestAgainst_4 rfl (lv_at hl 1 rfl) ?_
  refine w_get (v := .int r_sz) hx hb hts i_X3 hown hK w h_r rfl 2 (by decide) (hts _ m_2) rfl dX0_bestAgainst_5 ?_
  refine lv_iconst (v := 1) hx hb dX0_bestAgainst_8 (by decide) ?_
  refine lv_iadd hx hb dX0_bestAgainst_9 ?_
  refine lv_imul hx hb dX0_bestAgainst_10 ?_
  refine lv_istore_n (lv' := [(2, .int (g_down * (r_sz + 1))), (0, .ref g), (1, .ref r)]) hx hb dX0_bestAgainst_11 rfl hl (by decide) rfl (fun ls hl => ?_)
  refine lv_aload_n hx hb dX0_bestAgainst_12 rfl (lv_at hl 2 rfl) ?_
  refine w_finI (w_runV (rm := ({ frames := 0, cells := 0, slots := 0, locals := 0 } : Room)) (As := []) (rest := []) (n := 0) hx hb hml hts hown hK w (c_X3_sum l D cI cP cS cL L _ r r_e r_so r_sz r_e_n r_e_f h_r h_r_e hz) gX0_bestAgainst_X3_sum rfl rfl rfl (by decide +kernel) ⟨(Nat.le_of_ble_eq_true rfl), (Nat.le_of_ble_eq_true rfl)⟩ h_r rfl rfl hl.1 rfl (Nat.le_of_ble_eq_true rfl) dX0_bestAgainst_13 ⟨(Nat.le_of_ble_eq_true rfl), (Nat.le_of_ble_eq_true rfl)⟩) w hA (fun H locs w => ?_)
  refine lv_istore_n (lv' := [(3, .int (f_X3_sum r_sz r_e_f)), (2, .int (g_down * (r_sz + 1))), (0, .ref g), (1, .ref r)]) hx hb dX0_bestAgainst_16 rfl hl (by decide) rfl (fun ls hl => ?_)
  refine lv_iconst (v := 0) hx hb dX0_bestAgainst_17 (by decide) ?_
  refine lv_istore (lv' := [(4, .int 0), (3, .int (f_X3_sum r_sz r_e_f)), (2, .int (g_down * (r_sz + 1))), (0, .ref g), (1, .ref r)]) hx hb dX0_bestAgainst_18 hl (by decide) rfl (fun ls hl => ?_)
  refine lv_ldc (v := 2147483647) hx hb hown (hts _ m_4) dX0_bestAgainst_20 ?_
  refine lv_istore (lv' := [(5, .int 2147483647), (4, .int 0), (3, .int (f_X3_sum r_sz r_e_f)), (2, .int (g_down * (r_sz + 1))), (0, .ref g), (1, .ref r)]) hx hb dX0_bestAgainst_22 hl (by decide) rfl (fun ls hl => ?_)
  refine lv_iconst (v := 0) hx hb dX0_bestAgainst_24 (by decide) ?_
  refine lv_istore (lv' := [(6, .int 0), (5, .int 2147483647), (4, .int 0), (3, .int (f_X3_sum r_sz r_e_f)), (2, .int (g_down * (r_sz + 1))), (0, .ref g), (1, .ref r)]) hx hb dX0_bestAgainst_25 hl (by decide) rfl (fun ls hl => ?_)
  have hL27 : ∀ (n k : Nat) (v4 : Int32) (v5 : Int32) (H : Heap) (locs : List Loc) (ls : Array Slot), k ≤ g_high.toNatClampNeg + 1 → g_high.toNatClampNeg + 1 - k < n → f_X0_bestAgainst g_up g_down g_high g_prize r_sz r_e_f = f_X0_bestAgainst_L27 g_up g_down g_high g_prize r_sz r_e_f n k v4 v5 → lv_has ls 8 [(0, .ref g), (1, .ref r), (2, .int (g_down * (r_sz + 1))), (3, .int (f_X3_sum r_sz r_e_f)), (4, .int v4), (5, .int v5), (6, .int (nI k))] → ww D A sZ.heap L F H locs → W pZ l eZ ({ frames := 1, cells := 0, slots := 0, locals := 24 } : Room) sZ mZ [.ref g, .ref r].toArray below meth cZ H locs 0 0 (MQ below (wQi D A (fun r1 L1 F1 => r1 = (f_X0_bestAgainst g_up g_down g_high g_prize r_sz r_e_f) ∧ L1 = L ∧ F1 = F)) [.ref g, .ref r].toArray sZ 0 0 A) (F0 mZ 27 ls []) := by
    intro n; induction n with
    | zero => intro k v4 v5 H locs ls hkT hmeas; exact absurd hmeas (Nat.not_lt_zero _)
    | succ n ih =>
      intro k v4 v5 H locs ls hkT hmeas hq hl w
      have hk31 : k < 2147483648 := (by have := hhi; have : g_high.toNatClampNeg = g_high.toInt.toNat := rfl; omega)
      have hq := hq.trans (f_X0_bestAgainst_L27_s g_up g_down g_high g_prize r_sz r_e_f n k v4 v5)
      refine lv_iload hx hb dX0_bestAgainst_27 (lv_at hl 6 rfl) ?_
      refine lv_aload_n hx hb dX0_bestAgainst_29 rfl (lv_at hl 0 rfl) ?_
      refine w_get (v := .int g_high) hx hb hts i_X0 hown hK w h_g rfl 2 (by decide) (hts _ m_5) rfl dX0_bestAgainst_30 ?_
      refine lv_icmp_gt (tgt := 90) hx hb dX0_bestAgainst_33 (by decide) (fun c1 => ?_) (fun c1 => ?_)
      · skip
        have hq := hq.trans (if_pos c1)
        refine lv_iload hx hb dX0_bestAgainst_90 (lv_at hl 4 rfl) ?_
        exact w_iret hx hb hr hlocks w ⟨hq.symm, rfl, rfl⟩ (Nat.le_refl _) (Nat.le_refl _) dX0_bestAgainst_92
      · skip
        have hq := hq.trans (if_neg c1)
        have hlt33 : k < g_high.toNatClampNeg + 1 := w_lek hk31 c1
        refine lv_aload_n hx hb dX0_bestAgainst_36 rfl (lv_at hl 0 rfl) ?_
        refine lv_aload_n hx hb dX0_bestAgainst_37 rfl (lv_at hl 0 rfl) ?_
        refine w_get (v := .int g_up) hx hb hts i_X0 hown hK w h_g rfl 0 (by decide) (hts _ m_6) rfl dX0_bestAgainst_38 ?_
        refine lv_iload_n hx hb dX0_bestAgainst_41 rfl (lv_at hl 3 rfl) ?_
        refine lv_iload hx hb dX0_bestAgainst_42 (lv_at hl 6 rfl) ?_
        refine lv_iadd hx hb dX0_bestAgainst_44 ?_
        refine lv_imul hx hb dX0_bestAgainst_45 ?_
        refine lv_iload_n hx hb dX0_bestAgainst_46 rfl (lv_at hl 2 rfl) ?_
        refine lv_iload hx hb dX0_bestAgainst_47 (lv_at hl 6 rfl) ?_
        refine w_finI (w_runV (rm := ({ frames := 0, cells := 0, slots := 0, locals := 0 } : Room)) (As := [.int (g_up * ((f_X3_sum r_sz r_e_f) + (nI k))), .int (g_down * (r_sz + 1)), .int (nI k)]) (rest := []) (n := 3) hx hb hml hts hown hK w (c_X0_farFrom l D cI cP cS cL L _ g (g_up * ((f_X3_sum r_sz r_e_f) + (nI k))) (g_down * (r_sz + 1)) (nI k) g_up g_down g_high g_prize g_z g_rounds g_people g_pa g_cr g_ls h_g) gX0_bestAgainst_X0_farFrom rfl rfl rfl (by decide +kernel) ⟨(Nat.le_of_ble_eq_true rfl), (Nat.le_of_ble_eq_true rfl)⟩ h_g rfl rfl hl.1 rfl (Nat.le_of_ble_eq_true rfl) dX0_bestAgainst_49 ⟨(Nat.le_of_ble_eq_true rfl), (Nat.le_of_ble_eq_true rfl)⟩) w hA (fun H locs w => ?_)
        refine lv_istore (lv' := [(7, .int (f_X0_farFrom (g_up * ((f_X3_sum r_sz r_e_f) + (nI k))) (g_down * (r_sz + 1)) (nI k) g_prize)), (0, .ref g), (1, .ref r), (2, .int (g_down * (r_sz + 1))), (3, .int (f_X3_sum r_sz r_e_f)), (4, .int v4), (5, .int v5), (6, .int (nI k))]) hx hb dX0_bestAgainst_52 hl (by decide) rfl (fun ls hl => ?_)
        refine lv_iload hx hb dX0_bestAgainst_54 (lv_at hl 0 rfl) ?_
        refine lv_iload hx hb dX0_bestAgainst_56 (lv_at hl 6 rfl) ?_
        refine lv_icmp_lt (tgt := 76) hx hb dX0_bestAgainst_58 (by decide) (fun c2 => ?_) (fun c2 => ?_)
        · skip
          have hq := hq.trans (if_pos c2)
          refine lv_iload hx hb dX0_bestAgainst_76 (lv_at hl 0 rfl) ?_
          refine lv_istore (lv' := [(5, .int (f_X0_farFrom (g_up * ((f_X3_sum r_sz r_e_f) + (nI k))) (g_down * (r_sz + 1)) (nI k) g_prize)), (7, .int (f_X0_farFrom (g_up * ((f_X3_sum r_sz r_e_f) + (nI k))) (g_down * (r_sz + 1)) (nI k) g_prize)), (0, .ref g), (1, .ref r), (2, .int (g_down * (r_sz + 1))), (3, .int (f_X3_sum r_sz r_e_f)), (4, .int v4), (6, .int (nI k))]) hx hb dX0_bestAgainst_78 hl (by decide) rfl (fun ls hl => ?_)
          refine lv_iload hx hb dX0_bestAgainst_80 (lv_at hl 7 rfl) ?_
          refine lv_istore (lv' := [(4, .int (nI k)), (5, .int (f_X0_farFrom (g_up * ((f_X3_sum r_sz r_e_f) + (nI k))) (g_down * (r_sz + 1)) (nI k) g_prize)), (7, .int (f_X0_farFrom (g_up * ((f_X3_sum r_sz r_e_f) + (nI k))) (g_down * (r_sz + 1)) (nI k) g_prize)), (0, .ref g), (1, .ref r), (2, .int (g_down * (r_sz + 1))), (3, .int (f_X3_sum r_sz r_e_f)), (6, .int (nI k))]) hx hb dX0_bestAgainst_82 hl (by decide) rfl (fun ls hl => ?_)
          refine lv_iinc (v := (nI (k + 1))) (lv' := [(6, .int (nI (k + 1))), (4, .int (nI k)), (5, .int (f_X0_farFrom (g_up * ((f_X3_sum r_sz r_e_f) + (nI k))) (g_down * (r_sz + 1)) (nI k) g_prize)), (7, .int (f_X0_farFrom (g_up * ((f_X3_sum r_sz r_e_f) + (nI k))) (g_down * (r_sz + 1)) (nI k) g_prize)), (0, .ref g), (1, .ref r), (2, .int (g_down * (r_sz + 1))), (3, .int (f_X3_sum r_sz r_e_f))]) hx hb dX0_bestAgainst_84 hl (k := 7) rfl (w_inc _) (by decide) rfl (fun ls hl => ?_)
          refine lv_goto (tgt := 27) hx hb dX0_bestAgainst_87 (by decide) ?_
          exact ih ((k + 1)) (nI k) (f_X0_farFrom (g_up * ((f_X3_sum r_sz r_e_f) + (nI k))) (g_down * (r_sz + 1)) (nI k) g_prize) _ _ _ (by omega) (by omega) hq (lv_sub hl [4, 5, 6, 7, 1, 2, 0] rfl) w
        · skip
          have hq := hq.trans (if_neg c2)
          refine lv_aload_n hx hb dX0_bestAgainst_61 rfl (lv_at hl 1 rfl) ?_
          refine w_get (v := .int g_prize) hx hb hts i_X0 hown hK w h_g rfl 3 (by decide) (hts _ m_7) rfl dX0_bestAgainst_62 ?_
          refine lv_iconst (v := 1) hx hb dX0_bestAgainst_65 (by decide) ?_
          refine lv_icmp_ne (tgt := 84) hx hb dX0_bestAgainst_66 (by decide) (fun c3 => ?_) (fun c3 => ?_)
          · skip
            have hq := hq.trans (if_neg c3)
            refine lv_iinc (v := (nI (k + 1))) (lv' := [(6, .int (nI (k + 1))), (7, .int (f_X0_farFrom (g_up * ((f_X3_sum r_sz r_e_f) + (nI k))) (g_down * (r_sz + 1)) (nI k) g_prize)), (0, .ref g), (1, .ref r), (2, .int (g_down * (r_sz + 1))), (3, .int (f_X3_sum r_sz r_e_f)), (4, .int v4), (5, .int v5)]) hx hb dX0_bestAgainst_84 hl (k := 7) rfl (w_inc _) (by decide) rfl (fun ls hl => ?_)
            refine lv_goto (tgt := 27) hx hb dX0_bestAgainst_87 (by decide) ?_
            exact ih ((k + 1)) v4 v5 _ _ _ (by omega) (by omega) hq (lv_sub hl [2, 3, 4, 5, 6, 7, 0] rfl) w
          · skip
            have hq := hq.trans (if_pos c3)
            refine lv_iload hx hb dX0_bestAgainst_69 (lv_at hl 0 rfl) ?_
            refine lv_ldc (v := 2147483647) hx hb hown (hts _ m_4) dX0_bestAgainst_71 ?_
            refine lv_icmp_eq (tgt := 84) hx hb dX0_bestAgainst_73 (by decide) (fun c4 => ?_) (fun c4 => ?_)
            · skip
              have hq := hq.trans (if_pos c4)
              refine lv_iinc (v := (nI (k + 1))) (lv' := [(6, .int (nI (k + 1))), (7, .int (f_X0_farFrom (g_up * ((f_X3_sum r_sz r_e_f) + (nI k))) (g_down * (r_sz + 1)) (nI k) g_prize)), (0, .ref g), (1, .ref r), (2, .int (g_down * (r_sz + 1))), (3, .int (f_X3_sum r_sz r_e_f)), (4, .int v4), (5, .int v5)]) hx hb dX0_bestAgainst_84 hl (k := 7) rfl (w_inc _) (by decide) rfl (fun ls hl => ?_)
              refine lv_goto (tgt := 27) hx hb dX0_bestAgainst_87 (by decide) ?_
              exact ih ((k + 1)) v4 v5 _ _ _ (by omega) (by omega) hq (lv_sub hl [2, 3, 4, 5, 6, 7, 0] rfl) w
            · skip
              have hq := hq.trans (if_neg c4)
              refine lv_iload hx hb dX0_bestAgainst_76 (lv_at hl 0 rfl) ?_
              refine lv_istore (lv' := [(5, .int (f_X0_farFrom (g_up * ((f_X3_sum r_sz r_e_f) + (nI k))) (g_down * (r_sz + 1)) (nI k) g_prize)), (7, .int (f_X0_farFrom (g_up * ((f_X3_sum r_sz r_e_f) + (nI k))) (g_down * (r_sz + 1)) (nI k) g_prize)), (0, .ref g), (1, .ref r), (2, .int (g_down * (r_sz + 1))), (3, .int (f_X3_sum r_sz r_e_f)), (4, .int v4), (6, .int (nI k))]) hx hb dX0_bestAgainst_78 hl (by decide) rfl (fun ls hl => ?_)
              refine lv_iload hx hb dX0_bestAgainst_80 (lv_at hl 7 rfl) ?_
              refine lv_istore (lv' := [(4, .int (nI k)), (5, .int (f_X0_farFrom (g_up * ((f_X3_sum r_sz r_e_f) + (nI k))) (g_down * (r_sz + 1)) (nI k) g_prize)), (7, .int (f_X0_farFrom (g_up * ((f_X3_sum r_sz r_e_f) + (nI k))) (g_down * (r_sz + 1)) (nI k) g_prize)), (0, .ref g), (1, .ref r), (2, .int (g_down * (r_sz + 1))), (3, .int (f_X3_sum r_sz r_e_f)), (6, .int (nI k))]) hx hb dX0_bestAgainst_82 hl (by decide) rfl (fun ls hl => ?_)
              refine lv_iinc (v := (nI (k + 1))) (lv' := [(6, .int (nI (k + 1))), (4, .int (nI k)), (5, .int (f_X0_farFrom (g_up * ((f_X3_sum r_sz r_e_f) + (nI k))) (g_down * (r_sz + 1)) (nI k) g_prize)), (7, .int (f_X0_farFrom (g_up * ((f_X3_sum r_sz r_e_f) + (nI k))) (g_down * (r_sz + 1)) (nI k) g_prize)), (0, .ref g), (1, .ref r), (2, .int (g_down * (r_sz + 1))), (3, .int (f_X3_sum r_sz r_e_f))]) hx hb dX0_bestAgainst_84 hl (k := 7) rfl (w_inc _) (by decide) rfl (fun ls hl => ?_)
              refine lv_goto (tgt := 27) hx hb dX0_bestAgainst_87 (by decide) ?_
              exact ih ((k + 1)) (nI k) (f_X0_farFrom (g_up * ((f_X3_sum r_sz r_e_f) + (nI k))) (g_down * (r_sz + 1)) (nI k) g_prize) _ _ _ (by omega) (by omega) hq (lv_sub hl [4, 5, 6, 7, 1, 2, 0] rfl) w
  exact hL27 (g_high.toNatClampNeg + 1 + 1) 0 0 2147483647 _ _ _ (Nat.zero_le _) (by omega) hq (lv_sub hl [5, 6, 4, 3, 2, 1, 0] rfl) w
def f_X0_nearestSteps_L18 (card : Int32) (g_up : Int32) (g_down : Int32) (g_high : Int32) : Nat → Nat → Int32 → Int32 → Int32 → Int32
  | 0, _, _, _, _ => 0
  | n + 1, k, v2, v3, v4 => if (9 : Int32) < (nI k) then v4 else (if v3 ≤ (if 0 ≤ (card - (f_X0_shareOf v2 g_up g_down g_high)) then (card - (f_X0_shareOf v2 g_up g_down g_high)) else 0 - (card - (f_X0_shareOf v2 g_up g_down g_high))) then (f_X0_nearestSteps_L18 card g_up g_down g_high n ((k + 1)) (f_X0_shareOf v2 g_up g_down g_high) v3 v4) else (f_X0_nearestSteps_L18 card g_up g_down g_high n ((k + 1)) (f_X0_shareOf v2 g_up g_down g_high) (if 0 ≤ (card - (f_X0_shareOf v2 g_up g_down g_high)) then (card - (f_X0_shareOf v2 g_up g_down g_high)) else 0 - (card - (f_X0_shareOf v2 g_up g_down g_high))) (nI k)))
theorem f_X0_nearestSteps_L18_s (card : Int32) (g_up : Int32) (g_down : Int32) (g_high : Int32) (n k : Nat) (v2 : Int32) (v3 : Int32) (v4 : Int32) : f_X0_nearestSteps_L18 card g_up g_down g_high (n + 1) k v2 v3 v4 = (if (9 : Int32) < (nI k) then v4 else (if v3 ≤ (if 0 ≤ (card - (f_X0_shareOf v2 g_up g_down g_high)) then (card - (f_X0_shareOf v2 g_up g_down g_high)) else 0 - (card - (f_X0_shareOf v2 g_up g_down g_high))) then (f_X0_nearestSteps_L18 card g_up g_down g_high n ((k + 1)) (f_X0_shareOf v2 g_up g_down g_high) v3 v4) else (f_X0_nearestSteps_L18 card g_up g_down g_high n ((k + 1)) (f_X0_shareOf v2 g_up g_down g_high) (if 0 ≤ (card - (f_X0_shareOf v2 g_up g_down g_high)) then (card - (f_X0_shareOf v2 g_up g_down g_high)) else 0 - (card - (f_X0_shareOf v2 g_up g_down g_high))) (nI k)))) := rfl
def f_X0_nearestSteps (card : Int32) (g_up : Int32) (g_down : Int32) (g_high : Int32) : Int32 := f_X0_nearestSteps_L18 card g_up g_down g_high (10 + 1) 1 (f_X0_middle g_high) (if 0 ≤ (card - (f_X0_middle g_high)) then (card - (f_X0_middle g_high)) else 0 - (card - (f_X0_middle g_high))) 0
set_option maxHeartbeats 400000 in
set_option maxRecDepth 100000 in
theorem c_X0_nearestSteps (l : Launch) (D : va_G) (cI cP cS cL : ClassId) (L : List Nat) (F : Nat → va_E) (g : Nat) (card : Int32) (g_up : Int32) (g_down : Int32) (g_high : Int32) (g_prize : Int32) (g_z : Int32) (g_rounds : Int32) (g_people : Int32) (g_pa : Nat) (g_cr : Nat) (g_ls : Int32) (h_g : wi L F g (eG g_up g_down g_high g_prize g_z g_rounds g_people g_pa g_cr g_ls)) : wMI l D cI cP cS cL yX0_nearestSteps wsX0_nearestSteps ({ frames := 2, cells := 0, slots := 0, locals := 42 } : Room) [.ref g, .int card] L F (f_X0_nearestSteps card g_up g_down g_high) F := by
  refine wM.of (cc := cX0_nearestSteps) (maxL := 7) (ret := (some .int)) (by decide) rfl (Nat.le_of_ble_eq_true rfl) ?_
  intro pZ eZ sZ mZ below meth cZ A ls C hl w
  obtain ⟨hx, hb, hr, hml, hts, hown, hlocks, hK, hA, hin⟩ := C
  have hown : sZ.vm.findClass RX0 = some mZ.cls := hown
  have hl : lv_has ls 7 [(0, .ref g), (1, .int card)] := hl
  have m_0 : ((.methodLink RX0 182 Lib.Math.abs.name) : Cond) ∈ wsX0_nearestSteps := by decide +kernel
  have m_1 : ((.static Lib.Math.abs.name) : Cond) ∈ wsX0_nearestSteps := by decide +kernel
  have m_2 : ((.initialized "java/lang/Math") : Cond) ∈ wsX0_nearestSteps := by decide +kernel
  have m_3 : ((.code Lib.Math.abs.name Lib.Math.abs.code 1 (some .int)) : Cond) ∈ wsX0_nearestSteps := by decide +kernel
  have hq : f_X0_nearestSteps card g_up g_down g_high = f_X0_nearestSteps card g_up g_down g_high := rfl
  refine lv_aload_n hx hb dX0_nearestSteps_0 rfl (lv_at hl 0 rfl) ?_
  refine w_finI (w_runV (rm := ({ frames := 0, cells := 0, slots := 0, locals := 0 } : Room)) (As := []) (rest := []) (n := 0) hx hb hml hts hown hK w (c_X0_middle l D cI cP cS cL L _ g g_up g_down g_high g_prize g_z g_rounds g_people g_pa g_cr g_ls h_g) gX0_nearestSteps_X0_middle rfl rfl rfl (by decide +kernel) ⟨(Nat.le_of_ble_eq_true rfl), (Nat.le_of_ble_eq_true rfl)⟩ h_g rfl rfl hl.1 rfl (Nat.le_of_ble_eq_true rfl) dX0_nearestSteps_1 ⟨(Nat.le_of_ble_eq_true rfl), (Nat.le_of_ble_eq_true rfl)⟩) w hA (fun H locs w => ?_)
  refine lv_istore_n (lv' := [(2, .int (f_X0_middle g_high)), (0, .ref g), (1, .int card)]) hx hb dX0_nearestSteps_4 rfl hl (by decide) rfl (fun ls hl => ?_)
  refine lv_iload_n hx hb dX0_nearestSteps_5 rfl (lv_at hl 2 rfl) ?_
  refine lv_iload_n hx hb dX0_nearestSteps_6 rfl (lv_at hl 0 rfl) ?_
  refine lv_isub hx hb dX0_nearestSteps_7 ?_
  refine va_mabs hx hb (hml.trans hl.1.symm) hown (hts _ m_0) (hts _ m_1) (hts _ m_2) (hts _ m_3) (Nat.le_of_ble_eq_true rfl) (Nat.le_of_ble_eq_true rfl) (Nat.zero_le _) (Nat.zero_le _) dX0_nearestSteps_8 ?_
  refine lv_istore_n (lv' := [(3, .int (if 0 ≤ (card - (f_X0_middle g_high)) then (card - (f_X0_middle g_high)) else 0 - (card - (f_X0_middle g_high)))), (2, .int (f_X0_middle g_high)), (0, .ref g), (1, .int card)]) hx hb dX0_nearestSteps_11 rfl hl (by decide) rfl (fun ls hl => ?_)
  refine lv_iconst (v := 0) hx hb dX0_nearestSteps_12 (by decide) ?_
  refine lv_istore (lv' := [(4, .int 0), (3, .int (if 0 ≤ (card - (f_X0_middle g_high)) then (card - (f_X0_middle g_high)) else 0 - (card - (f_X0_middle g_high)))), (2, .int (f_X0_middle g_high)), (0, .ref g), (1, .int card)]) hx hb dX0_nearestSteps_13 hl (by decide) rfl (fun ls hl => ?_)
  refine lv_iconst (v := 1) hx hb dX0_nearestSteps_15 (by decide) ?_
  refine lv_istore (lv' := [(5, .int 1), (4, .int 0), (3, .int (if 0 ≤ (card - (f_X0_middle g_high)) then (card - (f_X0_middle g_high)) else 0 - (card - (f_X0_middle g_high)))), (2, .int (f_X0_middle g_high)), (0, .ref g), (1, .int card)]) hx hb dX0_nearestSteps_16 hl (by decide) rfl (fun ls hl => ?_)
  have hL18 : ∀ (n k : Nat) (v2 : Int32) (v3 : Int32) (v4 : Int32) (H : Heap) (locs : List Loc) (ls : Array Slot), k ≤ 10 → 10 - k < n → f_X0_nearestSteps card g_up g_down g_high = f_X0_nearestSteps_L18 card g_up g_down g_high n k v2 v3 v4 → lv_has ls 7 [(0, .ref g), (1, .int card), (2, .int v2), (3, .int v3), (4, .int v4), (5, .int (nI k))] → ww D A sZ.heap L F H locs → W pZ l eZ ({ frames := 2, cells := 0, slots := 0, locals := 42 } : Room) sZ mZ [.ref g, .int card].toArray below meth cZ H locs 0 0 (MQ below (wQi D A (fun r1 L1 F1 => r1 = (f_X0_nearestSteps card g_up g_down g_high) ∧ L1 = L ∧ F1 = F)) [.ref g, .int card].toArray sZ 0 0 A) (F0 mZ 18 ls []) := by
    intro n; induction n with
    | zero => intro k v2 v3 v4 H locs ls hkT hmeas; exact absurd hmeas (Nat.not_lt_zero _)
    | succ n ih =>
      intro k v2 v3 v4 H locs ls hkT hmeas hq hl w
      have hk31 : k < 2147483648 := by omega
      have hq := hq.trans (f_X0_nearestSteps_L18_s card g_up g_down g_high n k v2 v3 v4)
      refine lv_iload hx hb dX0_nearestSteps_18 (lv_at hl 5 rfl) ?_
      refine lv_bipush (v := 9) hx hb dX0_nearestSteps_20 (by decide) ?_
      refine lv_icmp_gt (tgt := 58) hx hb dX0_nearestSteps_22 (by decide) (fun c1 => ?_) (fun c1 => ?_)
      · skip
        have hq := hq.trans (if_pos c1)
        refine lv_iload hx hb dX0_nearestSteps_58 (lv_at hl 4 rfl) ?_
        exact w_iret hx hb hr hlocks w ⟨hq.symm, rfl, rfl⟩ (Nat.le_refl _) (Nat.le_refl _) dX0_nearestSteps_60
      · skip
        have hq := hq.trans (if_neg c1)
        have hlt22 : k < 9 + 1 := w_lek hk31 c1
        refine lv_aload_n hx hb dX0_nearestSteps_25 rfl (lv_at hl 0 rfl) ?_
        refine lv_iload_n hx hb dX0_nearestSteps_26 rfl (lv_at hl 2 rfl) ?_
        refine w_finI (w_runV (rm := ({ frames := 1, cells := 0, slots := 0, locals := 21 } : Room)) (As := [.int v2]) (rest := []) (n := 1) hx hb hml hts hown hK w (c_X0_shareOf l D cI cP cS cL L _ g v2 g_up g_down g_high g_prize g_z g_rounds g_people g_pa g_cr g_ls h_g) gX0_nearestSteps_X0_shareOf rfl rfl rfl (by decide +kernel) ⟨(Nat.le_of_ble_eq_true rfl), (Nat.le_of_ble_eq_true rfl)⟩ h_g rfl rfl hl.1 rfl (Nat.le_of_ble_eq_true rfl) dX0_nearestSteps_27 ⟨(Nat.le_of_ble_eq_true rfl), (Nat.le_of_ble_eq_true rfl)⟩) w hA (fun H locs w => ?_)
        refine lv_istore_n (lv' := [(2, .int (f_X0_shareOf v2 g_up g_down g_high)), (0, .ref g), (1, .int card), (3, .int v3), (4, .int v4), (5, .int (nI k))]) hx hb dX0_nearestSteps_30 rfl hl (by decide) rfl (fun ls hl => ?_)
        refine lv_iload_n hx hb dX0_nearestSteps_31 rfl (lv_at hl 2 rfl) ?_
        refine lv_iload_n hx hb dX0_nearestSteps_32 rfl (lv_at hl 0 rfl) ?_
        refine lv_isub hx hb dX0_nearestSteps_33 ?_
        refine va_mabs hx hb (hml.trans hl.1.symm) hown (hts _ m_0) (hts _ m_1) (hts _ m_2) (hts _ m_3) (Nat.le_of_ble_eq_true rfl) (Nat.le_of_ble_eq_true rfl) (Nat.zero_le _) (Nat.zero_le _) dX0_nearestSteps_34 ?_
        refine lv_istore (lv' := [(6, .int (if 0 ≤ (card - (f_X0_shareOf v2 g_up g_down g_high)) then (card - (f_X0_shareOf v2 g_up g_down g_high)) else 0 - (card - (f_X0_shareOf v2 g_up g_down g_high)))), (2, .int (f_X0_shareOf v2 g_up g_down g_high)), (0, .ref g), (1, .int card), (3, .int v3), (4, .int v4), (5, .int (nI k))]) hx hb dX0_nearestSteps_37 hl (by decide) rfl (fun ls hl => ?_)
        refine lv_iload hx hb dX0_nearestSteps_39 (lv_at hl 0 rfl) ?_
        refine lv_iload_n hx hb dX0_nearestSteps_41 rfl (lv_at hl 4 rfl) ?_
        refine lv_icmp_ge (tgt := 52) hx hb dX0_nearestSteps_42 (by decide) (fun c2 => ?_) (fun c2 => ?_)
        · skip
          have hq := hq.trans (if_pos c2)
          refine lv_iinc (v := (nI (k + 1))) (lv' := [(5, .int (nI (k + 1))), (6, .int (if 0 ≤ (card - (f_X0_shareOf v2 g_up g_down g_high)) then (card - (f_X0_shareOf v2 g_up g_down g_high)) else 0 - (card - (f_X0_shareOf v2 g_up g_down g_high)))), (2, .int (f_X0_shareOf v2 g_up g_down g_high)), (0, .ref g), (1, .int card), (3, .int v3), (4, .int v4)]) hx hb dX0_nearestSteps_52 hl (k := 6) rfl (w_inc _) (by decide) rfl (fun ls hl => ?_)
          refine lv_goto (tgt := 18) hx hb dX0_nearestSteps_55 (by decide) ?_
          exact ih ((k + 1)) (f_X0_shareOf v2 g_up g_down g_high) v3 v4 _ _ _ (by omega) (by omega) hq (lv_sub hl [3, 4, 2, 5, 6, 0] rfl) w
        · skip
          have hq := hq.trans (if_neg c2)
          refine lv_iload hx hb dX0_nearestSteps_45 (lv_at hl 0 rfl) ?_
          refine lv_istore_n (lv' := [(3, .int (if 0 ≤ (card - (f_X0_shareOf v2 g_up g_down g_high)) then (card - (f_X0_shareOf v2 g_up g_down g_high)) else 0 - (card - (f_X0_shareOf v2 g_up g_down g_high)))), (6, .int (if 0 ≤ (card - (f_X0_shareOf v2 g_up g_down g_high)) then (card - (f_X0_shareOf v2 g_up g_down g_high)) else 0 - (card - (f_X0_shareOf v2 g_up g_down g_high)))), (2, .int (f_X0_shareOf v2 g_up g_down g_high)), (0, .ref g), (1, .int card), (4, .int v4), (5, .int (nI k))]) hx hb dX0_nearestSteps_47 rfl hl (by decide) rfl (fun ls hl => ?_)
          refine lv_iload hx hb dX0_nearestSteps_48 (lv_at hl 6 rfl) ?_
          refine lv_istore (lv' := [(4, .int (nI k)), (3, .int (if 0 ≤ (card - (f_X0_shareOf v2 g_up g_down g_high)) then (card - (f_X0_shareOf v2 g_up g_down g_high)) else 0 - (card - (f_X0_shareOf v2 g_up g_down g_high)))), (6, .int (if 0 ≤ (card - (f_X0_shareOf v2 g_up g_down g_high)) then (card - (f_X0_shareOf v2 g_up g_down g_high)) else 0 - (card - (f_X0_shareOf v2 g_up g_down g_high)))), (2, .int (f_X0_shareOf v2 g_up g_down g_high)), (0, .ref g), (1, .int card), (5, .int (nI k))]) hx hb dX0_nearestSteps_50 hl (by decide) rfl (fun ls hl => ?_)
          refine lv_iinc (v := (nI (k + 1))) (lv' := [(5, .int (nI (k + 1))), (4, .int (nI k)), (3, .int (if 0 ≤ (card - (f_X0_shareOf v2 g_up g_down g_high)) then (card - (f_X0_shareOf v2 g_up g_down g_high)) else 0 - (card - (f_X0_shareOf v2 g_up g_down g_high)))), (6, .int (if 0 ≤ (card - (f_X0_shareOf v2 g_up g_down g_high)) then (card - (f_X0_shareOf v2 g_up g_down g_high)) else 0 - (card - (f_X0_shareOf v2 g_up g_down g_high)))), (2, .int (f_X0_shareOf v2 g_up g_down g_high)), (0, .ref g), (1, .int card)]) hx hb dX0_nearestSteps_52 hl (k := 6) rfl (w_inc _) (by decide) rfl (fun ls hl => ?_)
          refine lv_goto (tgt := 18) hx hb dX0_nearestSteps_55 (by decide) ?_
          exact ih ((k + 1)) (f_X0_shareOf v2 g_up g_down g_high) (if 0 ≤ (card - (f_X0_shareOf v2 g_up g_down g_high)) then (card - (f_X0_shareOf v2 g_up g_down g_high)) else 0 - (card - (f_X0_shareOf v2 g_up g_down g_high))) (nI k) _ _ _ (by omega) (by omega) hq (lv_sub hl [5, 6, 4, 2, 1, 0] rfl) w
  exact hL18 (10 + 1) 1 (f_X0_middle g_high) (if 0 ≤ (card - (f_X0_middle g_high)) then (card - (f_X0_middle g_high)) else 0 - (card - (f_X0_middle g_high))) 0 _ _ _ (by omega) (by omega) hq (lv_sub hl [4, 5, 3, 2, 1, 0] rfl) w
