theorem ns_loop (card up down high : Int32) : ∀ (n k : Nat) (v2 v3 v4 : Int32), k ≤ 10 → 0 ≤ v4.toInt → v4.toInt ≤ 9 → 0 ≤ (f_X0_nearestSteps_L18 card up down high n k v2 v3 v4).toInt ∧ (f_X0_nearestSteps_L18 card up down high n k v2 v3 v4).toInt ≤ 9 := by
  intro n
  induction n with
  | zero => intro k v2 v3 v4 _ _ _; exact ⟨Int.le_refl 0, show (0 : Int32).toInt ≤ 9 by decide⟩
  | succ n ih =>
    intro k v2 v3 v4 hk h0 h9
    rw [f_X0_nearestSteps_L18_s]
    by_cases c : (9 : Int32) < nI k
    · rw [if_pos c]; exact ⟨h0, h9⟩
    · rw [if_neg c]
      have hk9 : k < 9 + 1 := w_lek (by omega) c
      by_cases c2 : v3 ≤ (if 0 ≤ (card - (f_X0_shareOf v2 up down high)) then (card - (f_X0_shareOf v2 up down high)) else 0 - (card - (f_X0_shareOf v2 up down high)))
      · rw [if_pos c2]; exact ih _ _ _ _ (by omega) h0 h9
      · rw [if_neg c2]
        refine ih _ _ _ _ (by omega) ?_ ?_
        · rw [nI_toInt (by omega)]; omega
        · rw [nI_toInt (by omega)]; omega
theorem ns_range (card up down high : Int32) : 0 ≤ (f_X0_nearestSteps card up down high).toInt ∧ (f_X0_nearestSteps card up down high).toInt ≤ 9 := by
  unfold f_X0_nearestSteps
  exact ns_loop card up down high _ _ _ _ _ (by decide) (by decide) (by decide)
theorem w_in10 {x : Int32} (h : 0 ≤ x.toInt ∧ x.toInt ≤ 9) : vp_in x 10 := vp_in_iff.mpr ⟨h.1, by omega⟩
def f_X0_countSteps_L7 (g_up : Int32) (g_down : Int32) (g_high : Int32) (r_sz : Int32) (r_e_f : Nat → Int32) : Nat → Nat → (Nat → Int32) → (Nat → Int32)
  | 0, _, _ => (fun _ => 0)
  | n + 1, k, u_a_f => if r_sz ≤ (nI k) then u_a_f else (if (10 : Int32) ≤ (f_X0_nearestSteps (f_X3_at (nI k) r_sz r_e_f) g_up g_down g_high) then (f_X0_countSteps_L7 g_up g_down g_high r_sz r_e_f n ((k + 1)) u_a_f) else (f_X0_countSteps_L7 g_up g_down g_high r_sz r_e_f n ((k + 1)) (upd u_a_f ((f_X0_nearestSteps (f_X3_at (nI k) r_sz r_e_f) g_up g_down g_high).toNatClampNeg) ((u_a_f ((f_X0_nearestSteps (f_X3_at (nI k) r_sz r_e_f) g_up g_down g_high).toNatClampNeg)) + 1))))
theorem f_X0_countSteps_L7_s (g_up : Int32) (g_down : Int32) (g_high : Int32) (r_sz : Int32) (r_e_f : Nat → Int32) (n k : Nat) (u_a_f : Nat → Int32) : f_X0_countSteps_L7 g_up g_down g_high r_sz r_e_f (n + 1) k u_a_f = (if r_sz ≤ (nI k) then u_a_f else (if (10 : Int32) ≤ (f_X0_nearestSteps (f_X3_at (nI k) r_sz r_e_f) g_up g_down g_high) then (f_X0_countSteps_L7 g_up g_down g_high r_sz r_e_f n ((k + 1)) u_a_f) else (f_X0_countSteps_L7 g_up g_down g_high r_sz r_e_f n ((k + 1)) (upd u_a_f ((f_X0_nearestSteps (f_X3_at (nI k) r_sz r_e_f) g_up g_down g_high).toNatClampNeg) ((u_a_f ((f_X0_nearestSteps (f_X3_at (nI k) r_sz r_e_f) g_up g_down g_high).toNatClampNeg)) + 1))))) := rfl
def f_X0_countSteps (g_up : Int32) (g_down : Int32) (g_high : Int32) (r_sz : Int32) (r_e_f : Nat → Int32) (a_f : Nat → Int32) : (Nat → Int32) := (bnd (f_J7_fill_53178 0 10 a_f) (fun x2 : (Nat → Int32) => f_X0_countSteps_L7 g_up g_down g_high r_sz r_e_f (r_sz.toNatClampNeg + 1) 0 x2))
set_option maxHeartbeats 400000 in
set_option maxRecDepth 100000 in
theorem c_X0_countSteps (l : Launch) (D : va_G) (cI cP cS cL : ClassId) (L : List Nat) (F : Nat → va_E) (g : Nat) (r : Nat) (a : Nat) (g_up : Int32) (g_down : Int32) (g_high : Int32) (g_prize : Int32) (g_z : Int32) (g_rounds : Int32) (g_people : Int32) (g_pa : Nat) (g_cr : Nat) (g_ls : Int32) (r_e : Nat) (r_so : Int32) (r_sz : Int32) (r_e_n : Nat) (r_e_f : Nat → Int32) (a_f : Nat → Int32) (h_g : wi L F g (eG g_up g_down g_high g_prize g_z g_rounds g_people g_pa g_cr g_ls)) (h_r : wi L F r (eR r_e r_so r_sz)) (h_r_e : wi L F r_e (eI cI r_e_n r_e_f)) (h_a : wi L F a (eI cI 10 a_f)) (hz : r_sz.toInt ≤ r_e_n) (ne_ra : r_e ≠ a) : wMw l D cI cP cS cL yX0_countSteps wsX0_countSteps ({ frames := 3, cells := 0, slots := 0, locals := 68 } : Room) [.ref g, .ref r, .ref a] L F (fun F1 => ∃ y9 : (Nat → Int32), y9 = (f_X0_countSteps g_up g_down g_high r_sz r_e_f a_f) ∧ F1 a = (eI cI 10 y9) ∧ wk (fun q : Nat => q ≠ a ∧ True) F1 F) := by
  refine wM.of (cc := cX0_countSteps) (maxL := 5) (ret := none) (by decide) rfl (Nat.le_of_ble_eq_true rfl) ?_
  intro pZ eZ sZ mZ below meth cZ A ls C hl w
  obtain ⟨hx, hb, hr, hml, hts, hown, hlocks, hK, hA, hin⟩ := C
  have hown : sZ.vm.findClass RX0 = some mZ.cls := hown
  have hl : lv_has ls 5 [(0, .ref g), (1, .ref r), (2, .ref a)] := hl
  have m_0 : ((.fieldLink RX0 156 "TwoThirds$Row" "size" "I") : Cond) ∈ wsX0_countSteps := by decide +kernel
  have i_X3 : ∀ w ∈ wsX30, w ∈ wsX0_countSteps := by decide +kernel
  have hk : wk (fun q : Nat => q ≠ a ∧ True) F F := wk.rf
  have hq : f_X0_countSteps g_up g_down g_high r_sz r_e_f a_f = f_X0_countSteps g_up g_down g_high r_sz r_e_f a_f := rfl
  refine lv_aload_n hx hb dX0_countSteps_0 rfl (lv_at hl 2 rfl) ?_
  refine lv_iconst (v := 0) hx hb dX0_countSteps_1 (by decide) ?_
  refine w_finw (w_runS (rm := ({ frames := 0, cells := 0, slots := 0, locals := 0 } : Room)) (As := [.ref a, .int 0]) (rest := []) (n := 2) hx hb hml hts hown hK w (c_J7_fill_53178 l D cI cP cS cL L _ a 0 10 a_f h_a (by decide)) gX0_countSteps_J7_fill_53178 rfl rfl rfl (by decide +kernel) ⟨(Nat.le_of_ble_eq_true rfl), (Nat.le_of_ble_eq_true rfl)⟩ rfl hl.1 rfl (Nat.le_of_ble_eq_true rfl) dX0_countSteps_2 ⟨(Nat.le_of_ble_eq_true rfl), (Nat.le_of_ble_eq_true rfl)⟩) w hA (fun F1 H locs hp w => ?_)
  obtain ⟨x2, hx2, hw0, hk9⟩ := hp
  have hq := hq.trans (w_bnd hx2)
  have h_g := h_g.keep hk9 ⟨(wi.ne h_g h_a (by intro h; cases h)), trivial⟩
  have h_r := h_r.keep hk9 ⟨(wi.ne h_r h_a (by intro h; cases h)), trivial⟩
  have h_r_e := h_r_e.keep hk9 ⟨ne_ra, trivial⟩
  have h_a := h_a.new hw0
  have hk := hk.call hk9 (fun q h => ⟨h.1, trivial⟩)
  refine lv_iconst (v := 0) hx hb dX0_countSteps_5 (by decide) ?_
  refine lv_istore_n (lv' := [(3, .int 0), (0, .ref g), (1, .ref r), (2, .ref a)]) hx hb dX0_countSteps_6 rfl hl (by decide) rfl (fun ls hl => ?_)
  have hL7 : ∀ (n k : Nat) (u_a_f : Nat → Int32) (F1 : Nat → va_E) (H : Heap) (locs : List Loc) (ls : Array Slot), k ≤ r_sz.toNatClampNeg → r_sz.toNatClampNeg - k < n → f_X0_countSteps g_up g_down g_high r_sz r_e_f a_f = f_X0_countSteps_L7 g_up g_down g_high r_sz r_e_f n k u_a_f → lv_has ls 5 [(0, .ref g), (1, .ref r), (2, .ref a), (3, .int (nI k))] → ww D A sZ.heap L F1 H locs → (wi L F1 g (eG g_up g_down g_high g_prize g_z g_rounds g_people g_pa g_cr g_ls)) → (wi L F1 r (eR r_e r_so r_sz)) → (wi L F1 r_e (eI cI r_e_n r_e_f)) → (wi L F1 a (eI cI 10 u_a_f)) → wk (fun q : Nat => q ≠ a ∧ True) F1 F → W pZ l eZ ({ frames := 3, cells := 0, slots := 0, locals := 68 } : Room) sZ mZ [.ref g, .ref r, .ref a].toArray below meth cZ H locs 0 0 (MQ below (wQv D A (fun L1 F1 => L1 = L ∧ ∃ y9 : (Nat → Int32), y9 = (f_X0_countSteps g_up g_down g_high r_sz r_e_f a_f) ∧ F1 a = (eI cI 10 y9) ∧ wk (fun q : Nat => q ≠ a ∧ True) F1 F)) [.ref g, .ref r, .ref a].toArray sZ 0 0 A) (F0 mZ 7 ls []) := by
    intro n; induction n with
    | zero => intro k u_a_f F1 H locs ls hkT hmeas; exact absurd hmeas (Nat.not_lt_zero _)
    | succ n ih =>
      intro k u_a_f F1 H locs ls hkT hmeas hq hl w h_g h_r h_r_e h_a hk
      have hk31 : k < 2147483648 := Nat.lt_of_le_of_lt hkT (w_clamp_lt _)
      have hq := hq.trans (f_X0_countSteps_L7_s g_up g_down g_high r_sz r_e_f n k u_a_f)
      refine lv_iload_n hx hb dX0_countSteps_7 rfl (lv_at hl 3 rfl) ?_
      refine lv_aload_n hx hb dX0_countSteps_8 rfl (lv_at hl 1 rfl) ?_
      refine w_get (v := .int r_sz) hx hb hts i_X3 hown hK w h_r rfl 2 (by decide) (hts _ m_0) rfl dX0_countSteps_9 ?_
      refine lv_icmp_ge (tgt := 47) hx hb dX0_countSteps_12 (by decide) (fun c1 => ?_) (fun c1 => ?_)
      · skip
        have hq := hq.trans (if_pos c1)
        exact w_vret hx hb hr hlocks w ⟨rfl, _, hq.symm, h_a.2, hk⟩ (Nat.le_refl _) (Nat.le_refl _) dX0_countSteps_47
      · skip
        have hq := hq.trans (if_neg c1)
        have hlt12 : k < r_sz.toNatClampNeg := w_ltk hk31 c1
        refine lv_aload_n hx hb dX0_countSteps_15 rfl (lv_at hl 0 rfl) ?_
        refine lv_aload_n hx hb dX0_countSteps_16 rfl (lv_at hl 1 rfl) ?_
        refine lv_iload_n hx hb dX0_countSteps_17 rfl (lv_at hl 3 rfl) ?_
        refine w_finI (w_runV (rm := ({ frames := 0, cells := 0, slots := 0, locals := 0 } : Room)) (As := [.int (nI k)]) (rest := [.ref g]) (n := 1) hx hb hml hts hown hK w (c_X3_at l D cI cP cS cL L _ r (nI k) r_e r_so r_sz r_e_n r_e_f h_r h_r_e hz) gX0_countSteps_X3_at rfl rfl rfl (by decide +kernel) ⟨(Nat.le_of_ble_eq_true rfl), (Nat.le_of_ble_eq_true rfl)⟩ h_r rfl rfl hl.1 rfl (Nat.le_of_ble_eq_true rfl) dX0_countSteps_18 ⟨(Nat.le_of_ble_eq_true rfl), (Nat.le_of_ble_eq_true rfl)⟩) w hA (fun H locs w => ?_)
        refine w_finI (w_runV (rm := ({ frames := 2, cells := 0, slots := 0, locals := 42 } : Room)) (As := [.int (f_X3_at (nI k) r_sz r_e_f)]) (rest := []) (n := 1) hx hb hml hts hown hK w (c_X0_nearestSteps l D cI cP cS cL L _ g (f_X3_at (nI k) r_sz r_e_f) g_up g_down g_high g_prize g_z g_rounds g_people g_pa g_cr g_ls h_g) gX0_countSteps_X0_nearestSteps rfl rfl rfl (by decide +kernel) ⟨(Nat.le_of_ble_eq_true rfl), (Nat.le_of_ble_eq_true rfl)⟩ h_g rfl rfl hl.1 rfl (Nat.le_of_ble_eq_true rfl) dX0_countSteps_21 ⟨(Nat.le_of_ble_eq_true rfl), (Nat.le_of_ble_eq_true rfl)⟩) w hA (fun H locs w => ?_)
        refine lv_istore (lv' := [(4, .int (f_X0_nearestSteps (f_X3_at (nI k) r_sz r_e_f) g_up g_down g_high)), (0, .ref g), (1, .ref r), (2, .ref a), (3, .int (nI k))]) hx hb dX0_countSteps_24 hl (by decide) rfl (fun ls hl => ?_)
        refine lv_iload hx hb dX0_countSteps_26 (lv_at hl 0 rfl) ?_
        refine lv_aload_n hx hb dX0_countSteps_28 rfl (lv_at hl 3 rfl) ?_
        refine w_len (v := 10) hx hb hK w h_a 0 rfl rfl dX0_countSteps_29 ?_
        refine lv_icmp_ge (tgt := 41) hx hb dX0_countSteps_30 (by decide) (fun c2 => ?_) (fun c2 => ?_)
        · skip
          have hq := hq.trans (if_pos c2)
          refine lv_iinc (v := (nI (k + 1))) (lv' := [(3, .int (nI (k + 1))), (4, .int (f_X0_nearestSteps (f_X3_at (nI k) r_sz r_e_f) g_up g_down g_high)), (0, .ref g), (1, .ref r), (2, .ref a)]) hx hb dX0_countSteps_41 hl (k := 4) rfl (w_inc _) (by decide) rfl (fun ls hl => ?_)
          refine lv_goto (tgt := 7) hx hb dX0_countSteps_44 (by decide) ?_
          exact ih ((k + 1)) u_a_f _ _ _ _ (by omega) (by omega) hq (lv_sub hl [2, 3, 4, 0] rfl) w h_g h_r h_r_e h_a hk
        · skip
          have hq := hq.trans (if_neg c2)
          refine lv_aload_n hx hb dX0_countSteps_33 rfl (lv_at hl 3 rfl) ?_
          refine lv_iload hx hb dX0_countSteps_34 (lv_at hl 0 rfl) ?_
          refine lv_dup2_11 hx hb dX0_countSteps_36 rfl rfl ?_
          refine w_ild (j := ((f_X0_nearestSteps (f_X3_at (nI k) r_sz r_e_f) g_up g_down g_high).toNatClampNeg)) hx hb hK w h_a (w_in10 (ns_range _ _ _ _)) rfl dX0_countSteps_37 ?_
          refine lv_iconst (v := 1) hx hb dX0_countSteps_38 (by decide) ?_
          refine lv_iadd hx hb dX0_countSteps_39 ?_
          have ho3 := h_a
          refine w_ist (j := ((f_X0_nearestSteps (f_X3_at (nI k) r_sz r_e_f) g_up g_down g_high).toNatClampNeg)) hx hb hK w h_a (w_in10 (ns_range _ _ _ _)) rfl dX0_countSteps_40 (fun H locs w h_a => ?_)
          have h_g := h_g.upw h_a (wi.ne h_g ho3 (by intro h; cases h))
          have h_r := h_r.upw h_a (wi.ne h_r ho3 (by intro h; cases h))
          have h_r_e := h_r_e.upw h_a ne_ra
          have hk := hk.upw h_a (fun q h => h.1)
          refine lv_iinc (v := (nI (k + 1))) (lv' := [(3, .int (nI (k + 1))), (4, .int (f_X0_nearestSteps (f_X3_at (nI k) r_sz r_e_f) g_up g_down g_high)), (0, .ref g), (1, .ref r), (2, .ref a)]) hx hb dX0_countSteps_41 hl (k := 4) rfl (w_inc _) (by decide) rfl (fun ls hl => ?_)
          refine lv_goto (tgt := 7) hx hb dX0_countSteps_44 (by decide) ?_
          exact ih ((k + 1)) (upd u_a_f ((f_X0_nearestSteps (f_X3_at (nI k) r_sz r_e_f) g_up g_down g_high).toNatClampNeg) ((u_a_f ((f_X0_nearestSteps (f_X3_at (nI k) r_sz r_e_f) g_up g_down g_high).toNatClampNeg)) + 1)) _ _ _ _ (by omega) (by omega) hq (lv_sub hl [2, 3, 4, 0] rfl) w h_g h_r h_r_e h_a hk
  exact hL7 (r_sz.toNatClampNeg + 1) 0 x2 _ _ _ _ (Nat.zero_le _) (by omega) hq (lv_sub hl [1, 2, 3, 0] rfl) w h_g h_r h_r_e h_a hk
def f_X0_takeFrom_L58 (g_cr_e_n : Nat) (g_cr_e_f : Nat → Int32) (o_up : Int32) (o_down : Int32) (o_high : Int32) (o_prize : Int32) (o_z : Int32) (o_rounds : Int32) (o_people : Int32) (o_ls : Int32) (o_cr_so : Int32) (o_cr_sz : Int32) (o_cr_e_f : Nat → Int32) (qr_nu : Nat → Int32) (qr_ki : Nat → Int32) (qr_st : Nat → Int32) (qr_sl : Nat → Int32) : Nat → Nat → (Nat → Int32) → (Nat → Int32) → (Nat → Int32) → (Nat → Int32) → Int32 × Int32 × Int32 × Int32 × Int32 × Int32 × Int32 × Int32 × Int32 × Int32 × (Nat → Int32) × (Nat → Int32) × (Nat → Int32) × (Nat → Int32) × (Nat → Int32)
  | 0, _, _, _, _, _ => (0, 0, 0, 0, 0, 0, 0, 0, 0, 0, (fun _ => 0), (fun _ => 0), (fun _ => 0), (fun _ => 0), (fun _ => 0))
  | n + 1, k, u_pr_nu, u_pr_ki, u_pr_st, u_pr_sl => if (12 : Int32) ≤ (nI k) then (bnd (f_X3_takeFrom g_cr_e_n g_cr_e_f o_cr_so o_cr_sz o_cr_e_f) (fun x105 : Int32 × Int32 × (Nat → Int32) => (o_up, o_down, o_high, o_prize, o_z, o_rounds, o_people, o_ls, x105.1, x105.2.1, x105.2.2, u_pr_nu, u_pr_ki, u_pr_st, u_pr_sl))) else (if (12 : Int32) ≤ (nI k) then (bnd (f_X3_takeFrom g_cr_e_n g_cr_e_f o_cr_so o_cr_sz o_cr_e_f) (fun x105 : Int32 × Int32 × (Nat → Int32) => (o_up, o_down, o_high, o_prize, o_z, o_rounds, o_people, o_ls, x105.1, x105.2.1, x105.2.2, u_pr_nu, u_pr_ki, u_pr_st, u_pr_sl))) else (bnd (f_X1_takeFrom (qr_nu k) (qr_ki k) (qr_st k) (qr_sl k)) (fun x88 : Int32 × Int32 × Int32 × Int32 => f_X0_takeFrom_L58 g_cr_e_n g_cr_e_f o_up o_down o_high o_prize o_z o_rounds o_people o_ls o_cr_so o_cr_sz o_cr_e_f qr_nu qr_ki qr_st qr_sl n ((k + 1)) (upd u_pr_nu k x88.1) (upd u_pr_ki k x88.2.1) (upd u_pr_st k x88.2.2.1) (upd u_pr_sl k x88.2.2.2))))
theorem f_X0_takeFrom_L58_s (g_cr_e_n : Nat) (g_cr_e_f : Nat → Int32) (o_up : Int32) (o_down : Int32) (o_high : Int32) (o_prize : Int32) (o_z : Int32) (o_rounds : Int32) (o_people : Int32) (o_ls : Int32) (o_cr_so : Int32) (o_cr_sz : Int32) (o_cr_e_f : Nat → Int32) (qr_nu : Nat → Int32) (qr_ki : Nat → Int32) (qr_st : Nat → Int32) (qr_sl : Nat → Int32) (n k : Nat) (u_pr_nu : Nat → Int32) (u_pr_ki : Nat → Int32) (u_pr_st : Nat → Int32) (u_pr_sl : Nat → Int32) : f_X0_takeFrom_L58 g_cr_e_n g_cr_e_f o_up o_down o_high o_prize o_z o_rounds o_people o_ls o_cr_so o_cr_sz o_cr_e_f qr_nu qr_ki qr_st qr_sl (n + 1) k u_pr_nu u_pr_ki u_pr_st u_pr_sl = (if (12 : Int32) ≤ (nI k) then (bnd (f_X3_takeFrom g_cr_e_n g_cr_e_f o_cr_so o_cr_sz o_cr_e_f) (fun x105 : Int32 × Int32 × (Nat → Int32) => (o_up, o_down, o_high, o_prize, o_z, o_rounds, o_people, o_ls, x105.1, x105.2.1, x105.2.2, u_pr_nu, u_pr_ki, u_pr_st, u_pr_sl))) else (if (12 : Int32) ≤ (nI k) then (bnd (f_X3_takeFrom g_cr_e_n g_cr_e_f o_cr_so o_cr_sz o_cr_e_f) (fun x105 : Int32 × Int32 × (Nat → Int32) => (o_up, o_down, o_high, o_prize, o_z, o_rounds, o_people, o_ls, x105.1, x105.2.1, x105.2.2, u_pr_nu, u_pr_ki, u_pr_st, u_pr_sl))) else (bnd (f_X1_takeFrom (qr_nu k) (qr_ki k) (qr_st k) (qr_sl k)) (fun x88 : Int32 × Int32 × Int32 × Int32 => f_X0_takeFrom_L58 g_cr_e_n g_cr_e_f o_up o_down o_high o_prize o_z o_rounds o_people o_ls o_cr_so o_cr_sz o_cr_e_f qr_nu qr_ki qr_st qr_sl n ((k + 1)) (upd u_pr_nu k x88.1) (upd u_pr_ki k x88.2.1) (upd u_pr_st k x88.2.2.1) (upd u_pr_sl k x88.2.2.2))))) := rfl
def f_X0_takeFrom (g_cr_e_n : Nat) (g_cr_e_f : Nat → Int32) (o_up : Int32) (o_down : Int32) (o_high : Int32) (o_prize : Int32) (o_z : Int32) (o_rounds : Int32) (o_people : Int32) (o_ls : Int32) (o_cr_so : Int32) (o_cr_sz : Int32) (o_cr_e_f : Nat → Int32) (pr_nu : Nat → Int32) (pr_ki : Nat → Int32) (pr_st : Nat → Int32) (pr_sl : Nat → Int32) (qr_nu : Nat → Int32) (qr_ki : Nat → Int32) (qr_st : Nat → Int32) (qr_sl : Nat → Int32) : Int32 × Int32 × Int32 × Int32 × Int32 × Int32 × Int32 × Int32 × Int32 × Int32 × (Nat → Int32) × (Nat → Int32) × (Nat → Int32) × (Nat → Int32) × (Nat → Int32) := f_X0_takeFrom_L58 g_cr_e_n g_cr_e_f o_up o_down o_high o_prize o_z o_rounds o_people o_ls o_cr_so o_cr_sz o_cr_e_f qr_nu qr_ki qr_st qr_sl (12 + 1) 0 pr_nu pr_ki pr_st pr_sl
set_option maxHeartbeats 400000 in
set_option maxRecDepth 100000 in
theorem c_X0_takeFrom (l : Launch) (D : va_G) (cI cP cS cL : ClassId) (L : List Nat) (F : Nat → va_E) (g : Nat) (o : Nat) (g_up : Int32) (g_down : Int32) (g_high : Int32) (g_prize : Int32) (g_z : Int32) (g_rounds : Int32) (g_people : Int32) (g_pa : Nat) (g_cr : Nat) (g_ls : Int32) (g_cr_e : Nat) (g_cr_so : Int32) (g_cr_sz : Int32) (g_cr_e_n : Nat) (g_cr_e_f : Nat → Int32) (o_up : Int32) (o_down : Int32) (o_high : Int32) (o_prize : Int32) (o_z : Int32) (o_rounds : Int32) (o_people : Int32) (o_pa : Nat) (o_cr : Nat) (o_ls : Int32) (o_cr_e : Nat) (o_cr_so : Int32) (o_cr_sz : Int32) (o_cr_e_n : Nat) (o_cr_e_f : Nat → Int32) (pr : Nat → Nat) (pr_nu : Nat → Int32) (pr_ki : Nat → Int32) (pr_st : Nat → Int32) (pr_sl : Nat → Int32) (qr : Nat → Nat) (qr_nu : Nat → Int32) (qr_ki : Nat → Int32) (qr_st : Nat → Int32) (qr_sl : Nat → Int32) (h_g : wi L F g (eG g_up g_down g_high g_prize g_z g_rounds g_people g_pa g_cr g_ls)) (h_g_pa : wi L F g_pa (eQ cP 12 (fun i => some (pr i)))) (h_g_cr : wi L F g_cr (eR g_cr_e g_cr_so g_cr_sz)) (h_g_cr_e : wi L F g_cr_e (eI cI g_cr_e_n g_cr_e_f)) (h_o : wi L F o (eG o_up o_down o_high o_prize o_z o_rounds o_people o_pa o_cr o_ls)) (h_o_pa : wi L F o_pa (eQ cP 12 (fun i => some (qr i)))) (h_o_cr : wi L F o_cr (eR o_cr_e o_cr_so o_cr_sz)) (h_o_cr_e : wi L F o_cr_e (eI cI o_cr_e_n o_cr_e_f)) (h_pr : ∀ i, i < 12 → wi L F (pr i) (eP (pr_nu i) (pr_ki i) (pr_st i) (pr_sl i))) (h_qr : ∀ i, i < 12 → wi L F (qr i) (eP (qr_nu i) (qr_ki i) (qr_st i) (qr_sl i))) (hn : g_cr_e_n < 2147483648) (hz : o_cr_sz.toInt ≤ o_cr_e_n) (ne_og : o ≠ g) (ne_qp : ∀ i j, i < 12 → j < 12 → qr i ≠ pr j) (ne_cr : o_cr ≠ g_cr) (ne_cre : o_cr_e ≠ g_cr_e) (hinj_pr : ∀ i k, i < 12 → k < 12 → pr i = pr k → i = k) : wMw l D cI cP cS cL yX0_takeFrom wsX0_takeFrom ({ frames := 3, cells := 0, slots := 0, locals := 67 } : Room) [.ref g, .ref o] L F (fun F1 => ∃ y9 : Int32 × Int32 × Int32 × Int32 × Int32 × Int32 × Int32 × Int32 × Int32 × Int32 × (Nat → Int32) × (Nat → Int32) × (Nat → Int32) × (Nat → Int32) × (Nat → Int32), y9 = (f_X0_takeFrom g_cr_e_n g_cr_e_f o_up o_down o_high o_prize o_z o_rounds o_people o_ls o_cr_so o_cr_sz o_cr_e_f pr_nu pr_ki pr_st pr_sl qr_nu qr_ki qr_st qr_sl) ∧ F1 g = (eG y9.1 y9.2.1 y9.2.2.1 y9.2.2.2.1 y9.2.2.2.2.1 y9.2.2.2.2.2.1 y9.2.2.2.2.2.2.1 g_pa g_cr y9.2.2.2.2.2.2.2.1) ∧ F1 g_cr = (eR g_cr_e y9.2.2.2.2.2.2.2.2.1 y9.2.2.2.2.2.2.2.2.2.1) ∧ F1 g_cr_e = (eI cI g_cr_e_n y9.2.2.2.2.2.2.2.2.2.2.1) ∧ (∀ i, i < 12 → F1 (pr i) = (eP (y9.2.2.2.2.2.2.2.2.2.2.2.1 i) (y9.2.2.2.2.2.2.2.2.2.2.2.2.1 i) (y9.2.2.2.2.2.2.2.2.2.2.2.2.2.1 i) (y9.2.2.2.2.2.2.2.2.2.2.2.2.2.2 i))) ∧ wk (fun q : Nat => q ≠ g ∧ q ≠ g_cr ∧ q ≠ g_cr_e ∧ (∀ i, i < 12 → q ≠ pr i) ∧ True) F1 F) := by
  refine wM.of (cc := cX0_takeFrom) (maxL := 3) (ret := none) (by decide) rfl (Nat.le_of_ble_eq_true rfl) ?_
  intro pZ eZ sZ mZ below meth cZ A ls C hl w
  obtain ⟨hx, hb, hr, hml, hts, hown, hlocks, hK, hA, hin⟩ := C
  have hown : sZ.vm.findClass RX0 = some mZ.cls := hown
  have hl : lv_has ls 3 [(0, .ref g), (1, .ref o)] := hl
  have m_0 : ((.fieldLink RX0 9 "TwoThirds$Game" "up" "I") : Cond) ∈ wsX0_takeFrom := by decide +kernel
  have i_X0 : ∀ w ∈ wsX00, w ∈ wsX0_takeFrom := by decide +kernel
  have m_2 : ((.fieldLink RX0 15 "TwoThirds$Game" "down" "I") : Cond) ∈ wsX0_takeFrom := by decide +kernel
  have m_3 : ((.fieldLink RX0 18 "TwoThirds$Game" "high" "I") : Cond) ∈ wsX0_takeFrom := by decide +kernel
  have m_4 : ((.fieldLink RX0 21 "TwoThirds$Game" "prize" "I") : Cond) ∈ wsX0_takeFrom := by decide +kernel
  have m_5 : ((.fieldLink RX0 24 "TwoThirds$Game" "z" "I") : Cond) ∈ wsX0_takeFrom := by decide +kernel
  have m_6 : ((.fieldLink RX0 43 "TwoThirds$Game" "rounds" "I") : Cond) ∈ wsX0_takeFrom := by decide +kernel
  have m_7 : ((.fieldLink RX0 46 "TwoThirds$Game" "people" "I") : Cond) ∈ wsX0_takeFrom := by decide +kernel
  have m_8 : ((.fieldLink RX0 29 "TwoThirds$Game" "persons" "[LTwoThirds$Person;") : Cond) ∈ wsX0_takeFrom := by decide +kernel
  have m_9 : ((.fieldLink RX0 39 "TwoThirds$Game" "cards" "LTwoThirds$Row;") : Cond) ∈ wsX0_takeFrom := by decide +kernel
  have m_10 : ((.fieldLink RX0 56 "TwoThirds$Game" "lastSum" "I") : Cond) ∈ wsX0_takeFrom := by decide +kernel
  have hk : wk (fun q : Nat => q ≠ g ∧ q ≠ g_cr ∧ q ≠ g_cr_e ∧ (∀ i, i < 12 → q ≠ pr i) ∧ True) F F := wk.rf
  have hq : f_X0_takeFrom g_cr_e_n g_cr_e_f o_up o_down o_high o_prize o_z o_rounds o_people o_ls o_cr_so o_cr_sz o_cr_e_f pr_nu pr_ki pr_st pr_sl qr_nu qr_ki qr_st qr_sl = f_X0_takeFrom g_cr_e_n g_cr_e_f o_up o_down o_high o_prize o_z o_rounds o_people o_ls o_cr_so o_cr_sz o_cr_e_f pr_nu pr_ki pr_st pr_sl qr_nu qr_ki qr_st qr_sl := rfl
  refine lv_aload_n hx hb dX0_takeFrom_0 rfl (lv_at hl 0 rfl) ?_
  refine lv_aload_n hx hb dX0_takeFrom_1 rfl (lv_at hl 1 rfl) ?_
  refine w_get (v := .int o_up) hx hb hts i_X0 hown hK w h_o rfl 0 (by decide) (hts _ m_0) rfl dX0_takeFrom_2 ?_
  have ho1 := h_g
  refine w_put (fs2 := [.int o_up, .int g_down, .int g_high, .int g_prize, .int g_z, .int g_rounds, .int g_people, .ref g_pa, .ref g_cr, .int g_ls]) hx hb hts i_X0 tyX0 tyX0_ok nmX0 hown hK w h_g rfl 0 (by decide) (hts _ m_0) rfl rfl rfl (Nat.le_of_ble_eq_true rfl) rfl dX0_takeFrom_5 (fun H locs w h_g => ?_)
  have h_g_pa := h_g_pa.upw h_g (wi.ne h_g_pa ho1 (by intro h; cases h))
  have h_g_cr := h_g_cr.upw h_g (wi.ne h_g_cr ho1 (by intro h; cases h))
  have h_g_cr_e := h_g_cr_e.upw h_g (wi.ne h_g_cr_e ho1 (by intro h; cases h))
  have h_o := h_o.upw h_g ne_og
  have h_o_pa := h_o_pa.upw h_g (wi.ne h_o_pa ho1 (by intro h; cases h))
  have h_o_cr := h_o_cr.upw h_g (wi.ne h_o_cr ho1 (by intro h; cases h))
  have h_o_cr_e := h_o_cr_e.upw h_g (wi.ne h_o_cr_e ho1 (by intro h; cases h))
  have h_pr := fun i (hi : i < 12) => (h_pr i hi).upw h_g (wi.ne (h_pr i hi) ho1 (by intro h; cases h))
  have h_qr := fun i (hi : i < 12) => (h_qr i hi).upw h_g (wi.ne (h_qr i hi) ho1 (by intro h; cases h))
  have hk := hk.upw h_g (fun q h => h.1)
  refine lv_aload_n hx hb dX0_takeFrom_8 rfl (lv_at hl 0 rfl) ?_
  refine lv_aload_n hx hb dX0_takeFrom_9 rfl (lv_at hl 1 rfl) ?_
  refine w_get (v := .int o_down) hx hb hts i_X0 hown hK w h_o rfl 1 (by decide) (hts _ m_2) rfl dX0_takeFrom_10 ?_
  have ho2 := h_g
  refine w_put (fs2 := [.int o_up, .int o_down, .int g_high, .int g_prize, .int g_z, .int g_rounds, .int g_people, .ref g_pa, .ref g_cr, .int g_ls]) hx hb hts i_X0 tyX0 tyX0_ok nmX0 hown hK w h_g rfl 1 (by decide) (hts _ m_2) rfl rfl rfl (Nat.le_of_ble_eq_true rfl) rfl dX0_takeFrom_13 (fun H locs w h_g => ?_)
  have h_g_pa := h_g_pa.upw h_g (wi.ne h_g_pa ho2 (by intro h; cases h))
  have h_g_cr := h_g_cr.upw h_g (wi.ne h_g_cr ho2 (by intro h; cases h))
  have h_g_cr_e := h_g_cr_e.upw h_g (wi.ne h_g_cr_e ho2 (by intro h; cases h))
  have h_o := h_o.upw h_g ne_og
  have h_o_pa := h_o_pa.upw h_g (wi.ne h_o_pa ho2 (by intro h; cases h))
  have h_o_cr := h_o_cr.upw h_g (wi.ne h_o_cr ho2 (by intro h; cases h))
  have h_o_cr_e := h_o_cr_e.upw h_g (wi.ne h_o_cr_e ho2 (by intro h; cases h))
  have h_pr := fun i (hi : i < 12) => (h_pr i hi).upw h_g (wi.ne (h_pr i hi) ho2 (by intro h; cases h))
  have h_qr := fun i (hi : i < 12) => (h_qr i hi).upw h_g (wi.ne (h_qr i hi) ho2 (by intro h; cases h))
  have hk := hk.upw h_g (fun q h => h.1)
  refine lv_aload_n hx hb dX0_takeFrom_16 rfl (lv_at hl 0 rfl) ?_
  refine lv_aload_n hx hb dX0_takeFrom_17 rfl (lv_at hl 1 rfl) ?_
  refine w_get (v := .int o_high) hx hb hts i_X0 hown hK w h_o rfl 2 (by decide) (hts _ m_3) rfl dX0_takeFrom_18 ?_
  have ho3 := h_g
  refine w_put (fs2 := [.int o_up, .int o_down, .int o_high, .int g_prize, .int g_z, .int g_rounds, .int g_people, .ref g_pa, .ref g_cr, .int g_ls]) hx hb hts i_X0 tyX0 tyX0_ok nmX0 hown hK w h_g rfl 2 (by decide) (hts _ m_3) rfl rfl rfl (Nat.le_of_ble_eq_true rfl) rfl dX0_takeFrom_21 (fun H locs w h_g => ?_)
  have h_g_pa := h_g_pa.upw h_g (wi.ne h_g_pa ho3 (by intro h; cases h))
  have h_g_cr := h_g_cr.upw h_g (wi.ne h_g_cr ho3 (by intro h; cases h))
  have h_g_cr_e := h_g_cr_e.upw h_g (wi.ne h_g_cr_e ho3 (by intro h; cases h))
  have h_o := h_o.upw h_g ne_og
  have h_o_pa := h_o_pa.upw h_g (wi.ne h_o_pa ho3 (by intro h; cases h))
  have h_o_cr := h_o_cr.upw h_g (wi.ne h_o_cr ho3 (by intro h; cases h))
  have h_o_cr_e := h_o_cr_e.upw h_g (wi.ne h_o_cr_e ho3 (by intro h; cases h))
  have h_pr := fun i (hi : i < 12) => (h_pr i hi).upw h_g (wi.ne (h_pr i hi) ho3 (by intro h; cases h))
  have h_qr := fun i (hi : i < 12) => (h_qr i hi).upw h_g (wi.ne (h_qr i hi) ho3 (by intro h; cases h))
  have hk := hk.upw h_g (fun q h => h.1)
  refine lv_aload_n hx hb dX0_takeFrom_24 rfl (lv_at hl 0 rfl) ?_
  refine lv_aload_n hx hb dX0_takeFrom_25 rfl (lv_at hl 1 rfl) ?_
  refine w_get (v := .int o_prize) hx hb hts i_X0 hown hK w h_o rfl 3 (by decide) (hts _ m_4) rfl dX0_takeFrom_26 ?_
  have ho4 := h_g
  refine w_put (fs2 := [.int o_up, .int o_down, .int o_high, .int o_prize, .int g_z, .int g_rounds, .int g_people, .ref g_pa, .ref g_cr, .int g_ls]) hx hb hts i_X0 tyX0 tyX0_ok nmX0 hown hK w h_g rfl 3 (by decide) (hts _ m_4) rfl rfl rfl (Nat.le_of_ble_eq_true rfl) rfl dX0_takeFrom_29 (fun H locs w h_g => ?_)
  have h_g_pa := h_g_pa.upw h_g (wi.ne h_g_pa ho4 (by intro h; cases h))
  have h_g_cr := h_g_cr.upw h_g (wi.ne h_g_cr ho4 (by intro h; cases h))
  have h_g_cr_e := h_g_cr_e.upw h_g (wi.ne h_g_cr_e ho4 (by intro h; cases h))
  have h_o := h_o.upw h_g ne_og
  have h_o_pa := h_o_pa.upw h_g (wi.ne h_o_pa ho4 (by intro h; cases h))
  have h_o_cr := h_o_cr.upw h_g (wi.ne h_o_cr ho4 (by intro h; cases h))
  have h_o_cr_e := h_o_cr_e.upw h_g (wi.ne h_o_cr_e ho4 (by intro h; cases h))
  have h_pr := fun i (hi : i < 12) => (h_pr i hi).upw h_g (wi.ne (h_pr i hi) ho4 (by intro h; cases h))
  have h_qr := fun i (hi : i < 12) => (h_qr i hi).upw h_g (wi.ne (h_qr i hi) ho4 (by intro h; cases h))
  have hk := hk.upw h_g (fun q h => h.1)
  refine lv_aload_n hx hb dX0_takeFrom_32 rfl (lv_at hl 0 rfl) ?_
  refine lv_aload_n hx hb dX0_takeFrom_33 rfl (lv_at hl 1 rfl) ?_
  refine w_get (v := .int o_z) hx hb hts i_X0 hown hK w h_o rfl 4 (by decide) (hts _ m_5) rfl dX0_takeFrom_34 ?_
  have ho5 := h_g
  refine w_put (fs2 := [.int o_up, .int o_down, .int o_high, .int o_prize, .int o_z, .int g_rounds, .int g_people, .ref g_pa, .ref g_cr, .int g_ls]) hx hb hts i_X0 tyX0 tyX0_ok nmX0 hown hK w h_g rfl 4 (by decide) (hts _ m_5) rfl rfl rfl (Nat.le_of_ble_eq_true rfl) rfl dX0_takeFrom_37 (fun H locs w h_g => ?_)
  have h_g_pa := h_g_pa.upw h_g (wi.ne h_g_pa ho5 (by intro h; cases h))
  have h_g_cr := h_g_cr.upw h_g (wi.ne h_g_cr ho5 (by intro h; cases h))
  have h_g_cr_e := h_g_cr_e.upw h_g (wi.ne h_g_cr_e ho5 (by intro h; cases h))
  have h_o := h_o.upw h_g ne_og
  have h_o_pa := h_o_pa.upw h_g (wi.ne h_o_pa ho5 (by intro h; cases h))
  have h_o_cr := h_o_cr.upw h_g (wi.ne h_o_cr ho5 (by intro h; cases h))
  have h_o_cr_e := h_o_cr_e.upw h_g (wi.ne h_o_cr_e ho5 (by intro h; cases h))
  have h_pr := fun i (hi : i < 12) => (h_pr i hi).upw h_g (wi.ne (h_pr i hi) ho5 (by intro h; cases h))
  have h_qr := fun i (hi : i < 12) => (h_qr i hi).upw h_g (wi.ne (h_qr i hi) ho5 (by intro h; cases h))
  have hk := hk.upw h_g (fun q h => h.1)
  refine lv_aload_n hx hb dX0_takeFrom_40 rfl (lv_at hl 0 rfl) ?_
  refine lv_aload_n hx hb dX0_takeFrom_41 rfl (lv_at hl 1 rfl) ?_
  refine w_get (v := .int o_rounds) hx hb hts i_X0 hown hK w h_o rfl 5 (by decide) (hts _ m_6) rfl dX0_takeFrom_42 ?_
  have ho6 := h_g
  refine w_put (fs2 := [.int o_up, .int o_down, .int o_high, .int o_prize, .int o_z, .int o_rounds, .int g_people, .ref g_pa, .ref g_cr, .int g_ls]) hx hb hts i_X0 tyX0 tyX0_ok nmX0 hown hK w h_g rfl 5 (by decide) (hts _ m_6) rfl rfl rfl (Nat.le_of_ble_eq_true rfl) rfl dX0_takeFrom_45 (fun H locs w h_g => ?_)
  have h_g_pa := h_g_pa.upw h_g (wi.ne h_g_pa ho6 (by intro h; cases h))
  have h_g_cr := h_g_cr.upw h_g (wi.ne h_g_cr ho6 (by intro h; cases h))
  have h_g_cr_e := h_g_cr_e.upw h_g (wi.ne h_g_cr_e ho6 (by intro h; cases h))
  have h_o := h_o.upw h_g ne_og
  have h_o_pa := h_o_pa.upw h_g (wi.ne h_o_pa ho6 (by intro h; cases h))
  have h_o_cr := h_o_cr.upw h_g (wi.ne h_o_cr ho6 (by intro h; cases h))
  have h_o_cr_e := h_o_cr_e.upw h_g (wi.ne h_o_cr_e ho6 (by intro h; cases h))
  have h_pr := fun i (hi : i < 12) => (h_pr i hi).upw h_g (wi.ne (h_pr i hi) ho6 (by intro h; cases h))
  have h_qr := fun i (hi : i < 12) => (h_qr i hi).upw h_g (wi.ne (h_qr i hi) ho6 (by intro h; cases h))
  have hk := hk.upw h_g (fun q h => h.1)
  refine lv_aload_n hx hb dX0_takeFrom_48 rfl (lv_at hl 0 rfl) ?_
  refine lv_aload_n hx hb dX0_takeFrom_49 rfl (lv_at hl 1 rfl) ?_
  refine w_get (v := .int o_people) hx hb hts i_X0 hown hK w h_o rfl 6 (by decide) (hts _ m_7) rfl dX0_takeFrom_50 ?_
  have ho7 := h_g
  refine w_put (fs2 := [.int o_up, .int o_down, .int o_high, .int o_prize, .int o_z, .int o_rounds, .int o_people, .ref g_pa, .ref g_cr, .int g_ls]) hx hb hts i_X0 tyX0 tyX0_ok nmX0 hown hK w h_g rfl 6 (by decide) (hts _ m_7) rfl rfl rfl (Nat.le_of_ble_eq_true rfl) rfl dX0_takeFrom_53 (fun H locs w h_g => ?_)
  have h_g_pa := h_g_pa.upw h_g (wi.ne h_g_pa ho7 (by intro h; cases h))
  have h_g_cr := h_g_cr.upw h_g (wi.ne h_g_cr ho7 (by intro h; cases h))
  have h_g_cr_e := h_g_cr_e.upw h_g (wi.ne h_g_cr_e ho7 (by intro h; cases h))
  have h_o := h_o.upw h_g ne_og
  have h_o_pa := h_o_pa.upw h_g (wi.ne h_o_pa ho7 (by intro h; cases h))
  have h_o_cr := h_o_cr.upw h_g (wi.ne h_o_cr ho7 (by intro h; cases h))
  have h_o_cr_e := h_o_cr_e.upw h_g (wi.ne h_o_cr_e ho7 (by intro h; cases h))
  have h_pr := fun i (hi : i < 12) => (h_pr i hi).upw h_g (wi.ne (h_pr i hi) ho7 (by intro h; cases h))
  have h_qr := fun i (hi : i < 12) => (h_qr i hi).upw h_g (wi.ne (h_qr i hi) ho7 (by intro h; cases h))
  have hk := hk.upw h_g (fun q h => h.1)
  refine lv_iconst (v := 0) hx hb dX0_takeFrom_56 (by decide) ?_
  refine lv_istore_n (lv' := [(2, .int 0), (0, .ref g), (1, .ref o)]) hx hb dX0_takeFrom_57 rfl hl (by decide) rfl (fun ls hl => ?_)
  have hL58 : ∀ (n k : Nat) (u_pr_nu : Nat → Int32) (u_pr_ki : Nat → Int32) (u_pr_st : Nat → Int32) (u_pr_sl : Nat → Int32) (F1 : Nat → va_E) (H : Heap) (locs : List Loc) (ls : Array Slot), k ≤ 12 → 12 - k < n → f_X0_takeFrom g_cr_e_n g_cr_e_f o_up o_down o_high o_prize o_z o_rounds o_people o_ls o_cr_so o_cr_sz o_cr_e_f pr_nu pr_ki pr_st pr_sl qr_nu qr_ki qr_st qr_sl = f_X0_takeFrom_L58 g_cr_e_n g_cr_e_f o_up o_down o_high o_prize o_z o_rounds o_people o_ls o_cr_so o_cr_sz o_cr_e_f qr_nu qr_ki qr_st qr_sl n k u_pr_nu u_pr_ki u_pr_st u_pr_sl → lv_has ls 3 [(0, .ref g), (1, .ref o), (2, .int (nI k))] → ww D A sZ.heap L F1 H locs → (wi L F1 g (eG o_up o_down o_high o_prize o_z o_rounds o_people g_pa g_cr g_ls)) → (wi L F1 g_pa (eQ cP 12 (fun i => some (pr i)))) → (wi L F1 g_cr (eR g_cr_e g_cr_so g_cr_sz)) → (wi L F1 g_cr_e (eI cI g_cr_e_n g_cr_e_f)) → (wi L F1 o (eG o_up o_down o_high o_prize o_z o_rounds o_people o_pa o_cr o_ls)) → (wi L F1 o_pa (eQ cP 12 (fun i => some (qr i)))) → (wi L F1 o_cr (eR o_cr_e o_cr_so o_cr_sz)) → (wi L F1 o_cr_e (eI cI o_cr_e_n o_cr_e_f)) → (∀ i, i < 12 → wi L F1 (pr i) (eP (u_pr_nu i) (u_pr_ki i) (u_pr_st i) (u_pr_sl i))) → (∀ i, i < 12 → wi L F1 (qr i) (eP (qr_nu i) (qr_ki i) (qr_st i) (qr_sl i))) → wk (fun q : Nat => q ≠ g ∧ q ≠ g_cr ∧ q ≠ g_cr_e ∧ (∀ i, i < 12 → q ≠ pr i) ∧ True) F1 F → W pZ l eZ ({ frames := 3, cells := 0, slots := 0, locals := 67 } : Room) sZ mZ [.ref g, .ref o].toArray below meth cZ H locs 0 0 (MQ below (wQv D A (fun L1 F1 => L1 = L ∧ ∃ y9 : Int32 × Int32 × Int32 × Int32 × Int32 × Int32 × Int32 × Int32 × Int32 × Int32 × (Nat → Int32) × (Nat → Int32) × (Nat → Int32) × (Nat → Int32) × (Nat → Int32), y9 = (f_X0_takeFrom g_cr_e_n g_cr_e_f o_up o_down o_high o_prize o_z o_rounds o_people o_ls o_cr_so o_cr_sz o_cr_e_f pr_nu pr_ki pr_st pr_sl qr_nu qr_ki qr_st qr_sl) ∧ F1 g = (eG y9.1 y9.2.1 y9.2.2.1 y9.2.2.2.1 y9.2.2.2.2.1 y9.2.2.2.2.2.1 y9.2.2.2.2.2.2.1 g_pa g_cr y9.2.2.2.2.2.2.2.1) ∧ F1 g_cr = (eR g_cr_e y9.2.2.2.2.2.2.2.2.1 y9.2.2.2.2.2.2.2.2.2.1) ∧ F1 g_cr_e = (eI cI g_cr_e_n y9.2.2.2.2.2.2.2.2.2.2.1) ∧ (∀ i, i < 12 → F1 (pr i) = (eP (y9.2.2.2.2.2.2.2.2.2.2.2.1 i) (y9.2.2.2.2.2.2.2.2.2.2.2.2.1 i) (y9.2.2.2.2.2.2.2.2.2.2.2.2.2.1 i) (y9.2.2.2.2.2.2.2.2.2.2.2.2.2.2 i))) ∧ wk (fun q : Nat => q ≠ g ∧ q ≠ g_cr ∧ q ≠ g_cr_e ∧ (∀ i, i < 12 → q ≠ pr i) ∧ True) F1 F)) [.ref g, .ref o].toArray sZ 0 0 A) (F0 mZ 58 ls []) := by
    intro n; induction n with
    | zero => intro k u_pr_nu u_pr_ki u_pr_st u_pr_sl F1 H locs ls hkT hmeas; exact absurd hmeas (Nat.not_lt_zero _)
    | succ n ih =>
      intro k u_pr_nu u_pr_ki u_pr_st u_pr_sl F1 H locs ls hkT hmeas hq hl w h_g h_g_pa h_g_cr h_g_cr_e h_o h_o_pa h_o_cr h_o_cr_e h_pr h_qr hk
      have hk31 : k < 2147483648 := by omega
      have hq := hq.trans (f_X0_takeFrom_L58_s g_cr_e_n g_cr_e_f o_up o_down o_high o_prize o_z o_rounds o_people o_ls o_cr_so o_cr_sz o_cr_e_f qr_nu qr_ki qr_st qr_sl n k u_pr_nu u_pr_ki u_pr_st u_pr_sl)
      refine lv_iload_n hx hb dX0_takeFrom_58 rfl (lv_at hl 2 rfl) ?_
      refine lv_aload_n hx hb dX0_takeFrom_59 rfl (lv_at hl 0 rfl) ?_
      refine w_get (v := .ref g_pa) hx hb hts i_X0 hown hK w h_g rfl 7 (by decide) (hts _ m_8) rfl dX0_takeFrom_60 ?_
      refine w_len (v := 12) hx hb hK w h_g_pa 1 rfl rfl dX0_takeFrom_63 ?_
      refine lv_icmp_ge (tgt := 97) hx hb dX0_takeFrom_64 (by decide) (fun c8 => ?_) (fun c8 => ?_)
      · skip
        have hq := hq.trans (if_pos c8)
        refine lv_aload_n hx hb dX0_takeFrom_97 rfl (lv_at hl 0 rfl) ?_
        refine w_get (v := .ref g_cr) hx hb hts i_X0 hown hK w h_g rfl 8 (by decide) (hts _ m_9) rfl dX0_takeFrom_98 ?_
        refine lv_aload_n hx hb dX0_takeFrom_101 rfl (lv_at hl 1 rfl) ?_
        refine w_get (v := .ref o_cr) hx hb hts i_X0 hown hK w h_o rfl 8 (by decide) (hts _ m_9) rfl dX0_takeFrom_102 ?_
        refine w_finw (w_runV (rm := ({ frames := 2, cells := 0, slots := 0, locals := 45 } : Room)) (As := [.ref o_cr]) (rest := []) (n := 1) hx hb hml hts hown hK w (c_X3_takeFrom l D cI cP cS cL L _ g_cr o_cr g_cr_e g_cr_so g_cr_sz g_cr_e_n g_cr_e_f o_cr_e o_cr_so o_cr_sz o_cr_e_n o_cr_e_f h_g_cr h_g_cr_e h_o_cr h_o_cr_e hn hz ne_cr ne_cre) gX0_takeFrom_X3_takeFrom rfl rfl rfl (by decide +kernel) ⟨(Nat.le_of_ble_eq_true rfl), (Nat.le_of_ble_eq_true rfl)⟩ h_g_cr rfl rfl hl.1 rfl (Nat.le_of_ble_eq_true rfl) dX0_takeFrom_105 ⟨(Nat.le_of_ble_eq_true rfl), (Nat.le_of_ble_eq_true rfl)⟩) w hA (fun F1 H locs hp w => ?_)
        obtain ⟨x105, hx105, hw0, hw1, hk9⟩ := hp
        have hq := hq.trans (w_bnd hx105)
        have h_g := h_g.keep hk9 ⟨(wi.ne h_g h_g_cr (by intro h; cases h)), (wi.ne h_g h_g_cr_e (by intro h; cases h)), trivial⟩
        have h_g_pa := h_g_pa.keep hk9 ⟨(wi.ne h_g_pa h_g_cr (by intro h; cases h)), (wi.ne h_g_pa h_g_cr_e (by intro h; cases h)), trivial⟩
        have h_o := h_o.keep hk9 ⟨(wi.ne h_o h_g_cr (by intro h; cases h)), (wi.ne h_o h_g_cr_e (by intro h; cases h)), trivial⟩
        have h_o_pa := h_o_pa.keep hk9 ⟨(wi.ne h_o_pa h_g_cr (by intro h; cases h)), (wi.ne h_o_pa h_g_cr_e (by intro h; cases h)), trivial⟩
        have h_o_cr := h_o_cr.keep hk9 ⟨ne_cr, (wi.ne h_o_cr h_g_cr_e (by intro h; cases h)), trivial⟩
        have h_o_cr_e := h_o_cr_e.keep hk9 ⟨(wi.ne h_o_cr_e h_g_cr (by intro h; cases h)), ne_cre, trivial⟩
        have h_pr := fun i (hi : i < 12) => (h_pr i hi).keep hk9 ⟨(wi.ne (h_pr i hi) h_g_cr (by intro h; cases h)), (wi.ne (h_pr i hi) h_g_cr_e (by intro h; cases h)), trivial⟩
        have h_qr := fun i (hi : i < 12) => (h_qr i hi).keep hk9 ⟨(wi.ne (h_qr i hi) h_g_cr (by intro h; cases h)), (wi.ne (h_qr i hi) h_g_cr_e (by intro h; cases h)), trivial⟩
        have h_g_cr := h_g_cr.new hw0
        have h_g_cr_e := h_g_cr_e.new hw1
        have hk := hk.call hk9 (fun q h => ⟨h.2.1, h.2.2.1, trivial⟩)
        refine lv_aload_n hx hb dX0_takeFrom_108 rfl (lv_at hl 0 rfl) ?_
        refine lv_aload_n hx hb dX0_takeFrom_109 rfl (lv_at hl 1 rfl) ?_
        refine w_get (v := .int o_ls) hx hb hts i_X0 hown hK w h_o rfl 9 (by decide) (hts _ m_10) rfl dX0_takeFrom_110 ?_
        have ho9 := h_g
        refine w_put (fs2 := [.int o_up, .int o_down, .int o_high, .int o_prize, .int o_z, .int o_rounds, .int o_people, .ref g_pa, .ref g_cr, .int o_ls]) hx hb hts i_X0 tyX0 tyX0_ok nmX0 hown hK w h_g rfl 9 (by decide) (hts _ m_10) rfl rfl rfl (Nat.le_of_ble_eq_true rfl) rfl dX0_takeFrom_113 (fun H locs w h_g => ?_)
        have h_g_pa := h_g_pa.upw h_g (wi.ne h_g_pa ho9 (by intro h; cases h))
        have h_g_cr := h_g_cr.upw h_g (wi.ne h_g_cr ho9 (by intro h; cases h))
        have h_g_cr_e := h_g_cr_e.upw h_g (wi.ne h_g_cr_e ho9 (by intro h; cases h))
        have h_o := h_o.upw h_g ne_og
        have h_o_pa := h_o_pa.upw h_g (wi.ne h_o_pa ho9 (by intro h; cases h))
        have h_o_cr := h_o_cr.upw h_g (wi.ne h_o_cr ho9 (by intro h; cases h))
        have h_o_cr_e := h_o_cr_e.upw h_g (wi.ne h_o_cr_e ho9 (by intro h; cases h))
        have h_pr := fun i (hi : i < 12) => (h_pr i hi).upw h_g (wi.ne (h_pr i hi) ho9 (by intro h; cases h))
        have h_qr := fun i (hi : i < 12) => (h_qr i hi).upw h_g (wi.ne (h_qr i hi) ho9 (by intro h; cases h))
        have hk := hk.upw h_g (fun q h => h.1)
        exact w_vret hx hb hr hlocks w ⟨rfl, _, hq.symm, h_g.2, h_g_cr.2, h_g_cr_e.2, (fun i hi => (h_pr i hi).2), hk⟩ (Nat.le_refl _) (Nat.le_refl _) dX0_takeFrom_116
      · skip
        have hq := hq.trans (if_neg c8)
        have hlt64 : k < 12 := w_ltk hk31 c8
        refine lv_iload_n hx hb dX0_takeFrom_67 rfl (lv_at hl 2 rfl) ?_
        refine lv_aload_n hx hb dX0_takeFrom_68 rfl (lv_at hl 1 rfl) ?_
        refine w_get (v := .ref o_pa) hx hb hts i_X0 hown hK w h_o rfl 7 (by decide) (hts _ m_8) rfl dX0_takeFrom_69 ?_
        refine w_len (v := 12) hx hb hK w h_o_pa 1 rfl rfl dX0_takeFrom_72 ?_
        refine lv_icmp_ge (tgt := 97) hx hb dX0_takeFrom_73 (by decide) (fun c10 => ?_) (fun c10 => ?_)
        · skip
          have hq := hq.trans (if_pos c10)
          refine lv_aload_n hx hb dX0_takeFrom_97 rfl (lv_at hl 0 rfl) ?_
          refine w_get (v := .ref g_cr) hx hb hts i_X0 hown hK w h_g rfl 8 (by decide) (hts _ m_9) rfl dX0_takeFrom_98 ?_
          refine lv_aload_n hx hb dX0_takeFrom_101 rfl (lv_at hl 1 rfl) ?_
          refine w_get (v := .ref o_cr) hx hb hts i_X0 hown hK w h_o rfl 8 (by decide) (hts _ m_9) rfl dX0_takeFrom_102 ?_
          refine w_finw (w_runV (rm := ({ frames := 2, cells := 0, slots := 0, locals := 45 } : Room)) (As := [.ref o_cr]) (rest := []) (n := 1) hx hb hml hts hown hK w (c_X3_takeFrom l D cI cP cS cL L _ g_cr o_cr g_cr_e g_cr_so g_cr_sz g_cr_e_n g_cr_e_f o_cr_e o_cr_so o_cr_sz o_cr_e_n o_cr_e_f h_g_cr h_g_cr_e h_o_cr h_o_cr_e hn hz ne_cr ne_cre) gX0_takeFrom_X3_takeFrom rfl rfl rfl (by decide +kernel) ⟨(Nat.le_of_ble_eq_true rfl), (Nat.le_of_ble_eq_true rfl)⟩ h_g_cr rfl rfl hl.1 rfl (Nat.le_of_ble_eq_true rfl) dX0_takeFrom_105 ⟨(Nat.le_of_ble_eq_true rfl), (Nat.le_of_ble_eq_true rfl)⟩) w hA (fun F1 H locs hp w => ?_)
          obtain ⟨x105, hx105, hw0, hw1, hk9⟩ := hp
          have hq := hq.trans (w_bnd hx105)
          have h_g := h_g.keep hk9 ⟨(wi.ne h_g h_g_cr (by intro h; cases h)), (wi.ne h_g h_g_cr_e (by intro h; cases h)), trivial⟩
          have h_g_pa := h_g_pa.keep hk9 ⟨(wi.ne h_g_pa h_g_cr (by intro h; cases h)), (wi.ne h_g_pa h_g_cr_e (by intro h; cases h)), trivial⟩
          have h_o := h_o.keep hk9 ⟨(wi.ne h_o h_g_cr (by intro h; cases h)), (wi.ne h_o h_g_cr_e (by intro h; cases h)), trivial⟩
          have h_o_pa := h_o_pa.keep hk9 ⟨(wi.ne h_o_pa h_g_cr (by intro h; cases h)), (wi.ne h_o_pa h_g_cr_e (by intro h; cases h)), trivial⟩
          have h_o_cr := h_o_cr.keep hk9 ⟨ne_cr, (wi.ne h_o_cr h_g_cr_e (by intro h; cases h)), trivial⟩
          have h_o_cr_e := h_o_cr_e.keep hk9 ⟨(wi.ne h_o_cr_e h_g_cr (by intro h; cases h)), ne_cre, trivial⟩
          have h_pr := fun i (hi : i < 12) => (h_pr i hi).keep hk9 ⟨(wi.ne (h_pr i hi) h_g_cr (by intro h; cases h)), (wi.ne (h_pr i hi) h_g_cr_e (by intro h; cases h)), trivial⟩
          have h_qr := fun i (hi : i < 12) => (h_qr i hi).keep hk9 ⟨(wi.ne (h_qr i hi) h_g_cr (by intro h; cases h)), (wi.ne (h_qr i hi) h_g_cr_e (by intro h; cases h)), trivial⟩
          have h_g_cr := h_g_cr.new hw0
          have h_g_cr_e := h_g_cr_e.new hw1
          have hk := hk.call hk9 (fun q h => ⟨h.2.1, h.2.2.1, trivial⟩)
          refine lv_aload_n hx hb dX0_takeFrom_108 rfl (lv_at hl 0 rfl) ?_
          refine lv_aload_n hx hb dX0_takeFrom_109 rfl (lv_at hl 1 rfl) ?_
          refine w_get (v := .int o_ls) hx hb hts i_X0 hown hK w h_o rfl 9 (by decide) (hts _ m_10) rfl dX0_takeFrom_110 ?_
          have ho11 := h_g
          refine w_put (fs2 := [.int o_up, .int o_down, .int o_high, .int o_prize, .int o_z, .int o_rounds, .int o_people, .ref g_pa, .ref g_cr, .int o_ls]) hx hb hts i_X0 tyX0 tyX0_ok nmX0 hown hK w h_g rfl 9 (by decide) (hts _ m_10) rfl rfl rfl (Nat.le_of_ble_eq_true rfl) rfl dX0_takeFrom_113 (fun H locs w h_g => ?_)
          have h_g_pa := h_g_pa.upw h_g (wi.ne h_g_pa ho11 (by intro h; cases h))
          have h_g_cr := h_g_cr.upw h_g (wi.ne h_g_cr ho11 (by intro h; cases h))
          have h_g_cr_e := h_g_cr_e.upw h_g (wi.ne h_g_cr_e ho11 (by intro h; cases h))
          have h_o := h_o.upw h_g ne_og
          have h_o_pa := h_o_pa.upw h_g (wi.ne h_o_pa ho11 (by intro h; cases h))
          have h_o_cr := h_o_cr.upw h_g (wi.ne h_o_cr ho11 (by intro h; cases h))
          have h_o_cr_e := h_o_cr_e.upw h_g (wi.ne h_o_cr_e ho11 (by intro h; cases h))
          have h_pr := fun i (hi : i < 12) => (h_pr i hi).upw h_g (wi.ne (h_pr i hi) ho11 (by intro h; cases h))
          have h_qr := fun i (hi : i < 12) => (h_qr i hi).upw h_g (wi.ne (h_qr i hi) ho11 (by intro h; cases h))
          have hk := hk.upw h_g (fun q h => h.1)
          exact w_vret hx hb hr hlocks w ⟨rfl, _, hq.symm, h_g.2, h_g_cr.2, h_g_cr_e.2, (fun i hi => (h_pr i hi).2), hk⟩ (Nat.le_refl _) (Nat.le_refl _) dX0_takeFrom_116
        · skip
          have hq := hq.trans (if_neg c10)
          have hlt73 : k < 12 := w_ltk hk31 c10
          refine lv_aload_n hx hb dX0_takeFrom_76 rfl (lv_at hl 0 rfl) ?_
          refine w_get (v := .ref g_pa) hx hb hts i_X0 hown hK w h_g rfl 7 (by decide) (hts _ m_8) rfl dX0_takeFrom_77 ?_
          refine lv_iload_n hx hb dX0_takeFrom_80 rfl (lv_at hl 2 rfl) ?_
          refine w_qldP (v := .ref (pr k)) hx hb hK w h_g_pa (vp_in_nI hlt64 (by omega)) (congrArg (fun j => Value.ref (pr j)) (nI_clamp (by omega))) dX0_takeFrom_81 ?_
          refine lv_aload_n hx hb dX0_takeFrom_82 rfl (lv_at hl 1 rfl) ?_
          refine w_get (v := .ref o_pa) hx hb hts i_X0 hown hK w h_o rfl 7 (by decide) (hts _ m_8) rfl dX0_takeFrom_83 ?_
          refine lv_iload_n hx hb dX0_takeFrom_86 rfl (lv_at hl 2 rfl) ?_
          refine w_qldP (v := .ref (qr k)) hx hb hK w h_o_pa (vp_in_nI hlt73 (by omega)) (congrArg (fun j => Value.ref (qr j)) (nI_clamp (by omega))) dX0_takeFrom_87 ?_
          refine w_finw (w_runV (rm := ({ frames := 1, cells := 0, slots := 0, locals := 24 } : Room)) (As := [.ref (qr k)]) (rest := []) (n := 1) hx hb hml hts hown hK w (c_X1_takeFrom l D cI cP cS cL L _ (pr k) (qr k) (u_pr_nu k) (u_pr_ki k) (u_pr_st k) (u_pr_sl k) (qr_nu k) (qr_ki k) (qr_st k) (qr_sl k) (h_pr k (by omega)) (h_qr k (by omega)) (ne_qp k k hlt73 hlt64)) gX0_takeFrom_X1_takeFrom rfl rfl rfl (by decide +kernel) ⟨(Nat.le_of_ble_eq_true rfl), (Nat.le_of_ble_eq_true rfl)⟩ (h_pr k (by omega)) rfl rfl hl.1 rfl (Nat.le_of_ble_eq_true rfl) dX0_takeFrom_88 ⟨(Nat.le_of_ble_eq_true rfl), (Nat.le_of_ble_eq_true rfl)⟩) w hA (fun F1 H locs hp w => ?_)
          obtain ⟨x88, hx88, hw0, hk9⟩ := hp
          have hq := hq.trans (w_bnd hx88)
          have hf12 := fam_new (E := (fun i => (eP (u_pr_nu i) (u_pr_ki i) (u_pr_st i) (u_pr_sl i)))) (E2 := (fun i => (eP ((upd u_pr_nu k x88.1) i) ((upd u_pr_ki k x88.2.1) i) ((upd u_pr_st k x88.2.2.1) i) ((upd u_pr_sl k x88.2.2.2) i)))) h_pr (by omega) hw0 hk9 (fun i hi hne => ⟨(fun q => hne (hinj_pr i k hi (by omega) q)), trivial⟩) (by simp [upd, va_up]) (fun i hi => by simp [upd, va_up, hi])
          have h_g := h_g.keep hk9 ⟨(wi.ne h_g (h_pr k (by omega)) (by intro h; cases h)), trivial⟩
          have h_g_pa := h_g_pa.keep hk9 ⟨(wi.ne h_g_pa (h_pr k (by omega)) (by intro h; cases h)), trivial⟩
          have h_g_cr := h_g_cr.keep hk9 ⟨(wi.ne h_g_cr (h_pr k (by omega)) (by intro h; cases h)), trivial⟩
          have h_g_cr_e := h_g_cr_e.keep hk9 ⟨(wi.ne h_g_cr_e (h_pr k (by omega)) (by intro h; cases h)), trivial⟩
          have h_o := h_o.keep hk9 ⟨(wi.ne h_o (h_pr k (by omega)) (by intro h; cases h)), trivial⟩
          have h_o_pa := h_o_pa.keep hk9 ⟨(wi.ne h_o_pa (h_pr k (by omega)) (by intro h; cases h)), trivial⟩
          have h_o_cr := h_o_cr.keep hk9 ⟨(wi.ne h_o_cr (h_pr k (by omega)) (by intro h; cases h)), trivial⟩
          have h_o_cr_e := h_o_cr_e.keep hk9 ⟨(wi.ne h_o_cr_e (h_pr k (by omega)) (by intro h; cases h)), trivial⟩
          have h_qr := fun i (hi : i < 12) => (h_qr i hi).keep hk9 ⟨(ne_qp i k hi (by omega)), trivial⟩
          have h_pr := hf12
          have hk := hk.call hk9 (fun q h => ⟨(h.2.2.2.1 k (by omega)), trivial⟩)
          refine lv_iinc (v := (nI (k + 1))) (lv' := [(2, .int (nI (k + 1))), (0, .ref g), (1, .ref o)]) hx hb dX0_takeFrom_91 hl (k := 2) rfl (w_inc _) (by decide) rfl (fun ls hl => ?_)
          refine lv_goto (tgt := 58) hx hb dX0_takeFrom_94 (by decide) ?_
          exact ih ((k + 1)) (upd u_pr_nu k x88.1) (upd u_pr_ki k x88.2.1) (upd u_pr_st k x88.2.2.1) (upd u_pr_sl k x88.2.2.2) _ _ _ _ (by omega) (by omega) hq (lv_sub hl [1, 2, 0] rfl) w h_g h_g_pa h_g_cr h_g_cr_e h_o h_o_pa h_o_cr h_o_cr_e h_pr h_qr hk
  exact hL58 (12 + 1) 0 pr_nu pr_ki pr_st pr_sl _ _ _ _ (Nat.zero_le _) (by omega) hq (lv_sub hl [1, 2, 0] rfl) w h_g h_g_pa h_g_cr h_g_cr_e h_o h_o_pa h_o_cr h_o_cr_e h_pr h_qr hk
def f_X2_takes (sign : Int32) (d_pl : Int32) (d_te_sz : Int32) (d_te_e_f : Nat → Int32) : Int32 × Int32 := if (f_X3_hasPlace d_pl d_te_sz) = (0 : Int32) then (0, d_pl) else (if (f_X3_at d_pl d_te_sz d_te_e_f) = sign then (1, (d_pl + 1)) else (0, d_pl))
theorem z_X2_takes (sign : Int32) (d_pl : Int32) (d_te_sz : Int32) (d_te_e_f : Nat → Int32) : (f_X2_takes sign d_pl d_te_sz d_te_e_f).1 = 0 ∨ (f_X2_takes sign d_pl d_te_sz d_te_e_f).1 = 1 := by
  unfold f_X2_takes
  try simp only [bnd]
  repeat' split
  all_goals first | exact Or.inl rfl | exact Or.inr rfl | exact z_X3_hasPlace _ _
set_option maxHeartbeats 400000 in
set_option maxRecDepth 100000 in
theorem c_X2_takes (l : Launch) (D : va_G) (cI cP cS cL : ClassId) (L : List Nat) (F : Nat → va_E) (d : Nat) (sign : Int32) (d_te : Nat) (d_pl : Int32) (d_le : Int32) (d_fi : Int32) (d_se : Int32) (d_th : Int32) (d_nu : Int32) (d_te_e : Nat) (d_te_so : Int32) (d_te_sz : Int32) (d_te_e_n : Nat) (d_te_e_f : Nat → Int32) (h_d : wi L F d (eD d_te d_pl d_le d_fi d_se d_th d_nu)) (h_d_te : wi L F d_te (eR d_te_e d_te_so d_te_sz)) (h_d_te_e : wi L F d_te_e (eI cI d_te_e_n d_te_e_f)) (hz : d_te_sz.toInt ≤ d_te_e_n) : wMj l D cI cP cS cL yX2_takes wsX2_takes ({ frames := 1, cells := 0, slots := 0, locals := 21 } : Room) [.ref d, .int sign] L F (fun r1 F1 => ∃ y9 : Int32 × Int32, y9 = (f_X2_takes sign d_pl d_te_sz d_te_e_f) ∧ r1 = y9.1 ∧ F1 d = (eD d_te y9.2 d_le d_fi d_se d_th d_nu) ∧ wk (fun q : Nat => q ≠ d ∧ True) F1 F) := by
  refine wM.of (cc := cX2_takes) (maxL := 2) (ret := (some .boolean)) (by decide) rfl (Nat.le_of_ble_eq_true rfl) ?_
  intro pZ eZ sZ mZ below meth cZ A ls C hl w
  obtain ⟨hx, hb, hr, hml, hts, hown, hlocks, hK, hA, hin⟩ := C
  have hown : sZ.vm.findClass RX2 = some mZ.cls := hown
  have hl : lv_has ls 2 [(0, .ref d), (1, .int sign)] := hl
  have m_0 : ((.fieldLink RX2 9 "TwoThirds$Reader" "text" "LTwoThirds$Row;") : Cond) ∈ wsX2_takes := by decide +kernel
  have i_X2 : ∀ w ∈ wsX20, w ∈ wsX2_takes := by decide +kernel
  have m_2 : ((.fieldLink RX2 19 "TwoThirds$Reader" "place" "I") : Cond) ∈ wsX2_takes := by decide +kernel
  have hk : wk (fun q : Nat => q ≠ d ∧ True) F F := wk.rf
  have hq : f_X2_takes sign d_pl d_te_sz d_te_e_f = f_X2_takes sign d_pl d_te_sz d_te_e_f := rfl
  refine lv_aload_n hx hb dX2_takes_0 rfl (lv_at hl 0 rfl) ?_
  refine w_get (v := .ref d_te) hx hb hts i_X2 hown hK w h_d rfl 0 (by decide) (hts _ m_0) rfl dX2_takes_1 ?_
  refine lv_aload_n hx hb dX2_takes_4 rfl (lv_at hl 0 rfl) ?_
  refine w_get (v := .int d_pl) hx hb hts i_X2 hown hK w h_d rfl 1 (by decide) (hts _ m_2) rfl dX2_takes_5 ?_
  refine w_finI (w_runV (rm := ({ frames := 0, cells := 0, slots := 0, locals := 0 } : Room)) (As := [.int d_pl]) (rest := []) (n := 1) hx hb hml hts hown hK w (c_X3_hasPlace l D cI cP cS cL L _ d_te d_pl d_te_e d_te_so d_te_sz h_d_te) gX2_takes_X3_hasPlace rfl rfl rfl (by decide +kernel) ⟨(Nat.le_of_ble_eq_true rfl), (Nat.le_of_ble_eq_true rfl)⟩ h_d_te rfl rfl hl.1 rfl (Nat.le_of_ble_eq_true rfl) dX2_takes_8 ⟨(Nat.le_of_ble_eq_true rfl), (Nat.le_of_ble_eq_true rfl)⟩) w hA (fun H locs w => ?_)
  refine lv_if_eq (tgt := 29) hx hb dX2_takes_11 (by decide) (fun c1 => ?_) (fun c1 => ?_)
  · skip
    have hq := hq.trans (if_pos c1)
    refine lv_iconst (v := 0) hx hb dX2_takes_29 (by decide) ?_
    exact w_zret hx hb hr hlocks w rfl ⟨rfl, _, hq.symm, rfl, h_d.2, hk⟩ (Nat.le_refl _) (Nat.le_refl _) dX2_takes_30
  · skip
    have hq := hq.trans (if_neg c1)
    refine lv_aload_n hx hb dX2_takes_14 rfl (lv_at hl 0 rfl) ?_
    refine w_get (v := .ref d_te) hx hb hts i_X2 hown hK w h_d rfl 0 (by decide) (hts _ m_0) rfl dX2_takes_15 ?_
    refine lv_aload_n hx hb dX2_takes_18 rfl (lv_at hl 0 rfl) ?_
    refine w_get (v := .int d_pl) hx hb hts i_X2 hown hK w h_d rfl 1 (by decide) (hts _ m_2) rfl dX2_takes_19 ?_
    refine w_finI (w_runV (rm := ({ frames := 0, cells := 0, slots := 0, locals := 0 } : Room)) (As := [.int d_pl]) (rest := []) (n := 1) hx hb hml hts hown hK w (c_X3_at l D cI cP cS cL L _ d_te d_pl d_te_e d_te_so d_te_sz d_te_e_n d_te_e_f h_d_te h_d_te_e hz) gX2_takes_X3_at rfl rfl rfl (by decide +kernel) ⟨(Nat.le_of_ble_eq_true rfl), (Nat.le_of_ble_eq_true rfl)⟩ h_d_te rfl rfl hl.1 rfl (Nat.le_of_ble_eq_true rfl) dX2_takes_22 ⟨(Nat.le_of_ble_eq_true rfl), (Nat.le_of_ble_eq_true rfl)⟩) w hA (fun H locs w => ?_)
    refine lv_iload_n hx hb dX2_takes_25 rfl (lv_at hl 1 rfl) ?_
    refine lv_icmp_eq (tgt := 31) hx hb dX2_takes_26 (by decide) (fun c2 => ?_) (fun c2 => ?_)
    · skip
      have hq := hq.trans (if_pos c2)
      refine lv_aload_n hx hb dX2_takes_31 rfl (lv_at hl 0 rfl) ?_
      refine lv_dup hx hb dX2_takes_32 rfl ?_
      refine w_get (v := .int d_pl) hx hb hts i_X2 hown hK w h_d rfl 1 (by decide) (hts _ m_2) rfl dX2_takes_33 ?_
      refine lv_iconst (v := 1) hx hb dX2_takes_36 (by decide) ?_
      refine lv_iadd hx hb dX2_takes_37 ?_
      have ho3 := h_d
      refine w_put (fs2 := [.ref d_te, .int (d_pl + 1), .int d_le, .int d_fi, .int d_se, .int d_th, .int d_nu]) hx hb hts i_X2 tyX2 tyX2_ok nmX2 hown hK w h_d rfl 1 (by decide) (hts _ m_2) rfl rfl rfl (Nat.le_of_ble_eq_true rfl) rfl dX2_takes_38 (fun H locs w h_d => ?_)
      have h_d_te := h_d_te.upw h_d (wi.ne h_d_te ho3 (by intro h; cases h))
      have h_d_te_e := h_d_te_e.upw h_d (wi.ne h_d_te_e ho3 (by intro h; cases h))
      have hk := hk.upw h_d (fun q h => h.1)
      refine lv_iconst (v := 1) hx hb dX2_takes_41 (by decide) ?_
      exact w_zret hx hb hr hlocks w rfl ⟨rfl, _, hq.symm, rfl, h_d.2, hk⟩ (Nat.le_refl _) (Nat.le_refl _) dX2_takes_42
    · skip
      have hq := hq.trans (if_neg c2)
      refine lv_iconst (v := 0) hx hb dX2_takes_29 (by decide) ?_
      exact w_zret hx hb hr hlocks w rfl ⟨rfl, _, hq.symm, rfl, h_d.2, hk⟩ (Nat.le_refl _) (Nat.le_refl _) dX2_takes_30
def f_X2_takesDigit (d_pl : Int32) (d_nu : Int32) (d_te_sz : Int32) (d_te_e_f : Nat → Int32) : Int32 × Int32 × Int32 := if (f_X3_at d_pl d_te_sz d_te_e_f) < (48 : Int32) then (0, d_pl, d_nu) else (if (f_X3_at d_pl d_te_sz d_te_e_f) ≤ (57 : Int32) then (1, (d_pl + 1), ((f_X3_at d_pl d_te_sz d_te_e_f) - 48)) else (0, d_pl, d_nu))
theorem z_X2_takesDigit (d_pl : Int32) (d_nu : Int32) (d_te_sz : Int32) (d_te_e_f : Nat → Int32) : (f_X2_takesDigit d_pl d_nu d_te_sz d_te_e_f).1 = 0 ∨ (f_X2_takesDigit d_pl d_nu d_te_sz d_te_e_f).1 = 1 := by
  unfold f_X2_takesDigit
  try simp only [bnd]
  repeat' split
  all_goals first | exact Or.inl rfl | exact Or.inr rfl
set_option maxHeartbeats 400000 in
set_option maxRecDepth 100000 in
theorem c_X2_takesDigit (l : Launch) (D : va_G) (cI cP cS cL : ClassId) (L : List Nat) (F : Nat → va_E) (d : Nat) (d_te : Nat) (d_pl : Int32) (d_le : Int32) (d_fi : Int32) (d_se : Int32) (d_th : Int32) (d_nu : Int32) (d_te_e : Nat) (d_te_so : Int32) (d_te_sz : Int32) (d_te_e_n : Nat) (d_te_e_f : Nat → Int32) (h_d : wi L F d (eD d_te d_pl d_le d_fi d_se d_th d_nu)) (h_d_te : wi L F d_te (eR d_te_e d_te_so d_te_sz)) (h_d_te_e : wi L F d_te_e (eI cI d_te_e_n d_te_e_f)) (hz : d_te_sz.toInt ≤ d_te_e_n) : wMj l D cI cP cS cL yX2_takesDigit wsX2_takesDigit ({ frames := 1, cells := 0, slots := 0, locals := 21 } : Room) [.ref d] L F (fun r1 F1 => ∃ y9 : Int32 × Int32 × Int32, y9 = (f_X2_takesDigit d_pl d_nu d_te_sz d_te_e_f) ∧ r1 = y9.1 ∧ F1 d = (eD d_te y9.2.1 d_le d_fi d_se d_th y9.2.2) ∧ wk (fun q : Nat => q ≠ d ∧ True) F1 F) := by
  refine wM.of (cc := cX2_takesDigit) (maxL := 2) (ret := (some .boolean)) (by decide) rfl (Nat.le_of_ble_eq_true rfl) ?_
  intro pZ eZ sZ mZ below meth cZ A ls C hl w
  obtain ⟨hx, hb, hr, hml, hts, hown, hlocks, hK, hA, hin⟩ := C
  have hown : sZ.vm.findClass RX2 = some mZ.cls := hown
  have hl : lv_has ls 2 [(0, .ref d)] := hl
  have m_0 : ((.fieldLink RX2 9 "TwoThirds$Reader" "text" "LTwoThirds$Row;") : Cond) ∈ wsX2_takesDigit := by decide +kernel
  have i_X2 : ∀ w ∈ wsX20, w ∈ wsX2_takesDigit := by decide +kernel
  have m_2 : ((.fieldLink RX2 19 "TwoThirds$Reader" "place" "I") : Cond) ∈ wsX2_takesDigit := by decide +kernel
  have m_3 : ((.fieldLink RX2 51 "TwoThirds$Reader" "number" "I") : Cond) ∈ wsX2_takesDigit := by decide +kernel
  have hk : wk (fun q : Nat => q ≠ d ∧ True) F F := wk.rf
  have hq : f_X2_takesDigit d_pl d_nu d_te_sz d_te_e_f = f_X2_takesDigit d_pl d_nu d_te_sz d_te_e_f := rfl
  refine lv_aload_n hx hb dX2_takesDigit_0 rfl (lv_at hl 0 rfl) ?_
  refine w_get (v := .ref d_te) hx hb hts i_X2 hown hK w h_d rfl 0 (by decide) (hts _ m_0) rfl dX2_takesDigit_1 ?_
  refine lv_aload_n hx hb dX2_takesDigit_4 rfl (lv_at hl 0 rfl) ?_
  refine w_get (v := .int d_pl) hx hb hts i_X2 hown hK w h_d rfl 1 (by decide) (hts _ m_2) rfl dX2_takesDigit_5 ?_
  refine w_finI (w_runV (rm := ({ frames := 0, cells := 0, slots := 0, locals := 0 } : Room)) (As := [.int d_pl]) (rest := []) (n := 1) hx hb hml hts hown hK w (c_X3_at l D cI cP cS cL L _ d_te d_pl d_te_e d_te_so d_te_sz d_te_e_n d_te_e_f h_d_te h_d_te_e hz) gX2_takesDigit_X3_at rfl rfl rfl (by decide +kernel) ⟨(Nat.le_of_ble_eq_true rfl), (Nat.le_of_ble_eq_true rfl)⟩ h_d_te rfl rfl hl.1 rfl (Nat.le_of_ble_eq_true rfl) dX2_takesDigit_8 ⟨(Nat.le_of_ble_eq_true rfl), (Nat.le_of_ble_eq_true rfl)⟩) w hA (fun H locs w => ?_)
  refine lv_istore_n (lv' := [(1, .int (f_X3_at d_pl d_te_sz d_te_e_f)), (0, .ref d)]) hx hb dX2_takesDigit_11 rfl hl (by decide) rfl (fun ls hl => ?_)
  refine lv_iload_n hx hb dX2_takesDigit_12 rfl (lv_at hl 0 rfl) ?_
  refine lv_bipush (v := 48) hx hb dX2_takesDigit_13 (by decide) ?_
  refine lv_icmp_lt (tgt := 24) hx hb dX2_takesDigit_15 (by decide) (fun c1 => ?_) (fun c1 => ?_)
  · skip
    have hq := hq.trans (if_pos c1)
    refine lv_iconst (v := 0) hx hb dX2_takesDigit_24 (by decide) ?_
    exact w_zret hx hb hr hlocks w rfl ⟨rfl, _, hq.symm, rfl, h_d.2, hk⟩ (Nat.le_refl _) (Nat.le_refl _) dX2_takesDigit_25
  · skip
    have hq := hq.trans (if_neg c1)
    refine lv_iload_n hx hb dX2_takesDigit_18 rfl (lv_at hl 0 rfl) ?_
    refine lv_bipush (v := 57) hx hb dX2_takesDigit_19 (by decide) ?_
    refine lv_icmp_le (tgt := 26) hx hb dX2_takesDigit_21 (by decide) (fun c2 => ?_) (fun c2 => ?_)
    · skip
      have hq := hq.trans (if_pos c2)
      refine lv_aload_n hx hb dX2_takesDigit_26 rfl (lv_at hl 1 rfl) ?_
      refine lv_iload_n hx hb dX2_takesDigit_27 rfl (lv_at hl 0 rfl) ?_
      refine lv_bipush (v := 48) hx hb dX2_takesDigit_28 (by decide) ?_
      refine lv_isub hx hb dX2_takesDigit_30 ?_
      have ho3 := h_d
      refine w_put (fs2 := [.ref d_te, .int d_pl, .int d_le, .int d_fi, .int d_se, .int d_th, .int ((f_X3_at d_pl d_te_sz d_te_e_f) - 48)]) hx hb hts i_X2 tyX2 tyX2_ok nmX2 hown hK w h_d rfl 6 (by decide) (hts _ m_3) rfl rfl rfl (Nat.le_of_ble_eq_true rfl) rfl dX2_takesDigit_31 (fun H locs w h_d => ?_)
      have h_d_te := h_d_te.upw h_d (wi.ne h_d_te ho3 (by intro h; cases h))
      have h_d_te_e := h_d_te_e.upw h_d (wi.ne h_d_te_e ho3 (by intro h; cases h))
      have hk := hk.upw h_d (fun q h => h.1)
      refine lv_aload_n hx hb dX2_takesDigit_34 rfl (lv_at hl 1 rfl) ?_
      refine lv_dup hx hb dX2_takesDigit_35 rfl ?_
      refine w_get (v := .int d_pl) hx hb hts i_X2 hown hK w h_d rfl 1 (by decide) (hts _ m_2) rfl dX2_takesDigit_36 ?_
      refine lv_iconst (v := 1) hx hb dX2_takesDigit_39 (by decide) ?_
      refine lv_iadd hx hb dX2_takesDigit_40 ?_
      have ho4 := h_d
      refine w_put (fs2 := [.ref d_te, .int (d_pl + 1), .int d_le, .int d_fi, .int d_se, .int d_th, .int ((f_X3_at d_pl d_te_sz d_te_e_f) - 48)]) hx hb hts i_X2 tyX2 tyX2_ok nmX2 hown hK w h_d rfl 1 (by decide) (hts _ m_2) rfl rfl rfl (Nat.le_of_ble_eq_true rfl) rfl dX2_takesDigit_41 (fun H locs w h_d => ?_)
      have h_d_te := h_d_te.upw h_d (wi.ne h_d_te ho4 (by intro h; cases h))
      have h_d_te_e := h_d_te_e.upw h_d (wi.ne h_d_te_e ho4 (by intro h; cases h))
      have hk := hk.upw h_d (fun q h => h.1)
      refine lv_iconst (v := 1) hx hb dX2_takesDigit_44 (by decide) ?_
      exact w_zret hx hb hr hlocks w rfl ⟨rfl, _, hq.symm, rfl, h_d.2, hk⟩ (Nat.le_refl _) (Nat.le_refl _) dX2_takesDigit_45
    · skip
      have hq := hq.trans (if_neg c2)
      refine lv_iconst (v := 0) hx hb dX2_takesDigit_24 (by decide) ?_
      exact w_zret hx hb hr hlocks w rfl ⟨rfl, _, hq.symm, rfl, h_d.2, hk⟩ (Nat.le_refl _) (Nat.le_refl _) dX2_takesDigit_25
def f_X2_takesNumber_L16 (d_te_sz : Int32) (d_te_e_f : Nat → Int32) : Nat → Nat → Int32 → (Int32) → (Int32) → Int32 × Int32 × Int32
  | 0, _, _, _, _ => (0, 0, 0)
  | n + 1, k, v1, u_d_pl, u_d_nu => if (4 : Int32) ≤ (nI k) then (1, u_d_pl, v1) else (if v1 = (0 : Int32) then (1, u_d_pl, v1) else (bnd (f_X2_takesDigit u_d_pl u_d_nu d_te_sz d_te_e_f) (fun x26 : Int32 × Int32 × Int32 => if x26.1 = (0 : Int32) then (1, x26.2.1, v1) else (f_X2_takesNumber_L16 d_te_sz d_te_e_f n ((k + 1)) ((v1 * 10) + x26.2.2) x26.2.1 x26.2.2))))
theorem f_X2_takesNumber_L16_s (d_te_sz : Int32) (d_te_e_f : Nat → Int32) (n k : Nat) (v1 : Int32) (u_d_pl : Int32) (u_d_nu : Int32) : f_X2_takesNumber_L16 d_te_sz d_te_e_f (n + 1) k v1 u_d_pl u_d_nu = (if (4 : Int32) ≤ (nI k) then (1, u_d_pl, v1) else (if v1 = (0 : Int32) then (1, u_d_pl, v1) else (bnd (f_X2_takesDigit u_d_pl u_d_nu d_te_sz d_te_e_f) (fun x26 : Int32 × Int32 × Int32 => if x26.1 = (0 : Int32) then (1, x26.2.1, v1) else (f_X2_takesNumber_L16 d_te_sz d_te_e_f n ((k + 1)) ((v1 * 10) + x26.2.2) x26.2.1 x26.2.2))))) := rfl
def f_X2_takesNumber (d_pl : Int32) (d_nu : Int32) (d_te_sz : Int32) (d_te_e_f : Nat → Int32) : Int32 × Int32 × Int32 := (bnd (f_X2_takesDigit d_pl d_nu d_te_sz d_te_e_f) (fun x1 : Int32 × Int32 × Int32 => if x1.1 = (0 : Int32) then (0, x1.2.1, x1.2.2) else (f_X2_takesNumber_L16 d_te_sz d_te_e_f (4 + 1) 1 x1.2.2 x1.2.1 x1.2.2)))
set_option maxHeartbeats 400000 in
set_option maxRecDepth 100000 in
theorem c_X2_takesNumber (l : Launch) (D : va_G) (cI cP cS cL : ClassId) (L : List Nat) (F : Nat → va_E) (d : Nat) (d_te : Nat) (d_pl : Int32) (d_le : Int32) (d_fi : Int32) (d_se : Int32) (d_th : Int32) (d_nu : Int32) (d_te_e : Nat) (d_te_so : Int32) (d_te_sz : Int32) (d_te_e_n : Nat) (d_te_e_f : Nat → Int32) (h_d : wi L F d (eD d_te d_pl d_le d_fi d_se d_th d_nu)) (h_d_te : wi L F d_te (eR d_te_e d_te_so d_te_sz)) (h_d_te_e : wi L F d_te_e (eI cI d_te_e_n d_te_e_f)) (hz : d_te_sz.toInt ≤ d_te_e_n) : wMj l D cI cP cS cL yX2_takesNumber wsX2_takesNumber ({ frames := 2, cells := 0, slots := 0, locals := 42 } : Room) [.ref d] L F (fun r1 F1 => ∃ y9 : Int32 × Int32 × Int32, y9 = (f_X2_takesNumber d_pl d_nu d_te_sz d_te_e_f) ∧ r1 = y9.1 ∧ F1 d = (eD d_te y9.2.1 d_le d_fi d_se d_th y9.2.2) ∧ wk (fun q : Nat => q ≠ d ∧ True) F1 F) := by
  refine wM.of (cc := cX2_takesNumber) (maxL := 3) (ret := (some .boolean)) (by decide) rfl (Nat.le_of_ble_eq_true rfl) ?_
  intro pZ eZ sZ mZ below meth cZ A ls C hl w
  obtain ⟨hx, hb, hr, hml, hts, hown, hlocks, hK, hA, hin⟩ := C
  have hown : sZ.vm.findClass RX2 = some mZ.cls := hown
  have hl : lv_has ls 3 [(0, .ref d)] := hl
  have m_0 : ((.fieldLink RX2 51 "TwoThirds$Reader" "number" "I") : Cond) ∈ wsX2_takesNumber := by decide +kernel
  have i_X2 : ∀ w ∈ wsX20, w ∈ wsX2_takesNumber := by decide +kernel
  have hk : wk (fun q : Nat => q ≠ d ∧ True) F F := wk.rf
  have hq : f_X2_takesNumber d_pl d_nu d_te_sz d_te_e_f = f_X2_takesNumber d_pl d_nu d_te_sz d_te_e_f := rfl
  refine lv_aload_n hx hb dX2_takesNumber_0 rfl (lv_at hl 0 rfl) ?_
  refine w_finj (w_runV (rm := ({ frames := 1, cells := 0, slots := 0, locals := 21 } : Room)) (As := []) (rest := []) (n := 0) hx hb hml hts hown hK w (c_X2_takesDigit l D cI cP cS cL L _ d d_te d_pl d_le d_fi d_se d_th d_nu d_te_e d_te_so d_te_sz d_te_e_n d_te_e_f h_d h_d_te h_d_te_e hz) gX2_takesNumber_X2_takesDigit rfl rfl rfl (by decide +kernel) ⟨(Nat.le_of_ble_eq_true rfl), (Nat.le_of_ble_eq_true rfl)⟩ h_d rfl rfl hl.1 rfl (Nat.le_of_ble_eq_true rfl) dX2_takesNumber_1 ⟨(Nat.le_of_ble_eq_true rfl), (Nat.le_of_ble_eq_true rfl)⟩) w hA (fun r9 F1 H locs hp w => ?_)
  obtain ⟨x1, hx1, hr9, hw0, hk9⟩ := hp
  subst hr9
  have hq := hq.trans (w_bnd hx1)
  have h_d_te := h_d_te.keep hk9 ⟨(wi.ne h_d_te h_d (by intro h; cases h)), trivial⟩
  have h_d_te_e := h_d_te_e.keep hk9 ⟨(wi.ne h_d_te_e h_d (by intro h; cases h)), trivial⟩
  have h_d := h_d.new hw0
  have hk := hk.call hk9 (fun q h => ⟨h.1, trivial⟩)
  refine lv_if_ne (tgt := 9) hx hb dX2_takesNumber_4 (by decide) (fun c1 => ?_) (fun c1 => ?_)
  · skip
    have hq := hq.trans (if_neg c1)
    refine lv_aload_n hx hb dX2_takesNumber_9 rfl (lv_at hl 0 rfl) ?_
    refine w_get (v := .int x1.2.2) hx hb hts i_X2 hown hK w h_d rfl 6 (by decide) (hts _ m_0) rfl dX2_takesNumber_10 ?_
    refine lv_istore_n (lv' := [(1, .int x1.2.2), (0, .ref d)]) hx hb dX2_takesNumber_13 rfl hl (by decide) rfl (fun ls hl => ?_)
    refine lv_iconst (v := 1) hx hb dX2_takesNumber_14 (by decide) ?_
    refine lv_istore_n (lv' := [(2, .int 1), (1, .int x1.2.2), (0, .ref d)]) hx hb dX2_takesNumber_15 rfl hl (by decide) rfl (fun ls hl => ?_)
    have hL16 : ∀ (n k : Nat) (v1 : Int32) (u_d_pl : Int32) (u_d_nu : Int32) (F1 : Nat → va_E) (H : Heap) (locs : List Loc) (ls : Array Slot), k ≤ 4 → 4 - k < n → f_X2_takesNumber d_pl d_nu d_te_sz d_te_e_f = f_X2_takesNumber_L16 d_te_sz d_te_e_f n k v1 u_d_pl u_d_nu → lv_has ls 3 [(0, .ref d), (1, .int v1), (2, .int (nI k))] → ww D A sZ.heap L F1 H locs → (wi L F1 d (eD d_te u_d_pl d_le d_fi d_se d_th u_d_nu)) → (wi L F1 d_te (eR d_te_e d_te_so d_te_sz)) → (wi L F1 d_te_e (eI cI d_te_e_n d_te_e_f)) → wk (fun q : Nat => q ≠ d ∧ True) F1 F → W pZ l eZ ({ frames := 2, cells := 0, slots := 0, locals := 42 } : Room) sZ mZ [.ref d].toArray below meth cZ H locs 0 0 (MQ below (wQi D A (fun r1 L1 F1 => L1 = L ∧ ∃ y9 : Int32 × Int32 × Int32, y9 = (f_X2_takesNumber d_pl d_nu d_te_sz d_te_e_f) ∧ r1 = y9.1 ∧ F1 d = (eD d_te y9.2.1 d_le d_fi d_se d_th y9.2.2) ∧ wk (fun q : Nat => q ≠ d ∧ True) F1 F)) [.ref d].toArray sZ 0 0 A) (F0 mZ 16 ls []) := by
      intro n; induction n with
      | zero => intro k v1 u_d_pl u_d_nu F1 H locs ls hkT hmeas; exact absurd hmeas (Nat.not_lt_zero _)
      | succ n ih =>
        intro k v1 u_d_pl u_d_nu F1 H locs ls hkT hmeas hq hl w h_d h_d_te h_d_te_e hk
        have hk31 : k < 2147483648 := by omega
        have hq := hq.trans (f_X2_takesNumber_L16_s d_te_sz d_te_e_f n k v1 u_d_pl u_d_nu)
        refine lv_iload_n hx hb dX2_takesNumber_16 rfl (lv_at hl 2 rfl) ?_
        refine lv_iconst (v := 4) hx hb dX2_takesNumber_17 (by decide) ?_
        refine lv_icmp_ge (tgt := 48) hx hb dX2_takesNumber_18 (by decide) (fun c2 => ?_) (fun c2 => ?_)
        · skip
          have hq := hq.trans (if_pos c2)
          refine lv_aload_n hx hb dX2_takesNumber_48 rfl (lv_at hl 0 rfl) ?_
          refine lv_iload_n hx hb dX2_takesNumber_49 rfl (lv_at hl 1 rfl) ?_
          have ho3 := h_d
          refine w_put (fs2 := [.ref d_te, .int u_d_pl, .int d_le, .int d_fi, .int d_se, .int d_th, .int v1]) hx hb hts i_X2 tyX2 tyX2_ok nmX2 hown hK w h_d rfl 6 (by decide) (hts _ m_0) rfl rfl rfl (Nat.le_of_ble_eq_true rfl) rfl dX2_takesNumber_50 (fun H locs w h_d => ?_)
          have h_d_te := h_d_te.upw h_d (wi.ne h_d_te ho3 (by intro h; cases h))
          have h_d_te_e := h_d_te_e.upw h_d (wi.ne h_d_te_e ho3 (by intro h; cases h))
          have hk := hk.upw h_d (fun q h => h.1)
          refine lv_iconst (v := 1) hx hb dX2_takesNumber_53 (by decide) ?_
          exact w_zret hx hb hr hlocks w rfl ⟨rfl, _, hq.symm, rfl, h_d.2, hk⟩ (Nat.le_refl _) (Nat.le_refl _) dX2_takesNumber_54
        · skip
          have hq := hq.trans (if_neg c2)
          have hlt18 : k < 4 := w_ltk hk31 c2
          refine lv_iload_n hx hb dX2_takesNumber_21 rfl (lv_at hl 1 rfl) ?_
          refine lv_if_eq (tgt := 48) hx hb dX2_takesNumber_22 (by decide) (fun c4 => ?_) (fun c4 => ?_)
          · skip
            have hq := hq.trans (if_pos c4)
            refine lv_aload_n hx hb dX2_takesNumber_48 rfl (lv_at hl 0 rfl) ?_
            refine lv_iload_n hx hb dX2_takesNumber_49 rfl (lv_at hl 1 rfl) ?_
            have ho5 := h_d
            refine w_put (fs2 := [.ref d_te, .int u_d_pl, .int d_le, .int d_fi, .int d_se, .int d_th, .int v1]) hx hb hts i_X2 tyX2 tyX2_ok nmX2 hown hK w h_d rfl 6 (by decide) (hts _ m_0) rfl rfl rfl (Nat.le_of_ble_eq_true rfl) rfl dX2_takesNumber_50 (fun H locs w h_d => ?_)
            have h_d_te := h_d_te.upw h_d (wi.ne h_d_te ho5 (by intro h; cases h))
            have h_d_te_e := h_d_te_e.upw h_d (wi.ne h_d_te_e ho5 (by intro h; cases h))
            have hk := hk.upw h_d (fun q h => h.1)
            refine lv_iconst (v := 1) hx hb dX2_takesNumber_53 (by decide) ?_
            exact w_zret hx hb hr hlocks w rfl ⟨rfl, _, hq.symm, rfl, h_d.2, hk⟩ (Nat.le_refl _) (Nat.le_refl _) dX2_takesNumber_54
          · skip
            have hq := hq.trans (if_neg c4)
            refine lv_aload_n hx hb dX2_takesNumber_25 rfl (lv_at hl 0 rfl) ?_
            refine w_finj (w_runV (rm := ({ frames := 1, cells := 0, slots := 0, locals := 21 } : Room)) (As := []) (rest := []) (n := 0) hx hb hml hts hown hK w (c_X2_takesDigit l D cI cP cS cL L _ d d_te u_d_pl d_le d_fi d_se d_th u_d_nu d_te_e d_te_so d_te_sz d_te_e_n d_te_e_f h_d h_d_te h_d_te_e hz) gX2_takesNumber_X2_takesDigit rfl rfl rfl (by decide +kernel) ⟨(Nat.le_of_ble_eq_true rfl), (Nat.le_of_ble_eq_true rfl)⟩ h_d rfl rfl hl.1 rfl (Nat.le_of_ble_eq_true rfl) dX2_takesNumber_26 ⟨(Nat.le_of_ble_eq_true rfl), (Nat.le_of_ble_eq_true rfl)⟩) w hA (fun r9 F1 H locs hp w => ?_)
            obtain ⟨x26, hx26, hr9, hw0, hk9⟩ := hp
            subst hr9
            have hq := hq.trans (w_bnd hx26)
            have h_d_te := h_d_te.keep hk9 ⟨(wi.ne h_d_te h_d (by intro h; cases h)), trivial⟩
            have h_d_te_e := h_d_te_e.keep hk9 ⟨(wi.ne h_d_te_e h_d (by intro h; cases h)), trivial⟩
            have h_d := h_d.new hw0
            have hk := hk.call hk9 (fun q h => ⟨h.1, trivial⟩)
            refine lv_if_eq (tgt := 48) hx hb dX2_takesNumber_29 (by decide) (fun c6 => ?_) (fun c6 => ?_)
            · skip
              have hq := hq.trans (if_pos c6)
              refine lv_aload_n hx hb dX2_takesNumber_48 rfl (lv_at hl 0 rfl) ?_
              refine lv_iload_n hx hb dX2_takesNumber_49 rfl (lv_at hl 1 rfl) ?_
              have ho7 := h_d
              refine w_put (fs2 := [.ref d_te, .int x26.2.1, .int d_le, .int d_fi, .int d_se, .int d_th, .int v1]) hx hb hts i_X2 tyX2 tyX2_ok nmX2 hown hK w h_d rfl 6 (by decide) (hts _ m_0) rfl rfl rfl (Nat.le_of_ble_eq_true rfl) rfl dX2_takesNumber_50 (fun H locs w h_d => ?_)
              have h_d_te := h_d_te.upw h_d (wi.ne h_d_te ho7 (by intro h; cases h))
              have h_d_te_e := h_d_te_e.upw h_d (wi.ne h_d_te_e ho7 (by intro h; cases h))
              have hk := hk.upw h_d (fun q h => h.1)
              refine lv_iconst (v := 1) hx hb dX2_takesNumber_53 (by decide) ?_
              exact w_zret hx hb hr hlocks w rfl ⟨rfl, _, hq.symm, rfl, h_d.2, hk⟩ (Nat.le_refl _) (Nat.le_refl _) dX2_takesNumber_54
            · skip
              have hq := hq.trans (if_neg c6)
              refine lv_iload_n hx hb dX2_takesNumber_32 rfl (lv_at hl 1 rfl) ?_
              refine lv_bipush (v := 10) hx hb dX2_takesNumber_33 (by decide) ?_
              refine lv_imul hx hb dX2_takesNumber_35 ?_
              refine lv_aload_n hx hb dX2_takesNumber_36 rfl (lv_at hl 0 rfl) ?_
              refine w_get (v := .int x26.2.2) hx hb hts i_X2 hown hK w h_d rfl 6 (by decide) (hts _ m_0) rfl dX2_takesNumber_37 ?_
              refine lv_iadd hx hb dX2_takesNumber_40 ?_
              refine lv_istore_n (lv' := [(1, .int ((v1 * 10) + x26.2.2)), (0, .ref d), (2, .int (nI k))]) hx hb dX2_takesNumber_41 rfl hl (by decide) rfl (fun ls hl => ?_)
              refine lv_iinc (v := (nI (k + 1))) (lv' := [(2, .int (nI (k + 1))), (1, .int ((v1 * 10) + x26.2.2)), (0, .ref d)]) hx hb dX2_takesNumber_42 hl (k := 2) rfl (w_inc _) (by decide) rfl (fun ls hl => ?_)
              refine lv_goto (tgt := 16) hx hb dX2_takesNumber_45 (by decide) ?_
              exact ih ((k + 1)) ((v1 * 10) + x26.2.2) x26.2.1 x26.2.2 _ _ _ _ (by omega) (by omega) hq (lv_sub hl [2, 1, 0] rfl) w h_d h_d_te h_d_te_e hk
    exact hL16 (4 + 1) 1 x1.2.2 x1.2.1 x1.2.2 _ _ _ _ (by omega) (by omega) hq (lv_sub hl [2, 1, 0] rfl) w h_d h_d_te h_d_te_e hk
  · skip
    have hq := hq.trans (if_pos c1)
    refine lv_iconst (v := 0) hx hb dX2_takesNumber_7 (by decide) ?_
    exact w_zret hx hb hr hlocks w rfl ⟨rfl, _, hq.symm, rfl, h_d.2, hk⟩ (Nat.le_refl _) (Nat.le_refl _) dX2_takesNumber_8
def f_X2_readHigh (d_pl : Int32) (d_fi : Int32) (d_nu : Int32) (d_te_sz : Int32) (d_te_e_f : Nat → Int32) : Int32 × Int32 × Int32 × Int32 := (bnd (f_X2_takesNumber d_pl d_nu d_te_sz d_te_e_f) (fun x1 : Int32 × Int32 × Int32 => if x1.1 = (0 : Int32) then (0, x1.2.1, d_fi, x1.2.2) else (1, x1.2.1, x1.2.2, x1.2.2)))
theorem z_X2_readHigh (d_pl : Int32) (d_fi : Int32) (d_nu : Int32) (d_te_sz : Int32) (d_te_e_f : Nat → Int32) : (f_X2_readHigh d_pl d_fi d_nu d_te_sz d_te_e_f).1 = 0 ∨ (f_X2_readHigh d_pl d_fi d_nu d_te_sz d_te_e_f).1 = 1 := by
  unfold f_X2_readHigh
  try simp only [bnd]
  repeat' split
  all_goals first | exact Or.inl rfl | exact Or.inr rfl
set_option maxHeartbeats 400000 in
set_option maxRecDepth 100000 in
theorem c_X2_readHigh (l : Launch) (D : va_G) (cI cP cS cL : ClassId) (L : List Nat) (F : Nat → va_E) (d : Nat) (d_te : Nat) (d_pl : Int32) (d_le : Int32) (d_fi : Int32) (d_se : Int32) (d_th : Int32) (d_nu : Int32) (d_te_e : Nat) (d_te_so : Int32) (d_te_sz : Int32) (d_te_e_n : Nat) (d_te_e_f : Nat → Int32) (h_d : wi L F d (eD d_te d_pl d_le d_fi d_se d_th d_nu)) (h_d_te : wi L F d_te (eR d_te_e d_te_so d_te_sz)) (h_d_te_e : wi L F d_te_e (eI cI d_te_e_n d_te_e_f)) (hz : d_te_sz.toInt ≤ d_te_e_n) : wMj l D cI cP cS cL yX2_readHigh wsX2_readHigh ({ frames := 3, cells := 0, slots := 0, locals := 64 } : Room) [.ref d] L F (fun r1 F1 => ∃ y9 : Int32 × Int32 × Int32 × Int32, y9 = (f_X2_readHigh d_pl d_fi d_nu d_te_sz d_te_e_f) ∧ r1 = y9.1 ∧ F1 d = (eD d_te y9.2.1 d_le y9.2.2.1 d_se d_th y9.2.2.2) ∧ wk (fun q : Nat => q ≠ d ∧ True) F1 F) := by
  refine wM.of (cc := cX2_readHigh) (maxL := 1) (ret := (some .boolean)) (by decide) rfl (Nat.le_of_ble_eq_true rfl) ?_
  intro pZ eZ sZ mZ below meth cZ A ls C hl w
  obtain ⟨hx, hb, hr, hml, hts, hown, hlocks, hK, hA, hin⟩ := C
  have hown : sZ.vm.findClass RX2 = some mZ.cls := hown
  have hl : lv_has ls 1 [(0, .ref d)] := hl
  have m_0 : ((.fieldLink RX2 51 "TwoThirds$Reader" "number" "I") : Cond) ∈ wsX2_readHigh := by decide +kernel
  have i_X2 : ∀ w ∈ wsX20, w ∈ wsX2_readHigh := by decide +kernel
  have m_2 : ((.fieldLink RX2 54 "TwoThirds$Reader" "first" "I") : Cond) ∈ wsX2_readHigh := by decide +kernel
  have hk : wk (fun q : Nat => q ≠ d ∧ True) F F := wk.rf
  have hq : f_X2_readHigh d_pl d_fi d_nu d_te_sz d_te_e_f = f_X2_readHigh d_pl d_fi d_nu d_te_sz d_te_e_f := rfl
  refine lv_aload_n hx hb dX2_readHigh_0 rfl (lv_at hl 0 rfl) ?_
  refine w_finj (w_runV (rm := ({ frames := 2, cells := 0, slots := 0, locals := 42 } : Room)) (As := []) (rest := []) (n := 0) hx hb hml hts hown hK w (c_X2_takesNumber l D cI cP cS cL L _ d d_te d_pl d_le d_fi d_se d_th d_nu d_te_e d_te_so d_te_sz d_te_e_n d_te_e_f h_d h_d_te h_d_te_e hz) gX2_readHigh_X2_takesNumber rfl rfl rfl (by decide +kernel) ⟨(Nat.le_of_ble_eq_true rfl), (Nat.le_of_ble_eq_true rfl)⟩ h_d rfl rfl hl.1 rfl (Nat.le_of_ble_eq_true rfl) dX2_readHigh_1 ⟨(Nat.le_of_ble_eq_true rfl), (Nat.le_of_ble_eq_true rfl)⟩) w hA (fun r9 F1 H locs hp w => ?_)
  obtain ⟨x1, hx1, hr9, hw0, hk9⟩ := hp
  subst hr9
  have hq := hq.trans (w_bnd hx1)
  have h_d_te := h_d_te.keep hk9 ⟨(wi.ne h_d_te h_d (by intro h; cases h)), trivial⟩
  have h_d_te_e := h_d_te_e.keep hk9 ⟨(wi.ne h_d_te_e h_d (by intro h; cases h)), trivial⟩
  have h_d := h_d.new hw0
  have hk := hk.call hk9 (fun q h => ⟨h.1, trivial⟩)
  refine lv_if_ne (tgt := 9) hx hb dX2_readHigh_4 (by decide) (fun c1 => ?_) (fun c1 => ?_)
  · skip
    have hq := hq.trans (if_neg c1)
    refine lv_aload_n hx hb dX2_readHigh_9 rfl (lv_at hl 0 rfl) ?_
    refine lv_aload_n hx hb dX2_readHigh_10 rfl (lv_at hl 0 rfl) ?_
    refine w_get (v := .int x1.2.2) hx hb hts i_X2 hown hK w h_d rfl 6 (by decide) (hts _ m_0) rfl dX2_readHigh_11 ?_
    have ho2 := h_d
    refine w_put (fs2 := [.ref d_te, .int x1.2.1, .int d_le, .int x1.2.2, .int d_se, .int d_th, .int x1.2.2]) hx hb hts i_X2 tyX2 tyX2_ok nmX2 hown hK w h_d rfl 3 (by decide) (hts _ m_2) rfl rfl rfl (Nat.le_of_ble_eq_true rfl) rfl dX2_readHigh_14 (fun H locs w h_d => ?_)
    have h_d_te := h_d_te.upw h_d (wi.ne h_d_te ho2 (by intro h; cases h))
    have h_d_te_e := h_d_te_e.upw h_d (wi.ne h_d_te_e ho2 (by intro h; cases h))
    have hk := hk.upw h_d (fun q h => h.1)
    refine lv_iconst (v := 1) hx hb dX2_readHigh_17 (by decide) ?_
    exact w_zret hx hb hr hlocks w rfl ⟨rfl, _, hq.symm, rfl, h_d.2, hk⟩ (Nat.le_refl _) (Nat.le_refl _) dX2_readHigh_18
  · skip
    have hq := hq.trans (if_pos c1)
    refine lv_iconst (v := 0) hx hb dX2_readHigh_7 (by decide) ?_
    exact w_zret hx hb hr hlocks w rfl ⟨rfl, _, hq.symm, rfl, h_d.2, hk⟩ (Nat.le_refl _) (Nat.le_refl _) dX2_readHigh_8
def f_X2_readShare (d_pl : Int32) (d_fi : Int32) (d_se : Int32) (d_nu : Int32) (d_te_sz : Int32) (d_te_e_f : Nat → Int32) : Int32 × Int32 × Int32 × Int32 × Int32 := (bnd (f_X2_takesNumber d_pl d_nu d_te_sz d_te_e_f) (fun x1 : Int32 × Int32 × Int32 => if x1.1 = (0 : Int32) then (0, x1.2.1, d_fi, d_se, x1.2.2) else (bnd (f_X2_takes 47 x1.2.1 d_te_sz d_te_e_f) (fun x20 : Int32 × Int32 => if x20.1 = (0 : Int32) then (0, x20.2, x1.2.2, d_se, x1.2.2) else (bnd (f_X2_takesNumber x20.2 x1.2.2 d_te_sz d_te_e_f) (fun x27 : Int32 × Int32 × Int32 => if x27.1 = (0 : Int32) then (0, x27.2.1, x1.2.2, d_se, x27.2.2) else (1, x27.2.1, x1.2.2, x27.2.2, x27.2.2)))))))
theorem z_X2_readShare (d_pl : Int32) (d_fi : Int32) (d_se : Int32) (d_nu : Int32) (d_te_sz : Int32) (d_te_e_f : Nat → Int32) : (f_X2_readShare d_pl d_fi d_se d_nu d_te_sz d_te_e_f).1 = 0 ∨ (f_X2_readShare d_pl d_fi d_se d_nu d_te_sz d_te_e_f).1 = 1 := by
  unfold f_X2_readShare
  try simp only [bnd]
  repeat' split
  all_goals first | exact Or.inl rfl | exact Or.inr rfl | exact z_X2_takes _ _ _ _
set_option maxHeartbeats 400000 in
set_option maxRecDepth 100000 in
theorem c_X2_readShare (l : Launch) (D : va_G) (cI cP cS cL : ClassId) (L : List Nat) (F : Nat → va_E) (d : Nat) (d_te : Nat) (d_pl : Int32) (d_le : Int32) (d_fi : Int32) (d_se : Int32) (d_th : Int32) (d_nu : Int32) (d_te_e : Nat) (d_te_so : Int32) (d_te_sz : Int32) (d_te_e_n : Nat) (d_te_e_f : Nat → Int32) (h_d : wi L F d (eD d_te d_pl d_le d_fi d_se d_th d_nu)) (h_d_te : wi L F d_te (eR d_te_e d_te_so d_te_sz)) (h_d_te_e : wi L F d_te_e (eI cI d_te_e_n d_te_e_f)) (hz : d_te_sz.toInt ≤ d_te_e_n) : wMj l D cI cP cS cL yX2_readShare wsX2_readShare ({ frames := 3, cells := 0, slots := 0, locals := 64 } : Room) [.ref d] L F (fun r1 F1 => ∃ y9 : Int32 × Int32 × Int32 × Int32 × Int32, y9 = (f_X2_readShare d_pl d_fi d_se d_nu d_te_sz d_te_e_f) ∧ r1 = y9.1 ∧ F1 d = (eD d_te y9.2.1 d_le y9.2.2.1 y9.2.2.2.1 d_th y9.2.2.2.2) ∧ wk (fun q : Nat => q ≠ d ∧ True) F1 F) := by
  refine wM.of (cc := cX2_readShare) (maxL := 1) (ret := (some .boolean)) (by decide) rfl (Nat.le_of_ble_eq_true rfl) ?_
  intro pZ eZ sZ mZ below meth cZ A ls C hl w
  obtain ⟨hx, hb, hr, hml, hts, hown, hlocks, hK, hA, hin⟩ := C
  have hown : sZ.vm.findClass RX2 = some mZ.cls := hown
  have hl : lv_has ls 1 [(0, .ref d)] := hl
  have m_0 : ((.fieldLink RX2 51 "TwoThirds$Reader" "number" "I") : Cond) ∈ wsX2_readShare := by decide +kernel
  have i_X2 : ∀ w ∈ wsX20, w ∈ wsX2_readShare := by decide +kernel
  have m_2 : ((.fieldLink RX2 54 "TwoThirds$Reader" "first" "I") : Cond) ∈ wsX2_readShare := by decide +kernel
  have m_3 : ((.fieldLink RX2 57 "TwoThirds$Reader" "second" "I") : Cond) ∈ wsX2_readShare := by decide +kernel
  have hk : wk (fun q : Nat => q ≠ d ∧ True) F F := wk.rf
  have hq : f_X2_readShare d_pl d_fi d_se d_nu d_te_sz d_te_e_f = f_X2_readShare d_pl d_fi d_se d_nu d_te_sz d_te_e_f := rfl
  refine lv_aload_n hx hb dX2_readShare_0 rfl (lv_at hl 0 rfl) ?_
  refine w_finj (w_runV (rm := ({ frames := 2, cells := 0, slots := 0, locals := 42 } : Room)) (As := []) (rest := []) (n := 0) hx hb hml hts hown hK w (c_X2_takesNumber l D cI cP cS cL L _ d d_te d_pl d_le d_fi d_se d_th d_nu d_te_e d_te_so d_te_sz d_te_e_n d_te_e_f h_d h_d_te h_d_te_e hz) gX2_readShare_X2_takesNumber rfl rfl rfl (by decide +kernel) ⟨(Nat.le_of_ble_eq_true rfl), (Nat.le_of_ble_eq_true rfl)⟩ h_d rfl rfl hl.1 rfl (Nat.le_of_ble_eq_true rfl) dX2_readShare_1 ⟨(Nat.le_of_ble_eq_true rfl), (Nat.le_of_ble_eq_true rfl)⟩) w hA (fun r9 F1 H locs hp w => ?_)
  obtain ⟨x1, hx1, hr9, hw0, hk9⟩ := hp
  subst hr9
  have hq := hq.trans (w_bnd hx1)
  have h_d_te := h_d_te.keep hk9 ⟨(wi.ne h_d_te h_d (by intro h; cases h)), trivial⟩
  have h_d_te_e := h_d_te_e.keep hk9 ⟨(wi.ne h_d_te_e h_d (by intro h; cases h)), trivial⟩
  have h_d := h_d.new hw0
  have hk := hk.call hk9 (fun q h => ⟨h.1, trivial⟩)
  refine lv_if_ne (tgt := 9) hx hb dX2_readShare_4 (by decide) (fun c1 => ?_) (fun c1 => ?_)
  · skip
    have hq := hq.trans (if_neg c1)
    refine lv_aload_n hx hb dX2_readShare_9 rfl (lv_at hl 0 rfl) ?_
    refine lv_aload_n hx hb dX2_readShare_10 rfl (lv_at hl 0 rfl) ?_
    refine w_get (v := .int x1.2.2) hx hb hts i_X2 hown hK w h_d rfl 6 (by decide) (hts _ m_0) rfl dX2_readShare_11 ?_
    have ho2 := h_d
    refine w_put (fs2 := [.ref d_te, .int x1.2.1, .int d_le, .int x1.2.2, .int d_se, .int d_th, .int x1.2.2]) hx hb hts i_X2 tyX2 tyX2_ok nmX2 hown hK w h_d rfl 3 (by decide) (hts _ m_2) rfl rfl rfl (Nat.le_of_ble_eq_true rfl) rfl dX2_readShare_14 (fun H locs w h_d => ?_)
    have h_d_te := h_d_te.upw h_d (wi.ne h_d_te ho2 (by intro h; cases h))
    have h_d_te_e := h_d_te_e.upw h_d (wi.ne h_d_te_e ho2 (by intro h; cases h))
    have hk := hk.upw h_d (fun q h => h.1)
    refine lv_aload_n hx hb dX2_readShare_17 rfl (lv_at hl 0 rfl) ?_
    refine lv_bipush (v := 47) hx hb dX2_readShare_18 (by decide) ?_
    refine w_finj (w_runV (rm := ({ frames := 1, cells := 0, slots := 0, locals := 21 } : Room)) (As := [.int 47]) (rest := []) (n := 1) hx hb hml hts hown hK w (c_X2_takes l D cI cP cS cL L _ d 47 d_te x1.2.1 d_le x1.2.2 d_se d_th x1.2.2 d_te_e d_te_so d_te_sz d_te_e_n d_te_e_f h_d h_d_te h_d_te_e hz) gX2_readShare_X2_takes rfl rfl rfl (by decide +kernel) ⟨(Nat.le_of_ble_eq_true rfl), (Nat.le_of_ble_eq_true rfl)⟩ h_d rfl rfl hl.1 rfl (Nat.le_of_ble_eq_true rfl) dX2_readShare_20 ⟨(Nat.le_of_ble_eq_true rfl), (Nat.le_of_ble_eq_true rfl)⟩) w hA (fun r9 F1 H locs hp w => ?_)
    obtain ⟨x20, hx20, hr9, hw0, hk9⟩ := hp
    subst hr9
    have hq := hq.trans (w_bnd hx20)
    have h_d_te := h_d_te.keep hk9 ⟨(wi.ne h_d_te h_d (by intro h; cases h)), trivial⟩
    have h_d_te_e := h_d_te_e.keep hk9 ⟨(wi.ne h_d_te_e h_d (by intro h; cases h)), trivial⟩
    have h_d := h_d.new hw0
    have hk := hk.call hk9 (fun q h => ⟨h.1, trivial⟩)
    refine lv_if_eq (tgt := 33) hx hb dX2_readShare_23 (by decide) (fun c3 => ?_) (fun c3 => ?_)
    · skip
      have hq := hq.trans (if_pos c3)
      refine lv_iconst (v := 0) hx hb dX2_readShare_33 (by decide) ?_
      exact w_zret hx hb hr hlocks w rfl ⟨rfl, _, hq.symm, rfl, h_d.2, hk⟩ (Nat.le_refl _) (Nat.le_refl _) dX2_readShare_34
    · skip
      have hq := hq.trans (if_neg c3)
      refine lv_aload_n hx hb dX2_readShare_26 rfl (lv_at hl 0 rfl) ?_
      refine w_finj (w_runV (rm := ({ frames := 2, cells := 0, slots := 0, locals := 42 } : Room)) (As := []) (rest := []) (n := 0) hx hb hml hts hown hK w (c_X2_takesNumber l D cI cP cS cL L _ d d_te x20.2 d_le x1.2.2 d_se d_th x1.2.2 d_te_e d_te_so d_te_sz d_te_e_n d_te_e_f h_d h_d_te h_d_te_e hz) gX2_readShare_X2_takesNumber rfl rfl rfl (by decide +kernel) ⟨(Nat.le_of_ble_eq_true rfl), (Nat.le_of_ble_eq_true rfl)⟩ h_d rfl rfl hl.1 rfl (Nat.le_of_ble_eq_true rfl) dX2_readShare_27 ⟨(Nat.le_of_ble_eq_true rfl), (Nat.le_of_ble_eq_true rfl)⟩) w hA (fun r9 F1 H locs hp w => ?_)
      obtain ⟨x27, hx27, hr9, hw0, hk9⟩ := hp
      subst hr9
      have hq := hq.trans (w_bnd hx27)
      have h_d_te := h_d_te.keep hk9 ⟨(wi.ne h_d_te h_d (by intro h; cases h)), trivial⟩
      have h_d_te_e := h_d_te_e.keep hk9 ⟨(wi.ne h_d_te_e h_d (by intro h; cases h)), trivial⟩
      have h_d := h_d.new hw0
      have hk := hk.call hk9 (fun q h => ⟨h.1, trivial⟩)
      refine lv_if_ne (tgt := 35) hx hb dX2_readShare_30 (by decide) (fun c4 => ?_) (fun c4 => ?_)
      · skip
        have hq := hq.trans (if_neg c4)
        refine lv_aload_n hx hb dX2_readShare_35 rfl (lv_at hl 0 rfl) ?_
        refine lv_aload_n hx hb dX2_readShare_36 rfl (lv_at hl 0 rfl) ?_
        refine w_get (v := .int x27.2.2) hx hb hts i_X2 hown hK w h_d rfl 6 (by decide) (hts _ m_0) rfl dX2_readShare_37 ?_
        have ho5 := h_d
        refine w_put (fs2 := [.ref d_te, .int x27.2.1, .int d_le, .int x1.2.2, .int x27.2.2, .int d_th, .int x27.2.2]) hx hb hts i_X2 tyX2 tyX2_ok nmX2 hown hK w h_d rfl 4 (by decide) (hts _ m_3) rfl rfl rfl (Nat.le_of_ble_eq_true rfl) rfl dX2_readShare_40 (fun H locs w h_d => ?_)
        have h_d_te := h_d_te.upw h_d (wi.ne h_d_te ho5 (by intro h; cases h))
        have h_d_te_e := h_d_te_e.upw h_d (wi.ne h_d_te_e ho5 (by intro h; cases h))
        have hk := hk.upw h_d (fun q h => h.1)
        refine lv_iconst (v := 1) hx hb dX2_readShare_43 (by decide) ?_
        exact w_zret hx hb hr hlocks w rfl ⟨rfl, _, hq.symm, rfl, h_d.2, hk⟩ (Nat.le_refl _) (Nat.le_refl _) dX2_readShare_44
      · skip
        have hq := hq.trans (if_pos c4)
        refine lv_iconst (v := 0) hx hb dX2_readShare_33 (by decide) ?_
        exact w_zret hx hb hr hlocks w rfl ⟨rfl, _, hq.symm, rfl, h_d.2, hk⟩ (Nat.le_refl _) (Nat.le_refl _) dX2_readShare_34
  · skip
    have hq := hq.trans (if_pos c1)
    refine lv_iconst (v := 0) hx hb dX2_readShare_7 (by decide) ?_
    exact w_zret hx hb hr hlocks w rfl ⟨rfl, _, hq.symm, rfl, h_d.2, hk⟩ (Nat.le_refl _) (Nat.le_refl _) dX2_readShare_8
def f_X2_readPerson (d_pl : Int32) (d_fi : Int32) (d_se : Int32) (d_th : Int32) (d_nu : Int32) (d_te_sz : Int32) (d_te_e_f : Nat → Int32) : Int32 × Int32 × Int32 × Int32 × Int32 × Int32 := (bnd (f_X2_takesDigit d_pl d_nu d_te_sz d_te_e_f) (fun x1 : Int32 × Int32 × Int32 => if x1.1 = (0 : Int32) then (0, x1.2.1, d_fi, d_se, d_th, x1.2.2) else (bnd (f_X2_takes 32 x1.2.1 d_te_sz d_te_e_f) (fun x20 : Int32 × Int32 => if x20.1 = (0 : Int32) then (0, x20.2, x1.2.2, d_se, d_th, x1.2.2) else (bnd (f_X2_takesDigit x20.2 x1.2.2 d_te_sz d_te_e_f) (fun x27 : Int32 × Int32 × Int32 => if x27.1 = (0 : Int32) then (0, x27.2.1, x1.2.2, d_se, d_th, x27.2.2) else (bnd (f_X2_takes 32 x27.2.1 d_te_sz d_te_e_f) (fun x46 : Int32 × Int32 => if x46.1 = (0 : Int32) then (0, x46.2, x1.2.2, x27.2.2, d_th, x27.2.2) else (bnd (f_X2_takesNumber x46.2 x27.2.2 d_te_sz d_te_e_f) (fun x53 : Int32 × Int32 × Int32 => if x53.1 = (0 : Int32) then (0, x53.2.1, x1.2.2, x27.2.2, d_th, x53.2.2) else (1, x53.2.1, x1.2.2, x27.2.2, x53.2.2, x53.2.2)))))))))))
theorem z_X2_readPerson (d_pl : Int32) (d_fi : Int32) (d_se : Int32) (d_th : Int32) (d_nu : Int32) (d_te_sz : Int32) (d_te_e_f : Nat → Int32) : (f_X2_readPerson d_pl d_fi d_se d_th d_nu d_te_sz d_te_e_f).1 = 0 ∨ (f_X2_readPerson d_pl d_fi d_se d_th d_nu d_te_sz d_te_e_f).1 = 1 := by
  unfold f_X2_readPerson
  try simp only [bnd]
  repeat' split
  all_goals first | exact Or.inl rfl | exact Or.inr rfl | exact z_X2_takes _ _ _ _ | exact z_X2_takesDigit _ _ _ _
set_option maxHeartbeats 400000 in
set_option maxRecDepth 100000 in
theorem c_X2_readPerson (l : Launch) (D : va_G) (cI cP cS cL : ClassId) (L : List Nat) (F : Nat → va_E) (d : Nat) (d_te : Nat) (d_pl : Int32) (d_le : Int32) (d_fi : Int32) (d_se : Int32) (d_th : Int32) (d_nu : Int32) (d_te_e : Nat) (d_te_so : Int32) (d_te_sz : Int32) (d_te_e_n : Nat) (d_te_e_f : Nat → Int32) (h_d : wi L F d (eD d_te d_pl d_le d_fi d_se d_th d_nu)) (h_d_te : wi L F d_te (eR d_te_e d_te_so d_te_sz)) (h_d_te_e : wi L F d_te_e (eI cI d_te_e_n d_te_e_f)) (hz : d_te_sz.toInt ≤ d_te_e_n) : wMj l D cI cP cS cL yX2_readPerson wsX2_readPerson ({ frames := 3, cells := 0, slots := 0, locals := 64 } : Room) [.ref d] L F (fun r1 F1 => ∃ y9 : Int32 × Int32 × Int32 × Int32 × Int32 × Int32, y9 = (f_X2_readPerson d_pl d_fi d_se d_th d_nu d_te_sz d_te_e_f) ∧ r1 = y9.1 ∧ F1 d = (eD d_te y9.2.1 d_le y9.2.2.1 y9.2.2.2.1 y9.2.2.2.2.1 y9.2.2.2.2.2) ∧ wk (fun q : Nat => q ≠ d ∧ True) F1 F) := by
  refine wM.of (cc := cX2_readPerson) (maxL := 1) (ret := (some .boolean)) (by decide) rfl (Nat.le_of_ble_eq_true rfl) ?_
  intro pZ eZ sZ mZ below meth cZ A ls C hl w
  obtain ⟨hx, hb, hr, hml, hts, hown, hlocks, hK, hA, hin⟩ := C
  have hown : sZ.vm.findClass RX2 = some mZ.cls := hown
  have hl : lv_has ls 1 [(0, .ref d)] := hl
  have m_0 : ((.fieldLink RX2 51 "TwoThirds$Reader" "number" "I") : Cond) ∈ wsX2_readPerson := by decide +kernel
  have i_X2 : ∀ w ∈ wsX20, w ∈ wsX2_readPerson := by decide +kernel
  have m_2 : ((.fieldLink RX2 54 "TwoThirds$Reader" "first" "I") : Cond) ∈ wsX2_readPerson := by decide +kernel
  have m_3 : ((.fieldLink RX2 57 "TwoThirds$Reader" "second" "I") : Cond) ∈ wsX2_readPerson := by decide +kernel
  have m_4 : ((.fieldLink RX2 63 "TwoThirds$Reader" "third" "I") : Cond) ∈ wsX2_readPerson := by decide +kernel
  have hk : wk (fun q : Nat => q ≠ d ∧ True) F F := wk.rf
  have hq : f_X2_readPerson d_pl d_fi d_se d_th d_nu d_te_sz d_te_e_f = f_X2_readPerson d_pl d_fi d_se d_th d_nu d_te_sz d_te_e_f := rfl
  refine lv_aload_n hx hb dX2_readPerson_0 rfl (lv_at hl 0 rfl) ?_
  refine w_finj (w_runV (rm := ({ frames := 1, cells := 0, slots := 0, locals := 21 } : Room)) (As := []) (rest := []) (n := 0) hx hb hml hts hown hK w (c_X2_takesDigit l D cI cP cS cL L _ d d_te d_pl d_le d_fi d_se d_th d_nu d_te_e d_te_so d_te_sz d_te_e_n d_te_e_f h_d h_d_te h_d_te_e hz) gX2_readPerson_X2_takesDigit rfl rfl rfl (by decide +kernel) ⟨(Nat.le_of_ble_eq_true rfl), (Nat.le_of_ble_eq_true rfl)⟩ h_d rfl rfl hl.1 rfl (Nat.le_of_ble_eq_true rfl) dX2_readPerson_1 ⟨(Nat.le_of_ble_eq_true rfl), (Nat.le_of_ble_eq_true rfl)⟩) w hA (fun r9 F1 H locs hp w => ?_)
  obtain ⟨x1, hx1, hr9, hw0, hk9⟩ := hp
  subst hr9
  have hq := hq.trans (w_bnd hx1)
  have h_d_te := h_d_te.keep hk9 ⟨(wi.ne h_d_te h_d (by intro h; cases h)), trivial⟩
  have h_d_te_e := h_d_te_e.keep hk9 ⟨(wi.ne h_d_te_e h_d (by intro h; cases h)), trivial⟩
  have h_d := h_d.new hw0
  have hk := hk.call hk9 (fun q h => ⟨h.1, trivial⟩)
  refine lv_if_ne (tgt := 9) hx hb dX2_readPerson_4 (by decide) (fun c1 => ?_) (fun c1 => ?_)
  · skip
    have hq := hq.trans (if_neg c1)
    refine lv_aload_n hx hb dX2_readPerson_9 rfl (lv_at hl 0 rfl) ?_
    refine lv_aload_n hx hb dX2_readPerson_10 rfl (lv_at hl 0 rfl) ?_
    refine w_get (v := .int x1.2.2) hx hb hts i_X2 hown hK w h_d rfl 6 (by decide) (hts _ m_0) rfl dX2_readPerson_11 ?_
    have ho2 := h_d
    refine w_put (fs2 := [.ref d_te, .int x1.2.1, .int d_le, .int x1.2.2, .int d_se, .int d_th, .int x1.2.2]) hx hb hts i_X2 tyX2 tyX2_ok nmX2 hown hK w h_d rfl 3 (by decide) (hts _ m_2) rfl rfl rfl (Nat.le_of_ble_eq_true rfl) rfl dX2_readPerson_14 (fun H locs w h_d => ?_)
    have h_d_te := h_d_te.upw h_d (wi.ne h_d_te ho2 (by intro h; cases h))
    have h_d_te_e := h_d_te_e.upw h_d (wi.ne h_d_te_e ho2 (by intro h; cases h))
    have hk := hk.upw h_d (fun q h => h.1)
    refine lv_aload_n hx hb dX2_readPerson_17 rfl (lv_at hl 0 rfl) ?_
    refine lv_bipush (v := 32) hx hb dX2_readPerson_18 (by decide) ?_
    refine w_finj (w_runV (rm := ({ frames := 1, cells := 0, slots := 0, locals := 21 } : Room)) (As := [.int 32]) (rest := []) (n := 1) hx hb hml hts hown hK w (c_X2_takes l D cI cP cS cL L _ d 32 d_te x1.2.1 d_le x1.2.2 d_se d_th x1.2.2 d_te_e d_te_so d_te_sz d_te_e_n d_te_e_f h_d h_d_te h_d_te_e hz) gX2_readPerson_X2_takes rfl rfl rfl (by decide +kernel) ⟨(Nat.le_of_ble_eq_true rfl), (Nat.le_of_ble_eq_true rfl)⟩ h_d rfl rfl hl.1 rfl (Nat.le_of_ble_eq_true rfl) dX2_readPerson_20 ⟨(Nat.le_of_ble_eq_true rfl), (Nat.le_of_ble_eq_true rfl)⟩) w hA (fun r9 F1 H locs hp w => ?_)
    obtain ⟨x20, hx20, hr9, hw0, hk9⟩ := hp
    subst hr9
    have hq := hq.trans (w_bnd hx20)
    have h_d_te := h_d_te.keep hk9 ⟨(wi.ne h_d_te h_d (by intro h; cases h)), trivial⟩
    have h_d_te_e := h_d_te_e.keep hk9 ⟨(wi.ne h_d_te_e h_d (by intro h; cases h)), trivial⟩
    have h_d := h_d.new hw0
    have hk := hk.call hk9 (fun q h => ⟨h.1, trivial⟩)
    refine lv_if_eq (tgt := 33) hx hb dX2_readPerson_23 (by decide) (fun c3 => ?_) (fun c3 => ?_)
    · skip
      have hq := hq.trans (if_pos c3)
      refine lv_iconst (v := 0) hx hb dX2_readPerson_33 (by decide) ?_
      exact w_zret hx hb hr hlocks w rfl ⟨rfl, _, hq.symm, rfl, h_d.2, hk⟩ (Nat.le_refl _) (Nat.le_refl _) dX2_readPerson_34
    · skip
      have hq := hq.trans (if_neg c3)
      refine lv_aload_n hx hb dX2_readPerson_26 rfl (lv_at hl 0 rfl) ?_
      refine w_finj (w_runV (rm := ({ frames := 1, cells := 0, slots := 0, locals := 21 } : Room)) (As := []) (rest := []) (n := 0) hx hb hml hts hown hK w (c_X2_takesDigit l D cI cP cS cL L _ d d_te x20.2 d_le x1.2.2 d_se d_th x1.2.2 d_te_e d_te_so d_te_sz d_te_e_n d_te_e_f h_d h_d_te h_d_te_e hz) gX2_readPerson_X2_takesDigit rfl rfl rfl (by decide +kernel) ⟨(Nat.le_of_ble_eq_true rfl), (Nat.le_of_ble_eq_true rfl)⟩ h_d rfl rfl hl.1 rfl (Nat.le_of_ble_eq_true rfl) dX2_readPerson_27 ⟨(Nat.le_of_ble_eq_true rfl), (Nat.le_of_ble_eq_true rfl)⟩) w hA (fun r9 F1 H locs hp w => ?_)
      obtain ⟨x27, hx27, hr9, hw0, hk9⟩ := hp
      subst hr9
      have hq := hq.trans (w_bnd hx27)
      have h_d_te := h_d_te.keep hk9 ⟨(wi.ne h_d_te h_d (by intro h; cases h)), trivial⟩
      have h_d_te_e := h_d_te_e.keep hk9 ⟨(wi.ne h_d_te_e h_d (by intro h; cases h)), trivial⟩
      have h_d := h_d.new hw0
      have hk := hk.call hk9 (fun q h => ⟨h.1, trivial⟩)
      refine lv_if_ne (tgt := 35) hx hb dX2_readPerson_30 (by decide) (fun c4 => ?_) (fun c4 => ?_)
      · skip
        have hq := hq.trans (if_neg c4)
        refine lv_aload_n hx hb dX2_readPerson_35 rfl (lv_at hl 0 rfl) ?_
        refine lv_aload_n hx hb dX2_readPerson_36 rfl (lv_at hl 0 rfl) ?_
        refine w_get (v := .int x27.2.2) hx hb hts i_X2 hown hK w h_d rfl 6 (by decide) (hts _ m_0) rfl dX2_readPerson_37 ?_
        have ho5 := h_d
        refine w_put (fs2 := [.ref d_te, .int x27.2.1, .int d_le, .int x1.2.2, .int x27.2.2, .int d_th, .int x27.2.2]) hx hb hts i_X2 tyX2 tyX2_ok nmX2 hown hK w h_d rfl 4 (by decide) (hts _ m_3) rfl rfl rfl (Nat.le_of_ble_eq_true rfl) rfl dX2_readPerson_40 (fun H locs w h_d => ?_)
        have h_d_te := h_d_te.upw h_d (wi.ne h_d_te ho5 (by intro h; cases h))
        have h_d_te_e := h_d_te_e.upw h_d (wi.ne h_d_te_e ho5 (by intro h; cases h))
        have hk := hk.upw h_d (fun q h => h.1)
        refine lv_aload_n hx hb dX2_readPerson_43 rfl (lv_at hl 0 rfl) ?_
        refine lv_bipush (v := 32) hx hb dX2_readPerson_44 (by decide) ?_
        refine w_finj (w_runV (rm := ({ frames := 1, cells := 0, slots := 0, locals := 21 } : Room)) (As := [.int 32]) (rest := []) (n := 1) hx hb hml hts hown hK w (c_X2_takes l D cI cP cS cL L _ d 32 d_te x27.2.1 d_le x1.2.2 x27.2.2 d_th x27.2.2 d_te_e d_te_so d_te_sz d_te_e_n d_te_e_f h_d h_d_te h_d_te_e hz) gX2_readPerson_X2_takes rfl rfl rfl (by decide +kernel) ⟨(Nat.le_of_ble_eq_true rfl), (Nat.le_of_ble_eq_true rfl)⟩ h_d rfl rfl hl.1 rfl (Nat.le_of_ble_eq_true rfl) dX2_readPerson_46 ⟨(Nat.le_of_ble_eq_true rfl), (Nat.le_of_ble_eq_true rfl)⟩) w hA (fun r9 F1 H locs hp w => ?_)
        obtain ⟨x46, hx46, hr9, hw0, hk9⟩ := hp
        subst hr9
        have hq := hq.trans (w_bnd hx46)
        have h_d_te := h_d_te.keep hk9 ⟨(wi.ne h_d_te h_d (by intro h; cases h)), trivial⟩
        have h_d_te_e := h_d_te_e.keep hk9 ⟨(wi.ne h_d_te_e h_d (by intro h; cases h)), trivial⟩
        have h_d := h_d.new hw0
        have hk := hk.call hk9 (fun q h => ⟨h.1, trivial⟩)
        refine lv_if_eq (tgt := 59) hx hb dX2_readPerson_49 (by decide) (fun c6 => ?_) (fun c6 => ?_)
        · skip
          have hq := hq.trans (if_pos c6)
          refine lv_iconst (v := 0) hx hb dX2_readPerson_59 (by decide) ?_
          exact w_zret hx hb hr hlocks w rfl ⟨rfl, _, hq.symm, rfl, h_d.2, hk⟩ (Nat.le_refl _) (Nat.le_refl _) dX2_readPerson_60
        · skip
          have hq := hq.trans (if_neg c6)
          refine lv_aload_n hx hb dX2_readPerson_52 rfl (lv_at hl 0 rfl) ?_
          refine w_finj (w_runV (rm := ({ frames := 2, cells := 0, slots := 0, locals := 42 } : Room)) (As := []) (rest := []) (n := 0) hx hb hml hts hown hK w (c_X2_takesNumber l D cI cP cS cL L _ d d_te x46.2 d_le x1.2.2 x27.2.2 d_th x27.2.2 d_te_e d_te_so d_te_sz d_te_e_n d_te_e_f h_d h_d_te h_d_te_e hz) gX2_readPerson_X2_takesNumber rfl rfl rfl (by decide +kernel) ⟨(Nat.le_of_ble_eq_true rfl), (Nat.le_of_ble_eq_true rfl)⟩ h_d rfl rfl hl.1 rfl (Nat.le_of_ble_eq_true rfl) dX2_readPerson_53 ⟨(Nat.le_of_ble_eq_true rfl), (Nat.le_of_ble_eq_true rfl)⟩) w hA (fun r9 F1 H locs hp w => ?_)
          obtain ⟨x53, hx53, hr9, hw0, hk9⟩ := hp
          subst hr9
          have hq := hq.trans (w_bnd hx53)
          have h_d_te := h_d_te.keep hk9 ⟨(wi.ne h_d_te h_d (by intro h; cases h)), trivial⟩
          have h_d_te_e := h_d_te_e.keep hk9 ⟨(wi.ne h_d_te_e h_d (by intro h; cases h)), trivial⟩
          have h_d := h_d.new hw0
          have hk := hk.call hk9 (fun q h => ⟨h.1, trivial⟩)
          refine lv_if_ne (tgt := 61) hx hb dX2_readPerson_56 (by decide) (fun c7 => ?_) (fun c7 => ?_)
          · skip
            have hq := hq.trans (if_neg c7)
            refine lv_aload_n hx hb dX2_readPerson_61 rfl (lv_at hl 0 rfl) ?_
            refine lv_aload_n hx hb dX2_readPerson_62 rfl (lv_at hl 0 rfl) ?_
            refine w_get (v := .int x53.2.2) hx hb hts i_X2 hown hK w h_d rfl 6 (by decide) (hts _ m_0) rfl dX2_readPerson_63 ?_
            have ho8 := h_d
            refine w_put (fs2 := [.ref d_te, .int x53.2.1, .int d_le, .int x1.2.2, .int x27.2.2, .int x53.2.2, .int x53.2.2]) hx hb hts i_X2 tyX2 tyX2_ok nmX2 hown hK w h_d rfl 5 (by decide) (hts _ m_4) rfl rfl rfl (Nat.le_of_ble_eq_true rfl) rfl dX2_readPerson_66 (fun H locs w h_d => ?_)
            have h_d_te := h_d_te.upw h_d (wi.ne h_d_te ho8 (by intro h; cases h))
            have h_d_te_e := h_d_te_e.upw h_d (wi.ne h_d_te_e ho8 (by intro h; cases h))
            have hk := hk.upw h_d (fun q h => h.1)
            refine lv_iconst (v := 1) hx hb dX2_readPerson_69 (by decide) ?_
            exact w_zret hx hb hr hlocks w rfl ⟨rfl, _, hq.symm, rfl, h_d.2, hk⟩ (Nat.le_refl _) (Nat.le_refl _) dX2_readPerson_70
          · skip
            have hq := hq.trans (if_pos c7)
            refine lv_iconst (v := 0) hx hb dX2_readPerson_59 (by decide) ?_
            exact w_zret hx hb hr hlocks w rfl ⟨rfl, _, hq.symm, rfl, h_d.2, hk⟩ (Nat.le_refl _) (Nat.le_refl _) dX2_readPerson_60
      · skip
        have hq := hq.trans (if_pos c4)
        refine lv_iconst (v := 0) hx hb dX2_readPerson_33 (by decide) ?_
        exact w_zret hx hb hr hlocks w rfl ⟨rfl, _, hq.symm, rfl, h_d.2, hk⟩ (Nat.le_refl _) (Nat.le_refl _) dX2_readPerson_34
  · skip
    have hq := hq.trans (if_pos c1)
    refine lv_iconst (v := 0) hx hb dX2_readPerson_7 (by decide) ?_
    exact w_zret hx hb hr hlocks w rfl ⟨rfl, _, hq.symm, rfl, h_d.2, hk⟩ (Nat.le_refl _) (Nat.le_refl _) dX2_readPerson_8
def f_X2_readStatement (d_pl : Int32) (d_fi : Int32) (d_se : Int32) (d_th : Int32) (d_nu : Int32) (d_te_sz : Int32) (d_te_e_f : Nat → Int32) : Int32 × Int32 × Int32 × Int32 × Int32 × Int32 × Int32 := if (f_X3_at d_pl d_te_sz d_te_e_f) = (98 : Int32) then (bnd (f_X2_takes (f_X3_at d_pl d_te_sz d_te_e_f) d_pl d_te_sz d_te_e_f) (fun x190 : Int32 × Int32 => if x190.1 = (0 : Int32) then (0, x190.2, (f_X3_at d_pl d_te_sz d_te_e_f), d_fi, d_se, d_th, d_nu) else (bnd (f_X2_takes 59 x190.2 d_te_sz d_te_e_f) (fun x199 : Int32 × Int32 => if x199.1 = (0 : Int32) then (0, x199.2, (f_X3_at d_pl d_te_sz d_te_e_f), d_fi, d_se, d_th, d_nu) else (1, x199.2, (f_X3_at d_pl d_te_sz d_te_e_f), d_fi, d_se, d_th, d_nu))))) else (if (f_X3_at d_pl d_te_sz d_te_e_f) = (99 : Int32) then (0, d_pl, (f_X3_at d_pl d_te_sz d_te_e_f), d_fi, d_se, d_th, d_nu) else (if (f_X3_at d_pl d_te_sz d_te_e_f) = (100 : Int32) then (0, d_pl, (f_X3_at d_pl d_te_sz d_te_e_f), d_fi, d_se, d_th, d_nu) else (if (f_X3_at d_pl d_te_sz d_te_e_f) = (101 : Int32) then (0, d_pl, (f_X3_at d_pl d_te_sz d_te_e_f), d_fi, d_se, d_th, d_nu) else (if (f_X3_at d_pl d_te_sz d_te_e_f) = (102 : Int32) then (0, d_pl, (f_X3_at d_pl d_te_sz d_te_e_f), d_fi, d_se, d_th, d_nu) else (if (f_X3_at d_pl d_te_sz d_te_e_f) = (103 : Int32) then (bnd (f_X2_takes 103 d_pl d_te_sz d_te_e_f) (fun x126 : Int32 × Int32 => if x126.1 = (0 : Int32) then (0, x126.2, (f_X3_at d_pl d_te_sz d_te_e_f), d_fi, d_se, d_th, d_nu) else (bnd (f_X2_readShare x126.2 d_fi d_se d_nu d_te_sz d_te_e_f) (fun x133 : Int32 × Int32 × Int32 × Int32 × Int32 => if x133.1 = (0 : Int32) then (0, x133.2.1, (f_X3_at d_pl d_te_sz d_te_e_f), x133.2.2.1, x133.2.2.2.1, d_th, x133.2.2.2.2) else (bnd (f_X2_takes 59 x133.2.1 d_te_sz d_te_e_f) (fun x142 : Int32 × Int32 => if x142.1 = (0 : Int32) then (0, x142.2, (f_X3_at d_pl d_te_sz d_te_e_f), x133.2.2.1, x133.2.2.2.1, d_th, x133.2.2.2.2) else (1, x142.2, (f_X3_at d_pl d_te_sz d_te_e_f), x133.2.2.1, x133.2.2.2.1, d_th, x133.2.2.2.2))))))) else (if (f_X3_at d_pl d_te_sz d_te_e_f) = (104 : Int32) then (bnd (f_X2_takes 104 d_pl d_te_sz d_te_e_f) (fun x157 : Int32 × Int32 => if x157.1 = (0 : Int32) then (0, x157.2, (f_X3_at d_pl d_te_sz d_te_e_f), d_fi, d_se, d_th, d_nu) else (bnd (f_X2_readHigh x157.2 d_fi d_nu d_te_sz d_te_e_f) (fun x164 : Int32 × Int32 × Int32 × Int32 => if x164.1 = (0 : Int32) then (0, x164.2.1, (f_X3_at d_pl d_te_sz d_te_e_f), x164.2.2.1, d_se, d_th, x164.2.2.2) else (bnd (f_X2_takes 59 x164.2.1 d_te_sz d_te_e_f) (fun x173 : Int32 × Int32 => if x173.1 = (0 : Int32) then (0, x173.2, (f_X3_at d_pl d_te_sz d_te_e_f), x164.2.2.1, d_se, d_th, x164.2.2.2) else (1, x173.2, (f_X3_at d_pl d_te_sz d_te_e_f), x164.2.2.1, d_se, d_th, x164.2.2.2))))))) else (if (f_X3_at d_pl d_te_sz d_te_e_f) = (105 : Int32) then (0, d_pl, (f_X3_at d_pl d_te_sz d_te_e_f), d_fi, d_se, d_th, d_nu) else (if (f_X3_at d_pl d_te_sz d_te_e_f) = (106 : Int32) then (0, d_pl, (f_X3_at d_pl d_te_sz d_te_e_f), d_fi, d_se, d_th, d_nu) else (if (f_X3_at d_pl d_te_sz d_te_e_f) = (107 : Int32) then (0, d_pl, (f_X3_at d_pl d_te_sz d_te_e_f), d_fi, d_se, d_th, d_nu) else (if (f_X3_at d_pl d_te_sz d_te_e_f) = (108 : Int32) then (0, d_pl, (f_X3_at d_pl d_te_sz d_te_e_f), d_fi, d_se, d_th, d_nu) else (if (f_X3_at d_pl d_te_sz d_te_e_f) = (109 : Int32) then (0, d_pl, (f_X3_at d_pl d_te_sz d_te_e_f), d_fi, d_se, d_th, d_nu) else (if (f_X3_at d_pl d_te_sz d_te_e_f) = (110 : Int32) then (bnd (f_X2_takes (f_X3_at d_pl d_te_sz d_te_e_f) d_pl d_te_sz d_te_e_f) (fun x190 : Int32 × Int32 => if x190.1 = (0 : Int32) then (0, x190.2, (f_X3_at d_pl d_te_sz d_te_e_f), d_fi, d_se, d_th, d_nu) else (bnd (f_X2_takes 59 x190.2 d_te_sz d_te_e_f) (fun x199 : Int32 × Int32 => if x199.1 = (0 : Int32) then (0, x199.2, (f_X3_at d_pl d_te_sz d_te_e_f), d_fi, d_se, d_th, d_nu) else (1, x199.2, (f_X3_at d_pl d_te_sz d_te_e_f), d_fi, d_se, d_th, d_nu))))) else (if (f_X3_at d_pl d_te_sz d_te_e_f) = (111 : Int32) then (0, d_pl, (f_X3_at d_pl d_te_sz d_te_e_f), d_fi, d_se, d_th, d_nu) else (if (f_X3_at d_pl d_te_sz d_te_e_f) = (112 : Int32) then (bnd (f_X2_takes 112 d_pl d_te_sz d_te_e_f) (fun x95 : Int32 × Int32 => if x95.1 = (0 : Int32) then (0, x95.2, (f_X3_at d_pl d_te_sz d_te_e_f), d_fi, d_se, d_th, d_nu) else (bnd (f_X2_readPerson x95.2 d_fi d_se d_th d_nu d_te_sz d_te_e_f) (fun x102 : Int32 × Int32 × Int32 × Int32 × Int32 × Int32 => if x102.1 = (0 : Int32) then (0, x102.2.1, (f_X3_at d_pl d_te_sz d_te_e_f), x102.2.2.1, x102.2.2.2.1, x102.2.2.2.2.1, x102.2.2.2.2.2) else (bnd (f_X2_takes 59 x102.2.1 d_te_sz d_te_e_f) (fun x111 : Int32 × Int32 => if x111.1 = (0 : Int32) then (0, x111.2, (f_X3_at d_pl d_te_sz d_te_e_f), x102.2.2.1, x102.2.2.2.1, x102.2.2.2.2.1, x102.2.2.2.2.2) else (1, x111.2, (f_X3_at d_pl d_te_sz d_te_e_f), x102.2.2.1, x102.2.2.2.1, x102.2.2.2.2.1, x102.2.2.2.2.2))))))) else (0, d_pl, (f_X3_at d_pl d_te_sz d_te_e_f), d_fi, d_se, d_th, d_nu)))))))))))))))
set_option maxHeartbeats 400000 in
set_option maxRecDepth 100000 in
theorem c_X2_readStatement (l : Launch) (D : va_G) (cI cP cS cL : ClassId) (L : List Nat) (F : Nat → va_E) (d : Nat) (d_te : Nat) (d_pl : Int32) (d_le : Int32) (d_fi : Int32) (d_se : Int32) (d_th : Int32) (d_nu : Int32) (d_te_e : Nat) (d_te_so : Int32) (d_te_sz : Int32) (d_te_e_n : Nat) (d_te_e_f : Nat → Int32) (h_d : wi L F d (eD d_te d_pl d_le d_fi d_se d_th d_nu)) (h_d_te : wi L F d_te (eR d_te_e d_te_so d_te_sz)) (h_d_te_e : wi L F d_te_e (eI cI d_te_e_n d_te_e_f)) (hz : d_te_sz.toInt ≤ d_te_e_n) : wMj l D cI cP cS cL yX2_readStatement wsX2_readStatement ({ frames := 4, cells := 0, slots := 0, locals := 84 } : Room) [.ref d] L F (fun r1 F1 => ∃ y9 : Int32 × Int32 × Int32 × Int32 × Int32 × Int32 × Int32, y9 = (f_X2_readStatement d_pl d_fi d_se d_th d_nu d_te_sz d_te_e_f) ∧ r1 = y9.1 ∧ F1 d = (eD d_te y9.2.1 y9.2.2.1 y9.2.2.2.1 y9.2.2.2.2.1 y9.2.2.2.2.2.1 y9.2.2.2.2.2.2) ∧ wk (fun q : Nat => q ≠ d ∧ True) F1 F) := by
  refine wM.of (cc := cX2_readStatement) (maxL := 1) (ret := (some .boolean)) (by decide) rfl (Nat.le_of_ble_eq_true rfl) ?_
  intro pZ eZ sZ mZ below meth cZ A ls C hl w
  obtain ⟨hx, hb, hr, hml, hts, hown, hlocks, hK, hA, hin⟩ := C
  have hown : sZ.vm.findClass RX2 = some mZ.cls := hown
  have hl : lv_has ls 1 [(0, .ref d)] := hl
  have m_0 : ((.fieldLink RX2 9 "TwoThirds$Reader" "text" "LTwoThirds$Row;") : Cond) ∈ wsX2_readStatement := by decide +kernel
  have i_X2 : ∀ w ∈ wsX20, w ∈ wsX2_readStatement := by decide +kernel
  have m_2 : ((.fieldLink RX2 19 "TwoThirds$Reader" "place" "I") : Cond) ∈ wsX2_readStatement := by decide +kernel
  have m_3 : ((.fieldLink RX2 32 "TwoThirds$Reader" "letter" "I") : Cond) ∈ wsX2_readStatement := by decide +kernel
  have hk : wk (fun q : Nat => q ≠ d ∧ True) F F := wk.rf
  have hq : f_X2_readStatement d_pl d_fi d_se d_th d_nu d_te_sz d_te_e_f = f_X2_readStatement d_pl d_fi d_se d_th d_nu d_te_sz d_te_e_f := rfl
  refine lv_aload_n hx hb dX2_readStatement_0 rfl (lv_at hl 0 rfl) ?_
  refine lv_aload_n hx hb dX2_readStatement_1 rfl (lv_at hl 0 rfl) ?_
  refine w_get (v := .ref d_te) hx hb hts i_X2 hown hK w h_d rfl 0 (by decide) (hts _ m_0) rfl dX2_readStatement_2 ?_
  refine lv_aload_n hx hb dX2_readStatement_5 rfl (lv_at hl 0 rfl) ?_
  refine w_get (v := .int d_pl) hx hb hts i_X2 hown hK w h_d rfl 1 (by decide) (hts _ m_2) rfl dX2_readStatement_6 ?_
  refine w_finI (w_runV (rm := ({ frames := 0, cells := 0, slots := 0, locals := 0 } : Room)) (As := [.int d_pl]) (rest := [.ref d]) (n := 1) hx hb hml hts hown hK w (c_X3_at l D cI cP cS cL L _ d_te d_pl d_te_e d_te_so d_te_sz d_te_e_n d_te_e_f h_d_te h_d_te_e hz) gX2_readStatement_X3_at rfl rfl rfl (by decide +kernel) ⟨(Nat.le_of_ble_eq_true rfl), (Nat.le_of_ble_eq_true rfl)⟩ h_d_te rfl rfl hl.1 rfl (Nat.le_of_ble_eq_true rfl) dX2_readStatement_9 ⟨(Nat.le_of_ble_eq_true rfl), (Nat.le_of_ble_eq_true rfl)⟩) w hA (fun H locs w => ?_)
  have ho1 := h_d
  refine w_put (fs2 := [.ref d_te, .int d_pl, .int (f_X3_at d_pl d_te_sz d_te_e_f), .int d_fi, .int d_se, .int d_th, .int d_nu]) hx hb hts i_X2 tyX2 tyX2_ok nmX2 hown hK w h_d rfl 2 (by decide) (hts _ m_3) rfl rfl rfl (Nat.le_of_ble_eq_true rfl) rfl dX2_readStatement_12 (fun H locs w h_d => ?_)
  have h_d_te := h_d_te.upw h_d (wi.ne h_d_te ho1 (by intro h; cases h))
  have h_d_te_e := h_d_te_e.upw h_d (wi.ne h_d_te_e ho1 (by intro h; cases h))
  have hk := hk.upw h_d (fun q h => h.1)
  refine lv_aload_n hx hb dX2_readStatement_15 rfl (lv_at hl 0 rfl) ?_
  refine w_get (v := .int (f_X3_at d_pl d_te_sz d_te_e_f)) hx hb hts i_X2 hown hK w h_d rfl 2 (by decide) (hts _ m_3) rfl dX2_readStatement_16 ?_
  by_cases c2 : (f_X3_at d_pl d_te_sz d_te_e_f) = (98 : Int32)
  · skip
    have hq := hq.trans (if_pos c2)
    refine w_ts (v := 98) (off := 166) (tgt := 185) hx hb dX2_readStatement_19 c2 (by decide) (by decide) rfl (by decide) ?_
    refine lv_aload_n hx hb dX2_readStatement_185 rfl (lv_at hl 0 rfl) ?_
    refine lv_aload_n hx hb dX2_readStatement_186 rfl (lv_at hl 0 rfl) ?_
    refine w_get (v := .int (f_X3_at d_pl d_te_sz d_te_e_f)) hx hb hts i_X2 hown hK w h_d rfl 2 (by decide) (hts _ m_3) rfl dX2_readStatement_187 ?_
    refine w_finj (w_runV (rm := ({ frames := 1, cells := 0, slots := 0, locals := 21 } : Room)) (As := [.int (f_X3_at d_pl d_te_sz d_te_e_f)]) (rest := []) (n := 1) hx hb hml hts hown hK w (c_X2_takes l D cI cP cS cL L _ d (f_X3_at d_pl d_te_sz d_te_e_f) d_te d_pl (f_X3_at d_pl d_te_sz d_te_e_f) d_fi d_se d_th d_nu d_te_e d_te_so d_te_sz d_te_e_n d_te_e_f h_d h_d_te h_d_te_e hz) gX2_readStatement_X2_takes rfl rfl rfl (by decide +kernel) ⟨(Nat.le_of_ble_eq_true rfl), (Nat.le_of_ble_eq_true rfl)⟩ h_d rfl rfl hl.1 rfl (Nat.le_of_ble_eq_true rfl) dX2_readStatement_190 ⟨(Nat.le_of_ble_eq_true rfl), (Nat.le_of_ble_eq_true rfl)⟩) w hA (fun r9 F1 H locs hp w => ?_)
    obtain ⟨x190, hx190, hr9, hw0, hk9⟩ := hp
    subst hr9
    have hq := hq.trans (w_bnd hx190)
    have h_d_te := h_d_te.keep hk9 ⟨(wi.ne h_d_te h_d (by intro h; cases h)), trivial⟩
    have h_d_te_e := h_d_te_e.keep hk9 ⟨(wi.ne h_d_te_e h_d (by intro h; cases h)), trivial⟩
    have h_d := h_d.new hw0
    have hk := hk.call hk9 (fun q h => ⟨h.1, trivial⟩)
    refine lv_if_eq (tgt := 209) hx hb dX2_readStatement_193 (by decide) (fun c3 => ?_) (fun c3 => ?_)
    · skip
      have hq := hq.trans (if_pos c3)
      refine lv_iconst (v := 0) hx hb dX2_readStatement_209 (by decide) ?_
      exact w_zret hx hb hr hlocks w rfl ⟨rfl, _, hq.symm, rfl, h_d.2, hk⟩ (Nat.le_refl _) (Nat.le_refl _) dX2_readStatement_210
    · skip
      have hq := hq.trans (if_neg c3)
      refine lv_aload_n hx hb dX2_readStatement_196 rfl (lv_at hl 0 rfl) ?_
      refine lv_bipush (v := 59) hx hb dX2_readStatement_197 (by decide) ?_
      refine w_finj (w_runV (rm := ({ frames := 1, cells := 0, slots := 0, locals := 21 } : Room)) (As := [.int 59]) (rest := []) (n := 1) hx hb hml hts hown hK w (c_X2_takes l D cI cP cS cL L _ d 59 d_te x190.2 (f_X3_at d_pl d_te_sz d_te_e_f) d_fi d_se d_th d_nu d_te_e d_te_so d_te_sz d_te_e_n d_te_e_f h_d h_d_te h_d_te_e hz) gX2_readStatement_X2_takes rfl rfl rfl (by decide +kernel) ⟨(Nat.le_of_ble_eq_true rfl), (Nat.le_of_ble_eq_true rfl)⟩ h_d rfl rfl hl.1 rfl (Nat.le_of_ble_eq_true rfl) dX2_readStatement_199 ⟨(Nat.le_of_ble_eq_true rfl), (Nat.le_of_ble_eq_true rfl)⟩) w hA (fun r9 F1 H locs hp w => ?_)
      obtain ⟨x199, hx199, hr9, hw0, hk9⟩ := hp
      subst hr9
      have hq := hq.trans (w_bnd hx199)
      have h_d_te := h_d_te.keep hk9 ⟨(wi.ne h_d_te h_d (by intro h; cases h)), trivial⟩
      have h_d_te_e := h_d_te_e.keep hk9 ⟨(wi.ne h_d_te_e h_d (by intro h; cases h)), trivial⟩
      have h_d := h_d.new hw0
      have hk := hk.call hk9 (fun q h => ⟨h.1, trivial⟩)
      refine lv_if_eq (tgt := 209) hx hb dX2_readStatement_202 (by decide) (fun c4 => ?_) (fun c4 => ?_)
      · skip
        have hq := hq.trans (if_pos c4)
        refine lv_iconst (v := 0) hx hb dX2_readStatement_209 (by decide) ?_
        exact w_zret hx hb hr hlocks w rfl ⟨rfl, _, hq.symm, rfl, h_d.2, hk⟩ (Nat.le_refl _) (Nat.le_refl _) dX2_readStatement_210
      · skip
        have hq := hq.trans (if_neg c4)
        refine lv_iconst (v := 1) hx hb dX2_readStatement_205 (by decide) ?_
        refine lv_goto (tgt := 210) hx hb dX2_readStatement_206 (by decide) ?_
        exact w_zret hx hb hr hlocks w rfl ⟨rfl, _, hq.symm, rfl, h_d.2, hk⟩ (Nat.le_refl _) (Nat.le_refl _) dX2_readStatement_210
  · skip
    have hq := hq.trans (if_neg c2)
    by_cases c5 : (f_X3_at d_pl d_te_sz d_te_e_f) = (99 : Int32)
    · skip
      have hq := hq.trans (if_pos c5)
      refine w_ts (v := 99) (off := 192) (tgt := 211) hx hb dX2_readStatement_19 c5 (by decide) (by decide) rfl (by decide) ?_
      refine lv_iconst (v := 0) hx hb dX2_readStatement_211 (by decide) ?_
      exact w_zret hx hb hr hlocks w rfl ⟨rfl, _, hq.symm, rfl, h_d.2, hk⟩ (Nat.le_refl _) (Nat.le_refl _) dX2_readStatement_212
    · skip
      have hq := hq.trans (if_neg c5)
      by_cases c6 : (f_X3_at d_pl d_te_sz d_te_e_f) = (100 : Int32)
      · skip
        have hq := hq.trans (if_pos c6)
        refine w_ts (v := 100) (off := 192) (tgt := 211) hx hb dX2_readStatement_19 c6 (by decide) (by decide) rfl (by decide) ?_
        refine lv_iconst (v := 0) hx hb dX2_readStatement_211 (by decide) ?_
        exact w_zret hx hb hr hlocks w rfl ⟨rfl, _, hq.symm, rfl, h_d.2, hk⟩ (Nat.le_refl _) (Nat.le_refl _) dX2_readStatement_212
      · skip
        have hq := hq.trans (if_neg c6)
        by_cases c7 : (f_X3_at d_pl d_te_sz d_te_e_f) = (101 : Int32)
        · skip
          have hq := hq.trans (if_pos c7)
          refine w_ts (v := 101) (off := 192) (tgt := 211) hx hb dX2_readStatement_19 c7 (by decide) (by decide) rfl (by decide) ?_
          refine lv_iconst (v := 0) hx hb dX2_readStatement_211 (by decide) ?_
          exact w_zret hx hb hr hlocks w rfl ⟨rfl, _, hq.symm, rfl, h_d.2, hk⟩ (Nat.le_refl _) (Nat.le_refl _) dX2_readStatement_212
        · skip
          have hq := hq.trans (if_neg c7)
          by_cases c8 : (f_X3_at d_pl d_te_sz d_te_e_f) = (102 : Int32)
          · skip
            have hq := hq.trans (if_pos c8)
            refine w_ts (v := 102) (off := 192) (tgt := 211) hx hb dX2_readStatement_19 c8 (by decide) (by decide) rfl (by decide) ?_
            refine lv_iconst (v := 0) hx hb dX2_readStatement_211 (by decide) ?_
            exact w_zret hx hb hr hlocks w rfl ⟨rfl, _, hq.symm, rfl, h_d.2, hk⟩ (Nat.le_refl _) (Nat.le_refl _) dX2_readStatement_212
          · skip
            have hq := hq.trans (if_neg c8)
            by_cases c9 : (f_X3_at d_pl d_te_sz d_te_e_f) = (103 : Int32)
            · skip
              have hq := hq.trans (if_pos c9)
              refine w_ts (v := 103) (off := 104) (tgt := 123) hx hb dX2_readStatement_19 c9 (by decide) (by decide) rfl (by decide) ?_
              refine lv_aload_n hx hb dX2_readStatement_123 rfl (lv_at hl 0 rfl) ?_
              refine lv_bipush (v := 103) hx hb dX2_readStatement_124 (by decide) ?_
              refine w_finj (w_runV (rm := ({ frames := 1, cells := 0, slots := 0, locals := 21 } : Room)) (As := [.int 103]) (rest := []) (n := 1) hx hb hml hts hown hK w (c_X2_takes l D cI cP cS cL L _ d 103 d_te d_pl (f_X3_at d_pl d_te_sz d_te_e_f) d_fi d_se d_th d_nu d_te_e d_te_so d_te_sz d_te_e_n d_te_e_f h_d h_d_te h_d_te_e hz) gX2_readStatement_X2_takes rfl rfl rfl (by decide +kernel) ⟨(Nat.le_of_ble_eq_true rfl), (Nat.le_of_ble_eq_true rfl)⟩ h_d rfl rfl hl.1 rfl (Nat.le_of_ble_eq_true rfl) dX2_readStatement_126 ⟨(Nat.le_of_ble_eq_true rfl), (Nat.le_of_ble_eq_true rfl)⟩) w hA (fun r9 F1 H locs hp w => ?_)
              obtain ⟨x126, hx126, hr9, hw0, hk9⟩ := hp
              subst hr9
              have hq := hq.trans (w_bnd hx126)
              have h_d_te := h_d_te.keep hk9 ⟨(wi.ne h_d_te h_d (by intro h; cases h)), trivial⟩
              have h_d_te_e := h_d_te_e.keep hk9 ⟨(wi.ne h_d_te_e h_d (by intro h; cases h)), trivial⟩
              have h_d := h_d.new hw0
              have hk := hk.call hk9 (fun q h => ⟨h.1, trivial⟩)
              refine lv_if_eq (tgt := 152) hx hb dX2_readStatement_129 (by decide) (fun c10 => ?_) (fun c10 => ?_)
              · skip
                have hq := hq.trans (if_pos c10)
                refine lv_iconst (v := 0) hx hb dX2_readStatement_152 (by decide) ?_
                exact w_zret hx hb hr hlocks w rfl ⟨rfl, _, hq.symm, rfl, h_d.2, hk⟩ (Nat.le_refl _) (Nat.le_refl _) dX2_readStatement_153
              · skip
                have hq := hq.trans (if_neg c10)
                refine lv_aload_n hx hb dX2_readStatement_132 rfl (lv_at hl 0 rfl) ?_
                refine w_finj (w_runV (rm := ({ frames := 3, cells := 0, slots := 0, locals := 64 } : Room)) (As := []) (rest := []) (n := 0) hx hb hml hts hown hK w (c_X2_readShare l D cI cP cS cL L _ d d_te x126.2 (f_X3_at d_pl d_te_sz d_te_e_f) d_fi d_se d_th d_nu d_te_e d_te_so d_te_sz d_te_e_n d_te_e_f h_d h_d_te h_d_te_e hz) gX2_readStatement_X2_readShare rfl rfl rfl (by decide +kernel) ⟨(Nat.le_of_ble_eq_true rfl), (Nat.le_of_ble_eq_true rfl)⟩ h_d rfl rfl hl.1 rfl (Nat.le_of_ble_eq_true rfl) dX2_readStatement_133 ⟨(Nat.le_of_ble_eq_true rfl), (Nat.le_of_ble_eq_true rfl)⟩) w hA (fun r9 F1 H locs hp w => ?_)
                obtain ⟨x133, hx133, hr9, hw0, hk9⟩ := hp
                subst hr9
                have hq := hq.trans (w_bnd hx133)
                have h_d_te := h_d_te.keep hk9 ⟨(wi.ne h_d_te h_d (by intro h; cases h)), trivial⟩
                have h_d_te_e := h_d_te_e.keep hk9 ⟨(wi.ne h_d_te_e h_d (by intro h; cases h)), trivial⟩
                have h_d := h_d.new hw0
                have hk := hk.call hk9 (fun q h => ⟨h.1, trivial⟩)
                refine lv_if_eq (tgt := 152) hx hb dX2_readStatement_136 (by decide) (fun c11 => ?_) (fun c11 => ?_)
                · skip
                  have hq := hq.trans (if_pos c11)
                  refine lv_iconst (v := 0) hx hb dX2_readStatement_152 (by decide) ?_
                  exact w_zret hx hb hr hlocks w rfl ⟨rfl, _, hq.symm, rfl, h_d.2, hk⟩ (Nat.le_refl _) (Nat.le_refl _) dX2_readStatement_153
                · skip
                  have hq := hq.trans (if_neg c11)
                  refine lv_aload_n hx hb dX2_readStatement_139 rfl (lv_at hl 0 rfl) ?_
                  refine lv_bipush (v := 59) hx hb dX2_readStatement_140 (by decide) ?_
                  refine w_finj (w_runV (rm := ({ frames := 1, cells := 0, slots := 0, locals := 21 } : Room)) (As := [.int 59]) (rest := []) (n := 1) hx hb hml hts hown hK w (c_X2_takes l D cI cP cS cL L _ d 59 d_te x133.2.1 (f_X3_at d_pl d_te_sz d_te_e_f) x133.2.2.1 x133.2.2.2.1 d_th x133.2.2.2.2 d_te_e d_te_so d_te_sz d_te_e_n d_te_e_f h_d h_d_te h_d_te_e hz) gX2_readStatement_X2_takes rfl rfl rfl (by decide +kernel) ⟨(Nat.le_of_ble_eq_true rfl), (Nat.le_of_ble_eq_true rfl)⟩ h_d rfl rfl hl.1 rfl (Nat.le_of_ble_eq_true rfl) dX2_readStatement_142 ⟨(Nat.le_of_ble_eq_true rfl), (Nat.le_of_ble_eq_true rfl)⟩) w hA (fun r9 F1 H locs hp w => ?_)
                  obtain ⟨x142, hx142, hr9, hw0, hk9⟩ := hp
                  subst hr9
                  have hq := hq.trans (w_bnd hx142)
                  have h_d_te := h_d_te.keep hk9 ⟨(wi.ne h_d_te h_d (by intro h; cases h)), trivial⟩
                  have h_d_te_e := h_d_te_e.keep hk9 ⟨(wi.ne h_d_te_e h_d (by intro h; cases h)), trivial⟩
                  have h_d := h_d.new hw0
                  have hk := hk.call hk9 (fun q h => ⟨h.1, trivial⟩)
                  refine lv_if_eq (tgt := 152) hx hb dX2_readStatement_145 (by decide) (fun c12 => ?_) (fun c12 => ?_)
                  · skip
                    have hq := hq.trans (if_pos c12)
                    refine lv_iconst (v := 0) hx hb dX2_readStatement_152 (by decide) ?_
                    exact w_zret hx hb hr hlocks w rfl ⟨rfl, _, hq.symm, rfl, h_d.2, hk⟩ (Nat.le_refl _) (Nat.le_refl _) dX2_readStatement_153
                  · skip
                    have hq := hq.trans (if_neg c12)
                    refine lv_iconst (v := 1) hx hb dX2_readStatement_148 (by decide) ?_
                    refine lv_goto (tgt := 153) hx hb dX2_readStatement_149 (by decide) ?_
                    exact w_zret hx hb hr hlocks w rfl ⟨rfl, _, hq.symm, rfl, h_d.2, hk⟩ (Nat.le_refl _) (Nat.le_refl _) dX2_readStatement_153
            · skip
              have hq := hq.trans (if_neg c9)
              by_cases c13 : (f_X3_at d_pl d_te_sz d_te_e_f) = (104 : Int32)
              · skip
                have hq := hq.trans (if_pos c13)
                refine w_ts (v := 104) (off := 135) (tgt := 154) hx hb dX2_readStatement_19 c13 (by decide) (by decide) rfl (by decide) ?_
                refine lv_aload_n hx hb dX2_readStatement_154 rfl (lv_at hl 0 rfl) ?_
                refine lv_bipush (v := 104) hx hb dX2_readStatement_155 (by decide) ?_
                refine w_finj (w_runV (rm := ({ frames := 1, cells := 0, slots := 0, locals := 21 } : Room)) (As := [.int 104]) (rest := []) (n := 1) hx hb hml hts hown hK w (c_X2_takes l D cI cP cS cL L _ d 104 d_te d_pl (f_X3_at d_pl d_te_sz d_te_e_f) d_fi d_se d_th d_nu d_te_e d_te_so d_te_sz d_te_e_n d_te_e_f h_d h_d_te h_d_te_e hz) gX2_readStatement_X2_takes rfl rfl rfl (by decide +kernel) ⟨(Nat.le_of_ble_eq_true rfl), (Nat.le_of_ble_eq_true rfl)⟩ h_d rfl rfl hl.1 rfl (Nat.le_of_ble_eq_true rfl) dX2_readStatement_157 ⟨(Nat.le_of_ble_eq_true rfl), (Nat.le_of_ble_eq_true rfl)⟩) w hA (fun r9 F1 H locs hp w => ?_)
                obtain ⟨x157, hx157, hr9, hw0, hk9⟩ := hp
                subst hr9
                have hq := hq.trans (w_bnd hx157)
                have h_d_te := h_d_te.keep hk9 ⟨(wi.ne h_d_te h_d (by intro h; cases h)), trivial⟩
                have h_d_te_e := h_d_te_e.keep hk9 ⟨(wi.ne h_d_te_e h_d (by intro h; cases h)), trivial⟩
                have h_d := h_d.new hw0
                have hk := hk.call hk9 (fun q h => ⟨h.1, trivial⟩)
                refine lv_if_eq (tgt := 183) hx hb dX2_readStatement_160 (by decide) (fun c14 => ?_) (fun c14 => ?_)
                · skip
                  have hq := hq.trans (if_pos c14)
                  refine lv_iconst (v := 0) hx hb dX2_readStatement_183 (by decide) ?_
                  exact w_zret hx hb hr hlocks w rfl ⟨rfl, _, hq.symm, rfl, h_d.2, hk⟩ (Nat.le_refl _) (Nat.le_refl _) dX2_readStatement_184
                · skip
                  have hq := hq.trans (if_neg c14)
                  refine lv_aload_n hx hb dX2_readStatement_163 rfl (lv_at hl 0 rfl) ?_
                  refine w_finj (w_runV (rm := ({ frames := 3, cells := 0, slots := 0, locals := 64 } : Room)) (As := []) (rest := []) (n := 0) hx hb hml hts hown hK w (c_X2_readHigh l D cI cP cS cL L _ d d_te x157.2 (f_X3_at d_pl d_te_sz d_te_e_f) d_fi d_se d_th d_nu d_te_e d_te_so d_te_sz d_te_e_n d_te_e_f h_d h_d_te h_d_te_e hz) gX2_readStatement_X2_readHigh rfl rfl rfl (by decide +kernel) ⟨(Nat.le_of_ble_eq_true rfl), (Nat.le_of_ble_eq_true rfl)⟩ h_d rfl rfl hl.1 rfl (Nat.le_of_ble_eq_true rfl) dX2_readStatement_164 ⟨(Nat.le_of_ble_eq_true rfl), (Nat.le_of_ble_eq_true rfl)⟩) w hA (fun r9 F1 H locs hp w => ?_)
                  obtain ⟨x164, hx164, hr9, hw0, hk9⟩ := hp
                  subst hr9
                  have hq := hq.trans (w_bnd hx164)
                  have h_d_te := h_d_te.keep hk9 ⟨(wi.ne h_d_te h_d (by intro h; cases h)), trivial⟩
                  have h_d_te_e := h_d_te_e.keep hk9 ⟨(wi.ne h_d_te_e h_d (by intro h; cases h)), trivial⟩
                  have h_d := h_d.new hw0
                  have hk := hk.call hk9 (fun q h => ⟨h.1, trivial⟩)
                  refine lv_if_eq (tgt := 183) hx hb dX2_readStatement_167 (by decide) (fun c15 => ?_) (fun c15 => ?_)
                  · skip
                    have hq := hq.trans (if_pos c15)
                    refine lv_iconst (v := 0) hx hb dX2_readStatement_183 (by decide) ?_
                    exact w_zret hx hb hr hlocks w rfl ⟨rfl, _, hq.symm, rfl, h_d.2, hk⟩ (Nat.le_refl _) (Nat.le_refl _) dX2_readStatement_184
                  · skip
                    have hq := hq.trans (if_neg c15)
                    refine lv_aload_n hx hb dX2_readStatement_170 rfl (lv_at hl 0 rfl) ?_
                    refine lv_bipush (v := 59) hx hb dX2_readStatement_171 (by decide) ?_
                    refine w_finj (w_runV (rm := ({ frames := 1, cells := 0, slots := 0, locals := 21 } : Room)) (As := [.int 59]) (rest := []) (n := 1) hx hb hml hts hown hK w (c_X2_takes l D cI cP cS cL L _ d 59 d_te x164.2.1 (f_X3_at d_pl d_te_sz d_te_e_f) x164.2.2.1 d_se d_th x164.2.2.2 d_te_e d_te_so d_te_sz d_te_e_n d_te_e_f h_d h_d_te h_d_te_e hz) gX2_readStatement_X2_takes rfl rfl rfl (by decide +kernel) ⟨(Nat.le_of_ble_eq_true rfl), (Nat.le_of_ble_eq_true rfl)⟩ h_d rfl rfl hl.1 rfl (Nat.le_of_ble_eq_true rfl) dX2_readStatement_173 ⟨(Nat.le_of_ble_eq_true rfl), (Nat.le_of_ble_eq_true rfl)⟩) w hA (fun r9 F1 H locs hp w => ?_)
                    obtain ⟨x173, hx173, hr9, hw0, hk9⟩ := hp
                    subst hr9
                    have hq := hq.trans (w_bnd hx173)
                    have h_d_te := h_d_te.keep hk9 ⟨(wi.ne h_d_te h_d (by intro h; cases h)), trivial⟩
                    have h_d_te_e := h_d_te_e.keep hk9 ⟨(wi.ne h_d_te_e h_d (by intro h; cases h)), trivial⟩
                    have h_d := h_d.new hw0
                    have hk := hk.call hk9 (fun q h => ⟨h.1, trivial⟩)
                    refine lv_if_eq (tgt := 183) hx hb dX2_readStatement_176 (by decide) (fun c16 => ?_) (fun c16 => ?_)
                    · skip
                      have hq := hq.trans (if_pos c16)
                      refine lv_iconst (v := 0) hx hb dX2_readStatement_183 (by decide) ?_
                      exact w_zret hx hb hr hlocks w rfl ⟨rfl, _, hq.symm, rfl, h_d.2, hk⟩ (Nat.le_refl _) (Nat.le_refl _) dX2_readStatement_184
                    · skip
                      have hq := hq.trans (if_neg c16)
                      refine lv_iconst (v := 1) hx hb dX2_readStatement_179 (by decide) ?_
                      refine lv_goto (tgt := 184) hx hb dX2_readStatement_180 (by decide) ?_
                      exact w_zret hx hb hr hlocks w rfl ⟨rfl, _, hq.symm, rfl, h_d.2, hk⟩ (Nat.le_refl _) (Nat.le_refl _) dX2_readStatement_184
              · skip
                have hq := hq.trans (if_neg c13)
                by_cases c17 : (f_X3_at d_pl d_te_sz d_te_e_f) = (105 : Int32)
                · skip
                  have hq := hq.trans (if_pos c17)
                  refine w_ts (v := 105) (off := 192) (tgt := 211) hx hb dX2_readStatement_19 c17 (by decide) (by decide) rfl (by decide) ?_
                  refine lv_iconst (v := 0) hx hb dX2_readStatement_211 (by decide) ?_
                  exact w_zret hx hb hr hlocks w rfl ⟨rfl, _, hq.symm, rfl, h_d.2, hk⟩ (Nat.le_refl _) (Nat.le_refl _) dX2_readStatement_212
                · skip
                  have hq := hq.trans (if_neg c17)
                  by_cases c18 : (f_X3_at d_pl d_te_sz d_te_e_f) = (106 : Int32)
                  · skip
                    have hq := hq.trans (if_pos c18)
                    refine w_ts (v := 106) (off := 192) (tgt := 211) hx hb dX2_readStatement_19 c18 (by decide) (by decide) rfl (by decide) ?_
                    refine lv_iconst (v := 0) hx hb dX2_readStatement_211 (by decide) ?_
                    exact w_zret hx hb hr hlocks w rfl ⟨rfl, _, hq.symm, rfl, h_d.2, hk⟩ (Nat.le_refl _) (Nat.le_refl _) dX2_readStatement_212
                  · skip
                    have hq := hq.trans (if_neg c18)
                    by_cases c19 : (f_X3_at d_pl d_te_sz d_te_e_f) = (107 : Int32)
                    · skip
                      have hq := hq.trans (if_pos c19)
                      refine w_ts (v := 107) (off := 192) (tgt := 211) hx hb dX2_readStatement_19 c19 (by decide) (by decide) rfl (by decide) ?_
                      refine lv_iconst (v := 0) hx hb dX2_readStatement_211 (by decide) ?_
                      exact w_zret hx hb hr hlocks w rfl ⟨rfl, _, hq.symm, rfl, h_d.2, hk⟩ (Nat.le_refl _) (Nat.le_refl _) dX2_readStatement_212
                    · skip
                      have hq := hq.trans (if_neg c19)
                      by_cases c20 : (f_X3_at d_pl d_te_sz d_te_e_f) = (108 : Int32)
                      · skip
                        have hq := hq.trans (if_pos c20)
                        refine w_ts (v := 108) (off := 192) (tgt := 211) hx hb dX2_readStatement_19 c20 (by decide) (by decide) rfl (by decide) ?_
                        refine lv_iconst (v := 0) hx hb dX2_readStatement_211 (by decide) ?_
                        exact w_zret hx hb hr hlocks w rfl ⟨rfl, _, hq.symm, rfl, h_d.2, hk⟩ (Nat.le_refl _) (Nat.le_refl _) dX2_readStatement_212
                      · skip
                        have hq := hq.trans (if_neg c20)
                        by_cases c21 : (f_X3_at d_pl d_te_sz d_te_e_f) = (109 : Int32)
                        · skip
                          have hq := hq.trans (if_pos c21)
                          refine w_ts (v := 109) (off := 192) (tgt := 211) hx hb dX2_readStatement_19 c21 (by decide) (by decide) rfl (by decide) ?_
                          refine lv_iconst (v := 0) hx hb dX2_readStatement_211 (by decide) ?_
                          exact w_zret hx hb hr hlocks w rfl ⟨rfl, _, hq.symm, rfl, h_d.2, hk⟩ (Nat.le_refl _) (Nat.le_refl _) dX2_readStatement_212
                        · skip
                          have hq := hq.trans (if_neg c21)
                          by_cases c22 : (f_X3_at d_pl d_te_sz d_te_e_f) = (110 : Int32)
                          · skip
                            have hq := hq.trans (if_pos c22)
                            refine w_ts (v := 110) (off := 166) (tgt := 185) hx hb dX2_readStatement_19 c22 (by decide) (by decide) rfl (by decide) ?_
                            refine lv_aload_n hx hb dX2_readStatement_185 rfl (lv_at hl 0 rfl) ?_
                            refine lv_aload_n hx hb dX2_readStatement_186 rfl (lv_at hl 0 rfl) ?_
                            refine w_get (v := .int (f_X3_at d_pl d_te_sz d_te_e_f)) hx hb hts i_X2 hown hK w h_d rfl 2 (by decide) (hts _ m_3) rfl dX2_readStatement_187 ?_
                            refine w_finj (w_runV (rm := ({ frames := 1, cells := 0, slots := 0, locals := 21 } : Room)) (As := [.int (f_X3_at d_pl d_te_sz d_te_e_f)]) (rest := []) (n := 1) hx hb hml hts hown hK w (c_X2_takes l D cI cP cS cL L _ d (f_X3_at d_pl d_te_sz d_te_e_f) d_te d_pl (f_X3_at d_pl d_te_sz d_te_e_f) d_fi d_se d_th d_nu d_te_e d_te_so d_te_sz d_te_e_n d_te_e_f h_d h_d_te h_d_te_e hz) gX2_readStatement_X2_takes rfl rfl rfl (by decide +kernel) ⟨(Nat.le_of_ble_eq_true rfl), (Nat.le_of_ble_eq_true rfl)⟩ h_d rfl rfl hl.1 rfl (Nat.le_of_ble_eq_true rfl) dX2_readStatement_190 ⟨(Nat.le_of_ble_eq_true rfl), (Nat.le_of_ble_eq_true rfl)⟩) w hA (fun r9 F1 H locs hp w => ?_)
                            obtain ⟨x190, hx190, hr9, hw0, hk9⟩ := hp
                            subst hr9
                            have hq := hq.trans (w_bnd hx190)
                            have h_d_te := h_d_te.keep hk9 ⟨(wi.ne h_d_te h_d (by intro h; cases h)), trivial⟩
                            have h_d_te_e := h_d_te_e.keep hk9 ⟨(wi.ne h_d_te_e h_d (by intro h; cases h)), trivial⟩
                            have h_d := h_d.new hw0
                            have hk := hk.call hk9 (fun q h => ⟨h.1, trivial⟩)
                            refine lv_if_eq (tgt := 209) hx hb dX2_readStatement_193 (by decide) (fun c23 => ?_) (fun c23 => ?_)
                            · skip
                              have hq := hq.trans (if_pos c23)
                              refine lv_iconst (v := 0) hx hb dX2_readStatement_209 (by decide) ?_
                              exact w_zret hx hb hr hlocks w rfl ⟨rfl, _, hq.symm, rfl, h_d.2, hk⟩ (Nat.le_refl _) (Nat.le_refl _) dX2_readStatement_210
                            · skip
                              have hq := hq.trans (if_neg c23)
                              refine lv_aload_n hx hb dX2_readStatement_196 rfl (lv_at hl 0 rfl) ?_
                              refine lv_bipush (v := 59) hx hb dX2_readStatement_197 (by decide) ?_
                              refine w_finj (w_runV (rm := ({ frames := 1, cells := 0, slots := 0, locals := 21 } : Room)) (As := [.int 59]) (rest := []) (n := 1) hx hb hml hts hown hK w (c_X2_takes l D cI cP cS cL L _ d 59 d_te x190.2 (f_X3_at d_pl d_te_sz d_te_e_f) d_fi d_se d_th d_nu d_te_e d_te_so d_te_sz d_te_e_n d_te_e_f h_d h_d_te h_d_te_e hz) gX2_readStatement_X2_takes rfl rfl rfl (by decide +kernel) ⟨(Nat.le_of_ble_eq_true rfl), (Nat.le_of_ble_eq_true rfl)⟩ h_d rfl rfl hl.1 rfl (Nat.le_of_ble_eq_true rfl) dX2_readStatement_199 ⟨(Nat.le_of_ble_eq_true rfl), (Nat.le_of_ble_eq_true rfl)⟩) w hA (fun r9 F1 H locs hp w => ?_)
                              obtain ⟨x199, hx199, hr9, hw0, hk9⟩ := hp
                              subst hr9
                              have hq := hq.trans (w_bnd hx199)
                              have h_d_te := h_d_te.keep hk9 ⟨(wi.ne h_d_te h_d (by intro h; cases h)), trivial⟩
                              have h_d_te_e := h_d_te_e.keep hk9 ⟨(wi.ne h_d_te_e h_d (by intro h; cases h)), trivial⟩
                              have h_d := h_d.new hw0
                              have hk := hk.call hk9 (fun q h => ⟨h.1, trivial⟩)
                              refine lv_if_eq (tgt := 209) hx hb dX2_readStatement_202 (by decide) (fun c24 => ?_) (fun c24 => ?_)
                              · skip
                                have hq := hq.trans (if_pos c24)
                                refine lv_iconst (v := 0) hx hb dX2_readStatement_209 (by decide) ?_
                                exact w_zret hx hb hr hlocks w rfl ⟨rfl, _, hq.symm, rfl, h_d.2, hk⟩ (Nat.le_refl _) (Nat.le_refl _) dX2_readStatement_210
                              · skip
                                have hq := hq.trans (if_neg c24)
                                refine lv_iconst (v := 1) hx hb dX2_readStatement_205 (by decide) ?_
                                refine lv_goto (tgt := 210) hx hb dX2_readStatement_206 (by decide) ?_
                                exact w_zret hx hb hr hlocks w rfl ⟨rfl, _, hq.symm, rfl, h_d.2, hk⟩ (Nat.le_refl _) (Nat.le_refl _) dX2_readStatement_210
                          · skip
                            have hq := hq.trans (if_neg c22)
                            by_cases c25 : (f_X3_at d_pl d_te_sz d_te_e_f) = (111 : Int32)
                            · skip
                              have hq := hq.trans (if_pos c25)
                              refine w_ts (v := 111) (off := 192) (tgt := 211) hx hb dX2_readStatement_19 c25 (by decide) (by decide) rfl (by decide) ?_
                              refine lv_iconst (v := 0) hx hb dX2_readStatement_211 (by decide) ?_
                              exact w_zret hx hb hr hlocks w rfl ⟨rfl, _, hq.symm, rfl, h_d.2, hk⟩ (Nat.le_refl _) (Nat.le_refl _) dX2_readStatement_212
                            · skip
                              have hq := hq.trans (if_neg c25)
                              by_cases c26 : (f_X3_at d_pl d_te_sz d_te_e_f) = (112 : Int32)
                              · skip
                                have hq := hq.trans (if_pos c26)
                                refine w_ts (v := 112) (off := 73) (tgt := 92) hx hb dX2_readStatement_19 c26 (by decide) (by decide) rfl (by decide) ?_
                                refine lv_aload_n hx hb dX2_readStatement_92 rfl (lv_at hl 0 rfl) ?_
                                refine lv_bipush (v := 112) hx hb dX2_readStatement_93 (by decide) ?_
                                refine w_finj (w_runV (rm := ({ frames := 1, cells := 0, slots := 0, locals := 21 } : Room)) (As := [.int 112]) (rest := []) (n := 1) hx hb hml hts hown hK w (c_X2_takes l D cI cP cS cL L _ d 112 d_te d_pl (f_X3_at d_pl d_te_sz d_te_e_f) d_fi d_se d_th d_nu d_te_e d_te_so d_te_sz d_te_e_n d_te_e_f h_d h_d_te h_d_te_e hz) gX2_readStatement_X2_takes rfl rfl rfl (by decide +kernel) ⟨(Nat.le_of_ble_eq_true rfl), (Nat.le_of_ble_eq_true rfl)⟩ h_d rfl rfl hl.1 rfl (Nat.le_of_ble_eq_true rfl) dX2_readStatement_95 ⟨(Nat.le_of_ble_eq_true rfl), (Nat.le_of_ble_eq_true rfl)⟩) w hA (fun r9 F1 H locs hp w => ?_)
                                obtain ⟨x95, hx95, hr9, hw0, hk9⟩ := hp
                                subst hr9
                                have hq := hq.trans (w_bnd hx95)
                                have h_d_te := h_d_te.keep hk9 ⟨(wi.ne h_d_te h_d (by intro h; cases h)), trivial⟩
                                have h_d_te_e := h_d_te_e.keep hk9 ⟨(wi.ne h_d_te_e h_d (by intro h; cases h)), trivial⟩
                                have h_d := h_d.new hw0
                                have hk := hk.call hk9 (fun q h => ⟨h.1, trivial⟩)
                                refine lv_if_eq (tgt := 121) hx hb dX2_readStatement_98 (by decide) (fun c27 => ?_) (fun c27 => ?_)
                                · skip
                                  have hq := hq.trans (if_pos c27)
                                  refine lv_iconst (v := 0) hx hb dX2_readStatement_121 (by decide) ?_
                                  exact w_zret hx hb hr hlocks w rfl ⟨rfl, _, hq.symm, rfl, h_d.2, hk⟩ (Nat.le_refl _) (Nat.le_refl _) dX2_readStatement_122
                                · skip
                                  have hq := hq.trans (if_neg c27)
                                  refine lv_aload_n hx hb dX2_readStatement_101 rfl (lv_at hl 0 rfl) ?_
                                  refine w_finj (w_runV (rm := ({ frames := 3, cells := 0, slots := 0, locals := 64 } : Room)) (As := []) (rest := []) (n := 0) hx hb hml hts hown hK w (c_X2_readPerson l D cI cP cS cL L _ d d_te x95.2 (f_X3_at d_pl d_te_sz d_te_e_f) d_fi d_se d_th d_nu d_te_e d_te_so d_te_sz d_te_e_n d_te_e_f h_d h_d_te h_d_te_e hz) gX2_readStatement_X2_readPerson rfl rfl rfl (by decide +kernel) ⟨(Nat.le_of_ble_eq_true rfl), (Nat.le_of_ble_eq_true rfl)⟩ h_d rfl rfl hl.1 rfl (Nat.le_of_ble_eq_true rfl) dX2_readStatement_102 ⟨(Nat.le_of_ble_eq_true rfl), (Nat.le_of_ble_eq_true rfl)⟩) w hA (fun r9 F1 H locs hp w => ?_)
                                  obtain ⟨x102, hx102, hr9, hw0, hk9⟩ := hp
                                  subst hr9
                                  have hq := hq.trans (w_bnd hx102)
                                  have h_d_te := h_d_te.keep hk9 ⟨(wi.ne h_d_te h_d (by intro h; cases h)), trivial⟩
                                  have h_d_te_e := h_d_te_e.keep hk9 ⟨(wi.ne h_d_te_e h_d (by intro h; cases h)), trivial⟩
                                  have h_d := h_d.new hw0
                                  have hk := hk.call hk9 (fun q h => ⟨h.1, trivial⟩)
                                  refine lv_if_eq (tgt := 121) hx hb dX2_readStatement_105 (by decide) (fun c28 => ?_) (fun c28 => ?_)
                                  · skip
                                    have hq := hq.trans (if_pos c28)
                                    refine lv_iconst (v := 0) hx hb dX2_readStatement_121 (by decide) ?_
                                    exact w_zret hx hb hr hlocks w rfl ⟨rfl, _, hq.symm, rfl, h_d.2, hk⟩ (Nat.le_refl _) (Nat.le_refl _) dX2_readStatement_122
                                  · skip
                                    have hq := hq.trans (if_neg c28)
                                    refine lv_aload_n hx hb dX2_readStatement_108 rfl (lv_at hl 0 rfl) ?_
                                    refine lv_bipush (v := 59) hx hb dX2_readStatement_109 (by decide) ?_
                                    refine w_finj (w_runV (rm := ({ frames := 1, cells := 0, slots := 0, locals := 21 } : Room)) (As := [.int 59]) (rest := []) (n := 1) hx hb hml hts hown hK w (c_X2_takes l D cI cP cS cL L _ d 59 d_te x102.2.1 (f_X3_at d_pl d_te_sz d_te_e_f) x102.2.2.1 x102.2.2.2.1 x102.2.2.2.2.1 x102.2.2.2.2.2 d_te_e d_te_so d_te_sz d_te_e_n d_te_e_f h_d h_d_te h_d_te_e hz) gX2_readStatement_X2_takes rfl rfl rfl (by decide +kernel) ⟨(Nat.le_of_ble_eq_true rfl), (Nat.le_of_ble_eq_true rfl)⟩ h_d rfl rfl hl.1 rfl (Nat.le_of_ble_eq_true rfl) dX2_readStatement_111 ⟨(Nat.le_of_ble_eq_true rfl), (Nat.le_of_ble_eq_true rfl)⟩) w hA (fun r9 F1 H locs hp w => ?_)
                                    obtain ⟨x111, hx111, hr9, hw0, hk9⟩ := hp
                                    subst hr9
                                    have hq := hq.trans (w_bnd hx111)
                                    have h_d_te := h_d_te.keep hk9 ⟨(wi.ne h_d_te h_d (by intro h; cases h)), trivial⟩
                                    have h_d_te_e := h_d_te_e.keep hk9 ⟨(wi.ne h_d_te_e h_d (by intro h; cases h)), trivial⟩
                                    have h_d := h_d.new hw0
                                    have hk := hk.call hk9 (fun q h => ⟨h.1, trivial⟩)
                                    refine lv_if_eq (tgt := 121) hx hb dX2_readStatement_114 (by decide) (fun c29 => ?_) (fun c29 => ?_)
                                    · skip
                                      have hq := hq.trans (if_pos c29)
                                      refine lv_iconst (v := 0) hx hb dX2_readStatement_121 (by decide) ?_
                                      exact w_zret hx hb hr hlocks w rfl ⟨rfl, _, hq.symm, rfl, h_d.2, hk⟩ (Nat.le_refl _) (Nat.le_refl _) dX2_readStatement_122
                                    · skip
                                      have hq := hq.trans (if_neg c29)
                                      refine lv_iconst (v := 1) hx hb dX2_readStatement_117 (by decide) ?_
                                      refine lv_goto (tgt := 122) hx hb dX2_readStatement_118 (by decide) ?_
                                      exact w_zret hx hb hr hlocks w rfl ⟨rfl, _, hq.symm, rfl, h_d.2, hk⟩ (Nat.le_refl _) (Nat.le_refl _) dX2_readStatement_122
                              · skip
                                have hq := hq.trans (if_neg c26)
                                refine lv_tableOut (tgt := 211) hx hb dX2_readStatement_19 (by have q0 : ¬ (f_X3_at d_pl d_te_sz d_te_e_f).toInt = 98 := w_ne c2 rfl; have q1 : ¬ (f_X3_at d_pl d_te_sz d_te_e_f).toInt = 99 := w_ne c5 rfl; have q2 : ¬ (f_X3_at d_pl d_te_sz d_te_e_f).toInt = 100 := w_ne c6 rfl; have q3 : ¬ (f_X3_at d_pl d_te_sz d_te_e_f).toInt = 101 := w_ne c7 rfl; have q4 : ¬ (f_X3_at d_pl d_te_sz d_te_e_f).toInt = 102 := w_ne c8 rfl; have q5 : ¬ (f_X3_at d_pl d_te_sz d_te_e_f).toInt = 103 := w_ne c9 rfl; have q6 : ¬ (f_X3_at d_pl d_te_sz d_te_e_f).toInt = 104 := w_ne c13 rfl; have q7 : ¬ (f_X3_at d_pl d_te_sz d_te_e_f).toInt = 105 := w_ne c17 rfl; have q8 : ¬ (f_X3_at d_pl d_te_sz d_te_e_f).toInt = 106 := w_ne c18 rfl; have q9 : ¬ (f_X3_at d_pl d_te_sz d_te_e_f).toInt = 107 := w_ne c19 rfl; have q10 : ¬ (f_X3_at d_pl d_te_sz d_te_e_f).toInt = 108 := w_ne c20 rfl; have q11 : ¬ (f_X3_at d_pl d_te_sz d_te_e_f).toInt = 109 := w_ne c21 rfl; have q12 : ¬ (f_X3_at d_pl d_te_sz d_te_e_f).toInt = 110 := w_ne c22 rfl; have q13 : ¬ (f_X3_at d_pl d_te_sz d_te_e_f).toInt = 111 := w_ne c25 rfl; have q14 : ¬ (f_X3_at d_pl d_te_sz d_te_e_f).toInt = 112 := w_ne c26 rfl; omega) (by decide) ?_
                                refine lv_iconst (v := 0) hx hb dX2_readStatement_211 (by decide) ?_
                                exact w_zret hx hb hr hlocks w rfl ⟨rfl, _, hq.symm, rfl, h_d.2, hk⟩ (Nat.le_refl _) (Nat.le_refl _) dX2_readStatement_212
def f_X2_countStatements_L4 (d_te_sz : Int32) (d_te_e_f : Nat → Int32) : Nat → Nat → Int32 → (Int32) → (Int32) → (Int32) → (Int32) → (Int32) → (Int32) → Int32 × Int32 × Int32 × Int32 × Int32 × Int32 × Int32
  | 0, _, _, _, _, _, _, _, _ => (0, 0, 0, 0, 0, 0, 0)
  | n + 1, k, v1, u_d_pl, u_d_le, u_d_fi, u_d_se, u_d_th, u_d_nu => if (100 : Int32) ≤ (nI k) then (v1, u_d_pl, u_d_le, u_d_fi, u_d_se, u_d_th, u_d_nu) else (bnd (f_X2_readStatement u_d_pl u_d_fi u_d_se u_d_th u_d_nu d_te_sz d_te_e_f) (fun x11 : Int32 × Int32 × Int32 × Int32 × Int32 × Int32 × Int32 => if x11.1 = (0 : Int32) then (0, x11.2.1, x11.2.2.1, x11.2.2.2.1, x11.2.2.2.2.1, x11.2.2.2.2.2.1, x11.2.2.2.2.2.2) else (if x11.2.1 < d_te_sz then (f_X2_countStatements_L4 d_te_sz d_te_e_f n ((k + 1)) (v1 + 1) x11.2.1 x11.2.2.1 x11.2.2.2.1 x11.2.2.2.2.1 x11.2.2.2.2.2.1 x11.2.2.2.2.2.2) else ((v1 + 1), x11.2.1, x11.2.2.1, x11.2.2.2.1, x11.2.2.2.2.1, x11.2.2.2.2.2.1, x11.2.2.2.2.2.2))))
theorem f_X2_countStatements_L4_s (d_te_sz : Int32) (d_te_e_f : Nat → Int32) (n k : Nat) (v1 : Int32) (u_d_pl : Int32) (u_d_le : Int32) (u_d_fi : Int32) (u_d_se : Int32) (u_d_th : Int32) (u_d_nu : Int32) : f_X2_countStatements_L4 d_te_sz d_te_e_f (n + 1) k v1 u_d_pl u_d_le u_d_fi u_d_se u_d_th u_d_nu = (if (100 : Int32) ≤ (nI k) then (v1, u_d_pl, u_d_le, u_d_fi, u_d_se, u_d_th, u_d_nu) else (bnd (f_X2_readStatement u_d_pl u_d_fi u_d_se u_d_th u_d_nu d_te_sz d_te_e_f) (fun x11 : Int32 × Int32 × Int32 × Int32 × Int32 × Int32 × Int32 => if x11.1 = (0 : Int32) then (0, x11.2.1, x11.2.2.1, x11.2.2.2.1, x11.2.2.2.2.1, x11.2.2.2.2.2.1, x11.2.2.2.2.2.2) else (if x11.2.1 < d_te_sz then (f_X2_countStatements_L4 d_te_sz d_te_e_f n ((k + 1)) (v1 + 1) x11.2.1 x11.2.2.1 x11.2.2.2.1 x11.2.2.2.2.1 x11.2.2.2.2.2.1 x11.2.2.2.2.2.2) else ((v1 + 1), x11.2.1, x11.2.2.1, x11.2.2.2.1, x11.2.2.2.2.1, x11.2.2.2.2.2.1, x11.2.2.2.2.2.2))))) := rfl
def f_X2_countStatements (d_pl : Int32) (d_le : Int32) (d_fi : Int32) (d_se : Int32) (d_th : Int32) (d_nu : Int32) (d_te_sz : Int32) (d_te_e_f : Nat → Int32) : Int32 × Int32 × Int32 × Int32 × Int32 × Int32 × Int32 := f_X2_countStatements_L4 d_te_sz d_te_e_f (100 + 1) 0 0 d_pl d_le d_fi d_se d_th d_nu
set_option maxHeartbeats 400000 in
set_option maxRecDepth 100000 in
theorem c_X2_countStatements (l : Launch) (D : va_G) (cI cP cS cL : ClassId) (L : List Nat) (F : Nat → va_E) (d : Nat) (d_te : Nat) (d_pl : Int32) (d_le : Int32) (d_fi : Int32) (d_se : Int32) (d_th : Int32) (d_nu : Int32) (d_te_e : Nat) (d_te_so : Int32) (d_te_sz : Int32) (d_te_e_n : Nat) (d_te_e_f : Nat → Int32) (h_d : wi L F d (eD d_te d_pl d_le d_fi d_se d_th d_nu)) (h_d_te : wi L F d_te (eR d_te_e d_te_so d_te_sz)) (h_d_te_e : wi L F d_te_e (eI cI d_te_e_n d_te_e_f)) (hz : d_te_sz.toInt ≤ d_te_e_n) : wMj l D cI cP cS cL yX2_countStatements wsX2_countStatements ({ frames := 5, cells := 0, slots := 0, locals := 104 } : Room) [.ref d] L F (fun r1 F1 => ∃ y9 : Int32 × Int32 × Int32 × Int32 × Int32 × Int32 × Int32, y9 = (f_X2_countStatements d_pl d_le d_fi d_se d_th d_nu d_te_sz d_te_e_f) ∧ r1 = y9.1 ∧ F1 d = (eD d_te y9.2.1 y9.2.2.1 y9.2.2.2.1 y9.2.2.2.2.1 y9.2.2.2.2.2.1 y9.2.2.2.2.2.2) ∧ wk (fun q : Nat => q ≠ d ∧ True) F1 F) := by
  refine wM.of (cc := cX2_countStatements) (maxL := 3) (ret := (some .int)) (by decide) rfl (Nat.le_of_ble_eq_true rfl) ?_
  intro pZ eZ sZ mZ below meth cZ A ls C hl w
  obtain ⟨hx, hb, hr, hml, hts, hown, hlocks, hK, hA, hin⟩ := C
  have hown : sZ.vm.findClass RX2 = some mZ.cls := hown
  have hl : lv_has ls 3 [(0, .ref d)] := hl
  have m_0 : ((.fieldLink RX2 19 "TwoThirds$Reader" "place" "I") : Cond) ∈ wsX2_countStatements := by decide +kernel
  have i_X2 : ∀ w ∈ wsX20, w ∈ wsX2_countStatements := by decide +kernel
  have m_2 : ((.fieldLink RX2 9 "TwoThirds$Reader" "text" "LTwoThirds$Row;") : Cond) ∈ wsX2_countStatements := by decide +kernel
  have m_3 : ((.fieldLink RX2 23 "TwoThirds$Row" "size" "I") : Cond) ∈ wsX2_countStatements := by decide +kernel
  have i_X3 : ∀ w ∈ wsX30, w ∈ wsX2_countStatements := by decide +kernel
  have hk : wk (fun q : Nat => q ≠ d ∧ True) F F := wk.rf
  have hq : f_X2_countStatements d_pl d_le d_fi d_se d_th d_nu d_te_sz d_te_e_f = f_X2_countStatements d_pl d_le d_fi d_se d_th d_nu d_te_sz d_te_e_f := rfl
  refine lv_iconst (v := 0) hx hb dX2_countStatements_0 (by decide) ?_
  refine lv_istore_n (lv' := [(1, .int 0), (0, .ref d)]) hx hb dX2_countStatements_1 rfl hl (by decide) rfl (fun ls hl => ?_)
  refine lv_iconst (v := 0) hx hb dX2_countStatements_2 (by decide) ?_
  refine lv_istore_n (lv' := [(2, .int 0), (1, .int 0), (0, .ref d)]) hx hb dX2_countStatements_3 rfl hl (by decide) rfl (fun ls hl => ?_)
  have hL4 : ∀ (n k : Nat) (v1 : Int32) (u_d_pl : Int32) (u_d_le : Int32) (u_d_fi : Int32) (u_d_se : Int32) (u_d_th : Int32) (u_d_nu : Int32) (F1 : Nat → va_E) (H : Heap) (locs : List Loc) (ls : Array Slot), k ≤ 100 → 100 - k < n → f_X2_countStatements d_pl d_le d_fi d_se d_th d_nu d_te_sz d_te_e_f = f_X2_countStatements_L4 d_te_sz d_te_e_f n k v1 u_d_pl u_d_le u_d_fi u_d_se u_d_th u_d_nu → lv_has ls 3 [(0, .ref d), (1, .int v1), (2, .int (nI k))] → ww D A sZ.heap L F1 H locs → (wi L F1 d (eD d_te u_d_pl u_d_le u_d_fi u_d_se u_d_th u_d_nu)) → (wi L F1 d_te (eR d_te_e d_te_so d_te_sz)) → (wi L F1 d_te_e (eI cI d_te_e_n d_te_e_f)) → wk (fun q : Nat => q ≠ d ∧ True) F1 F → W pZ l eZ ({ frames := 5, cells := 0, slots := 0, locals := 104 } : Room) sZ mZ [.ref d].toArray below meth cZ H locs 0 0 (MQ below (wQi D A (fun r1 L1 F1 => L1 = L ∧ ∃ y9 : Int32 × Int32 × Int32 × Int32 × Int32 × Int32 × Int32, y9 = (f_X2_countStatements d_pl d_le d_fi d_se d_th d_nu d_te_sz d_te_e_f) ∧ r1 = y9.1 ∧ F1 d = (eD d_te y9.2.1 y9.2.2.1 y9.2.2.2.1 y9.2.2.2.2.1 y9.2.2.2.2.2.1 y9.2.2.2.2.2.2) ∧ wk (fun q : Nat => q ≠ d ∧ True) F1 F)) [.ref d].toArray sZ 0 0 A) (F0 mZ 4 ls []) := by
    intro n; induction n with
    | zero => intro k v1 u_d_pl u_d_le u_d_fi u_d_se u_d_th u_d_nu F1 H locs ls hkT hmeas; exact absurd hmeas (Nat.not_lt_zero _)
    | succ n ih =>
      intro k v1 u_d_pl u_d_le u_d_fi u_d_se u_d_th u_d_nu F1 H locs ls hkT hmeas hq hl w h_d h_d_te h_d_te_e hk
      have hk31 : k < 2147483648 := by omega
      have hq := hq.trans (f_X2_countStatements_L4_s d_te_sz d_te_e_f n k v1 u_d_pl u_d_le u_d_fi u_d_se u_d_th u_d_nu)
      refine lv_iload_n hx hb dX2_countStatements_4 rfl (lv_at hl 2 rfl) ?_
      refine lv_bipush (v := 100) hx hb dX2_countStatements_5 (by decide) ?_
      refine lv_icmp_ge (tgt := 44) hx hb dX2_countStatements_7 (by decide) (fun c1 => ?_) (fun c1 => ?_)
      · skip
        have hq := hq.trans (if_pos c1)
        refine lv_iload_n hx hb dX2_countStatements_44 rfl (lv_at hl 1 rfl) ?_
        exact w_iret hx hb hr hlocks w ⟨rfl, _, hq.symm, rfl, h_d.2, hk⟩ (Nat.le_refl _) (Nat.le_refl _) dX2_countStatements_45
      · skip
        have hq := hq.trans (if_neg c1)
        have hlt7 : k < 100 := w_ltk hk31 c1
        refine lv_aload_n hx hb dX2_countStatements_10 rfl (lv_at hl 0 rfl) ?_
        refine w_finj (w_runV (rm := ({ frames := 4, cells := 0, slots := 0, locals := 84 } : Room)) (As := []) (rest := []) (n := 0) hx hb hml hts hown hK w (c_X2_readStatement l D cI cP cS cL L _ d d_te u_d_pl u_d_le u_d_fi u_d_se u_d_th u_d_nu d_te_e d_te_so d_te_sz d_te_e_n d_te_e_f h_d h_d_te h_d_te_e hz) gX2_countStatements_X2_readStatement rfl rfl rfl (by decide +kernel) ⟨(Nat.le_of_ble_eq_true rfl), (Nat.le_of_ble_eq_true rfl)⟩ h_d rfl rfl hl.1 rfl (Nat.le_of_ble_eq_true rfl) dX2_countStatements_11 ⟨(Nat.le_of_ble_eq_true rfl), (Nat.le_of_ble_eq_true rfl)⟩) w hA (fun r9 F1 H locs hp w => ?_)
        obtain ⟨x11, hx11, hr9, hw0, hk9⟩ := hp
        subst hr9
        have hq := hq.trans (w_bnd hx11)
        have h_d_te := h_d_te.keep hk9 ⟨(wi.ne h_d_te h_d (by intro h; cases h)), trivial⟩
        have h_d_te_e := h_d_te_e.keep hk9 ⟨(wi.ne h_d_te_e h_d (by intro h; cases h)), trivial⟩
        have h_d := h_d.new hw0
        have hk := hk.call hk9 (fun q h => ⟨h.1, trivial⟩)
        refine lv_if_ne (tgt := 19) hx hb dX2_countStatements_14 (by decide) (fun c2 => ?_) (fun c2 => ?_)
        · skip
          have hq := hq.trans (if_neg c2)
          refine lv_iinc (v := (v1 + 1)) (lv' := [(1, .int (v1 + 1)), (0, .ref d), (2, .int (nI k))]) hx hb dX2_countStatements_19 hl (k := 1) rfl rfl (by decide) rfl (fun ls hl => ?_)
          refine lv_aload_n hx hb dX2_countStatements_22 rfl (lv_at hl 1 rfl) ?_
          refine w_get (v := .int x11.2.1) hx hb hts i_X2 hown hK w h_d rfl 1 (by decide) (hts _ m_0) rfl dX2_countStatements_23 ?_
          refine lv_aload_n hx hb dX2_countStatements_26 rfl (lv_at hl 1 rfl) ?_
          refine w_get (v := .ref d_te) hx hb hts i_X2 hown hK w h_d rfl 0 (by decide) (hts _ m_2) rfl dX2_countStatements_27 ?_
          refine w_get (v := .int d_te_sz) hx hb hts i_X3 hown hK w h_d_te rfl 2 (by decide) (hts _ m_3) rfl dX2_countStatements_30 ?_
          refine lv_icmp_lt (tgt := 38) hx hb dX2_countStatements_33 (by decide) (fun c3 => ?_) (fun c3 => ?_)
          · skip
            have hq := hq.trans (if_pos c3)
            refine lv_iinc (v := (nI (k + 1))) (lv' := [(2, .int (nI (k + 1))), (1, .int (v1 + 1)), (0, .ref d)]) hx hb dX2_countStatements_38 hl (k := 2) rfl (w_inc _) (by decide) rfl (fun ls hl => ?_)
            refine lv_goto (tgt := 4) hx hb dX2_countStatements_41 (by decide) ?_
            exact ih ((k + 1)) (v1 + 1) x11.2.1 x11.2.2.1 x11.2.2.2.1 x11.2.2.2.2.1 x11.2.2.2.2.2.1 x11.2.2.2.2.2.2 _ _ _ _ (by omega) (by omega) hq (lv_sub hl [2, 1, 0] rfl) w h_d h_d_te h_d_te_e hk
          · skip
            have hq := hq.trans (if_neg c3)
            refine lv_iload_n hx hb dX2_countStatements_36 rfl (lv_at hl 0 rfl) ?_
            exact w_iret hx hb hr hlocks w ⟨rfl, _, hq.symm, rfl, h_d.2, hk⟩ (Nat.le_refl _) (Nat.le_refl _) dX2_countStatements_37
        · skip
          have hq := hq.trans (if_pos c2)
          refine lv_iconst (v := 0) hx hb dX2_countStatements_17 (by decide) ?_
          exact w_iret hx hb hr hlocks w ⟨rfl, _, hq.symm, rfl, h_d.2, hk⟩ (Nat.le_refl _) (Nat.le_refl _) dX2_countStatements_18
  exact hL4 (100 + 1) 0 0 d_pl d_le d_fi d_se d_th d_nu _ _ _ _ (Nat.zero_le _) (by omega) hq (lv_sub hl [2, 1, 0] rfl) w h_d h_d_te h_d_te_e hk
def f_X0_follows (g_up : Int32) (g_down : Int32) (g_high : Int32) (g_prize : Int32) (g_z : Int32) (g_rounds : Int32) (g_people : Int32) (d_le : Int32) (d_fi : Int32) (d_se : Int32) (d_th : Int32) (pr_nu : Nat → Int32) (pr_ki : Nat → Int32) (pr_st : Nat → Int32) (pr_sl : Nat → Int32) : Int32 × Int32 × Int32 × Int32 × Int32 × Int32 × Int32 × (Nat → Int32) × (Nat → Int32) × (Nat → Int32) × (Nat → Int32) := if g_rounds ≤ (0 : Int32) then (if d_le = (98 : Int32) then (bnd (f_X0_changeIfCanBe 3 1 g_up g_down g_high g_prize g_z) (fun x116 : Int32 × Int32 × Int32 × Int32 × Int32 × Int32 => (x116.1, x116.2.1, x116.2.2.1, x116.2.2.2.1, x116.2.2.2.2.1, x116.2.2.2.2.2, g_people, pr_nu, pr_ki, pr_st, pr_sl))) else (if d_le = (103 : Int32) then (bnd (f_X0_changeIfCanBe 0 d_fi g_up g_down g_high g_prize g_z) (fun x79 : Int32 × Int32 × Int32 × Int32 × Int32 × Int32 => if x79.1 = (0 : Int32) then (0, x79.2.1, x79.2.2.1, x79.2.2.2.1, x79.2.2.2.2.1, x79.2.2.2.2.2, g_people, pr_nu, pr_ki, pr_st, pr_sl) else (bnd (f_X0_changeIfCanBe 1 d_se x79.2.1 x79.2.2.1 x79.2.2.2.1 x79.2.2.2.2.1 x79.2.2.2.2.2) (fun x91 : Int32 × Int32 × Int32 × Int32 × Int32 × Int32 => if x91.1 = (0 : Int32) then (0, x91.2.1, x91.2.2.1, x91.2.2.2.1, x91.2.2.2.2.1, x91.2.2.2.2.2, g_people, pr_nu, pr_ki, pr_st, pr_sl) else (1, x91.2.1, x91.2.2.1, x91.2.2.2.1, x91.2.2.2.2.1, x91.2.2.2.2.2, g_people, pr_nu, pr_ki, pr_st, pr_sl))))) else (if d_le = (104 : Int32) then (bnd (f_X0_changeIfCanBe 2 d_fi g_up g_down g_high g_prize g_z) (fun x109 : Int32 × Int32 × Int32 × Int32 × Int32 × Int32 => (x109.1, x109.2.1, x109.2.2.1, x109.2.2.2.1, x109.2.2.2.2.1, x109.2.2.2.2.2, g_people, pr_nu, pr_ki, pr_st, pr_sl))) else (if d_le = (112 : Int32) then (bnd (f_X0_addPerson d_fi d_se d_th g_people pr_nu pr_ki pr_st pr_sl) (fun x69 : Int32 × Int32 × (Nat → Int32) × (Nat → Int32) × (Nat → Int32) × (Nat → Int32) => (x69.1, g_up, g_down, g_high, g_prize, g_z, x69.2.1, x69.2.2.1, x69.2.2.2.1, x69.2.2.2.2.1, x69.2.2.2.2.2))) else (bnd (f_X0_changeIfCanBe 3 0 g_up g_down g_high g_prize g_z) (fun x123 : Int32 × Int32 × Int32 × Int32 × Int32 × Int32 => (x123.1, x123.2.1, x123.2.2.1, x123.2.2.2.1, x123.2.2.2.2.1, x123.2.2.2.2.2, g_people, pr_nu, pr_ki, pr_st, pr_sl))))))) else (0, g_up, g_down, g_high, g_prize, g_z, g_people, pr_nu, pr_ki, pr_st, pr_sl)
theorem z_X0_follows (g_up : Int32) (g_down : Int32) (g_high : Int32) (g_prize : Int32) (g_z : Int32) (g_rounds : Int32) (g_people : Int32) (d_le : Int32) (d_fi : Int32) (d_se : Int32) (d_th : Int32) (pr_nu : Nat → Int32) (pr_ki : Nat → Int32) (pr_st : Nat → Int32) (pr_sl : Nat → Int32) : (f_X0_follows g_up g_down g_high g_prize g_z g_rounds g_people d_le d_fi d_se d_th pr_nu pr_ki pr_st pr_sl).1 = 0 ∨ (f_X0_follows g_up g_down g_high g_prize g_z g_rounds g_people d_le d_fi d_se d_th pr_nu pr_ki pr_st pr_sl).1 = 1 := by
  unfold f_X0_follows
  try simp only [bnd]
  repeat' split
  all_goals first | exact Or.inl rfl | exact Or.inr rfl | exact z_X0_addPerson _ _ _ _ _ _ _ _ | exact z_X0_changeIfCanBe _ _ _ _ _ _ _
set_option maxHeartbeats 400000 in
set_option maxRecDepth 100000 in
theorem c_X0_follows (l : Launch) (D : va_G) (cI cP cS cL : ClassId) (L : List Nat) (F : Nat → va_E) (g : Nat) (d : Nat) (g_up : Int32) (g_down : Int32) (g_high : Int32) (g_prize : Int32) (g_z : Int32) (g_rounds : Int32) (g_people : Int32) (g_pa : Nat) (g_cr : Nat) (g_ls : Int32) (d_te : Nat) (d_pl : Int32) (d_le : Int32) (d_fi : Int32) (d_se : Int32) (d_th : Int32) (d_nu : Int32) (pr : Nat → Nat) (pr_nu : Nat → Int32) (pr_ki : Nat → Int32) (pr_st : Nat → Int32) (pr_sl : Nat → Int32) (h_g : wi L F g (eG g_up g_down g_high g_prize g_z g_rounds g_people g_pa g_cr g_ls)) (h_g_pa : wi L F g_pa (eQ cP 12 (fun i => some (pr i)))) (h_d : wi L F d (eD d_te d_pl d_le d_fi d_se d_th d_nu)) (h_pr : ∀ i, i < 12 → wi L F (pr i) (eP (pr_nu i) (pr_ki i) (pr_st i) (pr_sl i))) (hp0 : 0 ≤ g_people.toInt) (hinj_pr : ∀ i k, i < 12 → k < 12 → pr i = pr k → i = k) : wMj l D cI cP cS cL yX0_follows wsX0_follows ({ frames := 3, cells := 0, slots := 0, locals := 63 } : Room) [.ref g, .ref d] L F (fun r1 F1 => ∃ y9 : Int32 × Int32 × Int32 × Int32 × Int32 × Int32 × Int32 × (Nat → Int32) × (Nat → Int32) × (Nat → Int32) × (Nat → Int32), y9 = (f_X0_follows g_up g_down g_high g_prize g_z g_rounds g_people d_le d_fi d_se d_th pr_nu pr_ki pr_st pr_sl) ∧ r1 = y9.1 ∧ F1 g = (eG y9.2.1 y9.2.2.1 y9.2.2.2.1 y9.2.2.2.2.1 y9.2.2.2.2.2.1 g_rounds y9.2.2.2.2.2.2.1 g_pa g_cr g_ls) ∧ (∀ i, i < 12 → F1 (pr i) = (eP (y9.2.2.2.2.2.2.2.1 i) (y9.2.2.2.2.2.2.2.2.1 i) (y9.2.2.2.2.2.2.2.2.2.1 i) (y9.2.2.2.2.2.2.2.2.2.2 i))) ∧ wk (fun q : Nat => q ≠ g ∧ (∀ i, i < 12 → q ≠ pr i) ∧ True) F1 F) := by
  refine wM.of (cc := cX0_follows) (maxL := 2) (ret := (some .boolean)) (by decide) rfl (Nat.le_of_ble_eq_true rfl) ?_
  intro pZ eZ sZ mZ below meth cZ A ls C hl w
  obtain ⟨hx, hb, hr, hml, hts, hown, hlocks, hK, hA, hin⟩ := C
  have hown : sZ.vm.findClass RX0 = some mZ.cls := hown
  have hl : lv_has ls 2 [(0, .ref g), (1, .ref d)] := hl
  have m_0 : ((.fieldLink RX0 43 "TwoThirds$Game" "rounds" "I") : Cond) ∈ wsX0_follows := by decide +kernel
  have i_X0 : ∀ w ∈ wsX00, w ∈ wsX0_follows := by decide +kernel
  have m_2 : ((.fieldLink RX0 66 "TwoThirds$Reader" "letter" "I") : Cond) ∈ wsX0_follows := by decide +kernel
  have i_X2 : ∀ w ∈ wsX20, w ∈ wsX0_follows := by decide +kernel
  have m_4 : ((.fieldLink RX0 71 "TwoThirds$Reader" "first" "I") : Cond) ∈ wsX0_follows := by decide +kernel
  have m_5 : ((.fieldLink RX0 74 "TwoThirds$Reader" "second" "I") : Cond) ∈ wsX0_follows := by decide +kernel
  have m_6 : ((.fieldLink RX0 77 "TwoThirds$Reader" "third" "I") : Cond) ∈ wsX0_follows := by decide +kernel
  have hk : wk (fun q : Nat => q ≠ g ∧ (∀ i, i < 12 → q ≠ pr i) ∧ True) F F := wk.rf
  have hq : f_X0_follows g_up g_down g_high g_prize g_z g_rounds g_people d_le d_fi d_se d_th pr_nu pr_ki pr_st pr_sl = f_X0_follows g_up g_down g_high g_prize g_z g_rounds g_people d_le d_fi d_se d_th pr_nu pr_ki pr_st pr_sl := rfl
  refine lv_aload_n hx hb dX0_follows_0 rfl (lv_at hl 0 rfl) ?_
  refine w_get (v := .int g_rounds) hx hb hts i_X0 hown hK w h_g rfl 5 (by decide) (hts _ m_0) rfl dX0_follows_1 ?_
  refine lv_if_le (tgt := 9) hx hb dX0_follows_4 (by decide) (fun c1 => ?_) (fun c1 => ?_)
  · skip
    have hq := hq.trans (if_pos c1)
    refine lv_aload_n hx hb dX0_follows_9 rfl (lv_at hl 1 rfl) ?_
    refine w_get (v := .int d_le) hx hb hts i_X2 hown hK w h_d rfl 2 (by decide) (hts _ m_2) rfl dX0_follows_10 ?_
    by_cases c2 : d_le = (98 : Int32)
    · skip
      have hq := hq.trans (if_pos c2)
      refine lv_lookup (off := 100) (tgt := 113) hx hb dX0_follows_13 (by decide) (by rw [c2]; rfl) (by decide) ?_
      refine lv_aload_n hx hb dX0_follows_113 rfl (lv_at hl 0 rfl) ?_
      refine lv_iconst (v := 3) hx hb dX0_follows_114 (by decide) ?_
      refine lv_iconst (v := 1) hx hb dX0_follows_115 (by decide) ?_
      refine w_finj (w_runV (rm := ({ frames := 2, cells := 0, slots := 0, locals := 41 } : Room)) (As := [.int 3, .int 1]) (rest := []) (n := 2) hx hb hml hts hown hK w (c_X0_changeIfCanBe l D cI cP cS cL L _ g 3 1 g_up g_down g_high g_prize g_z g_rounds g_people g_pa g_cr g_ls h_g) gX0_follows_X0_changeIfCanBe rfl rfl rfl (by decide +kernel) ⟨(Nat.le_of_ble_eq_true rfl), (Nat.le_of_ble_eq_true rfl)⟩ h_g rfl rfl hl.1 rfl (Nat.le_of_ble_eq_true rfl) dX0_follows_116 ⟨(Nat.le_of_ble_eq_true rfl), (Nat.le_of_ble_eq_true rfl)⟩) w hA (fun r9 F1 H locs hp w => ?_)
      obtain ⟨x116, hx116, hr9, hw0, hk9⟩ := hp
      subst hr9
      have hq := hq.trans (w_bnd hx116)
      have h_g_pa := h_g_pa.keep hk9 ⟨(wi.ne h_g_pa h_g (by intro h; cases h)), trivial⟩
      have h_d := h_d.keep hk9 ⟨(wi.ne h_d h_g (by intro h; cases h)), trivial⟩
      have h_pr := fun i (hi : i < 12) => (h_pr i hi).keep hk9 ⟨(wi.ne (h_pr i hi) h_g (by intro h; cases h)), trivial⟩
      have h_g := h_g.new hw0
      have hk := hk.call hk9 (fun q h => ⟨h.1, trivial⟩)
      exact w_zret hx hb hr hlocks w (w_nb (by rw [hx116]; exact z_X0_changeIfCanBe _ _ _ _ _ _ _)) ⟨rfl, _, hq.symm, rfl, h_g.2, (fun i hi => (h_pr i hi).2), hk⟩ (Nat.le_refl _) (Nat.le_refl _) dX0_follows_119
    · skip
      have hq := hq.trans (if_neg c2)
      by_cases c3 : d_le = (103 : Int32)
      · skip
        have hq := hq.trans (if_pos c3)
        refine lv_lookup (off := 60) (tgt := 73) hx hb dX0_follows_13 (by decide) (by rw [c3]; rfl) (by decide) ?_
        refine lv_aload_n hx hb dX0_follows_73 rfl (lv_at hl 0 rfl) ?_
        refine lv_iconst (v := 0) hx hb dX0_follows_74 (by decide) ?_
        refine lv_aload_n hx hb dX0_follows_75 rfl (lv_at hl 1 rfl) ?_
        refine w_get (v := .int d_fi) hx hb hts i_X2 hown hK w h_d rfl 3 (by decide) (hts _ m_4) rfl dX0_follows_76 ?_
        refine w_finj (w_runV (rm := ({ frames := 2, cells := 0, slots := 0, locals := 41 } : Room)) (As := [.int 0, .int d_fi]) (rest := []) (n := 2) hx hb hml hts hown hK w (c_X0_changeIfCanBe l D cI cP cS cL L _ g 0 d_fi g_up g_down g_high g_prize g_z g_rounds g_people g_pa g_cr g_ls h_g) gX0_follows_X0_changeIfCanBe rfl rfl rfl (by decide +kernel) ⟨(Nat.le_of_ble_eq_true rfl), (Nat.le_of_ble_eq_true rfl)⟩ h_g rfl rfl hl.1 rfl (Nat.le_of_ble_eq_true rfl) dX0_follows_79 ⟨(Nat.le_of_ble_eq_true rfl), (Nat.le_of_ble_eq_true rfl)⟩) w hA (fun r9 F1 H locs hp w => ?_)
        obtain ⟨x79, hx79, hr9, hw0, hk9⟩ := hp
        subst hr9
        have hq := hq.trans (w_bnd hx79)
        have h_g_pa := h_g_pa.keep hk9 ⟨(wi.ne h_g_pa h_g (by intro h; cases h)), trivial⟩
        have h_d := h_d.keep hk9 ⟨(wi.ne h_d h_g (by intro h; cases h)), trivial⟩
        have h_pr := fun i (hi : i < 12) => (h_pr i hi).keep hk9 ⟨(wi.ne (h_pr i hi) h_g (by intro h; cases h)), trivial⟩
        have h_g := h_g.new hw0
        have hk := hk.call hk9 (fun q h => ⟨h.1, trivial⟩)
        refine lv_if_eq (tgt := 101) hx hb dX0_follows_82 (by decide) (fun c4 => ?_) (fun c4 => ?_)
        · skip
          have hq := hq.trans (if_pos c4)
          refine lv_iconst (v := 0) hx hb dX0_follows_101 (by decide) ?_
          exact w_zret hx hb hr hlocks w rfl ⟨rfl, _, hq.symm, rfl, h_g.2, (fun i hi => (h_pr i hi).2), hk⟩ (Nat.le_refl _) (Nat.le_refl _) dX0_follows_102
        · skip
          have hq := hq.trans (if_neg c4)
          refine lv_aload_n hx hb dX0_follows_85 rfl (lv_at hl 0 rfl) ?_
          refine lv_iconst (v := 1) hx hb dX0_follows_86 (by decide) ?_
          refine lv_aload_n hx hb dX0_follows_87 rfl (lv_at hl 1 rfl) ?_
          refine w_get (v := .int d_se) hx hb hts i_X2 hown hK w h_d rfl 4 (by decide) (hts _ m_5) rfl dX0_follows_88 ?_
          refine w_finj (w_runV (rm := ({ frames := 2, cells := 0, slots := 0, locals := 41 } : Room)) (As := [.int 1, .int d_se]) (rest := []) (n := 2) hx hb hml hts hown hK w (c_X0_changeIfCanBe l D cI cP cS cL L _ g 1 d_se x79.2.1 x79.2.2.1 x79.2.2.2.1 x79.2.2.2.2.1 x79.2.2.2.2.2 g_rounds g_people g_pa g_cr g_ls h_g) gX0_follows_X0_changeIfCanBe rfl rfl rfl (by decide +kernel) ⟨(Nat.le_of_ble_eq_true rfl), (Nat.le_of_ble_eq_true rfl)⟩ h_g rfl rfl hl.1 rfl (Nat.le_of_ble_eq_true rfl) dX0_follows_91 ⟨(Nat.le_of_ble_eq_true rfl), (Nat.le_of_ble_eq_true rfl)⟩) w hA (fun r9 F1 H locs hp w => ?_)
          obtain ⟨x91, hx91, hr9, hw0, hk9⟩ := hp
          subst hr9
          have hq := hq.trans (w_bnd hx91)
          have h_g_pa := h_g_pa.keep hk9 ⟨(wi.ne h_g_pa h_g (by intro h; cases h)), trivial⟩
          have h_d := h_d.keep hk9 ⟨(wi.ne h_d h_g (by intro h; cases h)), trivial⟩
          have h_pr := fun i (hi : i < 12) => (h_pr i hi).keep hk9 ⟨(wi.ne (h_pr i hi) h_g (by intro h; cases h)), trivial⟩
          have h_g := h_g.new hw0
          have hk := hk.call hk9 (fun q h => ⟨h.1, trivial⟩)
          refine lv_if_eq (tgt := 101) hx hb dX0_follows_94 (by decide) (fun c5 => ?_) (fun c5 => ?_)
          · skip
            have hq := hq.trans (if_pos c5)
            refine lv_iconst (v := 0) hx hb dX0_follows_101 (by decide) ?_
            exact w_zret hx hb hr hlocks w rfl ⟨rfl, _, hq.symm, rfl, h_g.2, (fun i hi => (h_pr i hi).2), hk⟩ (Nat.le_refl _) (Nat.le_refl _) dX0_follows_102
          · skip
            have hq := hq.trans (if_neg c5)
            refine lv_iconst (v := 1) hx hb dX0_follows_97 (by decide) ?_
            refine lv_goto (tgt := 102) hx hb dX0_follows_98 (by decide) ?_
            exact w_zret hx hb hr hlocks w rfl ⟨rfl, _, hq.symm, rfl, h_g.2, (fun i hi => (h_pr i hi).2), hk⟩ (Nat.le_refl _) (Nat.le_refl _) dX0_follows_102
      · skip
        have hq := hq.trans (if_neg c3)
        by_cases c6 : d_le = (104 : Int32)
        · skip
          have hq := hq.trans (if_pos c6)
          refine lv_lookup (off := 90) (tgt := 103) hx hb dX0_follows_13 (by decide) (by rw [c6]; rfl) (by decide) ?_
          refine lv_aload_n hx hb dX0_follows_103 rfl (lv_at hl 0 rfl) ?_
          refine lv_iconst (v := 2) hx hb dX0_follows_104 (by decide) ?_
          refine lv_aload_n hx hb dX0_follows_105 rfl (lv_at hl 1 rfl) ?_
          refine w_get (v := .int d_fi) hx hb hts i_X2 hown hK w h_d rfl 3 (by decide) (hts _ m_4) rfl dX0_follows_106 ?_
          refine w_finj (w_runV (rm := ({ frames := 2, cells := 0, slots := 0, locals := 41 } : Room)) (As := [.int 2, .int d_fi]) (rest := []) (n := 2) hx hb hml hts hown hK w (c_X0_changeIfCanBe l D cI cP cS cL L _ g 2 d_fi g_up g_down g_high g_prize g_z g_rounds g_people g_pa g_cr g_ls h_g) gX0_follows_X0_changeIfCanBe rfl rfl rfl (by decide +kernel) ⟨(Nat.le_of_ble_eq_true rfl), (Nat.le_of_ble_eq_true rfl)⟩ h_g rfl rfl hl.1 rfl (Nat.le_of_ble_eq_true rfl) dX0_follows_109 ⟨(Nat.le_of_ble_eq_true rfl), (Nat.le_of_ble_eq_true rfl)⟩) w hA (fun r9 F1 H locs hp w => ?_)
          obtain ⟨x109, hx109, hr9, hw0, hk9⟩ := hp
          subst hr9
          have hq := hq.trans (w_bnd hx109)
          have h_g_pa := h_g_pa.keep hk9 ⟨(wi.ne h_g_pa h_g (by intro h; cases h)), trivial⟩
          have h_d := h_d.keep hk9 ⟨(wi.ne h_d h_g (by intro h; cases h)), trivial⟩
          have h_pr := fun i (hi : i < 12) => (h_pr i hi).keep hk9 ⟨(wi.ne (h_pr i hi) h_g (by intro h; cases h)), trivial⟩
          have h_g := h_g.new hw0
          have hk := hk.call hk9 (fun q h => ⟨h.1, trivial⟩)
          exact w_zret hx hb hr hlocks w (w_nb (by rw [hx109]; exact z_X0_changeIfCanBe _ _ _ _ _ _ _)) ⟨rfl, _, hq.symm, rfl, h_g.2, (fun i hi => (h_pr i hi).2), hk⟩ (Nat.le_refl _) (Nat.le_refl _) dX0_follows_112
        · skip
          have hq := hq.trans (if_neg c6)
          by_cases c7 : d_le = (112 : Int32)
          · skip
            have hq := hq.trans (if_pos c7)
            refine lv_lookup (off := 43) (tgt := 56) hx hb dX0_follows_13 (by decide) (by rw [c7]; rfl) (by decide) ?_
            refine lv_aload_n hx hb dX0_follows_56 rfl (lv_at hl 0 rfl) ?_
            refine lv_aload_n hx hb dX0_follows_57 rfl (lv_at hl 1 rfl) ?_
            refine w_get (v := .int d_fi) hx hb hts i_X2 hown hK w h_d rfl 3 (by decide) (hts _ m_4) rfl dX0_follows_58 ?_
            refine lv_aload_n hx hb dX0_follows_61 rfl (lv_at hl 1 rfl) ?_
            refine w_get (v := .int d_se) hx hb hts i_X2 hown hK w h_d rfl 4 (by decide) (hts _ m_5) rfl dX0_follows_62 ?_
            refine lv_aload_n hx hb dX0_follows_65 rfl (lv_at hl 1 rfl) ?_
            refine w_get (v := .int d_th) hx hb hts i_X2 hown hK w h_d rfl 5 (by decide) (hts _ m_6) rfl dX0_follows_66 ?_
            refine w_finj (w_runV (rm := ({ frames := 1, cells := 0, slots := 0, locals := 24 } : Room)) (As := [.int d_fi, .int d_se, .int d_th]) (rest := []) (n := 3) hx hb hml hts hown hK w (c_X0_addPerson l D cI cP cS cL L _ g d_fi d_se d_th g_up g_down g_high g_prize g_z g_rounds g_people g_pa g_cr g_ls pr pr_nu pr_ki pr_st pr_sl h_g h_g_pa h_pr hp0 hinj_pr) gX0_follows_X0_addPerson rfl rfl rfl (by decide +kernel) ⟨(Nat.le_of_ble_eq_true rfl), (Nat.le_of_ble_eq_true rfl)⟩ h_g rfl rfl hl.1 rfl (Nat.le_of_ble_eq_true rfl) dX0_follows_69 ⟨(Nat.le_of_ble_eq_true rfl), (Nat.le_of_ble_eq_true rfl)⟩) w hA (fun r9 F1 H locs hp w => ?_)
            obtain ⟨x69, hx69, hr9, hw0, hw1, hk9⟩ := hp
            subst hr9
            have hq := hq.trans (w_bnd hx69)
            have h_g_pa := h_g_pa.keep hk9 ⟨(wi.ne h_g_pa h_g (by intro h; cases h)), (fun j hj => (wi.ne h_g_pa (h_pr j hj) (by intro h; cases h))), trivial⟩
            have h_d := h_d.keep hk9 ⟨(wi.ne h_d h_g (by intro h; cases h)), (fun j hj => (wi.ne h_d (h_pr j hj) (by intro h; cases h))), trivial⟩
            have h_g := h_g.new hw0
            have h_pr := fun i (hi : i < 12) => (h_pr i hi).new (hw1 i hi)
            have hk := hk.call hk9 (fun q h => ⟨h.1, h.2.1, trivial⟩)
            exact w_zret hx hb hr hlocks w (w_nb (by rw [hx69]; exact z_X0_addPerson _ _ _ _ _ _ _ _)) ⟨rfl, _, hq.symm, rfl, h_g.2, (fun i hi => (h_pr i hi).2), hk⟩ (Nat.le_refl _) (Nat.le_refl _) dX0_follows_72
          · skip
            have hq := hq.trans (if_neg c7)
            refine lv_lookup (off := 107) (tgt := 120) hx hb dX0_follows_13 (by decide) (by have q0 : ¬ d_le.toInt = 98 := w_ne c2 rfl; have q1 : ¬ d_le.toInt = 103 := w_ne c3 rfl; have q2 : ¬ d_le.toInt = 104 := w_ne c6 rfl; have q3 : ¬ d_le.toInt = 112 := w_ne c7 rfl; simp [Op.lookupswitch.offset, q0, Ne.symm q0, q1, Ne.symm q1, q2, Ne.symm q2, q3, Ne.symm q3]) (by decide) ?_
            refine lv_aload_n hx hb dX0_follows_120 rfl (lv_at hl 0 rfl) ?_
            refine lv_iconst (v := 3) hx hb dX0_follows_121 (by decide) ?_
            refine lv_iconst (v := 0) hx hb dX0_follows_122 (by decide) ?_
            refine w_finj (w_runV (rm := ({ frames := 2, cells := 0, slots := 0, locals := 41 } : Room)) (As := [.int 3, .int 0]) (rest := []) (n := 2) hx hb hml hts hown hK w (c_X0_changeIfCanBe l D cI cP cS cL L _ g 3 0 g_up g_down g_high g_prize g_z g_rounds g_people g_pa g_cr g_ls h_g) gX0_follows_X0_changeIfCanBe rfl rfl rfl (by decide +kernel) ⟨(Nat.le_of_ble_eq_true rfl), (Nat.le_of_ble_eq_true rfl)⟩ h_g rfl rfl hl.1 rfl (Nat.le_of_ble_eq_true rfl) dX0_follows_123 ⟨(Nat.le_of_ble_eq_true rfl), (Nat.le_of_ble_eq_true rfl)⟩) w hA (fun r9 F1 H locs hp w => ?_)
            obtain ⟨x123, hx123, hr9, hw0, hk9⟩ := hp
            subst hr9
            have hq := hq.trans (w_bnd hx123)
            have h_g_pa := h_g_pa.keep hk9 ⟨(wi.ne h_g_pa h_g (by intro h; cases h)), trivial⟩
            have h_d := h_d.keep hk9 ⟨(wi.ne h_d h_g (by intro h; cases h)), trivial⟩
            have h_pr := fun i (hi : i < 12) => (h_pr i hi).keep hk9 ⟨(wi.ne (h_pr i hi) h_g (by intro h; cases h)), trivial⟩
            have h_g := h_g.new hw0
            have hk := hk.call hk9 (fun q h => ⟨h.1, trivial⟩)
            exact w_zret hx hb hr hlocks w (w_nb (by rw [hx123]; exact z_X0_changeIfCanBe _ _ _ _ _ _ _)) ⟨rfl, _, hq.symm, rfl, h_g.2, (fun i hi => (h_pr i hi).2), hk⟩ (Nat.le_refl _) (Nat.le_refl _) dX0_follows_126
  · skip
    have hq := hq.trans (if_neg c1)
    refine lv_iconst (v := 0) hx hb dX0_follows_7 (by decide) ?_
    exact w_zret hx hb hr hlocks w rfl ⟨rfl, _, hq.symm, rfl, h_g.2, (fun i hi => (h_pr i hi).2), hk⟩ (Nat.le_refl _) (Nat.le_refl _) dX0_follows_8
