/-! THE LAW: worth, jokers, differ, judge, ends, parts, image, restore, count -/
set_option maxHeartbeats 4000000 in
set_option maxRecDepth 100000 in
theorem law_worth {p : Program} {l : Launch} {e : Env} {s : State} {mt : MethodId} {below : List Frame} {meth : Method} {c : Code} {H : Heap} {locs : List Loc} {cells slots : Nat} {Q : State → Prop} {D : va_G} {A : Nat → Prop} {L : List Nat} {F : Nat → va_E} {cI cP cS cL : ClassId} {sa : Nat → Nat} {b len : Nat} {xs : Nat → Int32} {ls : Array Slot} {i : Int32} {Lst : List Nat} {x x_no x_no_pa x_no_cr x_no_cr_e x_ke x_ke_pa x_ke_cr x_ke_cr_e x_mi x_mi_pa x_mi_cr x_mi_cr_e x_sh x_co x_ot m m_ss m_im m_re m_sa m_ke m_so m_si m_el m_kd m_kt m_nu m_ca m_ha m_co o : Nat} {pr qk qm sh rw el sp : Nat → Nat} (hT : TG Lst x x_no x_no_pa x_no_cr x_no_cr_e x_ke x_ke_pa x_ke_cr x_ke_cr_e x_mi x_mi_pa x_mi_cr x_mi_cr_e x_sh x_co x_ot m m_ss m_im m_re m_sa m_ke m_so m_si m_el m_kd m_kt m_nu m_ca m_ha m_co o pr qk qm sh rw el sp) (hC : LC p l s mt c D cI cP cS cL A sa b len xs) (hI : ∀ k : Int32, 1 ≤ k.toInt → k.toInt ≤ 5 → vp_in (i + k) len) (hroom : cells + 1 ≤ 600128 ∧ slots + 7 ≤ 7301098) (hV : IV cI cP cS cL x x_no x_no_pa x_no_cr x_no_cr_e x_ke x_ke_pa x_ke_cr x_ke_cr_e x_mi x_mi_pa x_mi_cr x_mi_cr_e x_sh x_co x_ot m m_ss m_im m_re m_sa m_ke m_so m_si m_el m_kd m_kt m_nu m_ca m_ha m_co o pr qk qm sh rw el sp L F) (w : ww D A s.heap L F H locs) (hl : lv_has ls 8 (LV b x m o i)) (kk : ∀ (L1 : List Nat) (F1 : Nat → va_E) (H1 : Heap) (locs1 : List Loc) (ls1 : Array Slot), IV cI cP cS cL x x_no x_no_pa x_no_cr x_no_cr_e x_ke x_ke_pa x_ke_cr x_ke_cr_e x_mi x_mi_pa x_mi_cr x_mi_cr_e x_sh x_co x_ot m m_ss m_im m_re m_sa m_ke m_so m_si m_el m_kd m_kt m_nu m_ca m_ha m_co o pr qk qm sh rw el sp L1 F1 → ww D A s.heap L1 F1 H1 locs1 → lv_has ls1 8 (LV b x m o i) → W p l e room_1 s mt #[Value.ref b] below meth c H1 locs1 (cells + 1) (slots + 7) Q (F0 mt 1361 ls1 [])) : W p l e room_1 s mt #[Value.ref b] below meth c H locs cells slots Q (F0 mt 762 ls []) := by
  have hC0 := hC
  obtain ⟨hx, hb, hml, hts, hown, hK, hX, hA, hXs, hbl, hbA, hst⟩ := hC
  obtain ⟨m_hi, m_th, m_po, m_ba, m_en, m_tl, m_hs, m_ss_f, m_im_f, m_re_f, m_sa_f, m_ke_f, m_so_f, m_si_f, m_el_f, m_kd_f, m_kt_f, m_nu_f, m_ca_f, m_ha_f, m_co_f, fo, ⟨x_no_ls, x_no_cr_so, x_no_cr_sz, x_no_cr_e_f, pr_nu, pr_ki, pr_st, pr_sl, bN, hRG⟩, ⟨x_mi_up, x_mi_down, x_mi_high, x_mi_prize, x_mi_z, x_mi_rounds, x_mi_people, x_mi_ls, x_mi_cr_so, x_mi_cr_sz, x_mi_cr_e_f, qm_nu, qm_ki, qm_st, qm_sl, bM⟩, ⟨x_ke_up, x_ke_down, x_ke_high, x_ke_prize, x_ke_z, x_ke_rounds, x_ke_people, x_ke_ls, x_ke_cr_so, x_ke_cr_sz, x_ke_cr_e_f, qk_nu, qk_ki, qk_st, qk_sl, bK, hKR⟩, ⟨sh_ho, rw_so, rw_sz, el_f, sp_nu, sp_ki, sp_st, sp_sl, bSS, hRS⟩, h_x, ⟨x_co_f, h_x_co⟩, ⟨x_ot_f, h_x_ot⟩, bRR, h_o, hhs⟩ := hV
  have hB := hRG.1
  have h5 := hB.2.2.2.2.1
  have hd20 := hB.2.1
  have hd1 := dn_ne hB
  have hi6 := hi_rng hB
  have hr5 := hB.2.2.2.2.2.2.1
  have hsts : ∀ i, i < 12 → (pr_st i).toInt ≤ 1000 := fun i hi => Int.le_trans (hRG.2.1.2 i hi) (by decide)
  have hzc := hRG.2.2.1
  have hzs : ∀ i, i < 8 → (rw_sz i).toInt ≤ 100 := fun i hi => (hRS i hi).2.2.2.2.1.2
  have hsi : ∀ i, i < 8 → (m_si_f i).toInt ≤ 100 := fun i hi => by rw [(hRS i hi).2.2.2.1]; exact (hRS i hi).2.2.2.2.1.2
  have hsi0 : ∀ i, i < 8 → 0 ≤ (m_si_f i).toInt := fun i hi => by rw [(hRS i hi).2.2.2.1]; exact (hRS i hi).2.2.2.2.1.1
  refine lv_aload_n hx hb dL_law_762 rfl (lv_at hl 1 rfl) ?_
  refine l_arg (x := x) (m := m) (o := o) (v := 1) hC0 w hl dL_law_763 dL_law_764 dL_law_766 dL_law_767 dL_law_768 (by decide) (hI 1 (by decide) (by decide)) ?_
  refine l_arg (x := x) (m := m) (o := o) (v := 2) hC0 w hl dL_law_769 dL_law_770 dL_law_772 dL_law_773 dL_law_774 (by decide) (hI 2 (by decide) (by decide)) ?_
  obtain ⟨h_x_no, h_x_no_pa, h_x_no_cr, h_x_no_cr_e, h_pr⟩ := id bN
  obtain ⟨h_x_sh, h_sh, h_rw, h_el, h_sp⟩ := id bSS
  refine w_finL (w_runV (rm := ({ frames := 4, cells := 0, slots := 0, locals := 87 } : Room)) (As := [.int (xs (i + 1).toNatClampNeg), .int (xs (i + 2).toNatClampNeg)]) (rest := []) (n := 2) hx hb hml hts hown hK w (c_X5_worth l D cI cP cS cL L _ x (xs (i + 1).toNatClampNeg) (xs (i + 2).toNatClampNeg) x_no x_ke x_mi m_hi x_sh x_co x_ot (m_ss_f 0) (m_ss_f 1) (m_ss_f 2) (m_ss_f 3) (m_ss_f 4) (m_ss_f 6) (m_ss_f 5) x_no_pa x_no_cr x_no_ls sh sh_ho rw sp el rw_so rw_sz el_f h_x h_x_no h_x_sh h_sh h_rw h_el hzs) gL_law_X5_worth rfl rfl rfl (by decide +kernel) ⟨(Nat.le_of_ble_eq_true rfl), (Nat.le_of_ble_eq_true rfl)⟩ h_x rfl rfl hl.1 rfl (Nat.le_of_ble_eq_true rfl) dL_law_775 ⟨by show cells + 0 ≤ 600128; omega, by show slots + 0 ≤ 7301098; omega⟩) w hA (fun H locs w => ?_)
  refine lv_aload_n hx hb dL_law_778 rfl (lv_at hl 2 rfl) ?_
  refine l_arg (x := x) (m := m) (o := o) (v := 1) hC0 w hl dL_law_779 dL_law_780 dL_law_782 dL_law_783 dL_law_784 (by decide) (hI 1 (by decide) (by decide)) ?_
  refine l_arg (x := x) (m := m) (o := o) (v := 2) hC0 w hl dL_law_785 dL_law_786 dL_law_788 dL_law_789 dL_law_790 (by decide) (hI 2 (by decide) (by decide)) ?_
  obtain ⟨h_m, h_m_ss, h_m_im, h_m_re, h_m_sa, h_m_ke, h_m_so, h_m_si, h_m_el, h_m_kd, h_m_kt, h_m_nu, h_m_ca, h_m_ha, h_m_co⟩ := id bRR
  refine w_fink (w_runV (rm := ({ frames := 4, cells := 0, slots := 0, locals := 90 } : Room)) (As := [.int (xs (i + 1).toNatClampNeg), .int (xs (i + 2).toNatClampNeg)]) (rest := [.long (f_X5_worth (xs (i + 1).toNatClampNeg) (xs (i + 2).toNatClampNeg) (m_ss_f 0) (m_ss_f 1) (m_ss_f 2) sh_ho rw_sz el_f)]) (n := 2) hx hb hml hts hown hK w (c_X6_worth l D cI cP cS cL L _ m (xs (i + 1).toNatClampNeg) (xs (i + 2).toNatClampNeg) m_ss m_im m_re m_sa m_ke m_so m_si m_el m_kd m_kt m_hi (m_th) m_po m_ba m_en m_tl m_nu m_ca m_ha m_hs m_co m_ss_f m_ke_f m_so_f m_si_f m_el_f m_ha_f h_m h_m_ss h_m_ke h_m_so h_m_si h_m_el h_m_ha hsi hsi0 hhs hd1 hd20 (lne_34 hT) (lne_44 hT) (lne_45 hT) (lne_46 hT) (lne_47 hT)) gL_law_X6_worth rfl rfl rfl (by decide +kernel) ⟨(Nat.le_of_ble_eq_true rfl), (Nat.le_of_ble_eq_true rfl)⟩ h_m rfl rfl hl.1 rfl (Nat.le_of_ble_eq_true rfl) dL_law_791 ⟨by show cells + 0 ≤ 600128; omega, by show slots + 0 ≤ 7301098; omega⟩) w hA (fun r6 F6 H locs hp w => ?_)
  obtain ⟨y6, ey6, er6, e6_m, e6_m_ha, hk6⟩ := hp
  have hg6 := gr_wk (L := L) hk6
  have bN := gN hT (fun k a h h1 h2 => fr_X6_worth hT h (by omega)) hg6 bN
  have bK := gK hT (fun k a h h1 h2 => fr_X6_worth hT h (by omega)) hg6 bK
  have bM := gM hT (fun k a h h1 h2 => fr_X6_worth hT h (by omega)) hg6 bM
  have bSS := gS hT (fun k a h h1 h2 => fr_X6_worth hT h (by omega)) hg6 bSS
  have h_x := gx hT (fun k a h h1 h2 => fr_X6_worth hT h (by omega)) hg6 h_x
  have h_x_co := gco hT (fun k a h h1 h2 => fr_X6_worth hT h (by omega)) hg6 h_x_co
  have h_x_ot := got hT (fun k a h h1 h2 => fr_X6_worth hT h (by omega)) hg6 h_x_ot
  have h_o := go hT (fun k a h h1 h2 => fr_X6_worth hT h (by omega)) hg6 h_o
  have bRR : bR cI L F6 m m_ss m_im m_re m_sa m_ke m_so m_si m_el m_kd m_kt m_nu m_ca m_ha m_co (m_hi) (m_th) (m_po) (m_ba) (m_en) (m_tl) (y6.2.2) (m_ss_f) (m_im_f) (m_re_f) (m_sa_f) (m_ke_f) (m_so_f) (m_si_f) (m_el_f) (m_kd_f) (m_kt_f) (m_nu_f) (m_ca_f) (y6.2.1) (m_co_f) := ⟨⟨(hg6 _ h_m.1).1, e6_m⟩, h_m_ss.grow hg6 (fr_X6_worth hT (hT.2.1.2.2.2.2.2.2.2.2.2.2.2.2.2.2.2.2.2.1) (by decide)), h_m_im.grow hg6 (fr_X6_worth hT (hT.2.1.2.2.2.2.2.2.2.2.2.2.2.2.2.2.2.2.2.2.1) (by decide)), h_m_re.grow hg6 (fr_X6_worth hT (hT.2.1.2.2.2.2.2.2.2.2.2.2.2.2.2.2.2.2.2.2.2.1) (by decide)), h_m_sa.grow hg6 (fr_X6_worth hT (hT.2.1.2.2.2.2.2.2.2.2.2.2.2.2.2.2.2.2.2.2.2.2.1) (by decide)), h_m_ke.grow hg6 (fr_X6_worth hT (hT.2.1.2.2.2.2.2.2.2.2.2.2.2.2.2.2.2.2.2.2.2.2.2.1) (by decide)), h_m_so.grow hg6 (fr_X6_worth hT (hT.2.1.2.2.2.2.2.2.2.2.2.2.2.2.2.2.2.2.2.2.2.2.2.2.1) (by decide)), h_m_si.grow hg6 (fr_X6_worth hT (hT.2.1.2.2.2.2.2.2.2.2.2.2.2.2.2.2.2.2.2.2.2.2.2.2.2.1) (by decide)), h_m_el.grow hg6 (fr_X6_worth hT (hT.2.1.2.2.2.2.2.2.2.2.2.2.2.2.2.2.2.2.2.2.2.2.2.2.2.2.1) (by decide)), h_m_kd.grow hg6 (fr_X6_worth hT (hT.2.1.2.2.2.2.2.2.2.2.2.2.2.2.2.2.2.2.2.2.2.2.2.2.2.2.2.1) (by decide)), h_m_kt.grow hg6 (fr_X6_worth hT (hT.2.1.2.2.2.2.2.2.2.2.2.2.2.2.2.2.2.2.2.2.2.2.2.2.2.2.2.2.1) (by decide)), h_m_nu.grow hg6 (fr_X6_worth hT (hT.2.1.2.2.2.2.2.2.2.2.2.2.2.2.2.2.2.2.2.2.2.2.2.2.2.2.2.2.2.1) (by decide)), h_m_ca.grow hg6 (fr_X6_worth hT (hT.2.1.2.2.2.2.2.2.2.2.2.2.2.2.2.2.2.2.2.2.2.2.2.2.2.2.2.2.2.2.1) (by decide)), ⟨(hg6 _ h_m_ha.1).1, e6_m_ha⟩, h_m_co.grow hg6 (fr_X6_worth hT (hT.2.1.2.2.2.2.2.2.2.2.2.2.2.2.2.2.2.2.2.2.2.2.2.2.2.2.2.2.2.2.2.2.1) (by decide))⟩
  have E := worth_m (d := (xs (i + 1).toNatClampNeg)) (k0 := (xs (i + 2).toNatClampNeg)) (hs := m_hs) (ha := m_ha_f) hRS hB hhs
  rw [← ey6] at E
  refine W.lcmp hx hb dL_law_794 ?_
  refine lv_if_eq (tgt := 1361) hx hb dL_law_795 (by decide) (fun _ => ?_) (fun c9 => absurd ((lg_cmp_eq _ _).mpr (E.1.trans er6.symm)) c9)
  refine W.widen (k := cells + 1) (n := slots + 7) (by omega) (by omega) ?_
  exact kk L F6 H locs ls ⟨m_hi, m_th, m_po, m_ba, m_en, m_tl, y6.2.2, m_ss_f, m_im_f, m_re_f, m_sa_f, m_ke_f, m_so_f, m_si_f, m_el_f, m_kd_f, m_kt_f, m_nu_f, m_ca_f, y6.2.1, m_co_f, fo, ⟨_, _, _, _, _, _, _, _, bN, hRG⟩, ⟨_, _, _, _, _, _, _, _, _, _, _, _, _, _, _, bM⟩, ⟨_, _, _, _, _, _, _, _, _, _, _, _, _, _, _, bK, hKR⟩, ⟨_, _, _, _, _, _, _, _, bSS, hRS⟩, h_x, ⟨_, h_x_co⟩, ⟨_, h_x_ot⟩, bRR, h_o, E.2⟩ w hl

set_option maxHeartbeats 4000000 in
set_option maxRecDepth 100000 in
theorem law_jokers {p : Program} {l : Launch} {e : Env} {s : State} {mt : MethodId} {below : List Frame} {meth : Method} {c : Code} {H : Heap} {locs : List Loc} {cells slots : Nat} {Q : State → Prop} {D : va_G} {A : Nat → Prop} {L : List Nat} {F : Nat → va_E} {cI cP cS cL : ClassId} {sa : Nat → Nat} {b len : Nat} {xs : Nat → Int32} {ls : Array Slot} {i : Int32} {Lst : List Nat} {x x_no x_no_pa x_no_cr x_no_cr_e x_ke x_ke_pa x_ke_cr x_ke_cr_e x_mi x_mi_pa x_mi_cr x_mi_cr_e x_sh x_co x_ot m m_ss m_im m_re m_sa m_ke m_so m_si m_el m_kd m_kt m_nu m_ca m_ha m_co o : Nat} {pr qk qm sh rw el sp : Nat → Nat} (hT : TG Lst x x_no x_no_pa x_no_cr x_no_cr_e x_ke x_ke_pa x_ke_cr x_ke_cr_e x_mi x_mi_pa x_mi_cr x_mi_cr_e x_sh x_co x_ot m m_ss m_im m_re m_sa m_ke m_so m_si m_el m_kd m_kt m_nu m_ca m_ha m_co o pr qk qm sh rw el sp) (hC : LC p l s mt c D cI cP cS cL A sa b len xs) (hI : ∀ k : Int32, 1 ≤ k.toInt → k.toInt ≤ 5 → vp_in (i + k) len) (hroom : cells + 1 ≤ 600128 ∧ slots + 7 ≤ 7301098) (hV : IV cI cP cS cL x x_no x_no_pa x_no_cr x_no_cr_e x_ke x_ke_pa x_ke_cr x_ke_cr_e x_mi x_mi_pa x_mi_cr x_mi_cr_e x_sh x_co x_ot m m_ss m_im m_re m_sa m_ke m_so m_si m_el m_kd m_kt m_nu m_ca m_ha m_co o pr qk qm sh rw el sp L F) (w : ww D A s.heap L F H locs) (hl : lv_has ls 8 (LV b x m o i)) (kk : ∀ (L1 : List Nat) (F1 : Nat → va_E) (H1 : Heap) (locs1 : List Loc) (ls1 : Array Slot), IV cI cP cS cL x x_no x_no_pa x_no_cr x_no_cr_e x_ke x_ke_pa x_ke_cr x_ke_cr_e x_mi x_mi_pa x_mi_cr x_mi_cr_e x_sh x_co x_ot m m_ss m_im m_re m_sa m_ke m_so m_si m_el m_kd m_kt m_nu m_ca m_ha m_co o pr qk qm sh rw el sp L1 F1 → ww D A s.heap L1 F1 H1 locs1 → lv_has ls1 8 (LV b x m o i) → W p l e room_1 s mt #[Value.ref b] below meth c H1 locs1 (cells + 1) (slots + 7) Q (F0 mt 1361 ls1 [])) : W p l e room_1 s mt #[Value.ref b] below meth c H locs cells slots Q (F0 mt 800 ls []) := by
  have hC0 := hC
  obtain ⟨hx, hb, hml, hts, hown, hK, hX, hA, hXs, hbl, hbA, hst⟩ := hC
  obtain ⟨m_hi, m_th, m_po, m_ba, m_en, m_tl, m_hs, m_ss_f, m_im_f, m_re_f, m_sa_f, m_ke_f, m_so_f, m_si_f, m_el_f, m_kd_f, m_kt_f, m_nu_f, m_ca_f, m_ha_f, m_co_f, fo, ⟨x_no_ls, x_no_cr_so, x_no_cr_sz, x_no_cr_e_f, pr_nu, pr_ki, pr_st, pr_sl, bN, hRG⟩, ⟨x_mi_up, x_mi_down, x_mi_high, x_mi_prize, x_mi_z, x_mi_rounds, x_mi_people, x_mi_ls, x_mi_cr_so, x_mi_cr_sz, x_mi_cr_e_f, qm_nu, qm_ki, qm_st, qm_sl, bM⟩, ⟨x_ke_up, x_ke_down, x_ke_high, x_ke_prize, x_ke_z, x_ke_rounds, x_ke_people, x_ke_ls, x_ke_cr_so, x_ke_cr_sz, x_ke_cr_e_f, qk_nu, qk_ki, qk_st, qk_sl, bK, hKR⟩, ⟨sh_ho, rw_so, rw_sz, el_f, sp_nu, sp_ki, sp_st, sp_sl, bSS, hRS⟩, h_x, ⟨x_co_f, h_x_co⟩, ⟨x_ot_f, h_x_ot⟩, bRR, h_o, hhs⟩ := hV
  have hB := hRG.1
  have h5 := hB.2.2.2.2.1
  have hd20 := hB.2.1
  have hd1 := dn_ne hB
  have hi6 := hi_rng hB
  have hr5 := hB.2.2.2.2.2.2.1
  have hsts : ∀ i, i < 12 → (pr_st i).toInt ≤ 1000 := fun i hi => Int.le_trans (hRG.2.1.2 i hi) (by decide)
  have hzc := hRG.2.2.1
  have hzs : ∀ i, i < 8 → (rw_sz i).toInt ≤ 100 := fun i hi => (hRS i hi).2.2.2.2.1.2
  have hsi : ∀ i, i < 8 → (m_si_f i).toInt ≤ 100 := fun i hi => by rw [(hRS i hi).2.2.2.1]; exact (hRS i hi).2.2.2.2.1.2
  have hsi0 : ∀ i, i < 8 → 0 ≤ (m_si_f i).toInt := fun i hi => by rw [(hRS i hi).2.2.2.1]; exact (hRS i hi).2.2.2.2.1.1
  refine lv_aload_n hx hb dL_law_800 rfl (lv_at hl 1 rfl) ?_
  refine l_arg (x := x) (m := m) (o := o) (v := 1) hC0 w hl dL_law_801 dL_law_802 dL_law_804 dL_law_805 dL_law_806 (by decide) (hI 1 (by decide) (by decide)) ?_
  refine l_arg (x := x) (m := m) (o := o) (v := 2) hC0 w hl dL_law_807 dL_law_808 dL_law_810 dL_law_811 dL_law_812 (by decide) (hI 2 (by decide) (by decide)) ?_
  obtain ⟨h_x_no, h_x_no_pa, h_x_no_cr, h_x_no_cr_e, h_pr⟩ := id bN
  obtain ⟨h_x_sh, h_sh, h_rw, h_el, h_sp⟩ := id bSS
  refine w_finI (w_runV (rm := ({ frames := 3, cells := 0, slots := 0, locals := 65 } : Room)) (As := [.int (xs (i + 1).toNatClampNeg), .int (xs (i + 2).toNatClampNeg)]) (rest := []) (n := 2) hx hb hml hts hown hK w (c_X5_jokers l D cI cP cS cL L _ x (xs (i + 1).toNatClampNeg) (xs (i + 2).toNatClampNeg) x_no x_ke x_mi m_hi x_sh x_co x_ot (m_ss_f 0) (m_ss_f 1) (m_ss_f 2) (m_ss_f 3) (m_ss_f 4) (m_ss_f 6) (m_ss_f 5) x_no_pa x_no_cr x_no_ls sh sh_ho rw sp el rw_so rw_sz el_f h_x h_x_no h_x_sh h_sh h_rw h_el hzs) gL_law_X5_jokers rfl rfl rfl (by decide +kernel) ⟨(Nat.le_of_ble_eq_true rfl), (Nat.le_of_ble_eq_true rfl)⟩ h_x rfl rfl hl.1 rfl (Nat.le_of_ble_eq_true rfl) dL_law_813 ⟨by show cells + 0 ≤ 600128; omega, by show slots + 0 ≤ 7301098; omega⟩) w hA (fun H locs w => ?_)
  refine lv_aload_n hx hb dL_law_816 rfl (lv_at hl 2 rfl) ?_
  refine l_arg (x := x) (m := m) (o := o) (v := 1) hC0 w hl dL_law_817 dL_law_818 dL_law_820 dL_law_821 dL_law_822 (by decide) (hI 1 (by decide) (by decide)) ?_
  refine l_arg (x := x) (m := m) (o := o) (v := 2) hC0 w hl dL_law_823 dL_law_824 dL_law_826 dL_law_827 dL_law_828 (by decide) (hI 2 (by decide) (by decide)) ?_
  obtain ⟨h_m, h_m_ss, h_m_im, h_m_re, h_m_sa, h_m_ke, h_m_so, h_m_si, h_m_el, h_m_kd, h_m_kt, h_m_nu, h_m_ca, h_m_ha, h_m_co⟩ := id bRR
  refine w_finj (w_runV (rm := ({ frames := 4, cells := 0, slots := 0, locals := 90 } : Room)) (As := [.int (xs (i + 1).toNatClampNeg), .int (xs (i + 2).toNatClampNeg)]) (rest := [.int (f_X5_jokers (xs (i + 1).toNatClampNeg) (xs (i + 2).toNatClampNeg) (m_ss_f 0) (m_ss_f 1) (m_ss_f 2) sh_ho rw_sz el_f)]) (n := 2) hx hb hml hts hown hK w (c_X6_jokers l D cI cP cS cL L _ m (xs (i + 1).toNatClampNeg) (xs (i + 2).toNatClampNeg) m_ss m_im m_re m_sa m_ke m_so m_si m_el m_kd m_kt m_hi (m_th) m_po m_ba m_en m_tl m_nu m_ca m_ha m_hs m_co m_ss_f m_ke_f m_so_f m_si_f m_el_f m_ha_f h_m h_m_ss h_m_ke h_m_so h_m_si h_m_el h_m_ha hsi hsi0 hhs hd20 (lne_34 hT) (lne_44 hT) (lne_45 hT) (lne_46 hT) (lne_47 hT)) gL_law_X6_jokers rfl rfl rfl (by decide +kernel) ⟨(Nat.le_of_ble_eq_true rfl), (Nat.le_of_ble_eq_true rfl)⟩ h_m rfl rfl hl.1 rfl (Nat.le_of_ble_eq_true rfl) dL_law_829 ⟨by show cells + 0 ≤ 600128; omega, by show slots + 0 ≤ 7301098; omega⟩) w hA (fun r6 F6 H locs hp w => ?_)
  obtain ⟨y6, ey6, er6, e6_m, e6_m_ha, hk6⟩ := hp
  have hg6 := gr_wk (L := L) hk6
  have bN := gN hT (fun k a h h1 h2 => fr_X6_jokers hT h (by omega)) hg6 bN
  have bK := gK hT (fun k a h h1 h2 => fr_X6_jokers hT h (by omega)) hg6 bK
  have bM := gM hT (fun k a h h1 h2 => fr_X6_jokers hT h (by omega)) hg6 bM
  have bSS := gS hT (fun k a h h1 h2 => fr_X6_jokers hT h (by omega)) hg6 bSS
  have h_x := gx hT (fun k a h h1 h2 => fr_X6_jokers hT h (by omega)) hg6 h_x
  have h_x_co := gco hT (fun k a h h1 h2 => fr_X6_jokers hT h (by omega)) hg6 h_x_co
  have h_x_ot := got hT (fun k a h h1 h2 => fr_X6_jokers hT h (by omega)) hg6 h_x_ot
  have h_o := go hT (fun k a h h1 h2 => fr_X6_jokers hT h (by omega)) hg6 h_o
  have bRR : bR cI L F6 m m_ss m_im m_re m_sa m_ke m_so m_si m_el m_kd m_kt m_nu m_ca m_ha m_co (m_hi) (m_th) (m_po) (m_ba) (m_en) (m_tl) (y6.2.2) (m_ss_f) (m_im_f) (m_re_f) (m_sa_f) (m_ke_f) (m_so_f) (m_si_f) (m_el_f) (m_kd_f) (m_kt_f) (m_nu_f) (m_ca_f) (y6.2.1) (m_co_f) := ⟨⟨(hg6 _ h_m.1).1, e6_m⟩, h_m_ss.grow hg6 (fr_X6_jokers hT (hT.2.1.2.2.2.2.2.2.2.2.2.2.2.2.2.2.2.2.2.1) (by decide)), h_m_im.grow hg6 (fr_X6_jokers hT (hT.2.1.2.2.2.2.2.2.2.2.2.2.2.2.2.2.2.2.2.2.1) (by decide)), h_m_re.grow hg6 (fr_X6_jokers hT (hT.2.1.2.2.2.2.2.2.2.2.2.2.2.2.2.2.2.2.2.2.2.1) (by decide)), h_m_sa.grow hg6 (fr_X6_jokers hT (hT.2.1.2.2.2.2.2.2.2.2.2.2.2.2.2.2.2.2.2.2.2.2.1) (by decide)), h_m_ke.grow hg6 (fr_X6_jokers hT (hT.2.1.2.2.2.2.2.2.2.2.2.2.2.2.2.2.2.2.2.2.2.2.2.1) (by decide)), h_m_so.grow hg6 (fr_X6_jokers hT (hT.2.1.2.2.2.2.2.2.2.2.2.2.2.2.2.2.2.2.2.2.2.2.2.2.1) (by decide)), h_m_si.grow hg6 (fr_X6_jokers hT (hT.2.1.2.2.2.2.2.2.2.2.2.2.2.2.2.2.2.2.2.2.2.2.2.2.2.1) (by decide)), h_m_el.grow hg6 (fr_X6_jokers hT (hT.2.1.2.2.2.2.2.2.2.2.2.2.2.2.2.2.2.2.2.2.2.2.2.2.2.2.1) (by decide)), h_m_kd.grow hg6 (fr_X6_jokers hT (hT.2.1.2.2.2.2.2.2.2.2.2.2.2.2.2.2.2.2.2.2.2.2.2.2.2.2.2.1) (by decide)), h_m_kt.grow hg6 (fr_X6_jokers hT (hT.2.1.2.2.2.2.2.2.2.2.2.2.2.2.2.2.2.2.2.2.2.2.2.2.2.2.2.2.1) (by decide)), h_m_nu.grow hg6 (fr_X6_jokers hT (hT.2.1.2.2.2.2.2.2.2.2.2.2.2.2.2.2.2.2.2.2.2.2.2.2.2.2.2.2.2.1) (by decide)), h_m_ca.grow hg6 (fr_X6_jokers hT (hT.2.1.2.2.2.2.2.2.2.2.2.2.2.2.2.2.2.2.2.2.2.2.2.2.2.2.2.2.2.2.1) (by decide)), ⟨(hg6 _ h_m_ha.1).1, e6_m_ha⟩, h_m_co.grow hg6 (fr_X6_jokers hT (hT.2.1.2.2.2.2.2.2.2.2.2.2.2.2.2.2.2.2.2.2.2.2.2.2.2.2.2.2.2.2.2.2.1) (by decide))⟩
  have E := jokers_m (d := (xs (i + 1).toNatClampNeg)) (part := (xs (i + 2).toNatClampNeg)) (hs := m_hs) (ha := m_ha_f) hRS hB hhs
  rw [← ey6] at E
  refine lv_icmp_eq (tgt := 1361) hx hb dL_law_832 (by decide) (fun _ => ?_) (fun c9 => absurd (E.1.trans er6.symm) c9)
  refine W.widen (k := cells + 1) (n := slots + 7) (by omega) (by omega) ?_
  exact kk L F6 H locs ls ⟨m_hi, m_th, m_po, m_ba, m_en, m_tl, y6.2.2, m_ss_f, m_im_f, m_re_f, m_sa_f, m_ke_f, m_so_f, m_si_f, m_el_f, m_kd_f, m_kt_f, m_nu_f, m_ca_f, y6.2.1, m_co_f, fo, ⟨_, _, _, _, _, _, _, _, bN, hRG⟩, ⟨_, _, _, _, _, _, _, _, _, _, _, _, _, _, _, bM⟩, ⟨_, _, _, _, _, _, _, _, _, _, _, _, _, _, _, bK, hKR⟩, ⟨_, _, _, _, _, _, _, _, bSS, hRS⟩, h_x, ⟨_, h_x_co⟩, ⟨_, h_x_ot⟩, bRR, h_o, E.2⟩ w hl

set_option maxHeartbeats 4000000 in
set_option maxRecDepth 100000 in
theorem law_differ {p : Program} {l : Launch} {e : Env} {s : State} {mt : MethodId} {below : List Frame} {meth : Method} {c : Code} {H : Heap} {locs : List Loc} {cells slots : Nat} {Q : State → Prop} {D : va_G} {A : Nat → Prop} {L : List Nat} {F : Nat → va_E} {cI cP cS cL : ClassId} {sa : Nat → Nat} {b len : Nat} {xs : Nat → Int32} {ls : Array Slot} {i : Int32} {Lst : List Nat} {x x_no x_no_pa x_no_cr x_no_cr_e x_ke x_ke_pa x_ke_cr x_ke_cr_e x_mi x_mi_pa x_mi_cr x_mi_cr_e x_sh x_co x_ot m m_ss m_im m_re m_sa m_ke m_so m_si m_el m_kd m_kt m_nu m_ca m_ha m_co o : Nat} {pr qk qm sh rw el sp : Nat → Nat} (hT : TG Lst x x_no x_no_pa x_no_cr x_no_cr_e x_ke x_ke_pa x_ke_cr x_ke_cr_e x_mi x_mi_pa x_mi_cr x_mi_cr_e x_sh x_co x_ot m m_ss m_im m_re m_sa m_ke m_so m_si m_el m_kd m_kt m_nu m_ca m_ha m_co o pr qk qm sh rw el sp) (hC : LC p l s mt c D cI cP cS cL A sa b len xs) (hI : ∀ k : Int32, 1 ≤ k.toInt → k.toInt ≤ 5 → vp_in (i + k) len) (hroom : cells + 1 ≤ 600128 ∧ slots + 7 ≤ 7301098) (hV : IV cI cP cS cL x x_no x_no_pa x_no_cr x_no_cr_e x_ke x_ke_pa x_ke_cr x_ke_cr_e x_mi x_mi_pa x_mi_cr x_mi_cr_e x_sh x_co x_ot m m_ss m_im m_re m_sa m_ke m_so m_si m_el m_kd m_kt m_nu m_ca m_ha m_co o pr qk qm sh rw el sp L F) (w : ww D A s.heap L F H locs) (hl : lv_has ls 8 (LV b x m o i)) (kk : ∀ (L1 : List Nat) (F1 : Nat → va_E) (H1 : Heap) (locs1 : List Loc) (ls1 : Array Slot), IV cI cP cS cL x x_no x_no_pa x_no_cr x_no_cr_e x_ke x_ke_pa x_ke_cr x_ke_cr_e x_mi x_mi_pa x_mi_cr x_mi_cr_e x_sh x_co x_ot m m_ss m_im m_re m_sa m_ke m_so m_si m_el m_kd m_kt m_nu m_ca m_ha m_co o pr qk qm sh rw el sp L1 F1 → ww D A s.heap L1 F1 H1 locs1 → lv_has ls1 8 (LV b x m o i) → W p l e room_1 s mt #[Value.ref b] below meth c H1 locs1 (cells + 1) (slots + 7) Q (F0 mt 1361 ls1 [])) : W p l e room_1 s mt #[Value.ref b] below meth c H locs cells slots Q (F0 mt 837 ls []) := by
  have hC0 := hC
  obtain ⟨hx, hb, hml, hts, hown, hK, hX, hA, hXs, hbl, hbA, hst⟩ := hC
  obtain ⟨m_hi, m_th, m_po, m_ba, m_en, m_tl, m_hs, m_ss_f, m_im_f, m_re_f, m_sa_f, m_ke_f, m_so_f, m_si_f, m_el_f, m_kd_f, m_kt_f, m_nu_f, m_ca_f, m_ha_f, m_co_f, fo, ⟨x_no_ls, x_no_cr_so, x_no_cr_sz, x_no_cr_e_f, pr_nu, pr_ki, pr_st, pr_sl, bN, hRG⟩, ⟨x_mi_up, x_mi_down, x_mi_high, x_mi_prize, x_mi_z, x_mi_rounds, x_mi_people, x_mi_ls, x_mi_cr_so, x_mi_cr_sz, x_mi_cr_e_f, qm_nu, qm_ki, qm_st, qm_sl, bM⟩, ⟨x_ke_up, x_ke_down, x_ke_high, x_ke_prize, x_ke_z, x_ke_rounds, x_ke_people, x_ke_ls, x_ke_cr_so, x_ke_cr_sz, x_ke_cr_e_f, qk_nu, qk_ki, qk_st, qk_sl, bK, hKR⟩, ⟨sh_ho, rw_so, rw_sz, el_f, sp_nu, sp_ki, sp_st, sp_sl, bSS, hRS⟩, h_x, ⟨x_co_f, h_x_co⟩, ⟨x_ot_f, h_x_ot⟩, bRR, h_o, hhs⟩ := hV
  have hB := hRG.1
  have h5 := hB.2.2.2.2.1
  have hd20 := hB.2.1
  have hd1 := dn_ne hB
  have hi6 := hi_rng hB
  have hr5 := hB.2.2.2.2.2.2.1
  have hsts : ∀ i, i < 12 → (pr_st i).toInt ≤ 1000 := fun i hi => Int.le_trans (hRG.2.1.2 i hi) (by decide)
  have hzc := hRG.2.2.1
  have hzs : ∀ i, i < 8 → (rw_sz i).toInt ≤ 100 := fun i hi => (hRS i hi).2.2.2.2.1.2
  have hsi : ∀ i, i < 8 → (m_si_f i).toInt ≤ 100 := fun i hi => by rw [(hRS i hi).2.2.2.1]; exact (hRS i hi).2.2.2.2.1.2
  have hsi0 : ∀ i, i < 8 → 0 ≤ (m_si_f i).toInt := fun i hi => by rw [(hRS i hi).2.2.2.1]; exact (hRS i hi).2.2.2.2.1.1
  refine lv_aload_n hx hb dL_law_837 rfl (lv_at hl 1 rfl) ?_
  refine l_arg (x := x) (m := m) (o := o) (v := 1) hC0 w hl dL_law_838 dL_law_839 dL_law_841 dL_law_842 dL_law_843 (by decide) (hI 1 (by decide) (by decide)) ?_
  refine l_arg (x := x) (m := m) (o := o) (v := 2) hC0 w hl dL_law_844 dL_law_845 dL_law_847 dL_law_848 dL_law_849 (by decide) (hI 2 (by decide) (by decide)) ?_
  obtain ⟨h_x_no, h_x_no_pa, h_x_no_cr, h_x_no_cr_e, h_pr⟩ := id bN
  obtain ⟨h_x_sh, h_sh, h_rw, h_el, h_sp⟩ := id bSS
  refine w_finj (w_runV (rm := ({ frames := 4, cells := 0, slots := 0, locals := 92 } : Room)) (As := [.int (xs (i + 1).toNatClampNeg), .int (xs (i + 2).toNatClampNeg)]) (rest := []) (n := 2) hx hb hml hts hown hK w (c_X5_differ l D cI cP cS cL L _ x (xs (i + 1).toNatClampNeg) (xs (i + 2).toNatClampNeg) x_no x_ke x_mi m_hi x_sh x_co x_ot (m_ss_f 0) (m_ss_f 1) (m_ss_f 2) (m_ss_f 3) (m_ss_f 4) (m_ss_f 6) (m_ss_f 5) x_no_pa x_no_cr x_no_ls x_co_f x_ot_f sh sh_ho rw sp el rw_so rw_sz el_f h_x h_x_no h_x_sh h_x_co h_x_ot h_sh h_rw h_el hzs (lne_48 hT) (lne_49 hT) (lne_50 hT) (lne_51 hT)) gL_law_X5_differ rfl rfl rfl (by decide +kernel) ⟨(Nat.le_of_ble_eq_true rfl), (Nat.le_of_ble_eq_true rfl)⟩ h_x rfl rfl hl.1 rfl (Nat.le_of_ble_eq_true rfl) dL_law_850 ⟨by show cells + 0 ≤ 600128; omega, by show slots + 0 ≤ 7301098; omega⟩) w hA (fun r5 F5 H locs hp w => ?_)
  obtain ⟨y5, ey5, er5, e5_x_co, e5_x_ot, hk5⟩ := hp
  have hg5 := gr_wk (L := L) hk5
  have bN := gN hT (fun k a h h1 h2 => fr_X5_differ hT h (by omega)) hg5 bN
  have bK := gK hT (fun k a h h1 h2 => fr_X5_differ hT h (by omega)) hg5 bK
  have bM := gM hT (fun k a h h1 h2 => fr_X5_differ hT h (by omega)) hg5 bM
  have bSS := gS hT (fun k a h h1 h2 => fr_X5_differ hT h (by omega)) hg5 bSS
  have h_x := gx hT (fun k a h h1 h2 => fr_X5_differ hT h (by omega)) hg5 h_x
  have bRR := gR hT (fun k a h h1 h2 => fr_X5_differ hT h (by omega)) hg5 bRR
  have h_o := go hT (fun k a h h1 h2 => fr_X5_differ hT h (by omega)) hg5 h_o
  have h_x_co : wi L F5 x_co (eI cI 10 y5.2.1) := ⟨(hg5 _ h_x_co.1).1, e5_x_co⟩
  have h_x_ot : wi L F5 x_ot (eI cI 10 y5.2.2) := ⟨(hg5 _ h_x_ot.1).1, e5_x_ot⟩
  refine lv_aload_n hx hb dL_law_853 rfl (lv_at hl 2 rfl) ?_
  refine l_arg (x := x) (m := m) (o := o) (v := 1) hC0 w hl dL_law_854 dL_law_855 dL_law_857 dL_law_858 dL_law_859 (by decide) (hI 1 (by decide) (by decide)) ?_
  refine l_arg (x := x) (m := m) (o := o) (v := 2) hC0 w hl dL_law_860 dL_law_861 dL_law_863 dL_law_864 dL_law_865 (by decide) (hI 2 (by decide) (by decide)) ?_
  obtain ⟨h_m, h_m_ss, h_m_im, h_m_re, h_m_sa, h_m_ke, h_m_so, h_m_si, h_m_el, h_m_kd, h_m_kt, h_m_nu, h_m_ca, h_m_ha, h_m_co⟩ := id bRR
  refine w_finj (w_runV (rm := ({ frames := 6, cells := 0, slots := 0, locals := 136 } : Room)) (As := [.int (xs (i + 1).toNatClampNeg), .int (xs (i + 2).toNatClampNeg)]) (rest := [.int r5]) (n := 2) hx hb hml hts hown hK w (c_X6_differ l D cI cP cS cL L _ m (xs (i + 1).toNatClampNeg) (xs (i + 2).toNatClampNeg) m_ss m_im m_re m_sa m_ke m_so m_si m_el m_kd m_kt m_hi (m_th) m_po m_ba m_en m_tl m_nu m_ca m_ha m_hs m_co m_ss_f m_ke_f m_so_f m_si_f m_el_f m_ha_f m_co_f h_m h_m_ss h_m_ke h_m_so h_m_si h_m_el h_m_ha h_m_co hsi hsi0 hhs hd1 (lne_34 hT) (lne_44 hT) (lne_45 hT) (lne_46 hT) (lne_47 hT) (lne_52 hT) (lne_53 hT) (lne_54 hT) (lne_55 hT) (lne_56 hT) (lne_57 hT) (lne_58 hT)) gL_law_X6_differ rfl rfl rfl (by decide +kernel) ⟨(Nat.le_of_ble_eq_true rfl), (Nat.le_of_ble_eq_true rfl)⟩ h_m rfl rfl hl.1 rfl (Nat.le_of_ble_eq_true rfl) dL_law_866 ⟨by show cells + 0 ≤ 600128; omega, by show slots + 0 ≤ 7301098; omega⟩) w hA (fun r6 F6 H locs hp w => ?_)
  obtain ⟨y6, ey6, er6, e6_m, e6_m_ha, e6_m_co, hk6⟩ := hp
  have hg6 := gr_wk (L := L) hk6
  have bN := gN hT (fun k a h h1 h2 => fr_X6_differ hT h (by omega)) hg6 bN
  have bK := gK hT (fun k a h h1 h2 => fr_X6_differ hT h (by omega)) hg6 bK
  have bM := gM hT (fun k a h h1 h2 => fr_X6_differ hT h (by omega)) hg6 bM
  have bSS := gS hT (fun k a h h1 h2 => fr_X6_differ hT h (by omega)) hg6 bSS
  have h_x := gx hT (fun k a h h1 h2 => fr_X6_differ hT h (by omega)) hg6 h_x
  have h_x_co := gco hT (fun k a h h1 h2 => fr_X6_differ hT h (by omega)) hg6 h_x_co
  have h_x_ot := got hT (fun k a h h1 h2 => fr_X6_differ hT h (by omega)) hg6 h_x_ot
  have h_o := go hT (fun k a h h1 h2 => fr_X6_differ hT h (by omega)) hg6 h_o
  have bRR : bR cI L F6 m m_ss m_im m_re m_sa m_ke m_so m_si m_el m_kd m_kt m_nu m_ca m_ha m_co (m_hi) (m_th) (m_po) (m_ba) (m_en) (m_tl) (y6.2.2.1) (m_ss_f) (m_im_f) (m_re_f) (m_sa_f) (m_ke_f) (m_so_f) (m_si_f) (m_el_f) (m_kd_f) (m_kt_f) (m_nu_f) (m_ca_f) (y6.2.1) (y6.2.2.2) := ⟨⟨(hg6 _ h_m.1).1, e6_m⟩, h_m_ss.grow hg6 (fr_X6_differ hT (hT.2.1.2.2.2.2.2.2.2.2.2.2.2.2.2.2.2.2.2.1) (by decide)), h_m_im.grow hg6 (fr_X6_differ hT (hT.2.1.2.2.2.2.2.2.2.2.2.2.2.2.2.2.2.2.2.2.1) (by decide)), h_m_re.grow hg6 (fr_X6_differ hT (hT.2.1.2.2.2.2.2.2.2.2.2.2.2.2.2.2.2.2.2.2.2.1) (by decide)), h_m_sa.grow hg6 (fr_X6_differ hT (hT.2.1.2.2.2.2.2.2.2.2.2.2.2.2.2.2.2.2.2.2.2.2.1) (by decide)), h_m_ke.grow hg6 (fr_X6_differ hT (hT.2.1.2.2.2.2.2.2.2.2.2.2.2.2.2.2.2.2.2.2.2.2.2.1) (by decide)), h_m_so.grow hg6 (fr_X6_differ hT (hT.2.1.2.2.2.2.2.2.2.2.2.2.2.2.2.2.2.2.2.2.2.2.2.2.1) (by decide)), h_m_si.grow hg6 (fr_X6_differ hT (hT.2.1.2.2.2.2.2.2.2.2.2.2.2.2.2.2.2.2.2.2.2.2.2.2.2.1) (by decide)), h_m_el.grow hg6 (fr_X6_differ hT (hT.2.1.2.2.2.2.2.2.2.2.2.2.2.2.2.2.2.2.2.2.2.2.2.2.2.2.1) (by decide)), h_m_kd.grow hg6 (fr_X6_differ hT (hT.2.1.2.2.2.2.2.2.2.2.2.2.2.2.2.2.2.2.2.2.2.2.2.2.2.2.2.1) (by decide)), h_m_kt.grow hg6 (fr_X6_differ hT (hT.2.1.2.2.2.2.2.2.2.2.2.2.2.2.2.2.2.2.2.2.2.2.2.2.2.2.2.2.1) (by decide)), h_m_nu.grow hg6 (fr_X6_differ hT (hT.2.1.2.2.2.2.2.2.2.2.2.2.2.2.2.2.2.2.2.2.2.2.2.2.2.2.2.2.2.1) (by decide)), h_m_ca.grow hg6 (fr_X6_differ hT (hT.2.1.2.2.2.2.2.2.2.2.2.2.2.2.2.2.2.2.2.2.2.2.2.2.2.2.2.2.2.2.1) (by decide)), ⟨(hg6 _ h_m_ha.1).1, e6_m_ha⟩, ⟨(hg6 _ h_m_co.1).1, e6_m_co⟩⟩
  have E := differ_m (d := (xs (i + 1).toNatClampNeg)) (e0 := (xs (i + 2).toNatClampNeg)) (hs := m_hs) (ha := m_ha_f) (co := m_co_f) (xc := x_co_f) (xo := x_ot_f) hRS hB hhs
  rw [← ey5] at E
  rw [← ey6] at E
  obtain ⟨E1, Eh⟩ := E
  refine lv_icmp_eq (tgt := 1361) hx hb dL_law_869 (by decide) (fun _ => ?_) (fun c9 => absurd (er5.trans (E1.trans er6.symm)) c9)
  refine W.widen (k := cells + 1) (n := slots + 7) (by omega) (by omega) ?_
  exact kk L F6 H locs ls ⟨m_hi, m_th, m_po, m_ba, m_en, m_tl, y6.2.2.1, m_ss_f, m_im_f, m_re_f, m_sa_f, m_ke_f, m_so_f, m_si_f, m_el_f, m_kd_f, m_kt_f, m_nu_f, m_ca_f, y6.2.1, y6.2.2.2, fo, ⟨_, _, _, _, _, _, _, _, bN, hRG⟩, ⟨_, _, _, _, _, _, _, _, _, _, _, _, _, _, _, bM⟩, ⟨_, _, _, _, _, _, _, _, _, _, _, _, _, _, _, bK, hKR⟩, ⟨_, _, _, _, _, _, _, _, bSS, hRS⟩, h_x, ⟨_, h_x_co⟩, ⟨_, h_x_ot⟩, bRR, h_o, Eh⟩ w hl

set_option maxHeartbeats 4000000 in
set_option maxRecDepth 100000 in
theorem law_judge {p : Program} {l : Launch} {e : Env} {s : State} {mt : MethodId} {below : List Frame} {meth : Method} {c : Code} {H : Heap} {locs : List Loc} {cells slots : Nat} {Q : State → Prop} {D : va_G} {A : Nat → Prop} {L : List Nat} {F : Nat → va_E} {cI cP cS cL : ClassId} {sa : Nat → Nat} {b len : Nat} {xs : Nat → Int32} {ls : Array Slot} {i : Int32} {Lst : List Nat} {x x_no x_no_pa x_no_cr x_no_cr_e x_ke x_ke_pa x_ke_cr x_ke_cr_e x_mi x_mi_pa x_mi_cr x_mi_cr_e x_sh x_co x_ot m m_ss m_im m_re m_sa m_ke m_so m_si m_el m_kd m_kt m_nu m_ca m_ha m_co o : Nat} {pr qk qm sh rw el sp : Nat → Nat} (hT : TG Lst x x_no x_no_pa x_no_cr x_no_cr_e x_ke x_ke_pa x_ke_cr x_ke_cr_e x_mi x_mi_pa x_mi_cr x_mi_cr_e x_sh x_co x_ot m m_ss m_im m_re m_sa m_ke m_so m_si m_el m_kd m_kt m_nu m_ca m_ha m_co o pr qk qm sh rw el sp) (hC : LC p l s mt c D cI cP cS cL A sa b len xs) (hI : ∀ k : Int32, 1 ≤ k.toInt → k.toInt ≤ 5 → vp_in (i + k) len) (hroom : cells + 1 ≤ 600128 ∧ slots + 7 ≤ 7301098) (hV : IV cI cP cS cL x x_no x_no_pa x_no_cr x_no_cr_e x_ke x_ke_pa x_ke_cr x_ke_cr_e x_mi x_mi_pa x_mi_cr x_mi_cr_e x_sh x_co x_ot m m_ss m_im m_re m_sa m_ke m_so m_si m_el m_kd m_kt m_nu m_ca m_ha m_co o pr qk qm sh rw el sp L F) (w : ww D A s.heap L F H locs) (hl : lv_has ls 8 (LV b x m o i)) (kk : ∀ (L1 : List Nat) (F1 : Nat → va_E) (H1 : Heap) (locs1 : List Loc) (ls1 : Array Slot), IV cI cP cS cL x x_no x_no_pa x_no_cr x_no_cr_e x_ke x_ke_pa x_ke_cr x_ke_cr_e x_mi x_mi_pa x_mi_cr x_mi_cr_e x_sh x_co x_ot m m_ss m_im m_re m_sa m_ke m_so m_si m_el m_kd m_kt m_nu m_ca m_ha m_co o pr qk qm sh rw el sp L1 F1 → ww D A s.heap L1 F1 H1 locs1 → lv_has ls1 8 (LV b x m o i) → W p l e room_1 s mt #[Value.ref b] below meth c H1 locs1 (cells + 1) (slots + 7) Q (F0 mt 1361 ls1 [])) : W p l e room_1 s mt #[Value.ref b] below meth c H locs cells slots Q (F0 mt 874 ls []) := by
  have hC0 := hC
  obtain ⟨hx, hb, hml, hts, hown, hK, hX, hA, hXs, hbl, hbA, hst⟩ := hC
  obtain ⟨m_hi, m_th, m_po, m_ba, m_en, m_tl, m_hs, m_ss_f, m_im_f, m_re_f, m_sa_f, m_ke_f, m_so_f, m_si_f, m_el_f, m_kd_f, m_kt_f, m_nu_f, m_ca_f, m_ha_f, m_co_f, fo, ⟨x_no_ls, x_no_cr_so, x_no_cr_sz, x_no_cr_e_f, pr_nu, pr_ki, pr_st, pr_sl, bN, hRG⟩, ⟨x_mi_up, x_mi_down, x_mi_high, x_mi_prize, x_mi_z, x_mi_rounds, x_mi_people, x_mi_ls, x_mi_cr_so, x_mi_cr_sz, x_mi_cr_e_f, qm_nu, qm_ki, qm_st, qm_sl, bM⟩, ⟨x_ke_up, x_ke_down, x_ke_high, x_ke_prize, x_ke_z, x_ke_rounds, x_ke_people, x_ke_ls, x_ke_cr_so, x_ke_cr_sz, x_ke_cr_e_f, qk_nu, qk_ki, qk_st, qk_sl, bK, hKR⟩, ⟨sh_ho, rw_so, rw_sz, el_f, sp_nu, sp_ki, sp_st, sp_sl, bSS, hRS⟩, h_x, ⟨x_co_f, h_x_co⟩, ⟨x_ot_f, h_x_ot⟩, bRR, h_o, hhs⟩ := hV
  have hB := hRG.1
  have h5 := hB.2.2.2.2.1
  have hd20 := hB.2.1
  have hd1 := dn_ne hB
  have hi6 := hi_rng hB
  have hr5 := hB.2.2.2.2.2.2.1
  have hsts : ∀ i, i < 12 → (pr_st i).toInt ≤ 1000 := fun i hi => Int.le_trans (hRG.2.1.2 i hi) (by decide)
  have hzc := hRG.2.2.1
  have hzs : ∀ i, i < 8 → (rw_sz i).toInt ≤ 100 := fun i hi => (hRS i hi).2.2.2.2.1.2
  have hsi : ∀ i, i < 8 → (m_si_f i).toInt ≤ 100 := fun i hi => by rw [(hRS i hi).2.2.2.1]; exact (hRS i hi).2.2.2.2.1.2
  have hsi0 : ∀ i, i < 8 → 0 ≤ (m_si_f i).toInt := fun i hi => by rw [(hRS i hi).2.2.2.1]; exact (hRS i hi).2.2.2.2.1.1
  refine lv_aload_n hx hb dL_law_874 rfl (lv_at hl 1 rfl) ?_
  refine l_arg (x := x) (m := m) (o := o) (v := 1) hC0 w hl dL_law_875 dL_law_876 dL_law_878 dL_law_879 dL_law_880 (by decide) (hI 1 (by decide) (by decide)) ?_
  obtain ⟨h_x_no, h_x_no_pa, h_x_no_cr, h_x_no_cr_e, h_pr⟩ := id bN
  obtain ⟨h_x_sh, h_sh, h_rw, h_el, h_sp⟩ := id bSS
  refine w_finI (w_runV (rm := ({ frames := 2, cells := 0, slots := 0, locals := 41 } : Room)) (As := [.int (xs (i + 1).toNatClampNeg)]) (rest := []) (n := 1) hx hb hml hts hown hK w (c_X5_judge l D cI cP cS cL L _ x (xs (i + 1).toNatClampNeg) x_no x_ke x_mi m_hi x_sh x_co x_ot (m_ss_f 0) (m_ss_f 1) (m_ss_f 2) (m_ss_f 3) (m_ss_f 4) (m_ss_f 6) (m_ss_f 5) x_no_pa x_no_cr x_no_ls x_no_cr_e x_no_cr_so x_no_cr_sz x_no_cr_e_f sh sh_ho rw sp el rw_so rw_sz el_f h_x h_x_no h_x_no_cr h_x_no_cr_e h_x_sh h_sh h_rw h_el hzs hzc) gL_law_X5_judge rfl rfl rfl (by decide +kernel) ⟨(Nat.le_of_ble_eq_true rfl), (Nat.le_of_ble_eq_true rfl)⟩ h_x rfl rfl hl.1 rfl (Nat.le_of_ble_eq_true rfl) dL_law_881 ⟨by show cells + 0 ≤ 600128; omega, by show slots + 0 ≤ 7301098; omega⟩) w hA (fun H locs w => ?_)
  refine lv_aload_n hx hb dL_law_884 rfl (lv_at hl 2 rfl) ?_
  refine l_arg (x := x) (m := m) (o := o) (v := 1) hC0 w hl dL_law_885 dL_law_886 dL_law_888 dL_law_889 dL_law_890 (by decide) (hI 1 (by decide) (by decide)) ?_
  obtain ⟨h_m, h_m_ss, h_m_im, h_m_re, h_m_sa, h_m_ke, h_m_so, h_m_si, h_m_el, h_m_kd, h_m_kt, h_m_nu, h_m_ca, h_m_ha, h_m_co⟩ := id bRR
  refine w_finI (w_runV (rm := ({ frames := 3, cells := 0, slots := 0, locals := 67 } : Room)) (As := [.int (xs (i + 1).toNatClampNeg)]) (rest := [.int (f_X5_judge (xs (i + 1).toNatClampNeg) (m_ss_f 6) (m_ss_f 5) x_no_cr_sz x_no_cr_e_f sh_ho rw_so rw_sz el_f)]) (n := 1) hx hb hml hts hown hK w (c_X6_judge l D cI cP cS cL L _ m (xs (i + 1).toNatClampNeg) m_ss m_im m_re m_sa m_ke m_so m_si m_el m_kd m_kt m_hi (m_th) m_po m_ba m_en m_tl m_nu m_ca m_ha m_hs m_co m_ss_f m_ke_f m_so_f m_si_f m_el_f h_m h_m_ss h_m_ke h_m_so h_m_si h_m_el hsi hsi0 h5) gL_law_X6_judge rfl rfl rfl (by decide +kernel) ⟨(Nat.le_of_ble_eq_true rfl), (Nat.le_of_ble_eq_true rfl)⟩ h_m rfl rfl hl.1 rfl (Nat.le_of_ble_eq_true rfl) dL_law_891 ⟨by show cells + 0 ≤ 600128; omega, by show slots + 0 ≤ 7301098; omega⟩) w hA (fun H locs w => ?_)
  have E := judge_m (d := (xs (i + 1).toNatClampNeg)) hRS hRG
  refine lv_icmp_eq (tgt := 1361) hx hb dL_law_894 (by decide) (fun _ => ?_) (fun c9 => absurd (E) c9)
  refine W.widen (k := cells + 1) (n := slots + 7) (by omega) (by omega) ?_
  exact kk L F H locs ls ⟨m_hi, m_th, m_po, m_ba, m_en, m_tl, m_hs, m_ss_f, m_im_f, m_re_f, m_sa_f, m_ke_f, m_so_f, m_si_f, m_el_f, m_kd_f, m_kt_f, m_nu_f, m_ca_f, m_ha_f, m_co_f, fo, ⟨_, _, _, _, _, _, _, _, bN, hRG⟩, ⟨_, _, _, _, _, _, _, _, _, _, _, _, _, _, _, bM⟩, ⟨_, _, _, _, _, _, _, _, _, _, _, _, _, _, _, bK, hKR⟩, ⟨_, _, _, _, _, _, _, _, bSS, hRS⟩, h_x, ⟨_, h_x_co⟩, ⟨_, h_x_ot⟩, bRR, h_o, hhs⟩ w hl

set_option maxHeartbeats 4000000 in
set_option maxRecDepth 100000 in
theorem law_ends {p : Program} {l : Launch} {e : Env} {s : State} {mt : MethodId} {below : List Frame} {meth : Method} {c : Code} {H : Heap} {locs : List Loc} {cells slots : Nat} {Q : State → Prop} {D : va_G} {A : Nat → Prop} {L : List Nat} {F : Nat → va_E} {cI cP cS cL : ClassId} {sa : Nat → Nat} {b len : Nat} {xs : Nat → Int32} {ls : Array Slot} {i : Int32} {Lst : List Nat} {x x_no x_no_pa x_no_cr x_no_cr_e x_ke x_ke_pa x_ke_cr x_ke_cr_e x_mi x_mi_pa x_mi_cr x_mi_cr_e x_sh x_co x_ot m m_ss m_im m_re m_sa m_ke m_so m_si m_el m_kd m_kt m_nu m_ca m_ha m_co o : Nat} {pr qk qm sh rw el sp : Nat → Nat} (hT : TG Lst x x_no x_no_pa x_no_cr x_no_cr_e x_ke x_ke_pa x_ke_cr x_ke_cr_e x_mi x_mi_pa x_mi_cr x_mi_cr_e x_sh x_co x_ot m m_ss m_im m_re m_sa m_ke m_so m_si m_el m_kd m_kt m_nu m_ca m_ha m_co o pr qk qm sh rw el sp) (hC : LC p l s mt c D cI cP cS cL A sa b len xs) (hI : ∀ k : Int32, 1 ≤ k.toInt → k.toInt ≤ 5 → vp_in (i + k) len) (hroom : cells + 1 ≤ 600128 ∧ slots + 7 ≤ 7301098) (hV : IV cI cP cS cL x x_no x_no_pa x_no_cr x_no_cr_e x_ke x_ke_pa x_ke_cr x_ke_cr_e x_mi x_mi_pa x_mi_cr x_mi_cr_e x_sh x_co x_ot m m_ss m_im m_re m_sa m_ke m_so m_si m_el m_kd m_kt m_nu m_ca m_ha m_co o pr qk qm sh rw el sp L F) (w : ww D A s.heap L F H locs) (hl : lv_has ls 8 (LV b x m o i)) (kk : ∀ (L1 : List Nat) (F1 : Nat → va_E) (H1 : Heap) (locs1 : List Loc) (ls1 : Array Slot), IV cI cP cS cL x x_no x_no_pa x_no_cr x_no_cr_e x_ke x_ke_pa x_ke_cr x_ke_cr_e x_mi x_mi_pa x_mi_cr x_mi_cr_e x_sh x_co x_ot m m_ss m_im m_re m_sa m_ke m_so m_si m_el m_kd m_kt m_nu m_ca m_ha m_co o pr qk qm sh rw el sp L1 F1 → ww D A s.heap L1 F1 H1 locs1 → lv_has ls1 8 (LV b x m o i) → W p l e room_1 s mt #[Value.ref b] below meth c H1 locs1 (cells + 1) (slots + 7) Q (F0 mt 1361 ls1 [])) : W p l e room_1 s mt #[Value.ref b] below meth c H locs cells slots Q (F0 mt 899 ls []) := by
  have hC0 := hC
  obtain ⟨hx, hb, hml, hts, hown, hK, hX, hA, hXs, hbl, hbA, hst⟩ := hC
  obtain ⟨m_hi, m_th, m_po, m_ba, m_en, m_tl, m_hs, m_ss_f, m_im_f, m_re_f, m_sa_f, m_ke_f, m_so_f, m_si_f, m_el_f, m_kd_f, m_kt_f, m_nu_f, m_ca_f, m_ha_f, m_co_f, fo, ⟨x_no_ls, x_no_cr_so, x_no_cr_sz, x_no_cr_e_f, pr_nu, pr_ki, pr_st, pr_sl, bN, hRG⟩, ⟨x_mi_up, x_mi_down, x_mi_high, x_mi_prize, x_mi_z, x_mi_rounds, x_mi_people, x_mi_ls, x_mi_cr_so, x_mi_cr_sz, x_mi_cr_e_f, qm_nu, qm_ki, qm_st, qm_sl, bM⟩, ⟨x_ke_up, x_ke_down, x_ke_high, x_ke_prize, x_ke_z, x_ke_rounds, x_ke_people, x_ke_ls, x_ke_cr_so, x_ke_cr_sz, x_ke_cr_e_f, qk_nu, qk_ki, qk_st, qk_sl, bK, hKR⟩, ⟨sh_ho, rw_so, rw_sz, el_f, sp_nu, sp_ki, sp_st, sp_sl, bSS, hRS⟩, h_x, ⟨x_co_f, h_x_co⟩, ⟨x_ot_f, h_x_ot⟩, bRR, h_o, hhs⟩ := hV
  have hB := hRG.1
  have h5 := hB.2.2.2.2.1
  have hd20 := hB.2.1
  have hd1 := dn_ne hB
  have hi6 := hi_rng hB
  have hr5 := hB.2.2.2.2.2.2.1
  have hsts : ∀ i, i < 12 → (pr_st i).toInt ≤ 1000 := fun i hi => Int.le_trans (hRG.2.1.2 i hi) (by decide)
  have hzc := hRG.2.2.1
  have hzs : ∀ i, i < 8 → (rw_sz i).toInt ≤ 100 := fun i hi => (hRS i hi).2.2.2.2.1.2
  have hsi : ∀ i, i < 8 → (m_si_f i).toInt ≤ 100 := fun i hi => by rw [(hRS i hi).2.2.2.1]; exact (hRS i hi).2.2.2.2.1.2
  have hsi0 : ∀ i, i < 8 → 0 ≤ (m_si_f i).toInt := fun i hi => by rw [(hRS i hi).2.2.2.1]; exact (hRS i hi).2.2.2.2.1.1
  refine lv_aload_n hx hb dL_law_899 rfl (lv_at hl 1 rfl) ?_
  refine l_arg (x := x) (m := m) (o := o) (v := 1) hC0 w hl dL_law_900 dL_law_901 dL_law_903 dL_law_904 dL_law_905 (by decide) (hI 1 (by decide) (by decide)) ?_
  obtain ⟨h_x_no, h_x_no_pa, h_x_no_cr, h_x_no_cr_e, h_pr⟩ := id bN
  refine w_finI (w_runV (rm := ({ frames := 2, cells := 0, slots := 0, locals := 42 } : Room)) (As := [.int (xs (i + 1).toNatClampNeg)]) (rest := []) (n := 1) hx hb hml hts hown hK w (c_X5_ends l D cI cP cS cL L _ x (xs (i + 1).toNatClampNeg) x_no x_ke x_mi m_hi x_sh x_co x_ot (m_ss_f 0) (m_ss_f 1) (m_ss_f 2) (m_ss_f 3) (m_ss_f 4) (m_ss_f 6) (m_ss_f 5) x_no_pa x_no_cr x_no_ls h_x h_x_no) gL_law_X5_ends rfl rfl rfl (by decide +kernel) ⟨(Nat.le_of_ble_eq_true rfl), (Nat.le_of_ble_eq_true rfl)⟩ h_x rfl rfl hl.1 rfl (Nat.le_of_ble_eq_true rfl) dL_law_906 ⟨by show cells + 0 ≤ 600128; omega, by show slots + 0 ≤ 7301098; omega⟩) w hA (fun H locs w => ?_)
  refine lv_aload_n hx hb dL_law_909 rfl (lv_at hl 2 rfl) ?_
  refine l_arg (x := x) (m := m) (o := o) (v := 1) hC0 w hl dL_law_910 dL_law_911 dL_law_913 dL_law_914 dL_law_915 (by decide) (hI 1 (by decide) (by decide)) ?_
  obtain ⟨h_m, h_m_ss, h_m_im, h_m_re, h_m_sa, h_m_ke, h_m_so, h_m_si, h_m_el, h_m_kd, h_m_kt, h_m_nu, h_m_ca, h_m_ha, h_m_co⟩ := id bRR
  refine w_finI (w_runV (rm := ({ frames := 2, cells := 0, slots := 0, locals := 44 } : Room)) (As := [.int (xs (i + 1).toNatClampNeg)]) (rest := [.int (f_X5_ends (xs (i + 1).toNatClampNeg) (m_ss_f 0) (m_ss_f 1) (m_ss_f 2))]) (n := 1) hx hb hml hts hown hK w (c_X6_ends l D cI cP cS cL L _ m (xs (i + 1).toNatClampNeg) m_ss m_im m_re m_sa m_ke m_so m_si m_el m_kd m_kt m_hi (m_th) m_po m_ba m_en m_tl m_nu m_ca m_ha m_hs m_co m_ss_f h_m h_m_ss hd1) gL_law_X6_ends rfl rfl rfl (by decide +kernel) ⟨(Nat.le_of_ble_eq_true rfl), (Nat.le_of_ble_eq_true rfl)⟩ h_m rfl rfl hl.1 rfl (Nat.le_of_ble_eq_true rfl) dL_law_916 ⟨by show cells + 0 ≤ 600128; omega, by show slots + 0 ≤ 7301098; omega⟩) w hA (fun H locs w => ?_)
  have E := ends_m (what := (xs (i + 1).toNatClampNeg)) hB
  refine lv_icmp_eq (tgt := 1361) hx hb dL_law_919 (by decide) (fun _ => ?_) (fun c9 => absurd (E) c9)
  refine W.widen (k := cells + 1) (n := slots + 7) (by omega) (by omega) ?_
  exact kk L F H locs ls ⟨m_hi, m_th, m_po, m_ba, m_en, m_tl, m_hs, m_ss_f, m_im_f, m_re_f, m_sa_f, m_ke_f, m_so_f, m_si_f, m_el_f, m_kd_f, m_kt_f, m_nu_f, m_ca_f, m_ha_f, m_co_f, fo, ⟨_, _, _, _, _, _, _, _, bN, hRG⟩, ⟨_, _, _, _, _, _, _, _, _, _, _, _, _, _, _, bM⟩, ⟨_, _, _, _, _, _, _, _, _, _, _, _, _, _, _, bK, hKR⟩, ⟨_, _, _, _, _, _, _, _, bSS, hRS⟩, h_x, ⟨_, h_x_co⟩, ⟨_, h_x_ot⟩, bRR, h_o, hhs⟩ w hl

set_option maxHeartbeats 4000000 in
set_option maxRecDepth 100000 in
theorem law_parts {p : Program} {l : Launch} {e : Env} {s : State} {mt : MethodId} {below : List Frame} {meth : Method} {c : Code} {H : Heap} {locs : List Loc} {cells slots : Nat} {Q : State → Prop} {D : va_G} {A : Nat → Prop} {L : List Nat} {F : Nat → va_E} {cI cP cS cL : ClassId} {sa : Nat → Nat} {b len : Nat} {xs : Nat → Int32} {ls : Array Slot} {i : Int32} {Lst : List Nat} {x x_no x_no_pa x_no_cr x_no_cr_e x_ke x_ke_pa x_ke_cr x_ke_cr_e x_mi x_mi_pa x_mi_cr x_mi_cr_e x_sh x_co x_ot m m_ss m_im m_re m_sa m_ke m_so m_si m_el m_kd m_kt m_nu m_ca m_ha m_co o : Nat} {pr qk qm sh rw el sp : Nat → Nat} (hT : TG Lst x x_no x_no_pa x_no_cr x_no_cr_e x_ke x_ke_pa x_ke_cr x_ke_cr_e x_mi x_mi_pa x_mi_cr x_mi_cr_e x_sh x_co x_ot m m_ss m_im m_re m_sa m_ke m_so m_si m_el m_kd m_kt m_nu m_ca m_ha m_co o pr qk qm sh rw el sp) (hC : LC p l s mt c D cI cP cS cL A sa b len xs) (hI : ∀ k : Int32, 1 ≤ k.toInt → k.toInt ≤ 5 → vp_in (i + k) len) (hroom : cells + 1 ≤ 600128 ∧ slots + 7 ≤ 7301098) (hV : IV cI cP cS cL x x_no x_no_pa x_no_cr x_no_cr_e x_ke x_ke_pa x_ke_cr x_ke_cr_e x_mi x_mi_pa x_mi_cr x_mi_cr_e x_sh x_co x_ot m m_ss m_im m_re m_sa m_ke m_so m_si m_el m_kd m_kt m_nu m_ca m_ha m_co o pr qk qm sh rw el sp L F) (w : ww D A s.heap L F H locs) (hl : lv_has ls 8 (LV b x m o i)) (kk : ∀ (L1 : List Nat) (F1 : Nat → va_E) (H1 : Heap) (locs1 : List Loc) (ls1 : Array Slot), IV cI cP cS cL x x_no x_no_pa x_no_cr x_no_cr_e x_ke x_ke_pa x_ke_cr x_ke_cr_e x_mi x_mi_pa x_mi_cr x_mi_cr_e x_sh x_co x_ot m m_ss m_im m_re m_sa m_ke m_so m_si m_el m_kd m_kt m_nu m_ca m_ha m_co o pr qk qm sh rw el sp L1 F1 → ww D A s.heap L1 F1 H1 locs1 → lv_has ls1 8 (LV b x m o i) → W p l e room_1 s mt #[Value.ref b] below meth c H1 locs1 (cells + 1) (slots + 7) Q (F0 mt 1361 ls1 [])) : W p l e room_1 s mt #[Value.ref b] below meth c H locs cells slots Q (F0 mt 924 ls []) := by
  have hC0 := hC
  obtain ⟨hx, hb, hml, hts, hown, hK, hX, hA, hXs, hbl, hbA, hst⟩ := hC
  obtain ⟨m_hi, m_th, m_po, m_ba, m_en, m_tl, m_hs, m_ss_f, m_im_f, m_re_f, m_sa_f, m_ke_f, m_so_f, m_si_f, m_el_f, m_kd_f, m_kt_f, m_nu_f, m_ca_f, m_ha_f, m_co_f, fo, ⟨x_no_ls, x_no_cr_so, x_no_cr_sz, x_no_cr_e_f, pr_nu, pr_ki, pr_st, pr_sl, bN, hRG⟩, ⟨x_mi_up, x_mi_down, x_mi_high, x_mi_prize, x_mi_z, x_mi_rounds, x_mi_people, x_mi_ls, x_mi_cr_so, x_mi_cr_sz, x_mi_cr_e_f, qm_nu, qm_ki, qm_st, qm_sl, bM⟩, ⟨x_ke_up, x_ke_down, x_ke_high, x_ke_prize, x_ke_z, x_ke_rounds, x_ke_people, x_ke_ls, x_ke_cr_so, x_ke_cr_sz, x_ke_cr_e_f, qk_nu, qk_ki, qk_st, qk_sl, bK, hKR⟩, ⟨sh_ho, rw_so, rw_sz, el_f, sp_nu, sp_ki, sp_st, sp_sl, bSS, hRS⟩, h_x, ⟨x_co_f, h_x_co⟩, ⟨x_ot_f, h_x_ot⟩, bRR, h_o, hhs⟩ := hV
  have hB := hRG.1
  have h5 := hB.2.2.2.2.1
  have hd20 := hB.2.1
  have hd1 := dn_ne hB
  have hi6 := hi_rng hB
  have hr5 := hB.2.2.2.2.2.2.1
  have hsts : ∀ i, i < 12 → (pr_st i).toInt ≤ 1000 := fun i hi => Int.le_trans (hRG.2.1.2 i hi) (by decide)
  have hzc := hRG.2.2.1
  have hzs : ∀ i, i < 8 → (rw_sz i).toInt ≤ 100 := fun i hi => (hRS i hi).2.2.2.2.1.2
  have hsi : ∀ i, i < 8 → (m_si_f i).toInt ≤ 100 := fun i hi => by rw [(hRS i hi).2.2.2.1]; exact (hRS i hi).2.2.2.2.1.2
  have hsi0 : ∀ i, i < 8 → 0 ≤ (m_si_f i).toInt := fun i hi => by rw [(hRS i hi).2.2.2.1]; exact (hRS i hi).2.2.2.2.1.1
  refine lv_aload_n hx hb dL_law_924 rfl (lv_at hl 1 rfl) ?_
  refine l_arg (x := x) (m := m) (o := o) (v := 1) hC0 w hl dL_law_925 dL_law_926 dL_law_928 dL_law_929 dL_law_930 (by decide) (hI 1 (by decide) (by decide)) ?_
  refine l_arg (x := x) (m := m) (o := o) (v := 2) hC0 w hl dL_law_931 dL_law_932 dL_law_934 dL_law_935 dL_law_936 (by decide) (hI 2 (by decide) (by decide)) ?_
  refine l_arg (x := x) (m := m) (o := o) (v := 3) hC0 w hl dL_law_937 dL_law_938 dL_law_940 dL_law_941 dL_law_942 (by decide) (hI 3 (by decide) (by decide)) ?_
  obtain ⟨h_x_no, h_x_no_pa, h_x_no_cr, h_x_no_cr_e, h_pr⟩ := id bN
  obtain ⟨h_x_mi, h_x_mi_pa, h_x_mi_cr, h_x_mi_cr_e, h_qm⟩ := id bM
  refine w_finj (w_runV (rm := ({ frames := 5, cells := 0, slots := 0, locals := 108 } : Room)) (As := [.int (xs (i + 1).toNatClampNeg), .int (xs (i + 2).toNatClampNeg), .int (xs (i + 3).toNatClampNeg)]) (rest := []) (n := 3) hx hb hml hts hown hK w (c_X5_parts l D cI cP cS cL L _ x (xs (i + 1).toNatClampNeg) (xs (i + 2).toNatClampNeg) (xs (i + 3).toNatClampNeg) x_no x_ke x_mi m_hi x_sh x_co x_ot (m_ss_f 0) (m_ss_f 1) (m_ss_f 2) (m_ss_f 3) (m_ss_f 4) (m_ss_f 6) (m_ss_f 5) x_no_pa x_no_cr x_no_ls x_no_cr_e x_no_cr_so x_no_cr_sz x_no_cr_e_f x_mi_up x_mi_down x_mi_high x_mi_prize x_mi_z x_mi_rounds x_mi_people x_mi_pa x_mi_cr x_mi_ls x_mi_cr_e x_mi_cr_so x_mi_cr_sz x_mi_cr_e_f pr pr_nu pr_ki pr_st pr_sl qm qm_nu qm_ki qm_st qm_sl h_x h_x_no h_x_no_pa h_x_no_cr h_x_no_cr_e h_x_mi h_x_mi_pa h_x_mi_cr h_x_mi_cr_e h_pr h_qm h5.2 hzc hsts (lne_0 hT) (lne_1 hT) (lne_2 hT) (lne_3 hT) (lne_4 hT)) gL_law_X5_parts rfl rfl rfl (by decide +kernel) ⟨(Nat.le_of_ble_eq_true rfl), (Nat.le_of_ble_eq_true rfl)⟩ h_x rfl rfl hl.1 rfl (Nat.le_of_ble_eq_true rfl) dL_law_943 ⟨by show cells + 0 ≤ 600128; omega, by show slots + 0 ≤ 7301098; omega⟩) w hA (fun r5 F5 H locs hp w => ?_)
  obtain ⟨y5, ey5, er5, e5_x_mi, e5_x_mi_cr, e5_x_mi_cr_e, e5_qm, hk5⟩ := hp
  have hg5 := gr_wk (L := L) hk5
  have bN := gN hT (fun k a h h1 h2 => fr_X5_parts hT h (by omega)) hg5 bN
  have bK := gK hT (fun k a h h1 h2 => fr_X5_parts hT h (by omega)) hg5 bK
  have bSS := gS hT (fun k a h h1 h2 => fr_X5_parts hT h (by omega)) hg5 bSS
  have h_x := gx hT (fun k a h h1 h2 => fr_X5_parts hT h (by omega)) hg5 h_x
  have h_x_co := gco hT (fun k a h h1 h2 => fr_X5_parts hT h (by omega)) hg5 h_x_co
  have h_x_ot := got hT (fun k a h h1 h2 => fr_X5_parts hT h (by omega)) hg5 h_x_ot
  have bRR := gR hT (fun k a h h1 h2 => fr_X5_parts hT h (by omega)) hg5 bRR
  have h_o := go hT (fun k a h h1 h2 => fr_X5_parts hT h (by omega)) hg5 h_o
  have bM : bG cI cP L F5 x_mi x_mi_pa x_mi_cr x_mi_cr_e qm (y5.2.1) (y5.2.2.1) (y5.2.2.2.1) (y5.2.2.2.2.1) (y5.2.2.2.2.2.1) (y5.2.2.2.2.2.2.1) (y5.2.2.2.2.2.2.2.1) (y5.2.2.2.2.2.2.2.2.1) (y5.2.2.2.2.2.2.2.2.2.1) (y5.2.2.2.2.2.2.2.2.2.2.1) (y5.2.2.2.2.2.2.2.2.2.2.2.1) (y5.2.2.2.2.2.2.2.2.2.2.2.2.1) (y5.2.2.2.2.2.2.2.2.2.2.2.2.2.1) (y5.2.2.2.2.2.2.2.2.2.2.2.2.2.2.1) (y5.2.2.2.2.2.2.2.2.2.2.2.2.2.2.2) := ⟨⟨(hg5 _ h_x_mi.1).1, e5_x_mi⟩, h_x_mi_pa.grow hg5 (fr_X5_parts hT (hT.2.1.2.2.2.2.2.2.2.2.2.2.1) (by decide)), ⟨(hg5 _ h_x_mi_cr.1).1, e5_x_mi_cr⟩, ⟨(hg5 _ h_x_mi_cr_e.1).1, e5_x_mi_cr_e⟩, (fun i hi => ⟨(hg5 _ (h_qm i hi).1).1, e5_qm i hi⟩)⟩
  refine lv_aload_n hx hb dL_law_946 rfl (lv_at hl 2 rfl) ?_
  refine l_arg (x := x) (m := m) (o := o) (v := 1) hC0 w hl dL_law_947 dL_law_948 dL_law_950 dL_law_951 dL_law_952 (by decide) (hI 1 (by decide) (by decide)) ?_
  refine l_arg (x := x) (m := m) (o := o) (v := 2) hC0 w hl dL_law_953 dL_law_954 dL_law_956 dL_law_957 dL_law_958 (by decide) (hI 2 (by decide) (by decide)) ?_
  refine l_arg (x := x) (m := m) (o := o) (v := 3) hC0 w hl dL_law_959 dL_law_960 dL_law_962 dL_law_963 dL_law_964 (by decide) (hI 3 (by decide) (by decide)) ?_
  obtain ⟨h_m, h_m_ss, h_m_im, h_m_re, h_m_sa, h_m_ke, h_m_so, h_m_si, h_m_el, h_m_kd, h_m_kt, h_m_nu, h_m_ca, h_m_ha, h_m_co⟩ := id bRR
  refine w_finI (w_runV (rm := ({ frames := 5, cells := 0, slots := 0, locals := 118 } : Room)) (As := [.int (xs (i + 1).toNatClampNeg), .int (xs (i + 2).toNatClampNeg), .int (xs (i + 3).toNatClampNeg)]) (rest := [.int r5]) (n := 3) hx hb hml hts hown hK w (c_X6_parts l D cI cP cS cL L _ m (xs (i + 1).toNatClampNeg) (xs (i + 2).toNatClampNeg) (xs (i + 3).toNatClampNeg) m_ss m_im m_re m_sa m_ke m_so m_si m_el m_kd m_kt m_hi (m_th) m_po m_ba m_en m_tl m_nu m_ca m_ha m_hs m_co m_ss_f h_m h_m_ss h5 hd1 hr5 hB.hst) gL_law_X6_parts rfl rfl rfl (by decide +kernel) ⟨(Nat.le_of_ble_eq_true rfl), (Nat.le_of_ble_eq_true rfl)⟩ h_m rfl rfl hl.1 rfl (Nat.le_of_ble_eq_true rfl) dL_law_965 ⟨by show cells + 0 ≤ 600128; omega, by show slots + 0 ≤ 7301098; omega⟩) w hA (fun H locs w => ?_)
  have E := parts_m (a := (xs (i + 1).toNatClampNeg)) (b := (xs (i + 2).toNatClampNeg)) (what := (xs (i + 3).toNatClampNeg)) (so := x_no_cr_so) (mup := x_mi_up) (mdn := x_mi_down) (mhi := x_mi_high) (mpz := x_mi_prize) (mz := x_mi_z) (mrr := x_mi_rounds) (mpp := x_mi_people) (mls := x_mi_ls) (mso := x_mi_cr_so) (msz := x_mi_cr_sz) (mcf := x_mi_cr_e_f) (qnu := qm_nu) (qki := qm_ki) (qst := qm_st) (qsl := qm_sl) hRG
  rw [← ey5] at E
  refine lv_icmp_eq (tgt := 1361) hx hb dL_law_968 (by decide) (fun _ => ?_) (fun c9 => absurd (er5.trans E) c9)
  refine W.widen (k := cells + 1) (n := slots + 7) (by omega) (by omega) ?_
  exact kk L F5 H locs ls ⟨m_hi, m_th, m_po, m_ba, m_en, m_tl, m_hs, m_ss_f, m_im_f, m_re_f, m_sa_f, m_ke_f, m_so_f, m_si_f, m_el_f, m_kd_f, m_kt_f, m_nu_f, m_ca_f, m_ha_f, m_co_f, fo, ⟨_, _, _, _, _, _, _, _, bN, hRG⟩, ⟨_, _, _, _, _, _, _, _, _, _, _, _, _, _, _, bM⟩, ⟨_, _, _, _, _, _, _, _, _, _, _, _, _, _, _, bK, hKR⟩, ⟨_, _, _, _, _, _, _, _, bSS, hRS⟩, h_x, ⟨_, h_x_co⟩, ⟨_, h_x_ot⟩, bRR, h_o, hhs⟩ w hl

set_option maxHeartbeats 4000000 in
set_option maxRecDepth 100000 in
theorem law_image {p : Program} {l : Launch} {e : Env} {s : State} {mt : MethodId} {below : List Frame} {meth : Method} {c : Code} {H : Heap} {locs : List Loc} {cells slots : Nat} {Q : State → Prop} {D : va_G} {A : Nat → Prop} {L : List Nat} {F : Nat → va_E} {cI cP cS cL : ClassId} {sa : Nat → Nat} {b len : Nat} {xs : Nat → Int32} {ls : Array Slot} {i : Int32} {Lst : List Nat} {x x_no x_no_pa x_no_cr x_no_cr_e x_ke x_ke_pa x_ke_cr x_ke_cr_e x_mi x_mi_pa x_mi_cr x_mi_cr_e x_sh x_co x_ot m m_ss m_im m_re m_sa m_ke m_so m_si m_el m_kd m_kt m_nu m_ca m_ha m_co o : Nat} {pr qk qm sh rw el sp : Nat → Nat} (hT : TG Lst x x_no x_no_pa x_no_cr x_no_cr_e x_ke x_ke_pa x_ke_cr x_ke_cr_e x_mi x_mi_pa x_mi_cr x_mi_cr_e x_sh x_co x_ot m m_ss m_im m_re m_sa m_ke m_so m_si m_el m_kd m_kt m_nu m_ca m_ha m_co o pr qk qm sh rw el sp) (hC : LC p l s mt c D cI cP cS cL A sa b len xs) (hI : ∀ k : Int32, 1 ≤ k.toInt → k.toInt ≤ 5 → vp_in (i + k) len) (hroom : cells + 1 ≤ 600128 ∧ slots + 7 ≤ 7301098) (hV : IV cI cP cS cL x x_no x_no_pa x_no_cr x_no_cr_e x_ke x_ke_pa x_ke_cr x_ke_cr_e x_mi x_mi_pa x_mi_cr x_mi_cr_e x_sh x_co x_ot m m_ss m_im m_re m_sa m_ke m_so m_si m_el m_kd m_kt m_nu m_ca m_ha m_co o pr qk qm sh rw el sp L F) (w : ww D A s.heap L F H locs) (hl : lv_has ls 8 (LV b x m o i)) (kk : ∀ (L1 : List Nat) (F1 : Nat → va_E) (H1 : Heap) (locs1 : List Loc) (ls1 : Array Slot), IV cI cP cS cL x x_no x_no_pa x_no_cr x_no_cr_e x_ke x_ke_pa x_ke_cr x_ke_cr_e x_mi x_mi_pa x_mi_cr x_mi_cr_e x_sh x_co x_ot m m_ss m_im m_re m_sa m_ke m_so m_si m_el m_kd m_kt m_nu m_ca m_ha m_co o pr qk qm sh rw el sp L1 F1 → ww D A s.heap L1 F1 H1 locs1 → lv_has ls1 8 (LV b x m o i) → W p l e room_1 s mt #[Value.ref b] below meth c H1 locs1 (cells + 1) (slots + 7) Q (F0 mt 1361 ls1 [])) : W p l e room_1 s mt #[Value.ref b] below meth c H locs cells slots Q (F0 mt 973 ls []) := by
  have hC0 := hC
  obtain ⟨hx, hb, hml, hts, hown, hK, hX, hA, hXs, hbl, hbA, hst⟩ := hC
  obtain ⟨m_hi, m_th, m_po, m_ba, m_en, m_tl, m_hs, m_ss_f, m_im_f, m_re_f, m_sa_f, m_ke_f, m_so_f, m_si_f, m_el_f, m_kd_f, m_kt_f, m_nu_f, m_ca_f, m_ha_f, m_co_f, fo, ⟨x_no_ls, x_no_cr_so, x_no_cr_sz, x_no_cr_e_f, pr_nu, pr_ki, pr_st, pr_sl, bN, hRG⟩, ⟨x_mi_up, x_mi_down, x_mi_high, x_mi_prize, x_mi_z, x_mi_rounds, x_mi_people, x_mi_ls, x_mi_cr_so, x_mi_cr_sz, x_mi_cr_e_f, qm_nu, qm_ki, qm_st, qm_sl, bM⟩, ⟨x_ke_up, x_ke_down, x_ke_high, x_ke_prize, x_ke_z, x_ke_rounds, x_ke_people, x_ke_ls, x_ke_cr_so, x_ke_cr_sz, x_ke_cr_e_f, qk_nu, qk_ki, qk_st, qk_sl, bK, hKR⟩, ⟨sh_ho, rw_so, rw_sz, el_f, sp_nu, sp_ki, sp_st, sp_sl, bSS, hRS⟩, h_x, ⟨x_co_f, h_x_co⟩, ⟨x_ot_f, h_x_ot⟩, bRR, h_o, hhs⟩ := hV
  have hB := hRG.1
  have h5 := hB.2.2.2.2.1
  have hd20 := hB.2.1
  have hd1 := dn_ne hB
  have hi6 := hi_rng hB
  have hr5 := hB.2.2.2.2.2.2.1
  have hsts : ∀ i, i < 12 → (pr_st i).toInt ≤ 1000 := fun i hi => Int.le_trans (hRG.2.1.2 i hi) (by decide)
  have hzc := hRG.2.2.1
  have hzs : ∀ i, i < 8 → (rw_sz i).toInt ≤ 100 := fun i hi => (hRS i hi).2.2.2.2.1.2
  have hsi : ∀ i, i < 8 → (m_si_f i).toInt ≤ 100 := fun i hi => by rw [(hRS i hi).2.2.2.1]; exact (hRS i hi).2.2.2.2.1.2
  have hsi0 : ∀ i, i < 8 → 0 ≤ (m_si_f i).toInt := fun i hi => by rw [(hRS i hi).2.2.2.1]; exact (hRS i hi).2.2.2.2.1.1
  refine lv_aload_n hx hb dL_law_973 rfl (lv_at hl 1 rfl) ?_
  obtain ⟨h_x_no, h_x_no_pa, h_x_no_cr, h_x_no_cr_e, h_pr⟩ := id bN
  obtain ⟨h_x_ke, h_x_ke_pa, h_x_ke_cr, h_x_ke_cr_e, h_qk⟩ := id bK
  refine w_finj (w_runV (rm := ({ frames := 4, cells := 0, slots := 0, locals := 89 } : Room)) (As := []) (rest := []) (n := 0) hx hb hml hts hown hK w (c_X5_image l D cI cP cS cL L _ x x_no x_ke x_mi m_hi x_sh x_co x_ot (m_ss_f 0) (m_ss_f 1) (m_ss_f 2) (m_ss_f 3) (m_ss_f 4) (m_ss_f 6) (m_ss_f 5) x_no_pa x_no_cr x_no_ls x_no_cr_e x_no_cr_so x_no_cr_sz x_no_cr_e_f x_ke_up x_ke_down x_ke_high x_ke_prize x_ke_z x_ke_rounds x_ke_people x_ke_pa x_ke_cr x_ke_ls x_ke_cr_e x_ke_cr_so x_ke_cr_sz x_ke_cr_e_f pr pr_nu pr_ki pr_st pr_sl qk qk_nu qk_ki qk_st qk_sl h_x h_x_no h_x_no_pa h_x_no_cr h_x_no_cr_e h_x_ke h_x_ke_pa h_x_ke_cr h_x_ke_cr_e h_pr h_qk hzc (lne_59 hT) (lne_60 hT) (lne_61 hT) (lne_62 hT) (lne_63 hT)) gL_law_X5_image rfl rfl rfl (by decide +kernel) ⟨(Nat.le_of_ble_eq_true rfl), (Nat.le_of_ble_eq_true rfl)⟩ h_x rfl rfl hl.1 rfl (Nat.le_of_ble_eq_true rfl) dL_law_974 ⟨by show cells + 0 ≤ 600128; omega, by show slots + 0 ≤ 7301098; omega⟩) w hA (fun r5 F5 H locs hp w => ?_)
  obtain ⟨y5, ey5, er5, e5_x, e5_x_ke, e5_x_ke_cr, e5_x_ke_cr_e, e5_qk, hk5⟩ := hp
  have hg5 := gr_wk (L := L) hk5
  have bN := gN hT (fun k a h h1 h2 => fr_X5_image hT h (by omega)) hg5 bN
  have bM := gM hT (fun k a h h1 h2 => fr_X5_image hT h (by omega)) hg5 bM
  have bSS := gS hT (fun k a h h1 h2 => fr_X5_image hT h (by omega)) hg5 bSS
  have h_x_co := gco hT (fun k a h h1 h2 => fr_X5_image hT h (by omega)) hg5 h_x_co
  have h_x_ot := got hT (fun k a h h1 h2 => fr_X5_image hT h (by omega)) hg5 h_x_ot
  have bRR := gR hT (fun k a h h1 h2 => fr_X5_image hT h (by omega)) hg5 bRR
  have h_o := go hT (fun k a h h1 h2 => fr_X5_image hT h (by omega)) hg5 h_o
  have bK : bG cI cP L F5 x_ke x_ke_pa x_ke_cr x_ke_cr_e qk (y5.2.2.1) (y5.2.2.2.1) (y5.2.2.2.2.1) (y5.2.2.2.2.2.1) (y5.2.2.2.2.2.2.1) (y5.2.2.2.2.2.2.2.1) (y5.2.2.2.2.2.2.2.2.1) (y5.2.2.2.2.2.2.2.2.2.1) (y5.2.2.2.2.2.2.2.2.2.2.1) (y5.2.2.2.2.2.2.2.2.2.2.2.1) (y5.2.2.2.2.2.2.2.2.2.2.2.2.1) (y5.2.2.2.2.2.2.2.2.2.2.2.2.2.1) (y5.2.2.2.2.2.2.2.2.2.2.2.2.2.2.1) (y5.2.2.2.2.2.2.2.2.2.2.2.2.2.2.2.1) (y5.2.2.2.2.2.2.2.2.2.2.2.2.2.2.2.2) := ⟨⟨(hg5 _ h_x_ke.1).1, e5_x_ke⟩, h_x_ke_pa.grow hg5 (fr_X5_image hT (hT.2.1.2.2.2.2.2.2.1) (by decide)), ⟨(hg5 _ h_x_ke_cr.1).1, e5_x_ke_cr⟩, ⟨(hg5 _ h_x_ke_cr_e.1).1, e5_x_ke_cr_e⟩, (fun i hi => ⟨(hg5 _ (h_qk i hi).1).1, e5_qk i hi⟩)⟩
  have h_x : wi L F5 x (eX x_no x_ke x_mi y5.2.1 x_sh x_co x_ot) := ⟨(hg5 _ h_x.1).1, e5_x⟩
  refine lv_aload_n hx hb dL_law_977 rfl (lv_at hl 2 rfl) ?_
  obtain ⟨h_m, h_m_ss, h_m_im, h_m_re, h_m_sa, h_m_ke, h_m_so, h_m_si, h_m_el, h_m_kd, h_m_kt, h_m_nu, h_m_ca, h_m_ha, h_m_co⟩ := id bRR
  refine w_finj (w_runV (rm := ({ frames := 0, cells := 0, slots := 0, locals := 0 } : Room)) (As := []) (rest := [.int r5]) (n := 0) hx hb hml hts hown hK w (c_X6_image l D cI cP cS cL L _ m m_ss m_im m_re m_sa m_ke m_so m_si m_el m_kd m_kt m_hi (m_th) m_po m_ba m_en m_tl m_nu m_ca m_ha m_hs m_co m_ss_f m_im_f h_m h_m_ss h_m_im (lne_64 hT)) gL_law_X6_image rfl rfl rfl (by decide +kernel) ⟨(Nat.le_of_ble_eq_true rfl), (Nat.le_of_ble_eq_true rfl)⟩ h_m rfl rfl hl.1 rfl (Nat.le_of_ble_eq_true rfl) dL_law_978 ⟨by show cells + 0 ≤ 600128; omega, by show slots + 0 ≤ 7301098; omega⟩) w hA (fun r6 F6 H locs hp w => ?_)
  obtain ⟨y6, ey6, er6, e6_m, e6_m_im, hk6⟩ := hp
  have hg6 := gr_wk (L := L) hk6
  have bN := gN hT (fun k a h h1 h2 => fr_X6_image hT h (by omega)) hg6 bN
  have bK := gK hT (fun k a h h1 h2 => fr_X6_image hT h (by omega)) hg6 bK
  have bM := gM hT (fun k a h h1 h2 => fr_X6_image hT h (by omega)) hg6 bM
  have bSS := gS hT (fun k a h h1 h2 => fr_X6_image hT h (by omega)) hg6 bSS
  have h_x := gx hT (fun k a h h1 h2 => fr_X6_image hT h (by omega)) hg6 h_x
  have h_x_co := gco hT (fun k a h h1 h2 => fr_X6_image hT h (by omega)) hg6 h_x_co
  have h_x_ot := got hT (fun k a h h1 h2 => fr_X6_image hT h (by omega)) hg6 h_x_ot
  have h_o := go hT (fun k a h h1 h2 => fr_X6_image hT h (by omega)) hg6 h_o
  have bRR : bR cI L F6 m m_ss m_im m_re m_sa m_ke m_so m_si m_el m_kd m_kt m_nu m_ca m_ha m_co (y6.2.2) (m_th) (m_po) (m_ba) (m_en) (m_tl) (m_hs) (m_ss_f) (y6.2.1) (m_re_f) (m_sa_f) (m_ke_f) (m_so_f) (m_si_f) (m_el_f) (m_kd_f) (m_kt_f) (m_nu_f) (m_ca_f) (m_ha_f) (m_co_f) := ⟨⟨(hg6 _ h_m.1).1, e6_m⟩, h_m_ss.grow hg6 (fr_X6_image hT (hT.2.1.2.2.2.2.2.2.2.2.2.2.2.2.2.2.2.2.2.1) (by decide)), ⟨(hg6 _ h_m_im.1).1, e6_m_im⟩, h_m_re.grow hg6 (fr_X6_image hT (hT.2.1.2.2.2.2.2.2.2.2.2.2.2.2.2.2.2.2.2.2.2.1) (by decide)), h_m_sa.grow hg6 (fr_X6_image hT (hT.2.1.2.2.2.2.2.2.2.2.2.2.2.2.2.2.2.2.2.2.2.2.1) (by decide)), h_m_ke.grow hg6 (fr_X6_image hT (hT.2.1.2.2.2.2.2.2.2.2.2.2.2.2.2.2.2.2.2.2.2.2.2.1) (by decide)), h_m_so.grow hg6 (fr_X6_image hT (hT.2.1.2.2.2.2.2.2.2.2.2.2.2.2.2.2.2.2.2.2.2.2.2.2.1) (by decide)), h_m_si.grow hg6 (fr_X6_image hT (hT.2.1.2.2.2.2.2.2.2.2.2.2.2.2.2.2.2.2.2.2.2.2.2.2.2.1) (by decide)), h_m_el.grow hg6 (fr_X6_image hT (hT.2.1.2.2.2.2.2.2.2.2.2.2.2.2.2.2.2.2.2.2.2.2.2.2.2.2.1) (by decide)), h_m_kd.grow hg6 (fr_X6_image hT (hT.2.1.2.2.2.2.2.2.2.2.2.2.2.2.2.2.2.2.2.2.2.2.2.2.2.2.2.1) (by decide)), h_m_kt.grow hg6 (fr_X6_image hT (hT.2.1.2.2.2.2.2.2.2.2.2.2.2.2.2.2.2.2.2.2.2.2.2.2.2.2.2.2.1) (by decide)), h_m_nu.grow hg6 (fr_X6_image hT (hT.2.1.2.2.2.2.2.2.2.2.2.2.2.2.2.2.2.2.2.2.2.2.2.2.2.2.2.2.2.1) (by decide)), h_m_ca.grow hg6 (fr_X6_image hT (hT.2.1.2.2.2.2.2.2.2.2.2.2.2.2.2.2.2.2.2.2.2.2.2.2.2.2.2.2.2.2.1) (by decide)), h_m_ha.grow hg6 (fr_X6_image hT (hT.2.1.2.2.2.2.2.2.2.2.2.2.2.2.2.2.2.2.2.2.2.2.2.2.2.2.2.2.2.2.2.1) (by decide)), h_m_co.grow hg6 (fr_X6_image hT (hT.2.1.2.2.2.2.2.2.2.2.2.2.2.2.2.2.2.2.2.2.2.2.2.2.2.2.2.2.2.2.2.2.1) (by decide))⟩
  have E := img_ok (ss := m_ss_f) (im := m_im_f)
  rw [← ey6] at E
  obtain ⟨E1, E2, Ej⟩ := E
  have E5 := ey5.trans image_eq
  rw [E5] at bK
  have h_x : wi L F6 x (eX x_no x_ke x_mi (y6.2.2) x_sh x_co x_ot) := by rw [E2, ← show y5.2.1 = 1 from congrArg (fun z => z.2.1) E5]; exact h_x
  have hKR2 : KR (y6.2.2) (y6.2.1) (m_ss_f 0) (m_ss_f 1) (m_ss_f 2) (m_ss_f 3) (m_ss_f 4) (m_ss_f 6) (m_ss_f 5) x_no_ls (f_X3_takeFrom 12 x_ke_cr_e_f x_no_cr_so x_no_cr_sz x_no_cr_e_f).2.1 (f_X3_takeFrom 12 x_ke_cr_e_f x_no_cr_so x_no_cr_sz x_no_cr_e_f).2.2 (cp 12 qk_nu pr_nu) (cp 12 qk_ki pr_ki) (cp 12 qk_st pr_st) (cp 12 qk_sl pr_sl) := ⟨rtf_le (by decide), Or.inr ⟨(Ej 0 (by decide)).symm, (Ej 1 (by decide)).symm, (Ej 2 (by decide)).symm, (Ej 3 (by decide)).symm, (Ej 4 (by decide)).symm, (Ej 6 (by decide)).symm, (Ej 5 (by decide)).symm, RG.copy (f := x_ke_cr_e_f) (so := x_no_cr_so) (a := qk_nu) (b := qk_ki) (c := qk_st) (d := qk_sl) hRG Ej⟩⟩
  refine lv_icmp_eq (tgt := 1361) hx hb dL_law_981 (by decide) (fun _ => ?_) (fun c9 => absurd (er5.trans ((congrArg Prod.fst E5).trans (E1.symm.trans er6.symm))) c9)
  refine W.widen (k := cells + 1) (n := slots + 7) (by omega) (by omega) ?_
  exact kk L F6 H locs ls ⟨y6.2.2, m_th, m_po, m_ba, m_en, m_tl, m_hs, m_ss_f, y6.2.1, m_re_f, m_sa_f, m_ke_f, m_so_f, m_si_f, m_el_f, m_kd_f, m_kt_f, m_nu_f, m_ca_f, m_ha_f, m_co_f, fo, ⟨_, _, _, _, _, _, _, _, bN, hRG⟩, ⟨_, _, _, _, _, _, _, _, _, _, _, _, _, _, _, bM⟩, ⟨_, _, _, _, _, _, _, _, _, _, _, _, _, _, _, bK, hKR2⟩, ⟨_, _, _, _, _, _, _, _, bSS, hRS⟩, h_x, ⟨_, h_x_co⟩, ⟨_, h_x_ot⟩, bRR, h_o, hhs⟩ w hl

set_option maxHeartbeats 4000000 in
set_option maxRecDepth 100000 in
theorem law_restore {p : Program} {l : Launch} {e : Env} {s : State} {mt : MethodId} {below : List Frame} {meth : Method} {c : Code} {H : Heap} {locs : List Loc} {cells slots : Nat} {Q : State → Prop} {D : va_G} {A : Nat → Prop} {L : List Nat} {F : Nat → va_E} {cI cP cS cL : ClassId} {sa : Nat → Nat} {b len : Nat} {xs : Nat → Int32} {ls : Array Slot} {i : Int32} {Lst : List Nat} {x x_no x_no_pa x_no_cr x_no_cr_e x_ke x_ke_pa x_ke_cr x_ke_cr_e x_mi x_mi_pa x_mi_cr x_mi_cr_e x_sh x_co x_ot m m_ss m_im m_re m_sa m_ke m_so m_si m_el m_kd m_kt m_nu m_ca m_ha m_co o : Nat} {pr qk qm sh rw el sp : Nat → Nat} (hT : TG Lst x x_no x_no_pa x_no_cr x_no_cr_e x_ke x_ke_pa x_ke_cr x_ke_cr_e x_mi x_mi_pa x_mi_cr x_mi_cr_e x_sh x_co x_ot m m_ss m_im m_re m_sa m_ke m_so m_si m_el m_kd m_kt m_nu m_ca m_ha m_co o pr qk qm sh rw el sp) (hC : LC p l s mt c D cI cP cS cL A sa b len xs) (hI : ∀ k : Int32, 1 ≤ k.toInt → k.toInt ≤ 5 → vp_in (i + k) len) (hroom : cells + 1 ≤ 600128 ∧ slots + 7 ≤ 7301098) (hV : IV cI cP cS cL x x_no x_no_pa x_no_cr x_no_cr_e x_ke x_ke_pa x_ke_cr x_ke_cr_e x_mi x_mi_pa x_mi_cr x_mi_cr_e x_sh x_co x_ot m m_ss m_im m_re m_sa m_ke m_so m_si m_el m_kd m_kt m_nu m_ca m_ha m_co o pr qk qm sh rw el sp L F) (w : ww D A s.heap L F H locs) (hl : lv_has ls 8 (LV b x m o i)) (kk : ∀ (L1 : List Nat) (F1 : Nat → va_E) (H1 : Heap) (locs1 : List Loc) (ls1 : Array Slot), IV cI cP cS cL x x_no x_no_pa x_no_cr x_no_cr_e x_ke x_ke_pa x_ke_cr x_ke_cr_e x_mi x_mi_pa x_mi_cr x_mi_cr_e x_sh x_co x_ot m m_ss m_im m_re m_sa m_ke m_so m_si m_el m_kd m_kt m_nu m_ca m_ha m_co o pr qk qm sh rw el sp L1 F1 → ww D A s.heap L1 F1 H1 locs1 → lv_has ls1 8 (LV b x m o i) → W p l e room_1 s mt #[Value.ref b] below meth c H1 locs1 (cells + 1) (slots + 7) Q (F0 mt 1361 ls1 [])) : W p l e room_1 s mt #[Value.ref b] below meth c H locs cells slots Q (F0 mt 986 ls []) := by
  have hC0 := hC
  obtain ⟨hx, hb, hml, hts, hown, hK, hX, hA, hXs, hbl, hbA, hst⟩ := hC
  obtain ⟨m_hi, m_th, m_po, m_ba, m_en, m_tl, m_hs, m_ss_f, m_im_f, m_re_f, m_sa_f, m_ke_f, m_so_f, m_si_f, m_el_f, m_kd_f, m_kt_f, m_nu_f, m_ca_f, m_ha_f, m_co_f, fo, ⟨x_no_ls, x_no_cr_so, x_no_cr_sz, x_no_cr_e_f, pr_nu, pr_ki, pr_st, pr_sl, bN, hRG⟩, ⟨x_mi_up, x_mi_down, x_mi_high, x_mi_prize, x_mi_z, x_mi_rounds, x_mi_people, x_mi_ls, x_mi_cr_so, x_mi_cr_sz, x_mi_cr_e_f, qm_nu, qm_ki, qm_st, qm_sl, bM⟩, ⟨x_ke_up, x_ke_down, x_ke_high, x_ke_prize, x_ke_z, x_ke_rounds, x_ke_people, x_ke_ls, x_ke_cr_so, x_ke_cr_sz, x_ke_cr_e_f, qk_nu, qk_ki, qk_st, qk_sl, bK, hKR⟩, ⟨sh_ho, rw_so, rw_sz, el_f, sp_nu, sp_ki, sp_st, sp_sl, bSS, hRS⟩, h_x, ⟨x_co_f, h_x_co⟩, ⟨x_ot_f, h_x_ot⟩, bRR, h_o, hhs⟩ := hV
  have hB := hRG.1
  have h5 := hB.2.2.2.2.1
  have hd20 := hB.2.1
  have hd1 := dn_ne hB
  have hi6 := hi_rng hB
  have hr5 := hB.2.2.2.2.2.2.1
  have hsts : ∀ i, i < 12 → (pr_st i).toInt ≤ 1000 := fun i hi => Int.le_trans (hRG.2.1.2 i hi) (by decide)
  have hzc := hRG.2.2.1
  have hzs : ∀ i, i < 8 → (rw_sz i).toInt ≤ 100 := fun i hi => (hRS i hi).2.2.2.2.1.2
  have hsi : ∀ i, i < 8 → (m_si_f i).toInt ≤ 100 := fun i hi => by rw [(hRS i hi).2.2.2.1]; exact (hRS i hi).2.2.2.2.1.2
  have hsi0 : ∀ i, i < 8 → 0 ≤ (m_si_f i).toInt := fun i hi => by rw [(hRS i hi).2.2.2.1]; exact (hRS i hi).2.2.2.2.1.1
  refine lv_aload_n hx hb dL_law_986 rfl (lv_at hl 1 rfl) ?_
  obtain ⟨h_x_no, h_x_no_pa, h_x_no_cr, h_x_no_cr_e, h_pr⟩ := id bN
  obtain ⟨h_x_ke, h_x_ke_pa, h_x_ke_cr, h_x_ke_cr_e, h_qk⟩ := id bK
  refine w_finj (w_runV (rm := ({ frames := 4, cells := 0, slots := 0, locals := 89 } : Room)) (As := []) (rest := []) (n := 0) hx hb hml hts hown hK w (c_X5_restore l D cI cP cS cL L _ x x_no x_ke x_mi m_hi x_sh x_co x_ot (m_ss_f 0) (m_ss_f 1) (m_ss_f 2) (m_ss_f 3) (m_ss_f 4) (m_ss_f 6) (m_ss_f 5) x_no_pa x_no_cr x_no_ls x_no_cr_e x_no_cr_so x_no_cr_sz x_no_cr_e_f x_ke_up x_ke_down x_ke_high x_ke_prize x_ke_z x_ke_rounds x_ke_people x_ke_pa x_ke_cr x_ke_ls x_ke_cr_e x_ke_cr_so x_ke_cr_sz x_ke_cr_e_f pr pr_nu pr_ki pr_st pr_sl qk qk_nu qk_ki qk_st qk_sl h_x h_x_no h_x_no_pa h_x_no_cr h_x_no_cr_e h_x_ke h_x_ke_pa h_x_ke_cr h_x_ke_cr_e h_pr h_qk hKR.1 (lne_65 hT) (lne_66 hT) (lne_67 hT) (lne_68 hT) (lne_11 hT)) gL_law_X5_restore rfl rfl rfl (by decide +kernel) ⟨(Nat.le_of_ble_eq_true rfl), (Nat.le_of_ble_eq_true rfl)⟩ h_x rfl rfl hl.1 rfl (Nat.le_of_ble_eq_true rfl) dL_law_987 ⟨by show cells + 0 ≤ 600128; omega, by show slots + 0 ≤ 7301098; omega⟩) w hA (fun r5 F5 H locs hp w => ?_)
  obtain ⟨y5, ey5, er5, e5_x_no, e5_x_no_cr, e5_x_no_cr_e, e5_pr, hk5⟩ := hp
  have hg5 := gr_wk (L := L) hk5
  have bK := gK hT (fun k a h h1 h2 => fr_X5_restore hT h (by omega)) hg5 bK
  have bM := gM hT (fun k a h h1 h2 => fr_X5_restore hT h (by omega)) hg5 bM
  have bSS := gS hT (fun k a h h1 h2 => fr_X5_restore hT h (by omega)) hg5 bSS
  have h_x := gx hT (fun k a h h1 h2 => fr_X5_restore hT h (by omega)) hg5 h_x
  have h_x_co := gco hT (fun k a h h1 h2 => fr_X5_restore hT h (by omega)) hg5 h_x_co
  have h_x_ot := got hT (fun k a h h1 h2 => fr_X5_restore hT h (by omega)) hg5 h_x_ot
  have bRR := gR hT (fun k a h h1 h2 => fr_X5_restore hT h (by omega)) hg5 bRR
  have h_o := go hT (fun k a h h1 h2 => fr_X5_restore hT h (by omega)) hg5 h_o
  have bN : bG cI cP L F5 x_no x_no_pa x_no_cr x_no_cr_e pr (y5.2.1) (y5.2.2.1) (y5.2.2.2.1) (y5.2.2.2.2.1) (y5.2.2.2.2.2.1) (y5.2.2.2.2.2.2.1) (y5.2.2.2.2.2.2.2.1) (y5.2.2.2.2.2.2.2.2.1) (y5.2.2.2.2.2.2.2.2.2.1) (y5.2.2.2.2.2.2.2.2.2.2.1) (y5.2.2.2.2.2.2.2.2.2.2.2.1) (y5.2.2.2.2.2.2.2.2.2.2.2.2.1) (y5.2.2.2.2.2.2.2.2.2.2.2.2.2.1) (y5.2.2.2.2.2.2.2.2.2.2.2.2.2.2.1) (y5.2.2.2.2.2.2.2.2.2.2.2.2.2.2.2) := ⟨⟨(hg5 _ h_x_no.1).1, e5_x_no⟩, h_x_no_pa.grow hg5 (fr_X5_restore hT (hT.2.1.2.2.1) (by decide)), ⟨(hg5 _ h_x_no_cr.1).1, e5_x_no_cr⟩, ⟨(hg5 _ h_x_no_cr_e.1).1, e5_x_no_cr_e⟩, (fun i hi => ⟨(hg5 _ (h_pr i hi).1).1, e5_pr i hi⟩)⟩
  refine lv_aload_n hx hb dL_law_990 rfl (lv_at hl 2 rfl) ?_
  obtain ⟨h_m, h_m_ss, h_m_im, h_m_re, h_m_sa, h_m_ke, h_m_so, h_m_si, h_m_el, h_m_kd, h_m_kt, h_m_nu, h_m_ca, h_m_ha, h_m_co⟩ := id bRR
  refine w_finj (w_runV (rm := ({ frames := 0, cells := 0, slots := 0, locals := 0 } : Room)) (As := []) (rest := [.int r5]) (n := 0) hx hb hml hts hown hK w (c_X6_restore l D cI cP cS cL L _ m m_ss m_im m_re m_sa m_ke m_so m_si m_el m_kd m_kt m_hi (m_th) m_po m_ba m_en m_tl m_nu m_ca m_ha m_hs m_co m_ss_f m_im_f h_m h_m_ss h_m_im (lne_69 hT)) gL_law_X6_restore rfl rfl rfl (by decide +kernel) ⟨(Nat.le_of_ble_eq_true rfl), (Nat.le_of_ble_eq_true rfl)⟩ h_m rfl rfl hl.1 rfl (Nat.le_of_ble_eq_true rfl) dL_law_991 ⟨by show cells + 0 ≤ 600128; omega, by show slots + 0 ≤ 7301098; omega⟩) w hA (fun r6 F6 H locs hp w => ?_)
  obtain ⟨y6, ey6, er6, e6_m_ss, hk6⟩ := hp
  have hg6 := gr_wk (L := L) hk6
  have bN := gN hT (fun k a h h1 h2 => fr_X6_restore hT h (by omega)) hg6 bN
  have bK := gK hT (fun k a h h1 h2 => fr_X6_restore hT h (by omega)) hg6 bK
  have bM := gM hT (fun k a h h1 h2 => fr_X6_restore hT h (by omega)) hg6 bM
  have bSS := gS hT (fun k a h h1 h2 => fr_X6_restore hT h (by omega)) hg6 bSS
  have h_x := gx hT (fun k a h h1 h2 => fr_X6_restore hT h (by omega)) hg6 h_x
  have h_x_co := gco hT (fun k a h h1 h2 => fr_X6_restore hT h (by omega)) hg6 h_x_co
  have h_x_ot := got hT (fun k a h h1 h2 => fr_X6_restore hT h (by omega)) hg6 h_x_ot
  have h_o := go hT (fun k a h h1 h2 => fr_X6_restore hT h (by omega)) hg6 h_o
  have bRR : bR cI L F6 m m_ss m_im m_re m_sa m_ke m_so m_si m_el m_kd m_kt m_nu m_ca m_ha m_co (m_hi) (m_th) (m_po) (m_ba) (m_en) (m_tl) (m_hs) (y6.2) (m_im_f) (m_re_f) (m_sa_f) (m_ke_f) (m_so_f) (m_si_f) (m_el_f) (m_kd_f) (m_kt_f) (m_nu_f) (m_ca_f) (m_ha_f) (m_co_f) := ⟨h_m.grow hg6 (fr_X6_restore hT (hT.2.1.2.2.2.2.2.2.2.2.2.2.2.2.2.2.2.2.1) (by decide)), ⟨(hg6 _ h_m_ss.1).1, e6_m_ss⟩, h_m_im.grow hg6 (fr_X6_restore hT (hT.2.1.2.2.2.2.2.2.2.2.2.2.2.2.2.2.2.2.2.2.1) (by decide)), h_m_re.grow hg6 (fr_X6_restore hT (hT.2.1.2.2.2.2.2.2.2.2.2.2.2.2.2.2.2.2.2.2.2.1) (by decide)), h_m_sa.grow hg6 (fr_X6_restore hT (hT.2.1.2.2.2.2.2.2.2.2.2.2.2.2.2.2.2.2.2.2.2.2.1) (by decide)), h_m_ke.grow hg6 (fr_X6_restore hT (hT.2.1.2.2.2.2.2.2.2.2.2.2.2.2.2.2.2.2.2.2.2.2.2.1) (by decide)), h_m_so.grow hg6 (fr_X6_restore hT (hT.2.1.2.2.2.2.2.2.2.2.2.2.2.2.2.2.2.2.2.2.2.2.2.2.1) (by decide)), h_m_si.grow hg6 (fr_X6_restore hT (hT.2.1.2.2.2.2.2.2.2.2.2.2.2.2.2.2.2.2.2.2.2.2.2.2.2.1) (by decide)), h_m_el.grow hg6 (fr_X6_restore hT (hT.2.1.2.2.2.2.2.2.2.2.2.2.2.2.2.2.2.2.2.2.2.2.2.2.2.2.1) (by decide)), h_m_kd.grow hg6 (fr_X6_restore hT (hT.2.1.2.2.2.2.2.2.2.2.2.2.2.2.2.2.2.2.2.2.2.2.2.2.2.2.2.1) (by decide)), h_m_kt.grow hg6 (fr_X6_restore hT (hT.2.1.2.2.2.2.2.2.2.2.2.2.2.2.2.2.2.2.2.2.2.2.2.2.2.2.2.2.1) (by decide)), h_m_nu.grow hg6 (fr_X6_restore hT (hT.2.1.2.2.2.2.2.2.2.2.2.2.2.2.2.2.2.2.2.2.2.2.2.2.2.2.2.2.2.1) (by decide)), h_m_ca.grow hg6 (fr_X6_restore hT (hT.2.1.2.2.2.2.2.2.2.2.2.2.2.2.2.2.2.2.2.2.2.2.2.2.2.2.2.2.2.2.1) (by decide)), h_m_ha.grow hg6 (fr_X6_restore hT (hT.2.1.2.2.2.2.2.2.2.2.2.2.2.2.2.2.2.2.2.2.2.2.2.2.2.2.2.2.2.2.2.1) (by decide)), h_m_co.grow hg6 (fr_X6_restore hT (hT.2.1.2.2.2.2.2.2.2.2.2.2.2.2.2.2.2.2.2.2.2.2.2.2.2.2.2.2.2.2.2.2.1) (by decide))⟩
  have E := restore_m (so := x_no_cr_so) (kso := x_ke_cr_so) hRG hKR
  rw [← ey5] at E
  rw [← ey6] at E
  obtain ⟨E1, E20, E21, E22, E23, E24, E26, E25, hRG2⟩ := E
  have bN : bG cI cP L F6 x_no x_no_pa x_no_cr x_no_cr_e pr (y6.2 0) (y6.2 1) (y6.2 2) (y6.2 3) (y6.2 4) (y6.2 6) (y6.2 5) (y5.2.2.2.2.2.2.2.2.1) (y5.2.2.2.2.2.2.2.2.2.1) (y5.2.2.2.2.2.2.2.2.2.2.1) (y5.2.2.2.2.2.2.2.2.2.2.2.1) (y5.2.2.2.2.2.2.2.2.2.2.2.2.1) (y5.2.2.2.2.2.2.2.2.2.2.2.2.2.1) (y5.2.2.2.2.2.2.2.2.2.2.2.2.2.2.1) (y5.2.2.2.2.2.2.2.2.2.2.2.2.2.2.2) := bN.to E20 E21 E22 E23 E24 E26 E25
  refine lv_icmp_eq (tgt := 1361) hx hb dL_law_994 (by decide) (fun _ => ?_) (fun c9 => absurd (er5.trans (E1.trans er6.symm)) c9)
  refine W.widen (k := cells + 1) (n := slots + 7) (by omega) (by omega) ?_
  exact kk L F6 H locs ls ⟨m_hi, m_th, m_po, m_ba, m_en, m_tl, m_hs, y6.2, m_im_f, m_re_f, m_sa_f, m_ke_f, m_so_f, m_si_f, m_el_f, m_kd_f, m_kt_f, m_nu_f, m_ca_f, m_ha_f, m_co_f, fo, ⟨_, _, _, _, _, _, _, _, bN, hRG2⟩, ⟨_, _, _, _, _, _, _, _, _, _, _, _, _, _, _, bM⟩, ⟨_, _, _, _, _, _, _, _, _, _, _, _, _, _, _, bK, hKR⟩, ⟨_, _, _, _, _, _, _, _, bSS, hRS⟩, h_x, ⟨_, h_x_co⟩, ⟨_, h_x_ot⟩, bRR, h_o, hhs⟩ w hl

set_option maxHeartbeats 4000000 in
set_option maxRecDepth 100000 in
theorem law_count {p : Program} {l : Launch} {e : Env} {s : State} {mt : MethodId} {below : List Frame} {meth : Method} {c : Code} {H : Heap} {locs : List Loc} {cells slots : Nat} {Q : State → Prop} {D : va_G} {A : Nat → Prop} {L : List Nat} {F : Nat → va_E} {cI cP cS cL : ClassId} {sa : Nat → Nat} {b len : Nat} {xs : Nat → Int32} {ls : Array Slot} {i : Int32} {Lst : List Nat} {x x_no x_no_pa x_no_cr x_no_cr_e x_ke x_ke_pa x_ke_cr x_ke_cr_e x_mi x_mi_pa x_mi_cr x_mi_cr_e x_sh x_co x_ot m m_ss m_im m_re m_sa m_ke m_so m_si m_el m_kd m_kt m_nu m_ca m_ha m_co o : Nat} {pr qk qm sh rw el sp : Nat → Nat} (hT : TG Lst x x_no x_no_pa x_no_cr x_no_cr_e x_ke x_ke_pa x_ke_cr x_ke_cr_e x_mi x_mi_pa x_mi_cr x_mi_cr_e x_sh x_co x_ot m m_ss m_im m_re m_sa m_ke m_so m_si m_el m_kd m_kt m_nu m_ca m_ha m_co o pr qk qm sh rw el sp) (hC : LC p l s mt c D cI cP cS cL A sa b len xs) (hI : ∀ k : Int32, 1 ≤ k.toInt → k.toInt ≤ 5 → vp_in (i + k) len) (hroom : cells + 1 ≤ 600128 ∧ slots + 7 ≤ 7301098) (hV : IV cI cP cS cL x x_no x_no_pa x_no_cr x_no_cr_e x_ke x_ke_pa x_ke_cr x_ke_cr_e x_mi x_mi_pa x_mi_cr x_mi_cr_e x_sh x_co x_ot m m_ss m_im m_re m_sa m_ke m_so m_si m_el m_kd m_kt m_nu m_ca m_ha m_co o pr qk qm sh rw el sp L F) (w : ww D A s.heap L F H locs) (hl : lv_has ls 8 (LV b x m o i)) (kk : ∀ (L1 : List Nat) (F1 : Nat → va_E) (H1 : Heap) (locs1 : List Loc) (ls1 : Array Slot), IV cI cP cS cL x x_no x_no_pa x_no_cr x_no_cr_e x_ke x_ke_pa x_ke_cr x_ke_cr_e x_mi x_mi_pa x_mi_cr x_mi_cr_e x_sh x_co x_ot m m_ss m_im m_re m_sa m_ke m_so m_si m_el m_kd m_kt m_nu m_ca m_ha m_co o pr qk qm sh rw el sp L1 F1 → ww D A s.heap L1 F1 H1 locs1 → lv_has ls1 8 (LV b x m o i) → W p l e room_1 s mt #[Value.ref b] below meth c H1 locs1 (cells + 1) (slots + 7) Q (F0 mt 1361 ls1 [])) : W p l e room_1 s mt #[Value.ref b] below meth c H locs cells slots Q (F0 mt 999 ls []) := by
  have hC0 := hC
  obtain ⟨hx, hb, hml, hts, hown, hK, hX, hA, hXs, hbl, hbA, hst⟩ := hC
  obtain ⟨m_hi, m_th, m_po, m_ba, m_en, m_tl, m_hs, m_ss_f, m_im_f, m_re_f, m_sa_f, m_ke_f, m_so_f, m_si_f, m_el_f, m_kd_f, m_kt_f, m_nu_f, m_ca_f, m_ha_f, m_co_f, fo, ⟨x_no_ls, x_no_cr_so, x_no_cr_sz, x_no_cr_e_f, pr_nu, pr_ki, pr_st, pr_sl, bN, hRG⟩, ⟨x_mi_up, x_mi_down, x_mi_high, x_mi_prize, x_mi_z, x_mi_rounds, x_mi_people, x_mi_ls, x_mi_cr_so, x_mi_cr_sz, x_mi_cr_e_f, qm_nu, qm_ki, qm_st, qm_sl, bM⟩, ⟨x_ke_up, x_ke_down, x_ke_high, x_ke_prize, x_ke_z, x_ke_rounds, x_ke_people, x_ke_ls, x_ke_cr_so, x_ke_cr_sz, x_ke_cr_e_f, qk_nu, qk_ki, qk_st, qk_sl, bK, hKR⟩, ⟨sh_ho, rw_so, rw_sz, el_f, sp_nu, sp_ki, sp_st, sp_sl, bSS, hRS⟩, h_x, ⟨x_co_f, h_x_co⟩, ⟨x_ot_f, h_x_ot⟩, bRR, h_o, hhs⟩ := hV
  have hB := hRG.1
  have h5 := hB.2.2.2.2.1
  have hd20 := hB.2.1
  have hd1 := dn_ne hB
  have hi6 := hi_rng hB
  have hr5 := hB.2.2.2.2.2.2.1
  have hsts : ∀ i, i < 12 → (pr_st i).toInt ≤ 1000 := fun i hi => Int.le_trans (hRG.2.1.2 i hi) (by decide)
  have hzc := hRG.2.2.1
  have hzs : ∀ i, i < 8 → (rw_sz i).toInt ≤ 100 := fun i hi => (hRS i hi).2.2.2.2.1.2
  have hsi : ∀ i, i < 8 → (m_si_f i).toInt ≤ 100 := fun i hi => by rw [(hRS i hi).2.2.2.1]; exact (hRS i hi).2.2.2.2.1.2
  have hsi0 : ∀ i, i < 8 → 0 ≤ (m_si_f i).toInt := fun i hi => by rw [(hRS i hi).2.2.2.1]; exact (hRS i hi).2.2.2.2.1.1
  refine lv_aload_n hx hb dL_law_999 rfl (lv_at hl 1 rfl) ?_
  refine l_arg (x := x) (m := m) (o := o) (v := 1) hC0 w hl dL_law_1000 dL_law_1001 dL_law_1003 dL_law_1004 dL_law_1005 (by decide) (hI 1 (by decide) (by decide)) ?_
  obtain ⟨h_x_no, h_x_no_pa, h_x_no_cr, h_x_no_cr_e, h_pr⟩ := id bN
  refine w_finI (w_runV (rm := ({ frames := 1, cells := 0, slots := 0, locals := 22 } : Room)) (As := [.int (xs (i + 1).toNatClampNeg)]) (rest := []) (n := 1) hx hb hml hts hown hK w (c_X5_count l D cI cP cS cL L _ x (xs (i + 1).toNatClampNeg) x_no x_ke x_mi m_hi x_sh x_co x_ot (m_ss_f 0) (m_ss_f 1) (m_ss_f 2) (m_ss_f 3) (m_ss_f 4) (m_ss_f 6) (m_ss_f 5) x_no_pa x_no_cr x_no_ls pr pr_nu pr_ki pr_st pr_sl h_x h_x_no h_x_no_pa h_pr) gL_law_X5_count rfl rfl rfl (by decide +kernel) ⟨(Nat.le_of_ble_eq_true rfl), (Nat.le_of_ble_eq_true rfl)⟩ h_x rfl rfl hl.1 rfl (Nat.le_of_ble_eq_true rfl) dL_law_1006 ⟨by show cells + 0 ≤ 600128; omega, by show slots + 0 ≤ 7301098; omega⟩) w hA (fun H locs w => ?_)
  refine lv_aload_n hx hb dL_law_1009 rfl (lv_at hl 2 rfl) ?_
  refine l_arg (x := x) (m := m) (o := o) (v := 1) hC0 w hl dL_law_1010 dL_law_1011 dL_law_1013 dL_law_1014 dL_law_1015 (by decide) (hI 1 (by decide) (by decide)) ?_
  obtain ⟨h_m, h_m_ss, h_m_im, h_m_re, h_m_sa, h_m_ke, h_m_so, h_m_si, h_m_el, h_m_kd, h_m_kt, h_m_nu, h_m_ca, h_m_ha, h_m_co⟩ := id bRR
  refine w_finI (w_runV (rm := ({ frames := 1, cells := 0, slots := 0, locals := 22 } : Room)) (As := [.int (xs (i + 1).toNatClampNeg)]) (rest := [.int (f_X5_count (xs (i + 1).toNatClampNeg) (m_ss_f 0) (m_ss_f 1) (m_ss_f 2) (m_ss_f 6) (m_ss_f 5) pr_st)]) (n := 1) hx hb hml hts hown hK w (c_X6_count l D cI cP cS cL L _ m (xs (i + 1).toNatClampNeg) m_ss m_im m_re m_sa m_ke m_so m_si m_el m_kd m_kt m_hi (m_th) m_po m_ba m_en m_tl m_nu m_ca m_ha m_hs m_co m_ss_f h_m h_m_ss h5) gL_law_X6_count rfl rfl rfl (by decide +kernel) ⟨(Nat.le_of_ble_eq_true rfl), (Nat.le_of_ble_eq_true rfl)⟩ h_m rfl rfl hl.1 rfl (Nat.le_of_ble_eq_true rfl) dL_law_1016 ⟨by show cells + 0 ≤ 600128; omega, by show slots + 0 ≤ 7301098; omega⟩) w hA (fun H locs w => ?_)
  have E := count_m (what := (xs (i + 1).toNatClampNeg)) hRG
  refine lv_icmp_eq (tgt := 1361) hx hb dL_law_1019 (by decide) (fun _ => ?_) (fun c9 => absurd (E) c9)
  refine W.widen (k := cells + 1) (n := slots + 7) (by omega) (by omega) ?_
  exact kk L F H locs ls ⟨m_hi, m_th, m_po, m_ba, m_en, m_tl, m_hs, m_ss_f, m_im_f, m_re_f, m_sa_f, m_ke_f, m_so_f, m_si_f, m_el_f, m_kd_f, m_kt_f, m_nu_f, m_ca_f, m_ha_f, m_co_f, fo, ⟨_, _, _, _, _, _, _, _, bN, hRG⟩, ⟨_, _, _, _, _, _, _, _, _, _, _, _, _, _, _, bM⟩, ⟨_, _, _, _, _, _, _, _, _, _, _, _, _, _, _, bK, hKR⟩, ⟨_, _, _, _, _, _, _, _, bSS, hRS⟩, h_x, ⟨_, h_x_co⟩, ⟨_, h_x_ot⟩, bRR, h_o, hhs⟩ w hl
