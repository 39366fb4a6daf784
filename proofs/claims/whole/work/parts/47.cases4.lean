/-! THE LAW: keep, row, put, element, copy, depth, toss -/
set_option maxHeartbeats 4000000 in
set_option maxRecDepth 100000 in
theorem law_keep {p : Program} {l : Launch} {e : Env} {s : State} {mt : MethodId} {below : List Frame} {meth : Method} {c : Code} {H : Heap} {locs : List Loc} {cells slots : Nat} {Q : State → Prop} {D : va_G} {A : Nat → Prop} {L : List Nat} {F : Nat → va_E} {cI cP cS cL : ClassId} {sa : Nat → Nat} {b len : Nat} {xs : Nat → Int32} {ls : Array Slot} {i : Int32} {Lst : List Nat} {x x_no x_no_pa x_no_cr x_no_cr_e x_ke x_ke_pa x_ke_cr x_ke_cr_e x_mi x_mi_pa x_mi_cr x_mi_cr_e x_sh x_co x_ot m m_ss m_im m_re m_sa m_ke m_so m_si m_el m_kd m_kt m_nu m_ca m_ha m_co o : Nat} {pr qk qm sh rw el sp : Nat → Nat} (hT : TG Lst x x_no x_no_pa x_no_cr x_no_cr_e x_ke x_ke_pa x_ke_cr x_ke_cr_e x_mi x_mi_pa x_mi_cr x_mi_cr_e x_sh x_co x_ot m m_ss m_im m_re m_sa m_ke m_so m_si m_el m_kd m_kt m_nu m_ca m_ha m_co o pr qk qm sh rw el sp) (hC : LC p l s mt c D cI cP cS cL A sa b len xs) (hI : ∀ k : Int32, 1 ≤ k.toInt → k.toInt ≤ 5 → vp_in (i + k) len) (hroom : cells + 1 ≤ 600128 ∧ slots + 7 ≤ 7301098) (hV : IV cI cP cS cL x x_no x_no_pa x_no_cr x_no_cr_e x_ke x_ke_pa x_ke_cr x_ke_cr_e x_mi x_mi_pa x_mi_cr x_mi_cr_e x_sh x_co x_ot m m_ss m_im m_re m_sa m_ke m_so m_si m_el m_kd m_kt m_nu m_ca m_ha m_co o pr qk qm sh rw el sp L F) (w : ww D A s.heap L F H locs) (hl : lv_has ls 8 (LV b x m o i)) (kk : ∀ (L1 : List Nat) (F1 : Nat → va_E) (H1 : Heap) (locs1 : List Loc) (ls1 : Array Slot), IV cI cP cS cL x x_no x_no_pa x_no_cr x_no_cr_e x_ke x_ke_pa x_ke_cr x_ke_cr_e x_mi x_mi_pa x_mi_cr x_mi_cr_e x_sh x_co x_ot m m_ss m_im m_re m_sa m_ke m_so m_si m_el m_kd m_kt m_nu m_ca m_ha m_co o pr qk qm sh rw el sp L1 F1 → ww D A s.heap L1 F1 H1 locs1 → lv_has ls1 8 (LV b x m o i) → W p l e room_1 s mt #[Value.ref b] below meth c H1 locs1 (cells + 1) (slots + 7) Q (F0 mt 1361 ls1 [])) : W p l e room_1 s mt #[Value.ref b] below meth c H locs cells slots Q (F0 mt 1024 ls []) := by
  have hC0 := hC
  obtain ⟨hx, hb, hml, hts, hown, hK, hX, hA, hXs, hbl, hbA, hst⟩ := hC
  obtain ⟨m_hi, m_th, m_po, m_ba, m_en, m_tl, m_hs, m_ss_f, m_im_f, m_re_f, m_sa_f, m_ke_f, m_so_f, m_si_f, m_el_f, m_kd_f, m_kt_f, m_nu_f, m_ca_f, m_ha_f, m_co_f, fo, ⟨x_no_ls, x_no_cr_so, x_no_cr_sz, x_no_cr_e_f, pr_nu, pr_ki, pr_st, pr_sl, bN, hRG⟩, ⟨x_mi_up, x_mi_down, x_mi_high, x_mi_prize, x_mi_z, x_mi_rounds, x_mi_people, x_mi_ls, x_mi_cr_so, x_mi_cr_sz, x_mi_cr_e_f, qm_nu, qm_ki, qm_st, qm_sl, bM⟩, ⟨x_ke_up, x_ke_down, x_ke_high, x_ke_prize, x_ke_z, x_ke_rounds, x_ke_people, x_ke_ls, x_ke_cr_so, x_ke_cr_sz, x_ke_cr_e_f, qk_nu, qk_ki, qk_st, qk_sl, bK, hKR⟩, ⟨sh_ho, rw_so, rw_sz, el_f, sp_nu, sp_ki, sp_st, sp_sl, bSS, hRS⟩, h_x, ⟨x_co_f, h_x_co⟩, ⟨x_ot_f, h_x_ot⟩, bRR, h_o, hhs⟩ := hV
  have hB := hRG.1
  have h5 := hB.2.2.2.2.1
  have hd20 := hB.2.1
  have hd1 := dn_ne hB
  have hi6 := hi_rng hB
  have hr5 := hB.2.2.2.2.2.2.1
  have hsts : ∀ i, i < 12 → (pr_st i).toInt ≤ 1000 := fun i hi => Int.le_trans (hRG.2.1.2 i hi) (by decide)
  have hzc := hRG.2.2.1
  have hzs : ∀ i, i < 8 → (rw_sz i).toInt ≤ 100 := fun i hi => (hRS i hi).2.2.2.2.1.2
  have hsi : ∀ i, i < 8 → (m_si_f i).toInt ≤ 100 := fun i hi => by rw [(hRS i hi).2.2.2.1]; exact (hRS i hi).2.2.2.2.1.2
  have hsi0 : ∀ i, i < 8 → 0 ≤ (m_si_f i).toInt := fun i hi => by rw [(hRS i hi).2.2.2.1]; exact (hRS i hi).2.2.2.2.1.1
  refine lv_aload_n hx hb dL_law_1024 rfl (lv_at hl 1 rfl) ?_
  refine l_arg (x := x) (m := m) (o := o) (v := 1) hC0 w hl dL_law_1025 dL_law_1026 dL_law_1028 dL_law_1029 dL_law_1030 (by decide) (hI 1 (by decide) (by decide)) ?_
  refine l_arg (x := x) (m := m) (o := o) (v := 2) hC0 w hl dL_law_1031 dL_law_1032 dL_law_1034 dL_law_1035 dL_law_1036 (by decide) (hI 2 (by decide) (by decide)) ?_
  refine l_arg (x := x) (m := m) (o := o) (v := 3) hC0 w hl dL_law_1037 dL_law_1038 dL_law_1040 dL_law_1041 dL_law_1042 (by decide) (hI 3 (by decide) (by decide)) ?_
  obtain ⟨h_x_no, h_x_no_pa, h_x_no_cr, h_x_no_cr_e, h_pr⟩ := id bN
  obtain ⟨h_x_sh, h_sh, h_rw, h_el, h_sp⟩ := id bSS
  refine w_finj (w_runV (rm := ({ frames := 2, cells := 0, slots := 0, locals := 45 } : Room)) (As := [.int (xs (i + 1).toNatClampNeg), .int (xs (i + 2).toNatClampNeg), .int (xs (i + 3).toNatClampNeg)]) (rest := []) (n := 3) hx hb hml hts hown hK w (c_X5_keep l D cI cP cS cL L _ x (xs (i + 1).toNatClampNeg) (xs (i + 2).toNatClampNeg) (xs (i + 3).toNatClampNeg) x_no x_ke x_mi m_hi x_sh x_co x_ot (m_ss_f 0) (m_ss_f 1) (m_ss_f 2) (m_ss_f 3) (m_ss_f 4) (m_ss_f 6) (m_ss_f 5) x_no_pa x_no_cr x_no_ls pr pr_nu pr_ki pr_st pr_sl sh sh_ho rw sp sp_nu sp_ki sp_st sp_sl h_x h_x_no h_x_no_pa h_x_sh h_pr h_sh h_sp h5.2 (lne_70 hT) (lne_71 hT) (lne_72 hT)) gL_law_X5_keep rfl rfl rfl (by decide +kernel) ⟨(Nat.le_of_ble_eq_true rfl), (Nat.le_of_ble_eq_true rfl)⟩ h_x rfl rfl hl.1 rfl (Nat.le_of_ble_eq_true rfl) dL_law_1043 ⟨by show cells + 0 ≤ 600128; omega, by show slots + 0 ≤ 7301098; omega⟩) w hA (fun r5 F5 H locs hp w => ?_)
  obtain ⟨y5, ey5, er5, e5_sh, e5_sp, hk5⟩ := hp
  have hg5 := gr_wk (L := L) hk5
  have bN := gN hT (fun k a h h1 h2 => fr_X5_keep hT h (by omega)) hg5 bN
  have bK := gK hT (fun k a h h1 h2 => fr_X5_keep hT h (by omega)) hg5 bK
  have bM := gM hT (fun k a h h1 h2 => fr_X5_keep hT h (by omega)) hg5 bM
  have h_x := gx hT (fun k a h h1 h2 => fr_X5_keep hT h (by omega)) hg5 h_x
  have h_x_co := gco hT (fun k a h h1 h2 => fr_X5_keep hT h (by omega)) hg5 h_x_co
  have h_x_ot := got hT (fun k a h h1 h2 => fr_X5_keep hT h (by omega)) hg5 h_x_ot
  have bRR := gR hT (fun k a h h1 h2 => fr_X5_keep hT h (by omega)) hg5 bRR
  have h_o := go hT (fun k a h h1 h2 => fr_X5_keep hT h (by omega)) hg5 h_o
  have bSS : bS cI cS L F5 x_sh sh rw el sp (y5.2.1) (rw_so) (rw_sz) (el_f) (y5.2.2.1) (y5.2.2.2.1) (y5.2.2.2.2.1) (y5.2.2.2.2.2) := ⟨h_x_sh.grow hg5 (fr_X5_keep hT (hT.2.1.2.2.2.2.2.2.2.2.2.2.2.2.2.1) (by decide)), (fun i hi => ⟨(hg5 _ (h_sh i hi).1).1, e5_sh i hi⟩), (fun i hi => (h_rw i hi).grow hg5 (fr_X5_keep hT (hT.2.2.2.2.2.2.1 i hi) (by omega))), (fun i hi => (h_el i hi).grow hg5 (fr_X5_keep hT (hT.2.2.2.2.2.2.2.1 i hi) (by omega))), (fun i hi => ⟨(hg5 _ (h_sp i hi).1).1, e5_sp i hi⟩)⟩
  refine lv_aload_n hx hb dL_law_1046 rfl (lv_at hl 2 rfl) ?_
  refine l_arg (x := x) (m := m) (o := o) (v := 1) hC0 w hl dL_law_1047 dL_law_1048 dL_law_1050 dL_law_1051 dL_law_1052 (by decide) (hI 1 (by decide) (by decide)) ?_
  refine l_arg (x := x) (m := m) (o := o) (v := 2) hC0 w hl dL_law_1053 dL_law_1054 dL_law_1056 dL_law_1057 dL_law_1058 (by decide) (hI 2 (by decide) (by decide)) ?_
  refine l_arg (x := x) (m := m) (o := o) (v := 3) hC0 w hl dL_law_1059 dL_law_1060 dL_law_1062 dL_law_1063 dL_law_1064 (by decide) (hI 3 (by decide) (by decide)) ?_
  obtain ⟨h_m, h_m_ss, h_m_im, h_m_re, h_m_sa, h_m_ke, h_m_so, h_m_si, h_m_el, h_m_kd, h_m_kt, h_m_nu, h_m_ca, h_m_ha, h_m_co⟩ := id bRR
  refine w_finj (w_runV (rm := ({ frames := 2, cells := 0, slots := 0, locals := 46 } : Room)) (As := [.int (xs (i + 1).toNatClampNeg), .int (xs (i + 2).toNatClampNeg), .int (xs (i + 3).toNatClampNeg)]) (rest := [.int r5]) (n := 3) hx hb hml hts hown hK w (c_X6_keep l D cI cP cS cL L _ m (xs (i + 1).toNatClampNeg) (xs (i + 2).toNatClampNeg) (xs (i + 3).toNatClampNeg) m_ss m_im m_re m_sa m_ke m_so m_si m_el m_kd m_kt m_hi (m_th) m_po m_ba m_en m_tl m_nu m_ca m_ha m_hs m_co m_ss_f m_ke_f m_kd_f m_kt_f h_m h_m_ss h_m_ke h_m_kd h_m_kt h5 (lne_73 hT) (lne_74 hT) (lne_75 hT) (lne_76 hT) (lne_77 hT) (lne_78 hT) (lne_79 hT) (lne_80 hT) (lne_81 hT)) gL_law_X6_keep rfl rfl rfl (by decide +kernel) ⟨(Nat.le_of_ble_eq_true rfl), (Nat.le_of_ble_eq_true rfl)⟩ h_m rfl rfl hl.1 rfl (Nat.le_of_ble_eq_true rfl) dL_law_1065 ⟨by show cells + 0 ≤ 600128; omega, by show slots + 0 ≤ 7301098; omega⟩) w hA (fun r6 F6 H locs hp w => ?_)
  obtain ⟨y6, ey6, er6, e6_m_ke, e6_m_kd, e6_m_kt, hk6⟩ := hp
  have hg6 := gr_wk (L := L) hk6
  have bN := gN hT (fun k a h h1 h2 => fr_X6_keep hT h (by omega)) hg6 bN
  have bK := gK hT (fun k a h h1 h2 => fr_X6_keep hT h (by omega)) hg6 bK
  have bM := gM hT (fun k a h h1 h2 => fr_X6_keep hT h (by omega)) hg6 bM
  have bSS := gS hT (fun k a h h1 h2 => fr_X6_keep hT h (by omega)) hg6 bSS
  have h_x := gx hT (fun k a h h1 h2 => fr_X6_keep hT h (by omega)) hg6 h_x
  have h_x_co := gco hT (fun k a h h1 h2 => fr_X6_keep hT h (by omega)) hg6 h_x_co
  have h_x_ot := got hT (fun k a h h1 h2 => fr_X6_keep hT h (by omega)) hg6 h_x_ot
  have h_o := go hT (fun k a h h1 h2 => fr_X6_keep hT h (by omega)) hg6 h_o
  have bRR : bR cI L F6 m m_ss m_im m_re m_sa m_ke m_so m_si m_el m_kd m_kt m_nu m_ca m_ha m_co (m_hi) (m_th) (m_po) (m_ba) (m_en) (m_tl) (m_hs) (m_ss_f) (m_im_f) (m_re_f) (m_sa_f) (y6.2.1) (m_so_f) (m_si_f) (m_el_f) (y6.2.2.1) (y6.2.2.2) (m_nu_f) (m_ca_f) (m_ha_f) (m_co_f) := ⟨h_m.grow hg6 (fr_X6_keep hT (hT.2.1.2.2.2.2.2.2.2.2.2.2.2.2.2.2.2.2.1) (by decide)), h_m_ss.grow hg6 (fr_X6_keep hT (hT.2.1.2.2.2.2.2.2.2.2.2.2.2.2.2.2.2.2.2.1) (by decide)), h_m_im.grow hg6 (fr_X6_keep hT (hT.2.1.2.2.2.2.2.2.2.2.2.2.2.2.2.2.2.2.2.2.1) (by decide)), h_m_re.grow hg6 (fr_X6_keep hT (hT.2.1.2.2.2.2.2.2.2.2.2.2.2.2.2.2.2.2.2.2.2.1) (by decide)), h_m_sa.grow hg6 (fr_X6_keep hT (hT.2.1.2.2.2.2.2.2.2.2.2.2.2.2.2.2.2.2.2.2.2.2.1) (by decide)), ⟨(hg6 _ h_m_ke.1).1, e6_m_ke⟩, h_m_so.grow hg6 (fr_X6_keep hT (hT.2.1.2.2.2.2.2.2.2.2.2.2.2.2.2.2.2.2.2.2.2.2.2.2.1) (by decide)), h_m_si.grow hg6 (fr_X6_keep hT (hT.2.1.2.2.2.2.2.2.2.2.2.2.2.2.2.2.2.2.2.2.2.2.2.2.2.1) (by decide)), h_m_el.grow hg6 (fr_X6_keep hT (hT.2.1.2.2.2.2.2.2.2.2.2.2.2.2.2.2.2.2.2.2.2.2.2.2.2.2.1) (by decide)), ⟨(hg6 _ h_m_kd.1).1, e6_m_kd⟩, ⟨(hg6 _ h_m_kt.1).1, e6_m_kt⟩, h_m_nu.grow hg6 (fr_X6_keep hT (hT.2.1.2.2.2.2.2.2.2.2.2.2.2.2.2.2.2.2.2.2.2.2.2.2.2.2.2.2.2.1) (by decide)), h_m_ca.grow hg6 (fr_X6_keep hT (hT.2.1.2.2.2.2.2.2.2.2.2.2.2.2.2.2.2.2.2.2.2.2.2.2.2.2.2.2.2.2.1) (by decide)), h_m_ha.grow hg6 (fr_X6_keep hT (hT.2.1.2.2.2.2.2.2.2.2.2.2.2.2.2.2.2.2.2.2.2.2.2.2.2.2.2.2.2.2.2.1) (by decide)), h_m_co.grow hg6 (fr_X6_keep hT (hT.2.1.2.2.2.2.2.2.2.2.2.2.2.2.2.2.2.2.2.2.2.2.2.2.2.2.2.2.2.2.2.2.1) (by decide))⟩
  have E := keep_m (d := (xs (i + 1).toNatClampNeg)) (what := (xs (i + 2).toNatClampNeg)) (p := (xs (i + 3).toNatClampNeg)) hRS hRG
  rw [← ey5] at E
  rw [← ey6] at E
  obtain ⟨E1, hRS2⟩ := E
  refine lv_icmp_eq (tgt := 1361) hx hb dL_law_1068 (by decide) (fun _ => ?_) (fun c9 => absurd (er5.trans (E1.trans er6.symm)) c9)
  refine W.widen (k := cells + 1) (n := slots + 7) (by omega) (by omega) ?_
  exact kk L F6 H locs ls ⟨m_hi, m_th, m_po, m_ba, m_en, m_tl, m_hs, m_ss_f, m_im_f, m_re_f, m_sa_f, y6.2.1, m_so_f, m_si_f, m_el_f, y6.2.2.1, y6.2.2.2, m_nu_f, m_ca_f, m_ha_f, m_co_f, fo, ⟨_, _, _, _, _, _, _, _, bN, hRG⟩, ⟨_, _, _, _, _, _, _, _, _, _, _, _, _, _, _, bM⟩, ⟨_, _, _, _, _, _, _, _, _, _, _, _, _, _, _, bK, hKR⟩, ⟨_, _, _, _, _, _, _, _, bSS, hRS2⟩, h_x, ⟨_, h_x_co⟩, ⟨_, h_x_ot⟩, bRR, h_o, hhs⟩ w hl

set_option maxHeartbeats 4000000 in
set_option maxRecDepth 100000 in
theorem law_row {p : Program} {l : Launch} {e : Env} {s : State} {mt : MethodId} {below : List Frame} {meth : Method} {c : Code} {H : Heap} {locs : List Loc} {cells slots : Nat} {Q : State → Prop} {D : va_G} {A : Nat → Prop} {L : List Nat} {F : Nat → va_E} {cI cP cS cL : ClassId} {sa : Nat → Nat} {b len : Nat} {xs : Nat → Int32} {ls : Array Slot} {i : Int32} {Lst : List Nat} {x x_no x_no_pa x_no_cr x_no_cr_e x_ke x_ke_pa x_ke_cr x_ke_cr_e x_mi x_mi_pa x_mi_cr x_mi_cr_e x_sh x_co x_ot m m_ss m_im m_re m_sa m_ke m_so m_si m_el m_kd m_kt m_nu m_ca m_ha m_co o : Nat} {pr qk qm sh rw el sp : Nat → Nat} (hT : TG Lst x x_no x_no_pa x_no_cr x_no_cr_e x_ke x_ke_pa x_ke_cr x_ke_cr_e x_mi x_mi_pa x_mi_cr x_mi_cr_e x_sh x_co x_ot m m_ss m_im m_re m_sa m_ke m_so m_si m_el m_kd m_kt m_nu m_ca m_ha m_co o pr qk qm sh rw el sp) (hC : LC p l s mt c D cI cP cS cL A sa b len xs) (hI : ∀ k : Int32, 1 ≤ k.toInt → k.toInt ≤ 5 → vp_in (i + k) len) (hroom : cells + 1 ≤ 600128 ∧ slots + 7 ≤ 7301098) (hV : IV cI cP cS cL x x_no x_no_pa x_no_cr x_no_cr_e x_ke x_ke_pa x_ke_cr x_ke_cr_e x_mi x_mi_pa x_mi_cr x_mi_cr_e x_sh x_co x_ot m m_ss m_im m_re m_sa m_ke m_so m_si m_el m_kd m_kt m_nu m_ca m_ha m_co o pr qk qm sh rw el sp L F) (w : ww D A s.heap L F H locs) (hl : lv_has ls 8 (LV b x m o i)) (kk : ∀ (L1 : List Nat) (F1 : Nat → va_E) (H1 : Heap) (locs1 : List Loc) (ls1 : Array Slot), IV cI cP cS cL x x_no x_no_pa x_no_cr x_no_cr_e x_ke x_ke_pa x_ke_cr x_ke_cr_e x_mi x_mi_pa x_mi_cr x_mi_cr_e x_sh x_co x_ot m m_ss m_im m_re m_sa m_ke m_so m_si m_el m_kd m_kt m_nu m_ca m_ha m_co o pr qk qm sh rw el sp L1 F1 → ww D A s.heap L1 F1 H1 locs1 → lv_has ls1 8 (LV b x m o i) → W p l e room_1 s mt #[Value.ref b] below meth c H1 locs1 (cells + 1) (slots + 7) Q (F0 mt 1361 ls1 [])) : W p l e room_1 s mt #[Value.ref b] below meth c H locs cells slots Q (F0 mt 1073 ls []) := by
  have hC0 := hC
  obtain ⟨hx, hb, hml, hts, hown, hK, hX, hA, hXs, hbl, hbA, hst⟩ := hC
  obtain ⟨m_hi, m_th, m_po, m_ba, m_en, m_tl, m_hs, m_ss_f, m_im_f, m_re_f, m_sa_f, m_ke_f, m_so_f, m_si_f, m_el_f, m_kd_f, m_kt_f, m_nu_f, m_ca_f, m_ha_f, m_co_f, fo, ⟨x_no_ls, x_no_cr_so, x_no_cr_sz, x_no_cr_e_f, pr_nu, pr_ki, pr_st, pr_sl, bN, hRG⟩, ⟨x_mi_up, x_mi_down, x_mi_high, x_mi_prize, x_mi_z, x_mi_rounds, x_mi_people, x_mi_ls, x_mi_cr_so, x_mi_cr_sz, x_mi_cr_e_f, qm_nu, qm_ki, qm_st, qm_sl, bM⟩, ⟨x_ke_up, x_ke_down, x_ke_high, x_ke_prize, x_ke_z, x_ke_rounds, x_ke_people, x_ke_ls, x_ke_cr_so, x_ke_cr_sz, x_ke_cr_e_f, qk_nu, qk_ki, qk_st, qk_sl, bK, hKR⟩, ⟨sh_ho, rw_so, rw_sz, el_f, sp_nu, sp_ki, sp_st, sp_sl, bSS, hRS⟩, h_x, ⟨x_co_f, h_x_co⟩, ⟨x_ot_f, h_x_ot⟩, bRR, h_o, hhs⟩ := hV
  have hB := hRG.1
  have h5 := hB.2.2.2.2.1
  have hd20 := hB.2.1
  have hd1 := dn_ne hB
  have hi6 := hi_rng hB
  have hr5 := hB.2.2.2.2.2.2.1
  have hsts : ∀ i, i < 12 → (pr_st i).toInt ≤ 1000 := fun i hi => Int.le_trans (hRG.2.1.2 i hi) (by decide)
  have hzc := hRG.2.2.1
  have hzs : ∀ i, i < 8 → (rw_sz i).toInt ≤ 100 := fun i hi => (hRS i hi).2.2.2.2.1.2
  have hsi : ∀ i, i < 8 → (m_si_f i).toInt ≤ 100 := fun i hi => by rw [(hRS i hi).2.2.2.1]; exact (hRS i hi).2.2.2.2.1.2
  have hsi0 : ∀ i, i < 8 → 0 ≤ (m_si_f i).toInt := fun i hi => by rw [(hRS i hi).2.2.2.1]; exact (hRS i hi).2.2.2.2.1.1
  refine lv_aload_n hx hb dL_law_1073 rfl (lv_at hl 1 rfl) ?_
  refine l_arg (x := x) (m := m) (o := o) (v := 1) hC0 w hl dL_law_1074 dL_law_1075 dL_law_1077 dL_law_1078 dL_law_1079 (by decide) (hI 1 (by decide) (by decide)) ?_
  refine l_arg (x := x) (m := m) (o := o) (v := 2) hC0 w hl dL_law_1080 dL_law_1081 dL_law_1083 dL_law_1084 dL_law_1085 (by decide) (hI 2 (by decide) (by decide)) ?_
  refine l_arg (x := x) (m := m) (o := o) (v := 3) hC0 w hl dL_law_1086 dL_law_1087 dL_law_1089 dL_law_1090 dL_law_1091 (by decide) (hI 3 (by decide) (by decide)) ?_
  obtain ⟨h_x_sh, h_sh, h_rw, h_el, h_sp⟩ := id bSS
  refine w_finj (w_runV (rm := ({ frames := 2, cells := 0, slots := 0, locals := 45 } : Room)) (As := [.int (xs (i + 1).toNatClampNeg), .int (xs (i + 2).toNatClampNeg), .int (xs (i + 3).toNatClampNeg)]) (rest := []) (n := 3) hx hb hml hts hown hK w (c_X5_row l D cI cP cS cL L _ x (xs (i + 1).toNatClampNeg) (xs (i + 2).toNatClampNeg) (xs (i + 3).toNatClampNeg) x_no x_ke x_mi m_hi x_sh x_co x_ot sh sh_ho rw sp el rw_so rw_sz el_f h_x h_x_sh h_sh h_rw h_el (lne_70 hT) (lne_82 hT) (lne_83 hT)) gL_law_X5_row rfl rfl rfl (by decide +kernel) ⟨(Nat.le_of_ble_eq_true rfl), (Nat.le_of_ble_eq_true rfl)⟩ h_x rfl rfl hl.1 rfl (Nat.le_of_ble_eq_true rfl) dL_law_1092 ⟨by show cells + 0 ≤ 600128; omega, by show slots + 0 ≤ 7301098; omega⟩) w hA (fun r5 F5 H locs hp w => ?_)
  obtain ⟨y5, ey5, er5, e5_sh, e5_rw, e5_el, hk5⟩ := hp
  have hg5 := gr_wk (L := L) hk5
  have bN := gN hT (fun k a h h1 h2 => fr_X5_row hT h (by omega)) hg5 bN
  have bK := gK hT (fun k a h h1 h2 => fr_X5_row hT h (by omega)) hg5 bK
  have bM := gM hT (fun k a h h1 h2 => fr_X5_row hT h (by omega)) hg5 bM
  have h_x := gx hT (fun k a h h1 h2 => fr_X5_row hT h (by omega)) hg5 h_x
  have h_x_co := gco hT (fun k a h h1 h2 => fr_X5_row hT h (by omega)) hg5 h_x_co
  have h_x_ot := got hT (fun k a h h1 h2 => fr_X5_row hT h (by omega)) hg5 h_x_ot
  have bRR := gR hT (fun k a h h1 h2 => fr_X5_row hT h (by omega)) hg5 bRR
  have h_o := go hT (fun k a h h1 h2 => fr_X5_row hT h (by omega)) hg5 h_o
  have bSS : bS cI cS L F5 x_sh sh rw el sp (y5.2.1) (y5.2.2.1) (y5.2.2.2.1) (y5.2.2.2.2) (sp_nu) (sp_ki) (sp_st) (sp_sl) := ⟨h_x_sh.grow hg5 (fr_X5_row hT (hT.2.1.2.2.2.2.2.2.2.2.2.2.2.2.2.1) (by decide)), (fun i hi => ⟨(hg5 _ (h_sh i hi).1).1, e5_sh i hi⟩), (fun i hi => ⟨(hg5 _ (h_rw i hi).1).1, e5_rw i hi⟩), (fun i hi => ⟨(hg5 _ (h_el i hi).1).1, e5_el i hi⟩), (fun i hi => (h_sp i hi).grow hg5 (fr_X5_row hT (hT.2.2.2.2.2.2.2.2 i hi) (by omega)))⟩
  refine lv_aload_n hx hb dL_law_1095 rfl (lv_at hl 2 rfl) ?_
  refine l_arg (x := x) (m := m) (o := o) (v := 1) hC0 w hl dL_law_1096 dL_law_1097 dL_law_1099 dL_law_1100 dL_law_1101 (by decide) (hI 1 (by decide) (by decide)) ?_
  refine l_arg (x := x) (m := m) (o := o) (v := 2) hC0 w hl dL_law_1102 dL_law_1103 dL_law_1105 dL_law_1106 dL_law_1107 (by decide) (hI 2 (by decide) (by decide)) ?_
  refine l_arg (x := x) (m := m) (o := o) (v := 3) hC0 w hl dL_law_1108 dL_law_1109 dL_law_1111 dL_law_1112 dL_law_1113 (by decide) (hI 3 (by decide) (by decide)) ?_
  obtain ⟨h_m, h_m_ss, h_m_im, h_m_re, h_m_sa, h_m_ke, h_m_so, h_m_si, h_m_el, h_m_kd, h_m_kt, h_m_nu, h_m_ca, h_m_ha, h_m_co⟩ := id bRR
  refine w_finj (w_runV (rm := ({ frames := 2, cells := 0, slots := 0, locals := 45 } : Room)) (As := [.int (xs (i + 1).toNatClampNeg), .int (xs (i + 2).toNatClampNeg), .int (xs (i + 3).toNatClampNeg)]) (rest := [.int r5]) (n := 3) hx hb hml hts hown hK w (c_X6_row l D cI cP cS cL L _ m (xs (i + 1).toNatClampNeg) (xs (i + 2).toNatClampNeg) (xs (i + 3).toNatClampNeg) m_ss m_im m_re m_sa m_ke m_so m_si m_el m_kd m_kt m_hi (m_th) m_po m_ba m_en m_tl m_nu m_ca m_ha m_hs m_co m_ke_f m_so_f m_si_f m_el_f h_m h_m_ke h_m_so h_m_si h_m_el (lne_84 hT) (lne_85 hT) (lne_86 hT) (lne_87 hT) (lne_88 hT) (lne_89 hT) (lne_90 hT) (lne_91 hT) (lne_92 hT) (lne_93 hT) (lne_94 hT) (lne_95 hT)) gL_law_X6_row rfl rfl rfl (by decide +kernel) ⟨(Nat.le_of_ble_eq_true rfl), (Nat.le_of_ble_eq_true rfl)⟩ h_m rfl rfl hl.1 rfl (Nat.le_of_ble_eq_true rfl) dL_law_1114 ⟨by show cells + 0 ≤ 600128; omega, by show slots + 0 ≤ 7301098; omega⟩) w hA (fun r6 F6 H locs hp w => ?_)
  obtain ⟨y6, ey6, er6, e6_m_ke, e6_m_so, e6_m_si, e6_m_el, hk6⟩ := hp
  have hg6 := gr_wk (L := L) hk6
  have bN := gN hT (fun k a h h1 h2 => fr_X6_row hT h (by omega)) hg6 bN
  have bK := gK hT (fun k a h h1 h2 => fr_X6_row hT h (by omega)) hg6 bK
  have bM := gM hT (fun k a h h1 h2 => fr_X6_row hT h (by omega)) hg6 bM
  have bSS := gS hT (fun k a h h1 h2 => fr_X6_row hT h (by omega)) hg6 bSS
  have h_x := gx hT (fun k a h h1 h2 => fr_X6_row hT h (by omega)) hg6 h_x
  have h_x_co := gco hT (fun k a h h1 h2 => fr_X6_row hT h (by omega)) hg6 h_x_co
  have h_x_ot := got hT (fun k a h h1 h2 => fr_X6_row hT h (by omega)) hg6 h_x_ot
  have h_o := go hT (fun k a h h1 h2 => fr_X6_row hT h (by omega)) hg6 h_o
  have bRR : bR cI L F6 m m_ss m_im m_re m_sa m_ke m_so m_si m_el m_kd m_kt m_nu m_ca m_ha m_co (m_hi) (m_th) (m_po) (m_ba) (m_en) (m_tl) (m_hs) (m_ss_f) (m_im_f) (m_re_f) (m_sa_f) (y6.2.1) (y6.2.2.1) (y6.2.2.2.1) (y6.2.2.2.2) (m_kd_f) (m_kt_f) (m_nu_f) (m_ca_f) (m_ha_f) (m_co_f) := ⟨h_m.grow hg6 (fr_X6_row hT (hT.2.1.2.2.2.2.2.2.2.2.2.2.2.2.2.2.2.2.1) (by decide)), h_m_ss.grow hg6 (fr_X6_row hT (hT.2.1.2.2.2.2.2.2.2.2.2.2.2.2.2.2.2.2.2.1) (by decide)), h_m_im.grow hg6 (fr_X6_row hT (hT.2.1.2.2.2.2.2.2.2.2.2.2.2.2.2.2.2.2.2.2.1) (by decide)), h_m_re.grow hg6 (fr_X6_row hT (hT.2.1.2.2.2.2.2.2.2.2.2.2.2.2.2.2.2.2.2.2.2.1) (by decide)), h_m_sa.grow hg6 (fr_X6_row hT (hT.2.1.2.2.2.2.2.2.2.2.2.2.2.2.2.2.2.2.2.2.2.2.1) (by decide)), ⟨(hg6 _ h_m_ke.1).1, e6_m_ke⟩, ⟨(hg6 _ h_m_so.1).1, e6_m_so⟩, ⟨(hg6 _ h_m_si.1).1, e6_m_si⟩, ⟨(hg6 _ h_m_el.1).1, e6_m_el⟩, h_m_kd.grow hg6 (fr_X6_row hT (hT.2.1.2.2.2.2.2.2.2.2.2.2.2.2.2.2.2.2.2.2.2.2.2.2.2.2.2.1) (by decide)), h_m_kt.grow hg6 (fr_X6_row hT (hT.2.1.2.2.2.2.2.2.2.2.2.2.2.2.2.2.2.2.2.2.2.2.2.2.2.2.2.2.1) (by decide)), h_m_nu.grow hg6 (fr_X6_row hT (hT.2.1.2.2.2.2.2.2.2.2.2.2.2.2.2.2.2.2.2.2.2.2.2.2.2.2.2.2.2.1) (by decide)), h_m_ca.grow hg6 (fr_X6_row hT (hT.2.1.2.2.2.2.2.2.2.2.2.2.2.2.2.2.2.2.2.2.2.2.2.2.2.2.2.2.2.2.1) (by decide)), h_m_ha.grow hg6 (fr_X6_row hT (hT.2.1.2.2.2.2.2.2.2.2.2.2.2.2.2.2.2.2.2.2.2.2.2.2.2.2.2.2.2.2.2.1) (by decide)), h_m_co.grow hg6 (fr_X6_row hT (hT.2.1.2.2.2.2.2.2.2.2.2.2.2.2.2.2.2.2.2.2.2.2.2.2.2.2.2.2.2.2.2.2.1) (by decide))⟩
  have E := row_m (d := (xs (i + 1).toNatClampNeg)) (of0 := (xs (i + 2).toNatClampNeg)) (n0 := (xs (i + 3).toNatClampNeg)) hRS
  rw [← ey5] at E
  rw [← ey6] at E
  obtain ⟨E1, hRS2⟩ := E
  refine lv_icmp_eq (tgt := 1361) hx hb dL_law_1117 (by decide) (fun _ => ?_) (fun c9 => absurd (er5.trans (E1.trans er6.symm)) c9)
  refine W.widen (k := cells + 1) (n := slots + 7) (by omega) (by omega) ?_
  exact kk L F6 H locs ls ⟨m_hi, m_th, m_po, m_ba, m_en, m_tl, m_hs, m_ss_f, m_im_f, m_re_f, m_sa_f, y6.2.1, y6.2.2.1, y6.2.2.2.1, y6.2.2.2.2, m_kd_f, m_kt_f, m_nu_f, m_ca_f, m_ha_f, m_co_f, fo, ⟨_, _, _, _, _, _, _, _, bN, hRG⟩, ⟨_, _, _, _, _, _, _, _, _, _, _, _, _, _, _, bM⟩, ⟨_, _, _, _, _, _, _, _, _, _, _, _, _, _, _, bK, hKR⟩, ⟨_, _, _, _, _, _, _, _, bSS, hRS2⟩, h_x, ⟨_, h_x_co⟩, ⟨_, h_x_ot⟩, bRR, h_o, hhs⟩ w hl

set_option maxHeartbeats 4000000 in
set_option maxRecDepth 100000 in
theorem law_put {p : Program} {l : Launch} {e : Env} {s : State} {mt : MethodId} {below : List Frame} {meth : Method} {c : Code} {H : Heap} {locs : List Loc} {cells slots : Nat} {Q : State → Prop} {D : va_G} {A : Nat → Prop} {L : List Nat} {F : Nat → va_E} {cI cP cS cL : ClassId} {sa : Nat → Nat} {b len : Nat} {xs : Nat → Int32} {ls : Array Slot} {i : Int32} {Lst : List Nat} {x x_no x_no_pa x_no_cr x_no_cr_e x_ke x_ke_pa x_ke_cr x_ke_cr_e x_mi x_mi_pa x_mi_cr x_mi_cr_e x_sh x_co x_ot m m_ss m_im m_re m_sa m_ke m_so m_si m_el m_kd m_kt m_nu m_ca m_ha m_co o : Nat} {pr qk qm sh rw el sp : Nat → Nat} (hT : TG Lst x x_no x_no_pa x_no_cr x_no_cr_e x_ke x_ke_pa x_ke_cr x_ke_cr_e x_mi x_mi_pa x_mi_cr x_mi_cr_e x_sh x_co x_ot m m_ss m_im m_re m_sa m_ke m_so m_si m_el m_kd m_kt m_nu m_ca m_ha m_co o pr qk qm sh rw el sp) (hC : LC p l s mt c D cI cP cS cL A sa b len xs) (hI : ∀ k : Int32, 1 ≤ k.toInt → k.toInt ≤ 5 → vp_in (i + k) len) (hroom : cells + 1 ≤ 600128 ∧ slots + 7 ≤ 7301098) (hV : IV cI cP cS cL x x_no x_no_pa x_no_cr x_no_cr_e x_ke x_ke_pa x_ke_cr x_ke_cr_e x_mi x_mi_pa x_mi_cr x_mi_cr_e x_sh x_co x_ot m m_ss m_im m_re m_sa m_ke m_so m_si m_el m_kd m_kt m_nu m_ca m_ha m_co o pr qk qm sh rw el sp L F) (w : ww D A s.heap L F H locs) (hl : lv_has ls 8 (LV b x m o i)) (kk : ∀ (L1 : List Nat) (F1 : Nat → va_E) (H1 : Heap) (locs1 : List Loc) (ls1 : Array Slot), IV cI cP cS cL x x_no x_no_pa x_no_cr x_no_cr_e x_ke x_ke_pa x_ke_cr x_ke_cr_e x_mi x_mi_pa x_mi_cr x_mi_cr_e x_sh x_co x_ot m m_ss m_im m_re m_sa m_ke m_so m_si m_el m_kd m_kt m_nu m_ca m_ha m_co o pr qk qm sh rw el sp L1 F1 → ww D A s.heap L1 F1 H1 locs1 → lv_has ls1 8 (LV b x m o i) → W p l e room_1 s mt #[Value.ref b] below meth c H1 locs1 (cells + 1) (slots + 7) Q (F0 mt 1361 ls1 [])) : W p l e room_1 s mt #[Value.ref b] below meth c H locs cells slots Q (F0 mt 1122 ls []) := by
  have hC0 := hC
  obtain ⟨hx, hb, hml, hts, hown, hK, hX, hA, hXs, hbl, hbA, hst⟩ := hC
  obtain ⟨m_hi, m_th, m_po, m_ba, m_en, m_tl, m_hs, m_ss_f, m_im_f, m_re_f, m_sa_f, m_ke_f, m_so_f, m_si_f, m_el_f, m_kd_f, m_kt_f, m_nu_f, m_ca_f, m_ha_f, m_co_f, fo, ⟨x_no_ls, x_no_cr_so, x_no_cr_sz, x_no_cr_e_f, pr_nu, pr_ki, pr_st, pr_sl, bN, hRG⟩, ⟨x_mi_up, x_mi_down, x_mi_high, x_mi_prize, x_mi_z, x_mi_rounds, x_mi_people, x_mi_ls, x_mi_cr_so, x_mi_cr_sz, x_mi_cr_e_f, qm_nu, qm_ki, qm_st, qm_sl, bM⟩, ⟨x_ke_up, x_ke_down, x_ke_high, x_ke_prize, x_ke_z, x_ke_rounds, x_ke_people, x_ke_ls, x_ke_cr_so, x_ke_cr_sz, x_ke_cr_e_f, qk_nu, qk_ki, qk_st, qk_sl, bK, hKR⟩, ⟨sh_ho, rw_so, rw_sz, el_f, sp_nu, sp_ki, sp_st, sp_sl, bSS, hRS⟩, h_x, ⟨x_co_f, h_x_co⟩, ⟨x_ot_f, h_x_ot⟩, bRR, h_o, hhs⟩ := hV
  have hB := hRG.1
  have h5 := hB.2.2.2.2.1
  have hd20 := hB.2.1
  have hd1 := dn_ne hB
  have hi6 := hi_rng hB
  have hr5 := hB.2.2.2.2.2.2.1
  have hsts : ∀ i, i < 12 → (pr_st i).toInt ≤ 1000 := fun i hi => Int.le_trans (hRG.2.1.2 i hi) (by decide)
  have hzc := hRG.2.2.1
  have hzs : ∀ i, i < 8 → (rw_sz i).toInt ≤ 100 := fun i hi => (hRS i hi).2.2.2.2.1.2
  have hsi : ∀ i, i < 8 → (m_si_f i).toInt ≤ 100 := fun i hi => by rw [(hRS i hi).2.2.2.1]; exact (hRS i hi).2.2.2.2.1.2
  have hsi0 : ∀ i, i < 8 → 0 ≤ (m_si_f i).toInt := fun i hi => by rw [(hRS i hi).2.2.2.1]; exact (hRS i hi).2.2.2.2.1.1
  refine lv_aload_n hx hb dL_law_1122 rfl (lv_at hl 1 rfl) ?_
  refine l_arg (x := x) (m := m) (o := o) (v := 1) hC0 w hl dL_law_1123 dL_law_1124 dL_law_1126 dL_law_1127 dL_law_1128 (by decide) (hI 1 (by decide) (by decide)) ?_
  refine l_arg (x := x) (m := m) (o := o) (v := 2) hC0 w hl dL_law_1129 dL_law_1130 dL_law_1132 dL_law_1133 dL_law_1134 (by decide) (hI 2 (by decide) (by decide)) ?_
  refine l_arg (x := x) (m := m) (o := o) (v := 3) hC0 w hl dL_law_1135 dL_law_1136 dL_law_1138 dL_law_1139 dL_law_1140 (by decide) (hI 3 (by decide) (by decide)) ?_
  obtain ⟨h_x_sh, h_sh, h_rw, h_el, h_sp⟩ := id bSS
  refine w_finj (w_runV (rm := ({ frames := 2, cells := 0, slots := 0, locals := 43 } : Room)) (As := [.int (xs (i + 1).toNatClampNeg), .int (xs (i + 2).toNatClampNeg), .int (xs (i + 3).toNatClampNeg)]) (rest := []) (n := 3) hx hb hml hts hown hK w (c_X5_put l D cI cP cS cL L _ x (xs (i + 1).toNatClampNeg) (xs (i + 2).toNatClampNeg) (xs (i + 3).toNatClampNeg) x_no x_ke x_mi m_hi x_sh x_co x_ot sh sh_ho rw sp el rw_so rw_sz el_f h_x h_x_sh h_sh h_rw h_el hzs (lne_83 hT)) gL_law_X5_put rfl rfl rfl (by decide +kernel) ⟨(Nat.le_of_ble_eq_true rfl), (Nat.le_of_ble_eq_true rfl)⟩ h_x rfl rfl hl.1 rfl (Nat.le_of_ble_eq_true rfl) dL_law_1141 ⟨by show cells + 0 ≤ 600128; omega, by show slots + 0 ≤ 7301098; omega⟩) w hA (fun r5 F5 H locs hp w => ?_)
  obtain ⟨y5, ey5, er5, e5_el, hk5⟩ := hp
  have hg5 := gr_wk (L := L) hk5
  have bN := gN hT (fun k a h h1 h2 => fr_X5_put hT h (by omega)) hg5 bN
  have bK := gK hT (fun k a h h1 h2 => fr_X5_put hT h (by omega)) hg5 bK
  have bM := gM hT (fun k a h h1 h2 => fr_X5_put hT h (by omega)) hg5 bM
  have h_x := gx hT (fun k a h h1 h2 => fr_X5_put hT h (by omega)) hg5 h_x
  have h_x_co := gco hT (fun k a h h1 h2 => fr_X5_put hT h (by omega)) hg5 h_x_co
  have h_x_ot := got hT (fun k a h h1 h2 => fr_X5_put hT h (by omega)) hg5 h_x_ot
  have bRR := gR hT (fun k a h h1 h2 => fr_X5_put hT h (by omega)) hg5 bRR
  have h_o := go hT (fun k a h h1 h2 => fr_X5_put hT h (by omega)) hg5 h_o
  have bSS : bS cI cS L F5 x_sh sh rw el sp (sh_ho) (rw_so) (rw_sz) (y5.2) (sp_nu) (sp_ki) (sp_st) (sp_sl) := ⟨h_x_sh.grow hg5 (fr_X5_put hT (hT.2.1.2.2.2.2.2.2.2.2.2.2.2.2.2.1) (by decide)), (fun i hi => (h_sh i hi).grow hg5 (fr_X5_put hT (hT.2.2.2.2.2.1 i hi) (by omega))), (fun i hi => (h_rw i hi).grow hg5 (fr_X5_put hT (hT.2.2.2.2.2.2.1 i hi) (by omega))), (fun i hi => ⟨(hg5 _ (h_el i hi).1).1, e5_el i hi⟩), (fun i hi => (h_sp i hi).grow hg5 (fr_X5_put hT (hT.2.2.2.2.2.2.2.2 i hi) (by omega)))⟩
  refine lv_aload_n hx hb dL_law_1144 rfl (lv_at hl 2 rfl) ?_
  refine l_arg (x := x) (m := m) (o := o) (v := 1) hC0 w hl dL_law_1145 dL_law_1146 dL_law_1148 dL_law_1149 dL_law_1150 (by decide) (hI 1 (by decide) (by decide)) ?_
  refine l_arg (x := x) (m := m) (o := o) (v := 2) hC0 w hl dL_law_1151 dL_law_1152 dL_law_1154 dL_law_1155 dL_law_1156 (by decide) (hI 2 (by decide) (by decide)) ?_
  refine l_arg (x := x) (m := m) (o := o) (v := 3) hC0 w hl dL_law_1157 dL_law_1158 dL_law_1160 dL_law_1161 dL_law_1162 (by decide) (hI 3 (by decide) (by decide)) ?_
  obtain ⟨h_m, h_m_ss, h_m_im, h_m_re, h_m_sa, h_m_ke, h_m_so, h_m_si, h_m_el, h_m_kd, h_m_kt, h_m_nu, h_m_ca, h_m_ha, h_m_co⟩ := id bRR
  refine w_finj (w_runV (rm := ({ frames := 3, cells := 0, slots := 0, locals := 67 } : Room)) (As := [.int (xs (i + 1).toNatClampNeg), .int (xs (i + 2).toNatClampNeg), .int (xs (i + 3).toNatClampNeg)]) (rest := [.int r5]) (n := 3) hx hb hml hts hown hK w (c_X6_put l D cI cP cS cL L _ m (xs (i + 1).toNatClampNeg) (xs (i + 2).toNatClampNeg) (xs (i + 3).toNatClampNeg) m_ss m_im m_re m_sa m_ke m_so m_si m_el m_kd m_kt m_hi (m_th) m_po m_ba m_en m_tl m_nu m_ca m_ha m_hs m_co m_ke_f m_so_f m_si_f m_el_f h_m h_m_ke h_m_so h_m_si h_m_el hsi hsi0 (lne_93 hT) (lne_94 hT) (lne_95 hT)) gL_law_X6_put rfl rfl rfl (by decide +kernel) ⟨(Nat.le_of_ble_eq_true rfl), (Nat.le_of_ble_eq_true rfl)⟩ h_m rfl rfl hl.1 rfl (Nat.le_of_ble_eq_true rfl) dL_law_1163 ⟨by show cells + 0 ≤ 600128; omega, by show slots + 0 ≤ 7301098; omega⟩) w hA (fun r6 F6 H locs hp w => ?_)
  obtain ⟨y6, ey6, er6, e6_m_el, hk6⟩ := hp
  have hg6 := gr_wk (L := L) hk6
  have bN := gN hT (fun k a h h1 h2 => fr_X6_put hT h (by omega)) hg6 bN
  have bK := gK hT (fun k a h h1 h2 => fr_X6_put hT h (by omega)) hg6 bK
  have bM := gM hT (fun k a h h1 h2 => fr_X6_put hT h (by omega)) hg6 bM
  have bSS := gS hT (fun k a h h1 h2 => fr_X6_put hT h (by omega)) hg6 bSS
  have h_x := gx hT (fun k a h h1 h2 => fr_X6_put hT h (by omega)) hg6 h_x
  have h_x_co := gco hT (fun k a h h1 h2 => fr_X6_put hT h (by omega)) hg6 h_x_co
  have h_x_ot := got hT (fun k a h h1 h2 => fr_X6_put hT h (by omega)) hg6 h_x_ot
  have h_o := go hT (fun k a h h1 h2 => fr_X6_put hT h (by omega)) hg6 h_o
  have bRR : bR cI L F6 m m_ss m_im m_re m_sa m_ke m_so m_si m_el m_kd m_kt m_nu m_ca m_ha m_co (m_hi) (m_th) (m_po) (m_ba) (m_en) (m_tl) (m_hs) (m_ss_f) (m_im_f) (m_re_f) (m_sa_f) (m_ke_f) (m_so_f) (m_si_f) (y6.2) (m_kd_f) (m_kt_f) (m_nu_f) (m_ca_f) (m_ha_f) (m_co_f) := ⟨h_m.grow hg6 (fr_X6_put hT (hT.2.1.2.2.2.2.2.2.2.2.2.2.2.2.2.2.2.2.1) (by decide)), h_m_ss.grow hg6 (fr_X6_put hT (hT.2.1.2.2.2.2.2.2.2.2.2.2.2.2.2.2.2.2.2.1) (by decide)), h_m_im.grow hg6 (fr_X6_put hT (hT.2.1.2.2.2.2.2.2.2.2.2.2.2.2.2.2.2.2.2.2.1) (by decide)), h_m_re.grow hg6 (fr_X6_put hT (hT.2.1.2.2.2.2.2.2.2.2.2.2.2.2.2.2.2.2.2.2.2.1) (by decide)), h_m_sa.grow hg6 (fr_X6_put hT (hT.2.1.2.2.2.2.2.2.2.2.2.2.2.2.2.2.2.2.2.2.2.2.1) (by decide)), h_m_ke.grow hg6 (fr_X6_put hT (hT.2.1.2.2.2.2.2.2.2.2.2.2.2.2.2.2.2.2.2.2.2.2.2.1) (by decide)), h_m_so.grow hg6 (fr_X6_put hT (hT.2.1.2.2.2.2.2.2.2.2.2.2.2.2.2.2.2.2.2.2.2.2.2.2.1) (by decide)), h_m_si.grow hg6 (fr_X6_put hT (hT.2.1.2.2.2.2.2.2.2.2.2.2.2.2.2.2.2.2.2.2.2.2.2.2.2.1) (by decide)), ⟨(hg6 _ h_m_el.1).1, e6_m_el⟩, h_m_kd.grow hg6 (fr_X6_put hT (hT.2.1.2.2.2.2.2.2.2.2.2.2.2.2.2.2.2.2.2.2.2.2.2.2.2.2.2.1) (by decide)), h_m_kt.grow hg6 (fr_X6_put hT (hT.2.1.2.2.2.2.2.2.2.2.2.2.2.2.2.2.2.2.2.2.2.2.2.2.2.2.2.2.1) (by decide)), h_m_nu.grow hg6 (fr_X6_put hT (hT.2.1.2.2.2.2.2.2.2.2.2.2.2.2.2.2.2.2.2.2.2.2.2.2.2.2.2.2.2.1) (by decide)), h_m_ca.grow hg6 (fr_X6_put hT (hT.2.1.2.2.2.2.2.2.2.2.2.2.2.2.2.2.2.2.2.2.2.2.2.2.2.2.2.2.2.2.1) (by decide)), h_m_ha.grow hg6 (fr_X6_put hT (hT.2.1.2.2.2.2.2.2.2.2.2.2.2.2.2.2.2.2.2.2.2.2.2.2.2.2.2.2.2.2.2.1) (by decide)), h_m_co.grow hg6 (fr_X6_put hT (hT.2.1.2.2.2.2.2.2.2.2.2.2.2.2.2.2.2.2.2.2.2.2.2.2.2.2.2.2.2.2.2.2.1) (by decide))⟩
  have E := put_m (d := (xs (i + 1).toNatClampNeg)) (i0 := (xs (i + 2).toNatClampNeg)) (v := (xs (i + 3).toNatClampNeg)) hRS
  rw [← ey5] at E
  rw [← ey6] at E
  obtain ⟨E1, hRS2⟩ := E
  refine lv_icmp_eq (tgt := 1361) hx hb dL_law_1166 (by decide) (fun _ => ?_) (fun c9 => absurd (er5.trans (E1.trans er6.symm)) c9)
  refine W.widen (k := cells + 1) (n := slots + 7) (by omega) (by omega) ?_
  exact kk L F6 H locs ls ⟨m_hi, m_th, m_po, m_ba, m_en, m_tl, m_hs, m_ss_f, m_im_f, m_re_f, m_sa_f, m_ke_f, m_so_f, m_si_f, y6.2, m_kd_f, m_kt_f, m_nu_f, m_ca_f, m_ha_f, m_co_f, fo, ⟨_, _, _, _, _, _, _, _, bN, hRG⟩, ⟨_, _, _, _, _, _, _, _, _, _, _, _, _, _, _, bM⟩, ⟨_, _, _, _, _, _, _, _, _, _, _, _, _, _, _, bK, hKR⟩, ⟨_, _, _, _, _, _, _, _, bSS, hRS2⟩, h_x, ⟨_, h_x_co⟩, ⟨_, h_x_ot⟩, bRR, h_o, hhs⟩ w hl

set_option maxHeartbeats 4000000 in
set_option maxRecDepth 100000 in
theorem law_element {p : Program} {l : Launch} {e : Env} {s : State} {mt : MethodId} {below : List Frame} {meth : Method} {c : Code} {H : Heap} {locs : List Loc} {cells slots : Nat} {Q : State → Prop} {D : va_G} {A : Nat → Prop} {L : List Nat} {F : Nat → va_E} {cI cP cS cL : ClassId} {sa : Nat → Nat} {b len : Nat} {xs : Nat → Int32} {ls : Array Slot} {i : Int32} {Lst : List Nat} {x x_no x_no_pa x_no_cr x_no_cr_e x_ke x_ke_pa x_ke_cr x_ke_cr_e x_mi x_mi_pa x_mi_cr x_mi_cr_e x_sh x_co x_ot m m_ss m_im m_re m_sa m_ke m_so m_si m_el m_kd m_kt m_nu m_ca m_ha m_co o : Nat} {pr qk qm sh rw el sp : Nat → Nat} (hT : TG Lst x x_no x_no_pa x_no_cr x_no_cr_e x_ke x_ke_pa x_ke_cr x_ke_cr_e x_mi x_mi_pa x_mi_cr x_mi_cr_e x_sh x_co x_ot m m_ss m_im m_re m_sa m_ke m_so m_si m_el m_kd m_kt m_nu m_ca m_ha m_co o pr qk qm sh rw el sp) (hC : LC p l s mt c D cI cP cS cL A sa b len xs) (hI : ∀ k : Int32, 1 ≤ k.toInt → k.toInt ≤ 5 → vp_in (i + k) len) (hroom : cells + 1 ≤ 600128 ∧ slots + 7 ≤ 7301098) (hV : IV cI cP cS cL x x_no x_no_pa x_no_cr x_no_cr_e x_ke x_ke_pa x_ke_cr x_ke_cr_e x_mi x_mi_pa x_mi_cr x_mi_cr_e x_sh x_co x_ot m m_ss m_im m_re m_sa m_ke m_so m_si m_el m_kd m_kt m_nu m_ca m_ha m_co o pr qk qm sh rw el sp L F) (w : ww D A s.heap L F H locs) (hl : lv_has ls 8 (LV b x m o i)) (kk : ∀ (L1 : List Nat) (F1 : Nat → va_E) (H1 : Heap) (locs1 : List Loc) (ls1 : Array Slot), IV cI cP cS cL x x_no x_no_pa x_no_cr x_no_cr_e x_ke x_ke_pa x_ke_cr x_ke_cr_e x_mi x_mi_pa x_mi_cr x_mi_cr_e x_sh x_co x_ot m m_ss m_im m_re m_sa m_ke m_so m_si m_el m_kd m_kt m_nu m_ca m_ha m_co o pr qk qm sh rw el sp L1 F1 → ww D A s.heap L1 F1 H1 locs1 → lv_has ls1 8 (LV b x m o i) → W p l e room_1 s mt #[Value.ref b] below meth c H1 locs1 (cells + 1) (slots + 7) Q (F0 mt 1361 ls1 [])) : W p l e room_1 s mt #[Value.ref b] below meth c H locs cells slots Q (F0 mt 1171 ls []) := by
  have hC0 := hC
  obtain ⟨hx, hb, hml, hts, hown, hK, hX, hA, hXs, hbl, hbA, hst⟩ := hC
  obtain ⟨m_hi, m_th, m_po, m_ba, m_en, m_tl, m_hs, m_ss_f, m_im_f, m_re_f, m_sa_f, m_ke_f, m_so_f, m_si_f, m_el_f, m_kd_f, m_kt_f, m_nu_f, m_ca_f, m_ha_f, m_co_f, fo, ⟨x_no_ls, x_no_cr_so, x_no_cr_sz, x_no_cr_e_f, pr_nu, pr_ki, pr_st, pr_sl, bN, hRG⟩, ⟨x_mi_up, x_mi_down, x_mi_high, x_mi_prize, x_mi_z, x_mi_rounds, x_mi_people, x_mi_ls, x_mi_cr_so, x_mi_cr_sz, x_mi_cr_e_f, qm_nu, qm_ki, qm_st, qm_sl, bM⟩, ⟨x_ke_up, x_ke_down, x_ke_high, x_ke_prize, x_ke_z, x_ke_rounds, x_ke_people, x_ke_ls, x_ke_cr_so, x_ke_cr_sz, x_ke_cr_e_f, qk_nu, qk_ki, qk_st, qk_sl, bK, hKR⟩, ⟨sh_ho, rw_so, rw_sz, el_f, sp_nu, sp_ki, sp_st, sp_sl, bSS, hRS⟩, h_x, ⟨x_co_f, h_x_co⟩, ⟨x_ot_f, h_x_ot⟩, bRR, h_o, hhs⟩ := hV
  have hB := hRG.1
  have h5 := hB.2.2.2.2.1
  have hd20 := hB.2.1
  have hd1 := dn_ne hB
  have hi6 := hi_rng hB
  have hr5 := hB.2.2.2.2.2.2.1
  have hsts : ∀ i, i < 12 → (pr_st i).toInt ≤ 1000 := fun i hi => Int.le_trans (hRG.2.1.2 i hi) (by decide)
  have hzc := hRG.2.2.1
  have hzs : ∀ i, i < 8 → (rw_sz i).toInt ≤ 100 := fun i hi => (hRS i hi).2.2.2.2.1.2
  have hsi : ∀ i, i < 8 → (m_si_f i).toInt ≤ 100 := fun i hi => by rw [(hRS i hi).2.2.2.1]; exact (hRS i hi).2.2.2.2.1.2
  have hsi0 : ∀ i, i < 8 → 0 ≤ (m_si_f i).toInt := fun i hi => by rw [(hRS i hi).2.2.2.1]; exact (hRS i hi).2.2.2.2.1.1
  refine lv_aload_n hx hb dL_law_1171 rfl (lv_at hl 1 rfl) ?_
  refine l_arg (x := x) (m := m) (o := o) (v := 1) hC0 w hl dL_law_1172 dL_law_1173 dL_law_1175 dL_law_1176 dL_law_1177 (by decide) (hI 1 (by decide) (by decide)) ?_
  refine l_arg (x := x) (m := m) (o := o) (v := 2) hC0 w hl dL_law_1178 dL_law_1179 dL_law_1181 dL_law_1182 dL_law_1183 (by decide) (hI 2 (by decide) (by decide)) ?_
  refine lv_aload_n hx hb dL_law_1184 rfl (lv_at hl 3 rfl) ?_
  obtain ⟨h_x_sh, h_sh, h_rw, h_el, h_sp⟩ := id bSS
  refine wx_fini (wx_runSH (rm := ({ frames := 7, cells := 1, slots := 6, locals := 105 } : Room)) (As := [.ref x, .int (xs (i + 1).toNatClampNeg), .int (xs (i + 2).toNatClampNeg), .ref o]) (rest := []) (n := 4) hx hb hml hts hown hK w hA hX (c_L_element l hst D cI cP cS cL sa L _ x (xs (i + 1).toNatClampNeg) (xs (i + 2).toNatClampNeg) x_no x_ke x_mi m_hi x_sh x_co x_ot sh sh_ho rw sp el rw_so rw_sz el_f o fo h_x h_x_sh h_sh h_rw h_el hzs h_o) gL_law_L_element rfl rfl rfl (by decide +kernel) ⟨(Nat.le_of_ble_eq_true rfl), (Nat.le_of_ble_eq_true rfl)⟩ rfl hl.1 rfl (Nat.le_of_ble_eq_true rfl) dL_law_1185 ⟨by show cells + 1 ≤ 600128; omega, by show slots + 6 ≤ 7301098; omega⟩) w hA (fun E9 ce9 q9 L9 F9 H9 locs9 hp9 w9 h19 h29 h39 => hp9.elim) (fun r5 L5 F5 H locs hp w => ?_)
  obtain ⟨er5, hL5, e5_o, hk5⟩ := hp
  rw [hL5] at w
  have hg5 := gr_wk (L := L) hk5
  have bN := gN hT (fun k a h h1 h2 => fr_L_element hT h (by omega)) hg5 bN
  have bK := gK hT (fun k a h h1 h2 => fr_L_element hT h (by omega)) hg5 bK
  have bM := gM hT (fun k a h h1 h2 => fr_L_element hT h (by omega)) hg5 bM
  have bSS := gS hT (fun k a h h1 h2 => fr_L_element hT h (by omega)) hg5 bSS
  have h_x := gx hT (fun k a h h1 h2 => fr_L_element hT h (by omega)) hg5 h_x
  have h_x_co := gco hT (fun k a h h1 h2 => fr_L_element hT h (by omega)) hg5 h_x_co
  have h_x_ot := got hT (fun k a h h1 h2 => fr_L_element hT h (by omega)) hg5 h_x_ot
  have bRR := gR hT (fun k a h h1 h2 => fr_L_element hT h (by omega)) hg5 bRR
  have h_o : wi L F5 o _ := ⟨(hg5 _ h_o.1).1, e5_o⟩
  refine lv_istore (lv' := (5, .int r5) :: LV b x m o i) hx hb dL_law_1188 hl (by decide) rfl (fun ls hl => ?_)
  refine lv_aload_n hx hb dL_law_1190 rfl (lv_at hl 3 rfl) ?_
  have hl9 : lv_has ls 8 (LV b x m o i) := lv_sub hl [1, 2, 3, 4, 5] rfl
  refine l_arg (x := x) (m := m) (o := o) (v := 1) hC0 w hl9 dL_law_1191 dL_law_1192 dL_law_1194 dL_law_1195 dL_law_1196 (by decide) (hI 1 (by decide) (by decide)) ?_
  refine l_arg (x := x) (m := m) (o := o) (v := 2) hC0 w hl9 dL_law_1197 dL_law_1198 dL_law_1200 dL_law_1201 dL_law_1202 (by decide) (hI 2 (by decide) (by decide)) ?_
  obtain ⟨h_m, h_m_ss, h_m_im, h_m_re, h_m_sa, h_m_ke, h_m_so, h_m_si, h_m_el, h_m_kd, h_m_kt, h_m_nu, h_m_ca, h_m_ha, h_m_co⟩ := id bRR
  refine w_fink (w_runV (rm := ({ frames := 2, cells := 0, slots := 0, locals := 45 } : Room)) (As := [.int (xs (i + 1).toNatClampNeg), .int (xs (i + 2).toNatClampNeg)]) (rest := []) (n := 2) hx hb hml hts hown hK w (c_X6_element l D cI cP cS cL L _ m (xs (i + 1).toNatClampNeg) (xs (i + 2).toNatClampNeg) m_ss m_im m_re m_sa m_ke m_so m_si m_el m_kd m_kt m_hi (m_th) m_po m_ba m_en m_tl m_nu m_ca m_ha m_hs m_co m_ke_f m_si_f m_el_f h_m h_m_ke h_m_si h_m_el hsi hsi0) gL_law_X6_element rfl rfl rfl (by decide +kernel) ⟨(Nat.le_of_ble_eq_true rfl), (Nat.le_of_ble_eq_true rfl)⟩ h_m rfl rfl hl.1 rfl (Nat.le_of_ble_eq_true rfl) dL_law_1203 ⟨by show cells + 1 + 0 ≤ 600128; omega, by show slots + 6 + 0 ≤ 7301098; omega⟩) w hA (fun r6 F6 H locs hp w => ?_)
  obtain ⟨y6, ey6, er6, e6_m, hk6⟩ := hp
  have hg6 := gr_wk (L := L) hk6
  have bN := gN hT (fun k a h h1 h2 => fr_X6_element hT h (by omega)) hg6 bN
  have bK := gK hT (fun k a h h1 h2 => fr_X6_element hT h (by omega)) hg6 bK
  have bM := gM hT (fun k a h h1 h2 => fr_X6_element hT h (by omega)) hg6 bM
  have bSS := gS hT (fun k a h h1 h2 => fr_X6_element hT h (by omega)) hg6 bSS
  have h_x := gx hT (fun k a h h1 h2 => fr_X6_element hT h (by omega)) hg6 h_x
  have h_x_co := gco hT (fun k a h h1 h2 => fr_X6_element hT h (by omega)) hg6 h_x_co
  have h_x_ot := got hT (fun k a h h1 h2 => fr_X6_element hT h (by omega)) hg6 h_x_ot
  have h_o := go hT (fun k a h h1 h2 => fr_X6_element hT h (by omega)) hg6 h_o
  have bRR : bR cI L F6 m m_ss m_im m_re m_sa m_ke m_so m_si m_el m_kd m_kt m_nu m_ca m_ha m_co (m_hi) (y6.2) (m_po) (m_ba) (m_en) (m_tl) (m_hs) (m_ss_f) (m_im_f) (m_re_f) (m_sa_f) (m_ke_f) (m_so_f) (m_si_f) (m_el_f) (m_kd_f) (m_kt_f) (m_nu_f) (m_ca_f) (m_ha_f) (m_co_f) := ⟨⟨(hg6 _ h_m.1).1, e6_m⟩, h_m_ss.grow hg6 (fr_X6_element hT (hT.2.1.2.2.2.2.2.2.2.2.2.2.2.2.2.2.2.2.2.1) (by decide)), h_m_im.grow hg6 (fr_X6_element hT (hT.2.1.2.2.2.2.2.2.2.2.2.2.2.2.2.2.2.2.2.2.1) (by decide)), h_m_re.grow hg6 (fr_X6_element hT (hT.2.1.2.2.2.2.2.2.2.2.2.2.2.2.2.2.2.2.2.2.2.1) (by decide)), h_m_sa.grow hg6 (fr_X6_element hT (hT.2.1.2.2.2.2.2.2.2.2.2.2.2.2.2.2.2.2.2.2.2.2.1) (by decide)), h_m_ke.grow hg6 (fr_X6_element hT (hT.2.1.2.2.2.2.2.2.2.2.2.2.2.2.2.2.2.2.2.2.2.2.2.1) (by decide)), h_m_so.grow hg6 (fr_X6_element hT (hT.2.1.2.2.2.2.2.2.2.2.2.2.2.2.2.2.2.2.2.2.2.2.2.2.1) (by decide)), h_m_si.grow hg6 (fr_X6_element hT (hT.2.1.2.2.2.2.2.2.2.2.2.2.2.2.2.2.2.2.2.2.2.2.2.2.2.1) (by decide)), h_m_el.grow hg6 (fr_X6_element hT (hT.2.1.2.2.2.2.2.2.2.2.2.2.2.2.2.2.2.2.2.2.2.2.2.2.2.2.1) (by decide)), h_m_kd.grow hg6 (fr_X6_element hT (hT.2.1.2.2.2.2.2.2.2.2.2.2.2.2.2.2.2.2.2.2.2.2.2.2.2.2.2.1) (by decide)), h_m_kt.grow hg6 (fr_X6_element hT (hT.2.1.2.2.2.2.2.2.2.2.2.2.2.2.2.2.2.2.2.2.2.2.2.2.2.2.2.2.1) (by decide)), h_m_nu.grow hg6 (fr_X6_element hT (hT.2.1.2.2.2.2.2.2.2.2.2.2.2.2.2.2.2.2.2.2.2.2.2.2.2.2.2.2.2.1) (by decide)), h_m_ca.grow hg6 (fr_X6_element hT (hT.2.1.2.2.2.2.2.2.2.2.2.2.2.2.2.2.2.2.2.2.2.2.2.2.2.2.2.2.2.2.1) (by decide)), h_m_ha.grow hg6 (fr_X6_element hT (hT.2.1.2.2.2.2.2.2.2.2.2.2.2.2.2.2.2.2.2.2.2.2.2.2.2.2.2.2.2.2.2.1) (by decide)), h_m_co.grow hg6 (fr_X6_element hT (hT.2.1.2.2.2.2.2.2.2.2.2.2.2.2.2.2.2.2.2.2.2.2.2.2.2.2.2.2.2.2.2.2.1) (by decide))⟩
  refine lv_lstore (lv' := (6, .long r6) :: (5, .int r5) :: LV b x m o i) hx hb dL_law_1206 hl (by decide) rfl (fun ls hl => ?_)
  refine lv_aload_n hx hb dL_law_1208 rfl (lv_at hl 4 rfl) ?_
  obtain ⟨h_m, h_m_ss, h_m_im, h_m_re, h_m_sa, h_m_ke, h_m_so, h_m_si, h_m_el, h_m_kd, h_m_kt, h_m_nu, h_m_ca, h_m_ha, h_m_co⟩ := id bRR
  refine w_finI (w_runV (rm := ({ frames := 0, cells := 0, slots := 0, locals := 0 } : Room)) (As := []) (rest := []) (n := 0) hx hb hml hts hown hK w (c_X6_thrown l D cI cP cS cL L _ m m_ss m_im m_re m_sa m_ke m_so m_si m_el m_kd m_kt m_hi (y6.2) m_po m_ba m_en m_tl m_nu m_ca m_ha m_hs m_co h_m) gL_law_X6_thrown rfl rfl rfl (by decide +kernel) ⟨(Nat.le_of_ble_eq_true rfl), (Nat.le_of_ble_eq_true rfl)⟩ h_m rfl rfl hl.1 rfl (Nat.le_of_ble_eq_true rfl) dL_law_1209 ⟨by show cells + 1 + 0 ≤ 600128; omega, by show slots + 6 + 0 ≤ 7301098; omega⟩) w hA (fun H locs w => ?_)
  have E := element_m (d := (xs (i + 1).toNatClampNeg)) (i0 := (xs (i + 2).toNatClampNeg)) hRS
  rw [← ey6] at E
  have tail : W p l e room_1 s mt #[Value.ref b] below meth c H locs (cells + 1) (slots + 6) Q (F0 mt 1235 ls []) := by
    refine lv_goto (tgt := 1361) hx hb dL_law_1235 (by decide) ?_
    have hl := lv_sub hl [2, 3, 4, 5, 6] (show lv_pick _ _ = LV b x m o i from rfl)
    refine W.widen (k := cells + 1) (n := slots + 7) (by omega) (by omega) ?_
    exact kk L F6 H locs ls ⟨m_hi, y6.2, m_po, m_ba, m_en, m_tl, m_hs, m_ss_f, m_im_f, m_re_f, m_sa_f, m_ke_f, m_so_f, m_si_f, m_el_f, m_kd_f, m_kt_f, m_nu_f, m_ca_f, m_ha_f, m_co_f, _, ⟨_, _, _, _, _, _, _, _, bN, hRG⟩, ⟨_, _, _, _, _, _, _, _, _, _, _, _, _, _, _, bM⟩, ⟨_, _, _, _, _, _, _, _, _, _, _, _, _, _, _, bK, hKR⟩, ⟨_, _, _, _, _, _, _, _, bSS, hRS⟩, h_x, ⟨_, h_x_co⟩, ⟨_, h_x_ot⟩, bRR, h_o, hhs⟩ w hl
  refine lv_iload hx hb dL_law_1212 (lv_at hl 1 rfl) ?_
  refine lv_icmp_eq (tgt := 1219) hx hb dL_law_1214 (by decide) (fun _ => ?_) (fun c9 => absurd (E.1.trans er5.symm) c9)
  refine lv_iload hx hb dL_law_1219 (lv_at hl 1 rfl) ?_
  refine lv_if_ne (tgt := 1235) hx hb dL_law_1221 (by decide) (fun _ => tail) (fun z9 => ?_)
  have z5 := er5.symm.trans z9
  refine lv_aload_n hx hb dL_law_1224 rfl (lv_at hl 5 rfl) ?_
  refine lv_iconst (v := 0) hx hb dL_law_1225 (by decide) ?_
  refine w_lld hx hb hK w h_o (vp_in_nI (n := 0) (N := 1) (by decide) (by decide)) dL_law_1226 ?_
  refine lv_lload hx hb dL_law_1227 (lv_at hl 0 rfl) ?_
  refine W.lcmp hx hb dL_law_1229 ?_
  refine lv_if_eq (tgt := 1235) hx hb dL_law_1230 (by decide) (fun _ => tail) (fun c9 => absurd ((lg_cmp_eq _ _).mpr ?_) c9)
  rw [if_pos z5, er6, E.2 z5]
  rfl

set_option maxHeartbeats 4000000 in
set_option maxRecDepth 100000 in
theorem law_copy {p : Program} {l : Launch} {e : Env} {s : State} {mt : MethodId} {below : List Frame} {meth : Method} {c : Code} {H : Heap} {locs : List Loc} {cells slots : Nat} {Q : State → Prop} {D : va_G} {A : Nat → Prop} {L : List Nat} {F : Nat → va_E} {cI cP cS cL : ClassId} {sa : Nat → Nat} {b len : Nat} {xs : Nat → Int32} {ls : Array Slot} {i : Int32} {Lst : List Nat} {x x_no x_no_pa x_no_cr x_no_cr_e x_ke x_ke_pa x_ke_cr x_ke_cr_e x_mi x_mi_pa x_mi_cr x_mi_cr_e x_sh x_co x_ot m m_ss m_im m_re m_sa m_ke m_so m_si m_el m_kd m_kt m_nu m_ca m_ha m_co o : Nat} {pr qk qm sh rw el sp : Nat → Nat} (hT : TG Lst x x_no x_no_pa x_no_cr x_no_cr_e x_ke x_ke_pa x_ke_cr x_ke_cr_e x_mi x_mi_pa x_mi_cr x_mi_cr_e x_sh x_co x_ot m m_ss m_im m_re m_sa m_ke m_so m_si m_el m_kd m_kt m_nu m_ca m_ha m_co o pr qk qm sh rw el sp) (hC : LC p l s mt c D cI cP cS cL A sa b len xs) (hI : ∀ k : Int32, 1 ≤ k.toInt → k.toInt ≤ 5 → vp_in (i + k) len) (hroom : cells + 1 ≤ 600128 ∧ slots + 7 ≤ 7301098) (hV : IV cI cP cS cL x x_no x_no_pa x_no_cr x_no_cr_e x_ke x_ke_pa x_ke_cr x_ke_cr_e x_mi x_mi_pa x_mi_cr x_mi_cr_e x_sh x_co x_ot m m_ss m_im m_re m_sa m_ke m_so m_si m_el m_kd m_kt m_nu m_ca m_ha m_co o pr qk qm sh rw el sp L F) (w : ww D A s.heap L F H locs) (hl : lv_has ls 8 (LV b x m o i)) (kk : ∀ (L1 : List Nat) (F1 : Nat → va_E) (H1 : Heap) (locs1 : List Loc) (ls1 : Array Slot), IV cI cP cS cL x x_no x_no_pa x_no_cr x_no_cr_e x_ke x_ke_pa x_ke_cr x_ke_cr_e x_mi x_mi_pa x_mi_cr x_mi_cr_e x_sh x_co x_ot m m_ss m_im m_re m_sa m_ke m_so m_si m_el m_kd m_kt m_nu m_ca m_ha m_co o pr qk qm sh rw el sp L1 F1 → ww D A s.heap L1 F1 H1 locs1 → lv_has ls1 8 (LV b x m o i) → W p l e room_1 s mt #[Value.ref b] below meth c H1 locs1 (cells + 1) (slots + 7) Q (F0 mt 1361 ls1 [])) : W p l e room_1 s mt #[Value.ref b] below meth c H locs cells slots Q (F0 mt 1238 ls []) := by
  have hC0 := hC
  obtain ⟨hx, hb, hml, hts, hown, hK, hX, hA, hXs, hbl, hbA, hst⟩ := hC
  obtain ⟨m_hi, m_th, m_po, m_ba, m_en, m_tl, m_hs, m_ss_f, m_im_f, m_re_f, m_sa_f, m_ke_f, m_so_f, m_si_f, m_el_f, m_kd_f, m_kt_f, m_nu_f, m_ca_f, m_ha_f, m_co_f, fo, ⟨x_no_ls, x_no_cr_so, x_no_cr_sz, x_no_cr_e_f, pr_nu, pr_ki, pr_st, pr_sl, bN, hRG⟩, ⟨x_mi_up, x_mi_down, x_mi_high, x_mi_prize, x_mi_z, x_mi_rounds, x_mi_people, x_mi_ls, x_mi_cr_so, x_mi_cr_sz, x_mi_cr_e_f, qm_nu, qm_ki, qm_st, qm_sl, bM⟩, ⟨x_ke_up, x_ke_down, x_ke_high, x_ke_prize, x_ke_z, x_ke_rounds, x_ke_people, x_ke_ls, x_ke_cr_so, x_ke_cr_sz, x_ke_cr_e_f, qk_nu, qk_ki, qk_st, qk_sl, bK, hKR⟩, ⟨sh_ho, rw_so, rw_sz, el_f, sp_nu, sp_ki, sp_st, sp_sl, bSS, hRS⟩, h_x, ⟨x_co_f, h_x_co⟩, ⟨x_ot_f, h_x_ot⟩, bRR, h_o, hhs⟩ := hV
  have hB := hRG.1
  have h5 := hB.2.2.2.2.1
  have hd20 := hB.2.1
  have hd1 := dn_ne hB
  have hi6 := hi_rng hB
  have hr5 := hB.2.2.2.2.2.2.1
  have hsts : ∀ i, i < 12 → (pr_st i).toInt ≤ 1000 := fun i hi => Int.le_trans (hRG.2.1.2 i hi) (by decide)
  have hzc := hRG.2.2.1
  have hzs : ∀ i, i < 8 → (rw_sz i).toInt ≤ 100 := fun i hi => (hRS i hi).2.2.2.2.1.2
  have hsi : ∀ i, i < 8 → (m_si_f i).toInt ≤ 100 := fun i hi => by rw [(hRS i hi).2.2.2.1]; exact (hRS i hi).2.2.2.2.1.2
  have hsi0 : ∀ i, i < 8 → 0 ≤ (m_si_f i).toInt := fun i hi => by rw [(hRS i hi).2.2.2.1]; exact (hRS i hi).2.2.2.2.1.1
  refine lv_aload_n hx hb dL_law_1238 rfl (lv_at hl 1 rfl) ?_
  refine l_arg (x := x) (m := m) (o := o) (v := 1) hC0 w hl dL_law_1239 dL_law_1240 dL_law_1242 dL_law_1243 dL_law_1244 (by decide) (hI 1 (by decide) (by decide)) ?_
  refine l_arg (x := x) (m := m) (o := o) (v := 2) hC0 w hl dL_law_1245 dL_law_1246 dL_law_1248 dL_law_1249 dL_law_1250 (by decide) (hI 2 (by decide) (by decide)) ?_
  refine l_arg (x := x) (m := m) (o := o) (v := 3) hC0 w hl dL_law_1251 dL_law_1252 dL_law_1254 dL_law_1255 dL_law_1256 (by decide) (hI 3 (by decide) (by decide)) ?_
  refine l_arg (x := x) (m := m) (o := o) (v := 4) hC0 w hl dL_law_1257 dL_law_1258 dL_law_1260 dL_law_1261 dL_law_1262 (by decide) (hI 4 (by decide) (by decide)) ?_
  refine l_arg (x := x) (m := m) (o := o) (v := 5) hC0 w hl dL_law_1263 dL_law_1264 dL_law_1266 dL_law_1267 dL_law_1268 (by decide) (hI 5 (by decide) (by decide)) ?_
  obtain ⟨h_x_sh, h_sh, h_rw, h_el, h_sp⟩ := id bSS
  refine w_finj (w_runV (rm := ({ frames := 1, cells := 0, slots := 0, locals := 31 } : Room)) (As := [.int (xs (i + 1).toNatClampNeg), .int (xs (i + 2).toNatClampNeg), .int (xs (i + 3).toNatClampNeg), .int (xs (i + 4).toNatClampNeg), .int (xs (i + 5).toNatClampNeg)]) (rest := []) (n := 5) hx hb hml hts hown hK w (c_X5_copy l D cI cP cS cL L _ x (xs (i + 1).toNatClampNeg) (xs (i + 2).toNatClampNeg) (xs (i + 3).toNatClampNeg) (xs (i + 4).toNatClampNeg) (xs (i + 5).toNatClampNeg) x_no x_ke x_mi m_hi x_sh x_co x_ot sh sh_ho rw sp el rw_so rw_sz el_f h_x h_x_sh h_sh h_rw h_el hzs (lne_83 hT)) gL_law_X5_copy rfl rfl rfl (by decide +kernel) ⟨(Nat.le_of_ble_eq_true rfl), (Nat.le_of_ble_eq_true rfl)⟩ h_x rfl rfl hl.1 rfl (Nat.le_of_ble_eq_true rfl) dL_law_1269 ⟨by show cells + 0 ≤ 600128; omega, by show slots + 0 ≤ 7301098; omega⟩) w hA (fun r5 F5 H locs hp w => ?_)
  obtain ⟨y5, ey5, er5, e5_el, hk5⟩ := hp
  have hg5 := gr_wk (L := L) hk5
  have bN := gN hT (fun k a h h1 h2 => fr_X5_copy hT h (by omega)) hg5 bN
  have bK := gK hT (fun k a h h1 h2 => fr_X5_copy hT h (by omega)) hg5 bK
  have bM := gM hT (fun k a h h1 h2 => fr_X5_copy hT h (by omega)) hg5 bM
  have h_x := gx hT (fun k a h h1 h2 => fr_X5_copy hT h (by omega)) hg5 h_x
  have h_x_co := gco hT (fun k a h h1 h2 => fr_X5_copy hT h (by omega)) hg5 h_x_co
  have h_x_ot := got hT (fun k a h h1 h2 => fr_X5_copy hT h (by omega)) hg5 h_x_ot
  have bRR := gR hT (fun k a h h1 h2 => fr_X5_copy hT h (by omega)) hg5 bRR
  have h_o := go hT (fun k a h h1 h2 => fr_X5_copy hT h (by omega)) hg5 h_o
  have bSS : bS cI cS L F5 x_sh sh rw el sp (sh_ho) (rw_so) (rw_sz) (y5.2) (sp_nu) (sp_ki) (sp_st) (sp_sl) := ⟨h_x_sh.grow hg5 (fr_X5_copy hT (hT.2.1.2.2.2.2.2.2.2.2.2.2.2.2.2.1) (by decide)), (fun i hi => (h_sh i hi).grow hg5 (fr_X5_copy hT (hT.2.2.2.2.2.1 i hi) (by omega))), (fun i hi => (h_rw i hi).grow hg5 (fr_X5_copy hT (hT.2.2.2.2.2.2.1 i hi) (by omega))), (fun i hi => ⟨(hg5 _ (h_el i hi).1).1, e5_el i hi⟩), (fun i hi => (h_sp i hi).grow hg5 (fr_X5_copy hT (hT.2.2.2.2.2.2.2.2 i hi) (by omega)))⟩
  refine lv_aload_n hx hb dL_law_1272 rfl (lv_at hl 2 rfl) ?_
  refine l_arg (x := x) (m := m) (o := o) (v := 1) hC0 w hl dL_law_1273 dL_law_1274 dL_law_1276 dL_law_1277 dL_law_1278 (by decide) (hI 1 (by decide) (by decide)) ?_
  refine l_arg (x := x) (m := m) (o := o) (v := 2) hC0 w hl dL_law_1279 dL_law_1280 dL_law_1282 dL_law_1283 dL_law_1284 (by decide) (hI 2 (by decide) (by decide)) ?_
  refine l_arg (x := x) (m := m) (o := o) (v := 3) hC0 w hl dL_law_1285 dL_law_1286 dL_law_1288 dL_law_1289 dL_law_1290 (by decide) (hI 3 (by decide) (by decide)) ?_
  refine l_arg (x := x) (m := m) (o := o) (v := 4) hC0 w hl dL_law_1291 dL_law_1292 dL_law_1294 dL_law_1295 dL_law_1296 (by decide) (hI 4 (by decide) (by decide)) ?_
  refine l_arg (x := x) (m := m) (o := o) (v := 5) hC0 w hl dL_law_1297 dL_law_1298 dL_law_1300 dL_law_1301 dL_law_1302 (by decide) (hI 5 (by decide) (by decide)) ?_
  obtain ⟨h_m, h_m_ss, h_m_im, h_m_re, h_m_sa, h_m_ke, h_m_so, h_m_si, h_m_el, h_m_kd, h_m_kt, h_m_nu, h_m_ca, h_m_ha, h_m_co⟩ := id bRR
  refine w_finj (w_runV (rm := ({ frames := 2, cells := 0, slots := 0, locals := 45 } : Room)) (As := [.int (xs (i + 1).toNatClampNeg), .int (xs (i + 2).toNatClampNeg), .int (xs (i + 3).toNatClampNeg), .int (xs (i + 4).toNatClampNeg), .int (xs (i + 5).toNatClampNeg)]) (rest := [.int r5]) (n := 5) hx hb hml hts hown hK w (c_X6_copy l D cI cP cS cL L _ m (xs (i + 1).toNatClampNeg) (xs (i + 2).toNatClampNeg) (xs (i + 3).toNatClampNeg) (xs (i + 4).toNatClampNeg) (xs (i + 5).toNatClampNeg) m_ss m_im m_re m_sa m_ke m_so m_si m_el m_kd m_kt m_hi (m_th) m_po m_ba m_en m_tl m_nu m_ca m_ha m_hs m_co m_ke_f m_so_f m_si_f m_el_f h_m h_m_ke h_m_so h_m_si h_m_el hsi hsi0 (lne_93 hT) (lne_94 hT) (lne_95 hT)) gL_law_X6_copy rfl rfl rfl (by decide +kernel) ⟨(Nat.le_of_ble_eq_true rfl), (Nat.le_of_ble_eq_true rfl)⟩ h_m rfl rfl hl.1 rfl (Nat.le_of_ble_eq_true rfl) dL_law_1303 ⟨by show cells + 0 ≤ 600128; omega, by show slots + 0 ≤ 7301098; omega⟩) w hA (fun r6 F6 H locs hp w => ?_)
  obtain ⟨y6, ey6, er6, e6_m_el, hk6⟩ := hp
  have hg6 := gr_wk (L := L) hk6
  have bN := gN hT (fun k a h h1 h2 => fr_X6_copy hT h (by omega)) hg6 bN
  have bK := gK hT (fun k a h h1 h2 => fr_X6_copy hT h (by omega)) hg6 bK
  have bM := gM hT (fun k a h h1 h2 => fr_X6_copy hT h (by omega)) hg6 bM
  have bSS := gS hT (fun k a h h1 h2 => fr_X6_copy hT h (by omega)) hg6 bSS
  have h_x := gx hT (fun k a h h1 h2 => fr_X6_copy hT h (by omega)) hg6 h_x
  have h_x_co := gco hT (fun k a h h1 h2 => fr_X6_copy hT h (by omega)) hg6 h_x_co
  have h_x_ot := got hT (fun k a h h1 h2 => fr_X6_copy hT h (by omega)) hg6 h_x_ot
  have h_o := go hT (fun k a h h1 h2 => fr_X6_copy hT h (by omega)) hg6 h_o
  have bRR : bR cI L F6 m m_ss m_im m_re m_sa m_ke m_so m_si m_el m_kd m_kt m_nu m_ca m_ha m_co (m_hi) (m_th) (m_po) (m_ba) (m_en) (m_tl) (m_hs) (m_ss_f) (m_im_f) (m_re_f) (m_sa_f) (m_ke_f) (m_so_f) (m_si_f) (y6.2) (m_kd_f) (m_kt_f) (m_nu_f) (m_ca_f) (m_ha_f) (m_co_f) := ⟨h_m.grow hg6 (fr_X6_copy hT (hT.2.1.2.2.2.2.2.2.2.2.2.2.2.2.2.2.2.2.1) (by decide)), h_m_ss.grow hg6 (fr_X6_copy hT (hT.2.1.2.2.2.2.2.2.2.2.2.2.2.2.2.2.2.2.2.1) (by decide)), h_m_im.grow hg6 (fr_X6_copy hT (hT.2.1.2.2.2.2.2.2.2.2.2.2.2.2.2.2.2.2.2.2.1) (by decide)), h_m_re.grow hg6 (fr_X6_copy hT (hT.2.1.2.2.2.2.2.2.2.2.2.2.2.2.2.2.2.2.2.2.2.1) (by decide)), h_m_sa.grow hg6 (fr_X6_copy hT (hT.2.1.2.2.2.2.2.2.2.2.2.2.2.2.2.2.2.2.2.2.2.2.1) (by decide)), h_m_ke.grow hg6 (fr_X6_copy hT (hT.2.1.2.2.2.2.2.2.2.2.2.2.2.2.2.2.2.2.2.2.2.2.2.1) (by decide)), h_m_so.grow hg6 (fr_X6_copy hT (hT.2.1.2.2.2.2.2.2.2.2.2.2.2.2.2.2.2.2.2.2.2.2.2.2.1) (by decide)), h_m_si.grow hg6 (fr_X6_copy hT (hT.2.1.2.2.2.2.2.2.2.2.2.2.2.2.2.2.2.2.2.2.2.2.2.2.2.1) (by decide)), ⟨(hg6 _ h_m_el.1).1, e6_m_el⟩, h_m_kd.grow hg6 (fr_X6_copy hT (hT.2.1.2.2.2.2.2.2.2.2.2.2.2.2.2.2.2.2.2.2.2.2.2.2.2.2.2.1) (by decide)), h_m_kt.grow hg6 (fr_X6_copy hT (hT.2.1.2.2.2.2.2.2.2.2.2.2.2.2.2.2.2.2.2.2.2.2.2.2.2.2.2.2.1) (by decide)), h_m_nu.grow hg6 (fr_X6_copy hT (hT.2.1.2.2.2.2.2.2.2.2.2.2.2.2.2.2.2.2.2.2.2.2.2.2.2.2.2.2.2.1) (by decide)), h_m_ca.grow hg6 (fr_X6_copy hT (hT.2.1.2.2.2.2.2.2.2.2.2.2.2.2.2.2.2.2.2.2.2.2.2.2.2.2.2.2.2.2.1) (by decide)), h_m_ha.grow hg6 (fr_X6_copy hT (hT.2.1.2.2.2.2.2.2.2.2.2.2.2.2.2.2.2.2.2.2.2.2.2.2.2.2.2.2.2.2.2.1) (by decide)), h_m_co.grow hg6 (fr_X6_copy hT (hT.2.1.2.2.2.2.2.2.2.2.2.2.2.2.2.2.2.2.2.2.2.2.2.2.2.2.2.2.2.2.2.2.1) (by decide))⟩
  have E := copy_m (d := (xs (i + 1).toNatClampNeg)) (i0 := (xs (i + 2).toNatClampNeg)) (e0 := (xs (i + 3).toNatClampNeg)) (j0 := (xs (i + 4).toNatClampNeg)) (n0 := (xs (i + 5).toNatClampNeg)) hRS
  rw [← ey5] at E
  rw [← ey6] at E
  obtain ⟨E1, hRS2⟩ := E
  refine lv_icmp_eq (tgt := 1361) hx hb dL_law_1306 (by decide) (fun _ => ?_) (fun c9 => absurd (er5.trans (E1.trans er6.symm)) c9)
  refine W.widen (k := cells + 1) (n := slots + 7) (by omega) (by omega) ?_
  exact kk L F6 H locs ls ⟨m_hi, m_th, m_po, m_ba, m_en, m_tl, m_hs, m_ss_f, m_im_f, m_re_f, m_sa_f, m_ke_f, m_so_f, m_si_f, y6.2, m_kd_f, m_kt_f, m_nu_f, m_ca_f, m_ha_f, m_co_f, fo, ⟨_, _, _, _, _, _, _, _, bN, hRG⟩, ⟨_, _, _, _, _, _, _, _, _, _, _, _, _, _, _, bM⟩, ⟨_, _, _, _, _, _, _, _, _, _, _, _, _, _, _, bK, hKR⟩, ⟨_, _, _, _, _, _, _, _, bSS, hRS2⟩, h_x, ⟨_, h_x_co⟩, ⟨_, h_x_ot⟩, bRR, h_o, hhs⟩ w hl

set_option maxHeartbeats 4000000 in
set_option maxRecDepth 100000 in
theorem law_depth {p : Program} {l : Launch} {e : Env} {s : State} {mt : MethodId} {below : List Frame} {meth : Method} {c : Code} {H : Heap} {locs : List Loc} {cells slots : Nat} {Q : State → Prop} {D : va_G} {A : Nat → Prop} {L : List Nat} {F : Nat → va_E} {cI cP cS cL : ClassId} {sa : Nat → Nat} {b len : Nat} {xs : Nat → Int32} {ls : Array Slot} {i : Int32} {Lst : List Nat} {x x_no x_no_pa x_no_cr x_no_cr_e x_ke x_ke_pa x_ke_cr x_ke_cr_e x_mi x_mi_pa x_mi_cr x_mi_cr_e x_sh x_co x_ot m m_ss m_im m_re m_sa m_ke m_so m_si m_el m_kd m_kt m_nu m_ca m_ha m_co o : Nat} {pr qk qm sh rw el sp : Nat → Nat} (hT : TG Lst x x_no x_no_pa x_no_cr x_no_cr_e x_ke x_ke_pa x_ke_cr x_ke_cr_e x_mi x_mi_pa x_mi_cr x_mi_cr_e x_sh x_co x_ot m m_ss m_im m_re m_sa m_ke m_so m_si m_el m_kd m_kt m_nu m_ca m_ha m_co o pr qk qm sh rw el sp) (hC : LC p l s mt c D cI cP cS cL A sa b len xs) (hI : ∀ k : Int32, 1 ≤ k.toInt → k.toInt ≤ 5 → vp_in (i + k) len) (hroom : cells + 1 ≤ 600128 ∧ slots + 7 ≤ 7301098) (hV : IV cI cP cS cL x x_no x_no_pa x_no_cr x_no_cr_e x_ke x_ke_pa x_ke_cr x_ke_cr_e x_mi x_mi_pa x_mi_cr x_mi_cr_e x_sh x_co x_ot m m_ss m_im m_re m_sa m_ke m_so m_si m_el m_kd m_kt m_nu m_ca m_ha m_co o pr qk qm sh rw el sp L F) (w : ww D A s.heap L F H locs) (hl : lv_has ls 8 (LV b x m o i)) (kk : ∀ (L1 : List Nat) (F1 : Nat → va_E) (H1 : Heap) (locs1 : List Loc) (ls1 : Array Slot), IV cI cP cS cL x x_no x_no_pa x_no_cr x_no_cr_e x_ke x_ke_pa x_ke_cr x_ke_cr_e x_mi x_mi_pa x_mi_cr x_mi_cr_e x_sh x_co x_ot m m_ss m_im m_re m_sa m_ke m_so m_si m_el m_kd m_kt m_nu m_ca m_ha m_co o pr qk qm sh rw el sp L1 F1 → ww D A s.heap L1 F1 H1 locs1 → lv_has ls1 8 (LV b x m o i) → W p l e room_1 s mt #[Value.ref b] below meth c H1 locs1 (cells + 1) (slots + 7) Q (F0 mt 1361 ls1 [])) : W p l e room_1 s mt #[Value.ref b] below meth c H locs cells slots Q (F0 mt 1311 ls []) := by
  have hC0 := hC
  obtain ⟨hx, hb, hml, hts, hown, hK, hX, hA, hXs, hbl, hbA, hst⟩ := hC
  obtain ⟨m_hi, m_th, m_po, m_ba, m_en, m_tl, m_hs, m_ss_f, m_im_f, m_re_f, m_sa_f, m_ke_f, m_so_f, m_si_f, m_el_f, m_kd_f, m_kt_f, m_nu_f, m_ca_f, m_ha_f, m_co_f, fo, ⟨x_no_ls, x_no_cr_so, x_no_cr_sz, x_no_cr_e_f, pr_nu, pr_ki, pr_st, pr_sl, bN, hRG⟩, ⟨x_mi_up, x_mi_down, x_mi_high, x_mi_prize, x_mi_z, x_mi_rounds, x_mi_people, x_mi_ls, x_mi_cr_so, x_mi_cr_sz, x_mi_cr_e_f, qm_nu, qm_ki, qm_st, qm_sl, bM⟩, ⟨x_ke_up, x_ke_down, x_ke_high, x_ke_prize, x_ke_z, x_ke_rounds, x_ke_people, x_ke_ls, x_ke_cr_so, x_ke_cr_sz, x_ke_cr_e_f, qk_nu, qk_ki, qk_st, qk_sl, bK, hKR⟩, ⟨sh_ho, rw_so, rw_sz, el_f, sp_nu, sp_ki, sp_st, sp_sl, bSS, hRS⟩, h_x, ⟨x_co_f, h_x_co⟩, ⟨x_ot_f, h_x_ot⟩, bRR, h_o, hhs⟩ := hV
  have hB := hRG.1
  have h5 := hB.2.2.2.2.1
  have hd20 := hB.2.1
  have hd1 := dn_ne hB
  have hi6 := hi_rng hB
  have hr5 := hB.2.2.2.2.2.2.1
  have hsts : ∀ i, i < 12 → (pr_st i).toInt ≤ 1000 := fun i hi => Int.le_trans (hRG.2.1.2 i hi) (by decide)
  have hzc := hRG.2.2.1
  have hzs : ∀ i, i < 8 → (rw_sz i).toInt ≤ 100 := fun i hi => (hRS i hi).2.2.2.2.1.2
  have hsi : ∀ i, i < 8 → (m_si_f i).toInt ≤ 100 := fun i hi => by rw [(hRS i hi).2.2.2.1]; exact (hRS i hi).2.2.2.2.1.2
  have hsi0 : ∀ i, i < 8 → 0 ≤ (m_si_f i).toInt := fun i hi => by rw [(hRS i hi).2.2.2.1]; exact (hRS i hi).2.2.2.2.1.1
  refine lv_aload_n hx hb dL_law_1311 rfl (lv_at hl 1 rfl) ?_
  refine l_arg (x := x) (m := m) (o := o) (v := 1) hC0 w hl dL_law_1312 dL_law_1313 dL_law_1315 dL_law_1316 dL_law_1317 (by decide) (hI 1 (by decide) (by decide)) ?_
  obtain ⟨h_x_sh, h_sh, h_rw, h_el, h_sp⟩ := id bSS
  refine w_finI (w_runV (rm := ({ frames := 2, cells := 0, slots := 0, locals := 41 } : Room)) (As := [.int (xs (i + 1).toNatClampNeg)]) (rest := []) (n := 1) hx hb hml hts hown hK w (c_X5_depth l D cI cP cS cL L _ x (xs (i + 1).toNatClampNeg) x_no x_ke x_mi m_hi x_sh x_co x_ot sh sh_ho rw sp sp_nu sp_ki sp_st sp_sl h_x h_x_sh h_sh h_sp) gL_law_X5_depth rfl rfl rfl (by decide +kernel) ⟨(Nat.le_of_ble_eq_true rfl), (Nat.le_of_ble_eq_true rfl)⟩ h_x rfl rfl hl.1 rfl (Nat.le_of_ble_eq_true rfl) dL_law_1318 ⟨by show cells + 0 ≤ 600128; omega, by show slots + 0 ≤ 7301098; omega⟩) w hA (fun H locs w => ?_)
  refine lv_aload_n hx hb dL_law_1321 rfl (lv_at hl 2 rfl) ?_
  refine l_arg (x := x) (m := m) (o := o) (v := 1) hC0 w hl dL_law_1322 dL_law_1323 dL_law_1325 dL_law_1326 dL_law_1327 (by decide) (hI 1 (by decide) (by decide)) ?_
  obtain ⟨h_m, h_m_ss, h_m_im, h_m_re, h_m_sa, h_m_ke, h_m_so, h_m_si, h_m_el, h_m_kd, h_m_kt, h_m_nu, h_m_ca, h_m_ha, h_m_co⟩ := id bRR
  refine w_finI (w_runV (rm := ({ frames := 3, cells := 0, slots := 0, locals := 66 } : Room)) (As := [.int (xs (i + 1).toNatClampNeg)]) (rest := [.int (f_X5_depth (xs (i + 1).toNatClampNeg) sh_ho sp_ki sp_st sp_sl)]) (n := 1) hx hb hml hts hown hK w (c_X6_depth l D cI cP cS cL L _ m (xs (i + 1).toNatClampNeg) m_ss m_im m_re m_sa m_ke m_so m_si m_el m_kd m_kt m_hi (m_th) m_po m_ba m_en m_tl m_nu m_ca m_ha m_hs m_co m_ke_f m_kd_f h_m h_m_ke h_m_kd) gL_law_X6_depth rfl rfl rfl (by decide +kernel) ⟨(Nat.le_of_ble_eq_true rfl), (Nat.le_of_ble_eq_true rfl)⟩ h_m rfl rfl hl.1 rfl (Nat.le_of_ble_eq_true rfl) dL_law_1328 ⟨by show cells + 0 ≤ 600128; omega, by show slots + 0 ≤ 7301098; omega⟩) w hA (fun H locs w => ?_)
  have E := depth_m (d := (xs (i + 1).toNatClampNeg)) hRS
  refine lv_icmp_eq (tgt := 1361) hx hb dL_law_1331 (by decide) (fun _ => ?_) (fun c9 => absurd (E) c9)
  refine W.widen (k := cells + 1) (n := slots + 7) (by omega) (by omega) ?_
  exact kk L F H locs ls ⟨m_hi, m_th, m_po, m_ba, m_en, m_tl, m_hs, m_ss_f, m_im_f, m_re_f, m_sa_f, m_ke_f, m_so_f, m_si_f, m_el_f, m_kd_f, m_kt_f, m_nu_f, m_ca_f, m_ha_f, m_co_f, fo, ⟨_, _, _, _, _, _, _, _, bN, hRG⟩, ⟨_, _, _, _, _, _, _, _, _, _, _, _, _, _, _, bM⟩, ⟨_, _, _, _, _, _, _, _, _, _, _, _, _, _, _, bK, hKR⟩, ⟨_, _, _, _, _, _, _, _, bSS, hRS⟩, h_x, ⟨_, h_x_co⟩, ⟨_, h_x_ot⟩, bRR, h_o, hhs⟩ w hl

set_option maxHeartbeats 4000000 in
set_option maxRecDepth 100000 in
theorem law_toss {p : Program} {l : Launch} {e : Env} {s : State} {mt : MethodId} {below : List Frame} {meth : Method} {c : Code} {H : Heap} {locs : List Loc} {cells slots : Nat} {Q : State → Prop} {D : va_G} {A : Nat → Prop} {L : List Nat} {F : Nat → va_E} {cI cP cS cL : ClassId} {sa : Nat → Nat} {b len : Nat} {xs : Nat → Int32} {ls : Array Slot} {i : Int32} {Lst : List Nat} {x x_no x_no_pa x_no_cr x_no_cr_e x_ke x_ke_pa x_ke_cr x_ke_cr_e x_mi x_mi_pa x_mi_cr x_mi_cr_e x_sh x_co x_ot m m_ss m_im m_re m_sa m_ke m_so m_si m_el m_kd m_kt m_nu m_ca m_ha m_co o : Nat} {pr qk qm sh rw el sp : Nat → Nat} (hT : TG Lst x x_no x_no_pa x_no_cr x_no_cr_e x_ke x_ke_pa x_ke_cr x_ke_cr_e x_mi x_mi_pa x_mi_cr x_mi_cr_e x_sh x_co x_ot m m_ss m_im m_re m_sa m_ke m_so m_si m_el m_kd m_kt m_nu m_ca m_ha m_co o pr qk qm sh rw el sp) (hC : LC p l s mt c D cI cP cS cL A sa b len xs) (hI : ∀ k : Int32, 1 ≤ k.toInt → k.toInt ≤ 5 → vp_in (i + k) len) (hroom : cells + 1 ≤ 600128 ∧ slots + 7 ≤ 7301098) (hV : IV cI cP cS cL x x_no x_no_pa x_no_cr x_no_cr_e x_ke x_ke_pa x_ke_cr x_ke_cr_e x_mi x_mi_pa x_mi_cr x_mi_cr_e x_sh x_co x_ot m m_ss m_im m_re m_sa m_ke m_so m_si m_el m_kd m_kt m_nu m_ca m_ha m_co o pr qk qm sh rw el sp L F) (w : ww D A s.heap L F H locs) (hl : lv_has ls 8 (LV b x m o i)) (kk : ∀ (L1 : List Nat) (F1 : Nat → va_E) (H1 : Heap) (locs1 : List Loc) (ls1 : Array Slot), IV cI cP cS cL x x_no x_no_pa x_no_cr x_no_cr_e x_ke x_ke_pa x_ke_cr x_ke_cr_e x_mi x_mi_pa x_mi_cr x_mi_cr_e x_sh x_co x_ot m m_ss m_im m_re m_sa m_ke m_so m_si m_el m_kd m_kt m_nu m_ca m_ha m_co o pr qk qm sh rw el sp L1 F1 → ww D A s.heap L1 F1 H1 locs1 → lv_has ls1 8 (LV b x m o i) → W p l e room_1 s mt #[Value.ref b] below meth c H1 locs1 (cells + 1) (slots + 7) Q (F0 mt 1361 ls1 [])) : W p l e room_1 s mt #[Value.ref b] below meth c H locs cells slots Q (F0 mt 1336 ls []) := by
  have hC0 := hC
  obtain ⟨hx, hb, hml, hts, hown, hK, hX, hA, hXs, hbl, hbA, hst⟩ := hC
  obtain ⟨m_hi, m_th, m_po, m_ba, m_en, m_tl, m_hs, m_ss_f, m_im_f, m_re_f, m_sa_f, m_ke_f, m_so_f, m_si_f, m_el_f, m_kd_f, m_kt_f, m_nu_f, m_ca_f, m_ha_f, m_co_f, fo, ⟨x_no_ls, x_no_cr_so, x_no_cr_sz, x_no_cr_e_f, pr_nu, pr_ki, pr_st, pr_sl, bN, hRG⟩, ⟨x_mi_up, x_mi_down, x_mi_high, x_mi_prize, x_mi_z, x_mi_rounds, x_mi_people, x_mi_ls, x_mi_cr_so, x_mi_cr_sz, x_mi_cr_e_f, qm_nu, qm_ki, qm_st, qm_sl, bM⟩, ⟨x_ke_up, x_ke_down, x_ke_high, x_ke_prize, x_ke_z, x_ke_rounds, x_ke_people, x_ke_ls, x_ke_cr_so, x_ke_cr_sz, x_ke_cr_e_f, qk_nu, qk_ki, qk_st, qk_sl, bK, hKR⟩, ⟨sh_ho, rw_so, rw_sz, el_f, sp_nu, sp_ki, sp_st, sp_sl, bSS, hRS⟩, h_x, ⟨x_co_f, h_x_co⟩, ⟨x_ot_f, h_x_ot⟩, bRR, h_o, hhs⟩ := hV
  have hB := hRG.1
  have h5 := hB.2.2.2.2.1
  have hd20 := hB.2.1
  have hd1 := dn_ne hB
  have hi6 := hi_rng hB
  have hr5 := hB.2.2.2.2.2.2.1
  have hsts : ∀ i, i < 12 → (pr_st i).toInt ≤ 1000 := fun i hi => Int.le_trans (hRG.2.1.2 i hi) (by decide)
  have hzc := hRG.2.2.1
  have hzs : ∀ i, i < 8 → (rw_sz i).toInt ≤ 100 := fun i hi => (hRS i hi).2.2.2.2.1.2
  have hsi : ∀ i, i < 8 → (m_si_f i).toInt ≤ 100 := fun i hi => by rw [(hRS i hi).2.2.2.1]; exact (hRS i hi).2.2.2.2.1.2
  have hsi0 : ∀ i, i < 8 → 0 ≤ (m_si_f i).toInt := fun i hi => by rw [(hRS i hi).2.2.2.1]; exact (hRS i hi).2.2.2.2.1.1
  refine lv_aload_n hx hb dL_law_1336 rfl (lv_at hl 1 rfl) ?_
  refine l_arg (x := x) (m := m) (o := o) (v := 1) hC0 w hl dL_law_1337 dL_law_1338 dL_law_1340 dL_law_1341 dL_law_1342 (by decide) (hI 1 (by decide) (by decide)) ?_
  obtain ⟨h_x_sh, h_sh, h_rw, h_el, h_sp⟩ := id bSS
  refine wx_fini (wx_runVH (rm := ({ frames := 7, cells := 1, slots := 6, locals := 102 } : Room)) (As := [.int (xs (i + 1).toNatClampNeg)]) (rest := []) (n := 1) hx hb hml hts hown hK w hA hX (c_X5_toss l hst D cI cP cS cL sa L _ x (xs (i + 1).toNatClampNeg) x_no x_ke x_mi m_hi x_sh x_co x_ot sh sh_ho rw sp sp_nu sp_ki sp_st sp_sl h_x h_x_sh h_sh h_sp) gL_law_X5_toss rfl rfl rfl (by decide +kernel) ⟨(Nat.le_of_ble_eq_true rfl), (Nat.le_of_ble_eq_true rfl)⟩ h_x rfl rfl hl.1 rfl (Nat.le_of_ble_eq_true rfl) dL_law_1343 ⟨by show cells + 1 ≤ 600128; omega, by show slots + 6 ≤ 7301098; omega⟩) w hA (fun E9 ce9 q9 L9 F9 H9 locs9 hp9 w9 h19 h29 h39 => hp9.elim) (fun r5 L5 F5 H locs hp w => ?_)
  obtain ⟨er5, hL5, hF5⟩ := hp
  rw [hL5, hF5] at w
  refine lv_aload_n hx hb dL_law_1346 rfl (lv_at hl 2 rfl) ?_
  refine l_arg (x := x) (m := m) (o := o) (v := 1) hC0 w hl dL_law_1347 dL_law_1348 dL_law_1350 dL_law_1351 dL_law_1352 (by decide) (hI 1 (by decide) (by decide)) ?_
  obtain ⟨h_m, h_m_ss, h_m_im, h_m_re, h_m_sa, h_m_ke, h_m_so, h_m_si, h_m_el, h_m_kd, h_m_kt, h_m_nu, h_m_ca, h_m_ha, h_m_co⟩ := id bRR
  refine w_finI (w_runV (rm := ({ frames := 3, cells := 0, slots := 0, locals := 66 } : Room)) (As := [.int (xs (i + 1).toNatClampNeg)]) (rest := [.int r5]) (n := 1) hx hb hml hts hown hK w (c_X6_toss l D cI cP cS cL L _ m (xs (i + 1).toNatClampNeg) m_ss m_im m_re m_sa m_ke m_so m_si m_el m_kd m_kt m_hi (m_th) m_po m_ba m_en m_tl m_nu m_ca m_ha m_hs m_co m_ke_f m_kt_f h_m h_m_ke h_m_kt) gL_law_X6_toss rfl rfl rfl (by decide +kernel) ⟨(Nat.le_of_ble_eq_true rfl), (Nat.le_of_ble_eq_true rfl)⟩ h_m rfl rfl hl.1 rfl (Nat.le_of_ble_eq_true rfl) dL_law_1353 ⟨by show cells + 1 + 0 ≤ 600128; omega, by show slots + 6 + 0 ≤ 7301098; omega⟩) w hA (fun H locs w => ?_)
  have E := toss_m (d := (xs (i + 1).toNatClampNeg)) hRS
  refine lv_icmp_eq (tgt := 1361) hx hb dL_law_1356 (by decide) (fun _ => ?_) (fun c9 => absurd (er5.trans E) c9)
  refine W.widen (k := cells + 1) (n := slots + 7) (by omega) (by omega) ?_
  exact kk L F H locs ls ⟨m_hi, m_th, m_po, m_ba, m_en, m_tl, m_hs, m_ss_f, m_im_f, m_re_f, m_sa_f, m_ke_f, m_so_f, m_si_f, m_el_f, m_kd_f, m_kt_f, m_nu_f, m_ca_f, m_ha_f, m_co_f, fo, ⟨_, _, _, _, _, _, _, _, bN, hRG⟩, ⟨_, _, _, _, _, _, _, _, _, _, _, _, _, _, _, bM⟩, ⟨_, _, _, _, _, _, _, _, _, _, _, _, _, _, _, bK, hKR⟩, ⟨_, _, _, _, _, _, _, _, bSS, hRS⟩, h_x, ⟨_, h_x_co⟩, ⟨_, h_x_ot⟩, bRR, h_o, hhs⟩ w hl
