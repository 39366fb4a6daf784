/-! THE LAW: crowd, of, set, steps, holds, round, anew, last, target -/
set_option maxHeartbeats 4000000 in
set_option maxRecDepth 100000 in
theorem law_crowd {p : Program} {l : Launch} {e : Env} {s : State} {mt : MethodId} {below : List Frame} {meth : Method} {c : Code} {H : Heap} {locs : List Loc} {cells slots : Nat} {Q : State → Prop} {D : va_G} {A : Nat → Prop} {L : List Nat} {F : Nat → va_E} {cI cP cS cL : ClassId} {sa : Nat → Nat} {b len : Nat} {xs : Nat → Int32} {ls : Array Slot} {i : Int32} {Lst : List Nat} {x x_no x_no_pa x_no_cr x_no_cr_e x_ke x_ke_pa x_ke_cr x_ke_cr_e x_mi x_mi_pa x_mi_cr x_mi_cr_e x_sh x_co x_ot m m_ss m_im m_re m_sa m_ke m_so m_si m_el m_kd m_kt m_nu m_ca m_ha m_co o : Nat} {pr qk qm sh rw el sp : Nat → Nat} (hT : TG Lst x x_no x_no_pa x_no_cr x_no_cr_e x_ke x_ke_pa x_ke_cr x_ke_cr_e x_mi x_mi_pa x_mi_cr x_mi_cr_e x_sh x_co x_ot m m_ss m_im m_re m_sa m_ke m_so m_si m_el m_kd m_kt m_nu m_ca m_ha m_co o pr qk qm sh rw el sp) (hC : LC p l s mt c D cI cP cS cL A sa b len xs) (hI : ∀ k : Int32, 1 ≤ k.toInt → k.toInt ≤ 5 → vp_in (i + k) len) (hroom : cells + 1 ≤ 600128 ∧ slots + 7 ≤ 7301098) (hV : IV cI cP cS cL x x_no x_no_pa x_no_cr x_no_cr_e x_ke x_ke_pa x_ke_cr x_ke_cr_e x_mi x_mi_pa x_mi_cr x_mi_cr_e x_sh x_co x_ot m m_ss m_im m_re m_sa m_ke m_so m_si m_el m_kd m_kt m_nu m_ca m_ha m_co o pr qk qm sh rw el sp L F) (w : ww D A s.heap L F H locs) (hl : lv_has ls 8 (LV b x m o i)) (kk : ∀ (L1 : List Nat) (F1 : Nat → va_E) (H1 : Heap) (locs1 : List Loc) (ls1 : Array Slot), IV cI cP cS cL x x_no x_no_pa x_no_cr x_no_cr_e x_ke x_ke_pa x_ke_cr x_ke_cr_e x_mi x_mi_pa x_mi_cr x_mi_cr_e x_sh x_co x_ot m m_ss m_im m_re m_sa m_ke m_so m_si m_el m_kd m_kt m_nu m_ca m_ha m_co o pr qk qm sh rw el sp L1 F1 → ww D A s.heap L1 F1 H1 locs1 → lv_has ls1 8 (LV b x m o i) → W p l e room_1 s mt #[Value.ref b] below meth c H1 locs1 (cells + 1) (slots + 7) Q (F0 mt 1361 ls1 [])) : W p l e room_1 s mt #[Value.ref b] below meth c H locs cells slots Q (F0 mt 192 ls []) := by
  have hC0 := hC
  obtain ⟨hx, hb, hml, hts, hown, hK, hX, hA, hXs, hbl, hbA, hst⟩ := hC
  obtain ⟨m_hi, m_th, m_po, m_ba, m_en, m_tl, m_hs, m_ss_f, m_im_f, m_re_f, m_sa_f, m_ke_f, m_so_f, m_si_f, m_el_f, m_kd_f, m_kt_f, m_nu_f, m_ca_f, m_ha_f, m_co_f, fo, ⟨x_no_ls, x_no_cr_so, x_no_cr_sz, x_no_cr_e_f, pr_nu, pr_ki, pr_st, pr_sl, bN, hRG⟩, ⟨x_mi_up, x_mi_down, x_mi_high, x_mi_prize, x_mi_z, x_mi_rounds, x_mi_people, x_mi_ls, x_mi_cr_so, x_mi_cr_sz, x_mi_cr_e_f, qm_nu, qm_ki, qm_st, qm_sl, bM⟩, ⟨x_ke_up, x_ke_down, x_ke_high, x_ke_prize, x_ke_z, x_ke_rounds, x_ke_people, x_ke_ls, x_ke_cr_so, x_ke_cr_sz, x_ke_cr_e_f, qk_nu, qk_ki, qk_st, qk_sl, bK, hKR⟩, ⟨sh_ho, rw_so, rw_sz, el_f, sp_nu, sp_ki, sp_st, sp_sl, bSS, hRS⟩, h_x, ⟨x_co_f, h_x_co⟩, ⟨x_ot_f, h_x_ot⟩, bRR, h_o, hhs⟩ := hV
  have hB := hRG.1
  have h5 := hB.2.2.2.2.1
  have hd20 := hB.2.1
  have hd1 := dn_ne hB
  have hi6 := hi_rng hB
  have hr5 := hB.2.2.2.2.2.2.1
  have hsts : ∀ i, i < 12 → (pr_st i).toInt ≤ 1000 := fun i hi => Int.le_trans (hRG.2.1.2 i hi) (by decide)
  have hzc := hRG.2.2.1
  have hzs : ∀ i, i < 8 → (rw_sz i).toInt ≤ 100 := fun i hi => (hRS i hi).2.2.2.2.1.2
  have hsi : ∀ i, i < 8 → (m_si_f i).toInt ≤ 100 := fun i hi => by rw [(hRS i hi).2.2.2.1]; exact (hRS i hi).2.2.2.2.1.2
  have hsi0 : ∀ i, i < 8 → 0 ≤ (m_si_f i).toInt := fun i hi => by rw [(hRS i hi).2.2.2.1]; exact (hRS i hi).2.2.2.2.1.1
  refine lv_aload_n hx hb dL_law_192 rfl (lv_at hl 1 rfl) ?_
  refine l_arg (x := x) (m := m) (o := o) (v := 1) hC0 w hl dL_law_193 dL_law_194 dL_law_196 dL_law_197 dL_law_198 (by decide) (hI 1 (by decide) (by decide)) ?_
  obtain ⟨h_x_no, h_x_no_pa, h_x_no_cr, h_x_no_cr_e, h_pr⟩ := id bN
  obtain ⟨h_x_mi, h_x_mi_pa, h_x_mi_cr, h_x_mi_cr_e, h_qm⟩ := id bM
  obtain ⟨h_x_sh, h_sh, h_rw, h_el, h_sp⟩ := id bSS
  refine w_fini (w_runV (rm := ({ frames := 6, cells := 1, slots := 7, locals := 126 } : Room)) (As := [.int (xs (i + 1).toNatClampNeg)]) (rest := []) (n := 1) hx hb hml hts hown hK w (c_X5_crowd l D cI cP cS cL L _ x (xs (i + 1).toNatClampNeg) x_no x_ke x_mi m_hi x_sh x_co x_ot (m_ss_f 0) (m_ss_f 1) (m_ss_f 2) (m_ss_f 3) (m_ss_f 4) (m_ss_f 6) (m_ss_f 5) x_no_pa x_no_cr x_no_ls x_no_cr_e x_no_cr_so x_no_cr_sz x_no_cr_e_f x_mi_up x_mi_down x_mi_high x_mi_prize x_mi_z x_mi_rounds x_mi_people x_mi_pa x_mi_cr x_mi_ls x_mi_cr_e x_mi_cr_so x_mi_cr_sz x_mi_cr_e_f pr pr_nu pr_ki pr_st pr_sl qm qm_nu qm_ki qm_st qm_sl sh sh_ho rw sp el rw_so rw_sz el_f h_x h_x_no h_x_no_pa h_x_no_cr h_x_no_cr_e h_x_mi h_x_mi_pa h_x_mi_cr h_x_mi_cr_e h_x_sh h_pr h_qm h_sh h_rw h_el hzs hzc h5.1 (lne_0 hT) (lne_1 hT) (lne_2 hT) (lne_3 hT) (lne_4 hT) (lne_5 hT) (lne_6 hT) (lne_7 hT) (lne_8 hT) (lne_9 hT) (lne_10 hT) (lne_11 hT) (lne_12 hT) (lne_13 hT)) gL_law_X5_crowd rfl rfl rfl (by decide +kernel) ⟨(Nat.le_of_ble_eq_true rfl), (Nat.le_of_ble_eq_true rfl)⟩ h_x rfl rfl hl.1 rfl (Nat.le_of_ble_eq_true rfl) dL_law_199 ⟨by show cells + 1 ≤ 600128; omega, by show slots + 7 ≤ 7301098; omega⟩) w hA (fun r5 L5 F5 H locs hp w => ?_)
  obtain ⟨y5, ey5, er5, e5_x_no, e5_x_no_cr, e5_x_no_cr_e, e5_x_mi, e5_x_mi_cr, e5_x_mi_cr_e, e5_pr, e5_qm, hg5⟩ := hp
  have bK := gK hT (fun k a h h1 h2 => fr_X5_crowd hT h (by omega)) hg5 bK
  have bSS := gS hT (fun k a h h1 h2 => fr_X5_crowd hT h (by omega)) hg5 bSS
  have h_x := gx hT (fun k a h h1 h2 => fr_X5_crowd hT h (by omega)) hg5 h_x
  have h_x_co := gco hT (fun k a h h1 h2 => fr_X5_crowd hT h (by omega)) hg5 h_x_co
  have h_x_ot := got hT (fun k a h h1 h2 => fr_X5_crowd hT h (by omega)) hg5 h_x_ot
  have bRR := gR hT (fun k a h h1 h2 => fr_X5_crowd hT h (by omega)) hg5 bRR
  have h_o := go hT (fun k a h h1 h2 => fr_X5_crowd hT h (by omega)) hg5 h_o
  have bN : bG cI cP L5 F5 x_no x_no_pa x_no_cr x_no_cr_e pr (y5.2.1) (y5.2.2.1) (y5.2.2.2.1) (y5.2.2.2.2.1) (y5.2.2.2.2.2.1) (y5.2.2.2.2.2.2.1) (y5.2.2.2.2.2.2.2.1) (y5.2.2.2.2.2.2.2.2.1) (y5.2.2.2.2.2.2.2.2.2.1) (y5.2.2.2.2.2.2.2.2.2.2.1) (y5.2.2.2.2.2.2.2.2.2.2.2.1) (y5.2.2.2.2.2.2.2.2.2.2.2.2.1) (y5.2.2.2.2.2.2.2.2.2.2.2.2.2.1) (y5.2.2.2.2.2.2.2.2.2.2.2.2.2.2.1) (y5.2.2.2.2.2.2.2.2.2.2.2.2.2.2.2.1) := ⟨⟨(hg5 _ h_x_no.1).1, e5_x_no⟩, h_x_no_pa.grow hg5 (fr_X5_crowd hT (hT.2.1.2.2.1) (by decide)), ⟨(hg5 _ h_x_no_cr.1).1, e5_x_no_cr⟩, ⟨(hg5 _ h_x_no_cr_e.1).1, e5_x_no_cr_e⟩, (fun i hi => ⟨(hg5 _ (h_pr i hi).1).1, e5_pr i hi⟩)⟩
  have bM : bG cI cP L5 F5 x_mi x_mi_pa x_mi_cr x_mi_cr_e qm (y5.2.2.2.2.2.2.2.2.2.2.2.2.2.2.2.2.1) (y5.2.2.2.2.2.2.2.2.2.2.2.2.2.2.2.2.2.1) (y5.2.2.2.2.2.2.2.2.2.2.2.2.2.2.2.2.2.2.1) (y5.2.2.2.2.2.2.2.2.2.2.2.2.2.2.2.2.2.2.2.1) (y5.2.2.2.2.2.2.2.2.2.2.2.2.2.2.2.2.2.2.2.2.1) (y5.2.2.2.2.2.2.2.2.2.2.2.2.2.2.2.2.2.2.2.2.2.1) (y5.2.2.2.2.2.2.2.2.2.2.2.2.2.2.2.2.2.2.2.2.2.2.1) (y5.2.2.2.2.2.2.2.2.2.2.2.2.2.2.2.2.2.2.2.2.2.2.2.1) (y5.2.2.2.2.2.2.2.2.2.2.2.2.2.2.2.2.2.2.2.2.2.2.2.2.1) (y5.2.2.2.2.2.2.2.2.2.2.2.2.2.2.2.2.2.2.2.2.2.2.2.2.2.1) (y5.2.2.2.2.2.2.2.2.2.2.2.2.2.2.2.2.2.2.2.2.2.2.2.2.2.2.1) (y5.2.2.2.2.2.2.2.2.2.2.2.2.2.2.2.2.2.2.2.2.2.2.2.2.2.2.2.1) (y5.2.2.2.2.2.2.2.2.2.2.2.2.2.2.2.2.2.2.2.2.2.2.2.2.2.2.2.2.1) (y5.2.2.2.2.2.2.2.2.2.2.2.2.2.2.2.2.2.2.2.2.2.2.2.2.2.2.2.2.2.1) (y5.2.2.2.2.2.2.2.2.2.2.2.2.2.2.2.2.2.2.2.2.2.2.2.2.2.2.2.2.2.2) := ⟨⟨(hg5 _ h_x_mi.1).1, e5_x_mi⟩, h_x_mi_pa.grow hg5 (fr_X5_crowd hT (hT.2.1.2.2.2.2.2.2.2.2.2.2.1) (by decide)), ⟨(hg5 _ h_x_mi_cr.1).1, e5_x_mi_cr⟩, ⟨(hg5 _ h_x_mi_cr_e.1).1, e5_x_mi_cr_e⟩, (fun i hi => ⟨(hg5 _ (h_qm i hi).1).1, e5_qm i hi⟩)⟩
  refine lv_aload_n hx hb dL_law_202 rfl (lv_at hl 2 rfl) ?_
  refine l_arg (x := x) (m := m) (o := o) (v := 1) hC0 w hl dL_law_203 dL_law_204 dL_law_206 dL_law_207 dL_law_208 (by decide) (hI 1 (by decide) (by decide)) ?_
  obtain ⟨h_m, h_m_ss, h_m_im, h_m_re, h_m_sa, h_m_ke, h_m_so, h_m_si, h_m_el, h_m_kd, h_m_kt, h_m_nu, h_m_ca, h_m_ha, h_m_co⟩ := id bRR
  refine w_finj (w_runV (rm := ({ frames := 5, cells := 0, slots := 0, locals := 108 } : Room)) (As := [.int (xs (i + 1).toNatClampNeg)]) (rest := [.int r5]) (n := 1) hx hb hml hts hown hK w (c_X6_crowd l D cI cP cS cL L5 _ m (xs (i + 1).toNatClampNeg) m_ss m_im m_re m_sa m_ke m_so m_si m_el m_kd m_kt m_hi (m_th) m_po m_ba m_en m_tl m_nu m_ca m_ha m_hs m_co m_ss_f m_ke_f m_so_f m_si_f m_el_f m_re_f m_nu_f h_m h_m_ss h_m_ke h_m_so h_m_si h_m_el h_m_re h_m_nu h5 hsi hsi0 (lne_14 hT) (lne_15 hT) (lne_16 hT) (lne_17 hT) (lne_18 hT) (lne_19 hT) (lne_20 hT) (lne_21 hT) (lne_22 hT) (lne_23 hT) (lne_24 hT) (lne_25 hT) (lne_26 hT) (lne_27 hT) (lne_28 hT) (lne_29 hT) (lne_30 hT) (lne_31 hT)) gL_law_X6_crowd rfl rfl rfl (by decide +kernel) ⟨(Nat.le_of_ble_eq_true rfl), (Nat.le_of_ble_eq_true rfl)⟩ h_m rfl rfl hl.1 rfl (Nat.le_of_ble_eq_true rfl) dL_law_209 ⟨by show cells + 1 + 0 ≤ 600128; omega, by show slots + 7 + 0 ≤ 7301098; omega⟩) w hA (fun r6 F6 H locs hp w => ?_)
  obtain ⟨y6, ey6, er6, e6_m, e6_m_ss, e6_m_re, e6_m_nu, hk6⟩ := hp
  have hg6 := gr_wk (L := L5) hk6
  have bN := gN hT (fun k a h h1 h2 => fr_X6_crowd hT h (by omega)) hg6 bN
  have bK := gK hT (fun k a h h1 h2 => fr_X6_crowd hT h (by omega)) hg6 bK
  have bM := gM hT (fun k a h h1 h2 => fr_X6_crowd hT h (by omega)) hg6 bM
  have bSS := gS hT (fun k a h h1 h2 => fr_X6_crowd hT h (by omega)) hg6 bSS
  have h_x := gx hT (fun k a h h1 h2 => fr_X6_crowd hT h (by omega)) hg6 h_x
  have h_x_co := gco hT (fun k a h h1 h2 => fr_X6_crowd hT h (by omega)) hg6 h_x_co
  have h_x_ot := got hT (fun k a h h1 h2 => fr_X6_crowd hT h (by omega)) hg6 h_x_ot
  have h_o := go hT (fun k a h h1 h2 => fr_X6_crowd hT h (by omega)) hg6 h_o
  have bRR : bR cI L5 F6 m m_ss m_im m_re m_sa m_ke m_so m_si m_el m_kd m_kt m_nu m_ca m_ha m_co (m_hi) (m_th) (y6.2.2.2.1) (y6.2.2.2.2.1) (y6.2.2.2.2.2.1) (y6.2.2.2.2.2.2.1) (m_hs) (y6.2.1) (m_im_f) (y6.2.2.1) (m_sa_f) (m_ke_f) (m_so_f) (m_si_f) (m_el_f) (m_kd_f) (m_kt_f) (y6.2.2.2.2.2.2.2) (m_ca_f) (m_ha_f) (m_co_f) := ⟨⟨(hg6 _ h_m.1).1, e6_m⟩, ⟨(hg6 _ h_m_ss.1).1, e6_m_ss⟩, h_m_im.grow hg6 (fr_X6_crowd hT (hT.2.1.2.2.2.2.2.2.2.2.2.2.2.2.2.2.2.2.2.2.1) (by decide)), ⟨(hg6 _ h_m_re.1).1, e6_m_re⟩, h_m_sa.grow hg6 (fr_X6_crowd hT (hT.2.1.2.2.2.2.2.2.2.2.2.2.2.2.2.2.2.2.2.2.2.2.1) (by decide)), h_m_ke.grow hg6 (fr_X6_crowd hT (hT.2.1.2.2.2.2.2.2.2.2.2.2.2.2.2.2.2.2.2.2.2.2.2.1) (by decide)), h_m_so.grow hg6 (fr_X6_crowd hT (hT.2.1.2.2.2.2.2.2.2.2.2.2.2.2.2.2.2.2.2.2.2.2.2.2.1) (by decide)), h_m_si.grow hg6 (fr_X6_crowd hT (hT.2.1.2.2.2.2.2.2.2.2.2.2.2.2.2.2.2.2.2.2.2.2.2.2.2.1) (by decide)), h_m_el.grow hg6 (fr_X6_crowd hT (hT.2.1.2.2.2.2.2.2.2.2.2.2.2.2.2.2.2.2.2.2.2.2.2.2.2.2.1) (by decide)), h_m_kd.grow hg6 (fr_X6_crowd hT (hT.2.1.2.2.2.2.2.2.2.2.2.2.2.2.2.2.2.2.2.2.2.2.2.2.2.2.2.1) (by decide)), h_m_kt.grow hg6 (fr_X6_crowd hT (hT.2.1.2.2.2.2.2.2.2.2.2.2.2.2.2.2.2.2.2.2.2.2.2.2.2.2.2.2.1) (by decide)), ⟨(hg6 _ h_m_nu.1).1, e6_m_nu⟩, h_m_ca.grow hg6 (fr_X6_crowd hT (hT.2.1.2.2.2.2.2.2.2.2.2.2.2.2.2.2.2.2.2.2.2.2.2.2.2.2.2.2.2.2.1) (by decide)), h_m_ha.grow hg6 (fr_X6_crowd hT (hT.2.1.2.2.2.2.2.2.2.2.2.2.2.2.2.2.2.2.2.2.2.2.2.2.2.2.2.2.2.2.2.1) (by decide)), h_m_co.grow hg6 (fr_X6_crowd hT (hT.2.1.2.2.2.2.2.2.2.2.2.2.2.2.2.2.2.2.2.2.2.2.2.2.2.2.2.2.2.2.2.2.1) (by decide))⟩
  have E := crowd_m (d := (xs (i + 1).toNatClampNeg)) (so0 := x_no_cr_so) (po := m_po) (ba := m_ba) (en := m_en) (tl := m_tl) (re := m_re_f) (nu' := m_nu_f) (mup := x_mi_up) (mdn := x_mi_down) (mhi := x_mi_high) (mpz := x_mi_prize) (mz := x_mi_z) (mrr := x_mi_rounds) (mpp := x_mi_people) (mls := x_mi_ls) (mso := x_mi_cr_so) (msz := x_mi_cr_sz) (mcf := x_mi_cr_e_f) (qnu := qm_nu) (qki := qm_ki) (qst := qm_st) (qsl := qm_sl) hRS hRG
  rw [← ey5] at E
  rw [← ey6] at E
  obtain ⟨E1, E20, E21, E22, E23, E24, E26, E25, hRG2⟩ := E
  have bN : bG cI cP L5 F6 x_no x_no_pa x_no_cr x_no_cr_e pr (y6.2.1 0) (y6.2.1 1) (y6.2.1 2) (y6.2.1 3) (y6.2.1 4) (y6.2.1 6) (y6.2.1 5) (y5.2.2.2.2.2.2.2.2.1) (y5.2.2.2.2.2.2.2.2.2.1) (y5.2.2.2.2.2.2.2.2.2.2.1) (y5.2.2.2.2.2.2.2.2.2.2.2.1) (y5.2.2.2.2.2.2.2.2.2.2.2.2.1) (y5.2.2.2.2.2.2.2.2.2.2.2.2.2.1) (y5.2.2.2.2.2.2.2.2.2.2.2.2.2.2.1) (y5.2.2.2.2.2.2.2.2.2.2.2.2.2.2.2.1) := bN.to E20 E21 E22 E23 E24 E26 E25
  refine lv_icmp_eq (tgt := 1361) hx hb dL_law_212 (by decide) (fun _ => ?_) (fun c9 => absurd (er5.trans (E1.trans er6.symm)) c9)
  refine W.widen (k := cells + 1) (n := slots + 7) (by omega) (by omega) ?_
  exact kk L5 F6 H locs ls ⟨m_hi, m_th, y6.2.2.2.1, y6.2.2.2.2.1, y6.2.2.2.2.2.1, y6.2.2.2.2.2.2.1, m_hs, y6.2.1, m_im_f, y6.2.2.1, m_sa_f, m_ke_f, m_so_f, m_si_f, m_el_f, m_kd_f, m_kt_f, y6.2.2.2.2.2.2.2, m_ca_f, m_ha_f, m_co_f, fo, ⟨_, _, _, _, _, _, _, _, bN, hRG2⟩, ⟨_, _, _, _, _, _, _, _, _, _, _, _, _, _, _, bM⟩, ⟨_, _, _, _, _, _, _, _, _, _, _, _, _, _, _, bK, hKR⟩, ⟨_, _, _, _, _, _, _, _, bSS, hRS⟩, h_x, ⟨_, h_x_co⟩, ⟨_, h_x_ot⟩, bRR, h_o, hhs⟩ w hl

set_option maxHeartbeats 4000000 in
set_option maxRecDepth 100000 in
theorem law_of {p : Program} {l : Launch} {e : Env} {s : State} {mt : MethodId} {below : List Frame} {meth : Method} {c : Code} {H : Heap} {locs : List Loc} {cells slots : Nat} {Q : State → Prop} {D : va_G} {A : Nat → Prop} {L : List Nat} {F : Nat → va_E} {cI cP cS cL : ClassId} {sa : Nat → Nat} {b len : Nat} {xs : Nat → Int32} {ls : Array Slot} {i : Int32} {Lst : List Nat} {x x_no x_no_pa x_no_cr x_no_cr_e x_ke x_ke_pa x_ke_cr x_ke_cr_e x_mi x_mi_pa x_mi_cr x_mi_cr_e x_sh x_co x_ot m m_ss m_im m_re m_sa m_ke m_so m_si m_el m_kd m_kt m_nu m_ca m_ha m_co o : Nat} {pr qk qm sh rw el sp : Nat → Nat} (hT : TG Lst x x_no x_no_pa x_no_cr x_no_cr_e x_ke x_ke_pa x_ke_cr x_ke_cr_e x_mi x_mi_pa x_mi_cr x_mi_cr_e x_sh x_co x_ot m m_ss m_im m_re m_sa m_ke m_so m_si m_el m_kd m_kt m_nu m_ca m_ha m_co o pr qk qm sh rw el sp) (hC : LC p l s mt c D cI cP cS cL A sa b len xs) (hI : ∀ k : Int32, 1 ≤ k.toInt → k.toInt ≤ 5 → vp_in (i + k) len) (hroom : cells + 1 ≤ 600128 ∧ slots + 7 ≤ 7301098) (hV : IV cI cP cS cL x x_no x_no_pa x_no_cr x_no_cr_e x_ke x_ke_pa x_ke_cr x_ke_cr_e x_mi x_mi_pa x_mi_cr x_mi_cr_e x_sh x_co x_ot m m_ss m_im m_re m_sa m_ke m_so m_si m_el m_kd m_kt m_nu m_ca m_ha m_co o pr qk qm sh rw el sp L F) (w : ww D A s.heap L F H locs) (hl : lv_has ls 8 (LV b x m o i)) (kk : ∀ (L1 : List Nat) (F1 : Nat → va_E) (H1 : Heap) (locs1 : List Loc) (ls1 : Array Slot), IV cI cP cS cL x x_no x_no_pa x_no_cr x_no_cr_e x_ke x_ke_pa x_ke_cr x_ke_cr_e x_mi x_mi_pa x_mi_cr x_mi_cr_e x_sh x_co x_ot m m_ss m_im m_re m_sa m_ke m_so m_si m_el m_kd m_kt m_nu m_ca m_ha m_co o pr qk qm sh rw el sp L1 F1 → ww D A s.heap L1 F1 H1 locs1 → lv_has ls1 8 (LV b x m o i) → W p l e room_1 s mt #[Value.ref b] below meth c H1 locs1 (cells + 1) (slots + 7) Q (F0 mt 1361 ls1 [])) : W p l e room_1 s mt #[Value.ref b] below meth c H locs cells slots Q (F0 mt 217 ls []) := by
  have hC0 := hC
  obtain ⟨hx, hb, hml, hts, hown, hK, hX, hA, hXs, hbl, hbA, hst⟩ := hC
  obtain ⟨m_hi, m_th, m_po, m_ba, m_en, m_tl, m_hs, m_ss_f, m_im_f, m_re_f, m_sa_f, m_ke_f, m_so_f, m_si_f, m_el_f, m_kd_f, m_kt_f, m_nu_f, m_ca_f, m_ha_f, m_co_f, fo, ⟨x_no_ls, x_no_cr_so, x_no_cr_sz, x_no_cr_e_f, pr_nu, pr_ki, pr_st, pr_sl, bN, hRG⟩, ⟨x_mi_up, x_mi_down, x_mi_high, x_mi_prize, x_mi_z, x_mi_rounds, x_mi_people, x_mi_ls, x_mi_cr_so, x_mi_cr_sz, x_mi_cr_e_f, qm_nu, qm_ki, qm_st, qm_sl, bM⟩, ⟨x_ke_up, x_ke_down, x_ke_high, x_ke_prize, x_ke_z, x_ke_rounds, x_ke_people, x_ke_ls, x_ke_cr_so, x_ke_cr_sz, x_ke_cr_e_f, qk_nu, qk_ki, qk_st, qk_sl, bK, hKR⟩, ⟨sh_ho, rw_so, rw_sz, el_f, sp_nu, sp_ki, sp_st, sp_sl, bSS, hRS⟩, h_x, ⟨x_co_f, h_x_co⟩, ⟨x_ot_f, h_x_ot⟩, bRR, h_o, hhs⟩ := hV
  have hB := hRG.1
  have h5 := hB.2.2.2.2.1
  have hd20 := hB.2.1
  have hd1 := dn_ne hB
  have hi6 := hi_rng hB
  have hr5 := hB.2.2.2.2.2.2.1
  have hsts : ∀ i, i < 12 → (pr_st i).toInt ≤ 1000 := fun i hi => Int.le_trans (hRG.2.1.2 i hi) (by decide)
  have hzc := hRG.2.2.1
  have hzs : ∀ i, i < 8 → (rw_sz i).toInt ≤ 100 := fun i hi => (hRS i hi).2.2.2.2.1.2
  have hsi : ∀ i, i < 8 → (m_si_f i).toInt ≤ 100 := fun i hi => by rw [(hRS i hi).2.2.2.1]; exact (hRS i hi).2.2.2.2.1.2
  have hsi0 : ∀ i, i < 8 → 0 ≤ (m_si_f i).toInt := fun i hi => by rw [(hRS i hi).2.2.2.1]; exact (hRS i hi).2.2.2.2.1.1
  refine lv_aload_n hx hb dL_law_217 rfl (lv_at hl 1 rfl) ?_
  refine l_arg (x := x) (m := m) (o := o) (v := 1) hC0 w hl dL_law_218 dL_law_219 dL_law_221 dL_law_222 dL_law_223 (by decide) (hI 1 (by decide) (by decide)) ?_
  refine l_arg (x := x) (m := m) (o := o) (v := 2) hC0 w hl dL_law_224 dL_law_225 dL_law_227 dL_law_228 dL_law_229 (by decide) (hI 2 (by decide) (by decide)) ?_
  obtain ⟨h_x_no, h_x_no_pa, h_x_no_cr, h_x_no_cr_e, h_pr⟩ := id bN
  refine w_finI (w_runV (rm := ({ frames := 1, cells := 0, slots := 0, locals := 21 } : Room)) (As := [.int (xs (i + 1).toNatClampNeg), .int (xs (i + 2).toNatClampNeg)]) (rest := []) (n := 2) hx hb hml hts hown hK w (c_X5_of l D cI cP cS cL L _ x (xs (i + 1).toNatClampNeg) (xs (i + 2).toNatClampNeg) x_no x_ke x_mi m_hi x_sh x_co x_ot (m_ss_f 0) (m_ss_f 1) (m_ss_f 2) (m_ss_f 3) (m_ss_f 4) (m_ss_f 6) (m_ss_f 5) x_no_pa x_no_cr x_no_ls x_no_cr_e x_no_cr_so x_no_cr_sz x_no_cr_e_f pr pr_nu pr_ki pr_st pr_sl h_x h_x_no h_x_no_pa h_x_no_cr h_x_no_cr_e h_pr h5.2 hzc) gL_law_X5_of rfl rfl rfl (by decide +kernel) ⟨(Nat.le_of_ble_eq_true rfl), (Nat.le_of_ble_eq_true rfl)⟩ h_x rfl rfl hl.1 rfl (Nat.le_of_ble_eq_true rfl) dL_law_230 ⟨by show cells + 0 ≤ 600128; omega, by show slots + 0 ≤ 7301098; omega⟩) w hA (fun H locs w => ?_)
  refine lv_aload_n hx hb dL_law_233 rfl (lv_at hl 2 rfl) ?_
  refine l_arg (x := x) (m := m) (o := o) (v := 1) hC0 w hl dL_law_234 dL_law_235 dL_law_237 dL_law_238 dL_law_239 (by decide) (hI 1 (by decide) (by decide)) ?_
  refine l_arg (x := x) (m := m) (o := o) (v := 2) hC0 w hl dL_law_240 dL_law_241 dL_law_243 dL_law_244 dL_law_245 (by decide) (hI 2 (by decide) (by decide)) ?_
  obtain ⟨h_m, h_m_ss, h_m_im, h_m_re, h_m_sa, h_m_ke, h_m_so, h_m_si, h_m_el, h_m_kd, h_m_kt, h_m_nu, h_m_ca, h_m_ha, h_m_co⟩ := id bRR
  refine w_finI (w_runV (rm := ({ frames := 2, cells := 0, slots := 0, locals := 46 } : Room)) (As := [.int (xs (i + 1).toNatClampNeg), .int (xs (i + 2).toNatClampNeg)]) (rest := [.int (f_X5_of (xs (i + 1).toNatClampNeg) (xs (i + 2).toNatClampNeg) (m_ss_f 6) (m_ss_f 5) x_no_cr_sz x_no_cr_e_f pr_ki pr_st pr_sl)]) (n := 2) hx hb hml hts hown hK w (c_X6_of l D cI cP cS cL L _ m (xs (i + 1).toNatClampNeg) (xs (i + 2).toNatClampNeg) m_ss m_im m_re m_sa m_ke m_so m_si m_el m_kd m_kt m_hi (m_th) m_po m_ba m_en m_tl m_nu m_ca m_ha m_hs m_co m_ss_f h_m h_m_ss h5) gL_law_X6_of rfl rfl rfl (by decide +kernel) ⟨(Nat.le_of_ble_eq_true rfl), (Nat.le_of_ble_eq_true rfl)⟩ h_m rfl rfl hl.1 rfl (Nat.le_of_ble_eq_true rfl) dL_law_246 ⟨by show cells + 0 ≤ 600128; omega, by show slots + 0 ≤ 7301098; omega⟩) w hA (fun H locs w => ?_)
  have E := of_eq (p := (xs (i + 1).toNatClampNeg)) (what := (xs (i + 2).toNatClampNeg)) hRG
  refine lv_icmp_eq (tgt := 1361) hx hb dL_law_249 (by decide) (fun _ => ?_) (fun c9 => absurd (E) c9)
  refine W.widen (k := cells + 1) (n := slots + 7) (by omega) (by omega) ?_
  exact kk L F H locs ls ⟨m_hi, m_th, m_po, m_ba, m_en, m_tl, m_hs, m_ss_f, m_im_f, m_re_f, m_sa_f, m_ke_f, m_so_f, m_si_f, m_el_f, m_kd_f, m_kt_f, m_nu_f, m_ca_f, m_ha_f, m_co_f, fo, ⟨_, _, _, _, _, _, _, _, bN, hRG⟩, ⟨_, _, _, _, _, _, _, _, _, _, _, _, _, _, _, bM⟩, ⟨_, _, _, _, _, _, _, _, _, _, _, _, _, _, _, bK, hKR⟩, ⟨_, _, _, _, _, _, _, _, bSS, hRS⟩, h_x, ⟨_, h_x_co⟩, ⟨_, h_x_ot⟩, bRR, h_o, hhs⟩ w hl

set_option maxHeartbeats 4000000 in
set_option maxRecDepth 100000 in
theorem law_set {p : Program} {l : Launch} {e : Env} {s : State} {mt : MethodId} {below : List Frame} {meth : Method} {c : Code} {H : Heap} {locs : List Loc} {cells slots : Nat} {Q : State → Prop} {D : va_G} {A : Nat → Prop} {L : List Nat} {F : Nat → va_E} {cI cP cS cL : ClassId} {sa : Nat → Nat} {b len : Nat} {xs : Nat → Int32} {ls : Array Slot} {i : Int32} {Lst : List Nat} {x x_no x_no_pa x_no_cr x_no_cr_e x_ke x_ke_pa x_ke_cr x_ke_cr_e x_mi x_mi_pa x_mi_cr x_mi_cr_e x_sh x_co x_ot m m_ss m_im m_re m_sa m_ke m_so m_si m_el m_kd m_kt m_nu m_ca m_ha m_co o : Nat} {pr qk qm sh rw el sp : Nat → Nat} (hT : TG Lst x x_no x_no_pa x_no_cr x_no_cr_e x_ke x_ke_pa x_ke_cr x_ke_cr_e x_mi x_mi_pa x_mi_cr x_mi_cr_e x_sh x_co x_ot m m_ss m_im m_re m_sa m_ke m_so m_si m_el m_kd m_kt m_nu m_ca m_ha m_co o pr qk qm sh rw el sp) (hC : LC p l s mt c D cI cP cS cL A sa b len xs) (hI : ∀ k : Int32, 1 ≤ k.toInt → k.toInt ≤ 5 → vp_in (i + k) len) (hroom : cells + 1 ≤ 600128 ∧ slots + 7 ≤ 7301098) (hV : IV cI cP cS cL x x_no x_no_pa x_no_cr x_no_cr_e x_ke x_ke_pa x_ke_cr x_ke_cr_e x_mi x_mi_pa x_mi_cr x_mi_cr_e x_sh x_co x_ot m m_ss m_im m_re m_sa m_ke m_so m_si m_el m_kd m_kt m_nu m_ca m_ha m_co o pr qk qm sh rw el sp L F) (w : ww D A s.heap L F H locs) (hl : lv_has ls 8 (LV b x m o i)) (kk : ∀ (L1 : List Nat) (F1 : Nat → va_E) (H1 : Heap) (locs1 : List Loc) (ls1 : Array Slot), IV cI cP cS cL x x_no x_no_pa x_no_cr x_no_cr_e x_ke x_ke_pa x_ke_cr x_ke_cr_e x_mi x_mi_pa x_mi_cr x_mi_cr_e x_sh x_co x_ot m m_ss m_im m_re m_sa m_ke m_so m_si m_el m_kd m_kt m_nu m_ca m_ha m_co o pr qk qm sh rw el sp L1 F1 → ww D A s.heap L1 F1 H1 locs1 → lv_has ls1 8 (LV b x m o i) → W p l e room_1 s mt #[Value.ref b] below meth c H1 locs1 (cells + 1) (slots + 7) Q (F0 mt 1361 ls1 [])) : W p l e room_1 s mt #[Value.ref b] below meth c H locs cells slots Q (F0 mt 254 ls []) := by
  have hC0 := hC
  obtain ⟨hx, hb, hml, hts, hown, hK, hX, hA, hXs, hbl, hbA, hst⟩ := hC
  obtain ⟨m_hi, m_th, m_po, m_ba, m_en, m_tl, m_hs, m_ss_f, m_im_f, m_re_f, m_sa_f, m_ke_f, m_so_f, m_si_f, m_el_f, m_kd_f, m_kt_f, m_nu_f, m_ca_f, m_ha_f, m_co_f, fo, ⟨x_no_ls, x_no_cr_so, x_no_cr_sz, x_no_cr_e_f, pr_nu, pr_ki, pr_st, pr_sl, bN, hRG⟩, ⟨x_mi_up, x_mi_down, x_mi_high, x_mi_prize, x_mi_z, x_mi_rounds, x_mi_people, x_mi_ls, x_mi_cr_so, x_mi_cr_sz, x_mi_cr_e_f, qm_nu, qm_ki, qm_st, qm_sl, bM⟩, ⟨x_ke_up, x_ke_down, x_ke_high, x_ke_prize, x_ke_z, x_ke_rounds, x_ke_people, x_ke_ls, x_ke_cr_so, x_ke_cr_sz, x_ke_cr_e_f, qk_nu, qk_ki, qk_st, qk_sl, bK, hKR⟩, ⟨sh_ho, rw_so, rw_sz, el_f, sp_nu, sp_ki, sp_st, sp_sl, bSS, hRS⟩, h_x, ⟨x_co_f, h_x_co⟩, ⟨x_ot_f, h_x_ot⟩, bRR, h_o, hhs⟩ := hV
  have hB := hRG.1
  have h5 := hB.2.2.2.2.1
  have hd20 := hB.2.1
  have hd1 := dn_ne hB
  have hi6 := hi_rng hB
  have hr5 := hB.2.2.2.2.2.2.1
  have hsts : ∀ i, i < 12 → (pr_st i).toInt ≤ 1000 := fun i hi => Int.le_trans (hRG.2.1.2 i hi) (by decide)
  have hzc := hRG.2.2.1
  have hzs : ∀ i, i < 8 → (rw_sz i).toInt ≤ 100 := fun i hi => (hRS i hi).2.2.2.2.1.2
  have hsi : ∀ i, i < 8 → (m_si_f i).toInt ≤ 100 := fun i hi => by rw [(hRS i hi).2.2.2.1]; exact (hRS i hi).2.2.2.2.1.2
  have hsi0 : ∀ i, i < 8 → 0 ≤ (m_si_f i).toInt := fun i hi => by rw [(hRS i hi).2.2.2.1]; exact (hRS i hi).2.2.2.2.1.1
  refine lv_aload_n hx hb dL_law_254 rfl (lv_at hl 1 rfl) ?_
  refine l_arg (x := x) (m := m) (o := o) (v := 1) hC0 w hl dL_law_255 dL_law_256 dL_law_258 dL_law_259 dL_law_260 (by decide) (hI 1 (by decide) (by decide)) ?_
  refine l_arg (x := x) (m := m) (o := o) (v := 2) hC0 w hl dL_law_261 dL_law_262 dL_law_264 dL_law_265 dL_law_266 (by decide) (hI 2 (by decide) (by decide)) ?_
  obtain ⟨h_x_no, h_x_no_pa, h_x_no_cr, h_x_no_cr_e, h_pr⟩ := id bN
  refine w_finj (w_runV (rm := ({ frames := 2, cells := 0, slots := 0, locals := 41 } : Room)) (As := [.int (xs (i + 1).toNatClampNeg), .int (xs (i + 2).toNatClampNeg)]) (rest := []) (n := 2) hx hb hml hts hown hK w (c_X5_set l D cI cP cS cL L _ x (xs (i + 1).toNatClampNeg) (xs (i + 2).toNatClampNeg) x_no x_ke x_mi m_hi x_sh x_co x_ot (m_ss_f 0) (m_ss_f 1) (m_ss_f 2) (m_ss_f 3) (m_ss_f 4) (m_ss_f 6) (m_ss_f 5) x_no_pa x_no_cr x_no_ls h_x h_x_no) gL_law_X5_set rfl rfl rfl (by decide +kernel) ⟨(Nat.le_of_ble_eq_true rfl), (Nat.le_of_ble_eq_true rfl)⟩ h_x rfl rfl hl.1 rfl (Nat.le_of_ble_eq_true rfl) dL_law_267 ⟨by show cells + 0 ≤ 600128; omega, by show slots + 0 ≤ 7301098; omega⟩) w hA (fun r5 F5 H locs hp w => ?_)
  obtain ⟨y5, ey5, er5, e5_x_no, hk5⟩ := hp
  have hg5 := gr_wk (L := L) hk5
  have bK := gK hT (fun k a h h1 h2 => fr_X5_set hT h (by omega)) hg5 bK
  have bM := gM hT (fun k a h h1 h2 => fr_X5_set hT h (by omega)) hg5 bM
  have bSS := gS hT (fun k a h h1 h2 => fr_X5_set hT h (by omega)) hg5 bSS
  have h_x := gx hT (fun k a h h1 h2 => fr_X5_set hT h (by omega)) hg5 h_x
  have h_x_co := gco hT (fun k a h h1 h2 => fr_X5_set hT h (by omega)) hg5 h_x_co
  have h_x_ot := got hT (fun k a h h1 h2 => fr_X5_set hT h (by omega)) hg5 h_x_ot
  have bRR := gR hT (fun k a h h1 h2 => fr_X5_set hT h (by omega)) hg5 bRR
  have h_o := go hT (fun k a h h1 h2 => fr_X5_set hT h (by omega)) hg5 h_o
  have bN : bG cI cP L F5 x_no x_no_pa x_no_cr x_no_cr_e pr (y5.2.1) (y5.2.2.1) (y5.2.2.2.1) (y5.2.2.2.2.1) (y5.2.2.2.2.2) (m_ss_f 6) (m_ss_f 5) (x_no_ls) (x_no_cr_so) (x_no_cr_sz) (x_no_cr_e_f) (pr_nu) (pr_ki) (pr_st) (pr_sl) := ⟨⟨(hg5 _ h_x_no.1).1, e5_x_no⟩, h_x_no_pa.grow hg5 (fr_X5_set hT (hT.2.1.2.2.1) (by decide)), h_x_no_cr.grow hg5 (fr_X5_set hT (hT.2.1.2.2.2.1) (by decide)), h_x_no_cr_e.grow hg5 (fr_X5_set hT (hT.2.1.2.2.2.2.1) (by decide)), (fun i hi => (h_pr i hi).grow hg5 (fr_X5_set hT (hT.2.2.1 i hi) (by omega)))⟩
  refine lv_aload_n hx hb dL_law_270 rfl (lv_at hl 2 rfl) ?_
  refine l_arg (x := x) (m := m) (o := o) (v := 1) hC0 w hl dL_law_271 dL_law_272 dL_law_274 dL_law_275 dL_law_276 (by decide) (hI 1 (by decide) (by decide)) ?_
  refine l_arg (x := x) (m := m) (o := o) (v := 2) hC0 w hl dL_law_277 dL_law_278 dL_law_280 dL_law_281 dL_law_282 (by decide) (hI 2 (by decide) (by decide)) ?_
  obtain ⟨h_m, h_m_ss, h_m_im, h_m_re, h_m_sa, h_m_ke, h_m_so, h_m_si, h_m_el, h_m_kd, h_m_kt, h_m_nu, h_m_ca, h_m_ha, h_m_co⟩ := id bRR
  refine w_finj (w_runV (rm := ({ frames := 2, cells := 0, slots := 0, locals := 46 } : Room)) (As := [.int (xs (i + 1).toNatClampNeg), .int (xs (i + 2).toNatClampNeg)]) (rest := [.int r5]) (n := 2) hx hb hml hts hown hK w (c_X6_set l D cI cP cS cL L _ m (xs (i + 1).toNatClampNeg) (xs (i + 2).toNatClampNeg) m_ss m_im m_re m_sa m_ke m_so m_si m_el m_kd m_kt m_hi (m_th) m_po m_ba m_en m_tl m_nu m_ca m_ha m_hs m_co m_ss_f h_m h_m_ss) gL_law_X6_set rfl rfl rfl (by decide +kernel) ⟨(Nat.le_of_ble_eq_true rfl), (Nat.le_of_ble_eq_true rfl)⟩ h_m rfl rfl hl.1 rfl (Nat.le_of_ble_eq_true rfl) dL_law_283 ⟨by show cells + 0 ≤ 600128; omega, by show slots + 0 ≤ 7301098; omega⟩) w hA (fun r6 F6 H locs hp w => ?_)
  obtain ⟨y6, ey6, er6, e6_m_ss, hk6⟩ := hp
  have hg6 := gr_wk (L := L) hk6
  have bN := gN hT (fun k a h h1 h2 => fr_X6_set hT h (by omega)) hg6 bN
  have bK := gK hT (fun k a h h1 h2 => fr_X6_set hT h (by omega)) hg6 bK
  have bM := gM hT (fun k a h h1 h2 => fr_X6_set hT h (by omega)) hg6 bM
  have bSS := gS hT (fun k a h h1 h2 => fr_X6_set hT h (by omega)) hg6 bSS
  have h_x := gx hT (fun k a h h1 h2 => fr_X6_set hT h (by omega)) hg6 h_x
  have h_x_co := gco hT (fun k a h h1 h2 => fr_X6_set hT h (by omega)) hg6 h_x_co
  have h_x_ot := got hT (fun k a h h1 h2 => fr_X6_set hT h (by omega)) hg6 h_x_ot
  have h_o := go hT (fun k a h h1 h2 => fr_X6_set hT h (by omega)) hg6 h_o
  have bRR : bR cI L F6 m m_ss m_im m_re m_sa m_ke m_so m_si m_el m_kd m_kt m_nu m_ca m_ha m_co (m_hi) (m_th) (m_po) (m_ba) (m_en) (m_tl) (m_hs) (y6.2) (m_im_f) (m_re_f) (m_sa_f) (m_ke_f) (m_so_f) (m_si_f) (m_el_f) (m_kd_f) (m_kt_f) (m_nu_f) (m_ca_f) (m_ha_f) (m_co_f) := ⟨h_m.grow hg6 (fr_X6_set hT (hT.2.1.2.2.2.2.2.2.2.2.2.2.2.2.2.2.2.2.1) (by decide)), ⟨(hg6 _ h_m_ss.1).1, e6_m_ss⟩, h_m_im.grow hg6 (fr_X6_set hT (hT.2.1.2.2.2.2.2.2.2.2.2.2.2.2.2.2.2.2.2.2.1) (by decide)), h_m_re.grow hg6 (fr_X6_set hT (hT.2.1.2.2.2.2.2.2.2.2.2.2.2.2.2.2.2.2.2.2.2.1) (by decide)), h_m_sa.grow hg6 (fr_X6_set hT (hT.2.1.2.2.2.2.2.2.2.2.2.2.2.2.2.2.2.2.2.2.2.2.1) (by decide)), h_m_ke.grow hg6 (fr_X6_set hT (hT.2.1.2.2.2.2.2.2.2.2.2.2.2.2.2.2.2.2.2.2.2.2.2.1) (by decide)), h_m_so.grow hg6 (fr_X6_set hT (hT.2.1.2.2.2.2.2.2.2.2.2.2.2.2.2.2.2.2.2.2.2.2.2.2.1) (by decide)), h_m_si.grow hg6 (fr_X6_set hT (hT.2.1.2.2.2.2.2.2.2.2.2.2.2.2.2.2.2.2.2.2.2.2.2.2.2.1) (by decide)), h_m_el.grow hg6 (fr_X6_set hT (hT.2.1.2.2.2.2.2.2.2.2.2.2.2.2.2.2.2.2.2.2.2.2.2.2.2.2.1) (by decide)), h_m_kd.grow hg6 (fr_X6_set hT (hT.2.1.2.2.2.2.2.2.2.2.2.2.2.2.2.2.2.2.2.2.2.2.2.2.2.2.2.1) (by decide)), h_m_kt.grow hg6 (fr_X6_set hT (hT.2.1.2.2.2.2.2.2.2.2.2.2.2.2.2.2.2.2.2.2.2.2.2.2.2.2.2.2.1) (by decide)), h_m_nu.grow hg6 (fr_X6_set hT (hT.2.1.2.2.2.2.2.2.2.2.2.2.2.2.2.2.2.2.2.2.2.2.2.2.2.2.2.2.2.1) (by decide)), h_m_ca.grow hg6 (fr_X6_set hT (hT.2.1.2.2.2.2.2.2.2.2.2.2.2.2.2.2.2.2.2.2.2.2.2.2.2.2.2.2.2.2.1) (by decide)), h_m_ha.grow hg6 (fr_X6_set hT (hT.2.1.2.2.2.2.2.2.2.2.2.2.2.2.2.2.2.2.2.2.2.2.2.2.2.2.2.2.2.2.2.1) (by decide)), h_m_co.grow hg6 (fr_X6_set hT (hT.2.1.2.2.2.2.2.2.2.2.2.2.2.2.2.2.2.2.2.2.2.2.2.2.2.2.2.2.2.2.2.2.1) (by decide))⟩
  have E := set_eq (what := (xs (i + 1).toNatClampNeg)) (n := (xs (i + 2).toNatClampNeg)) hRG
  rw [← ey5] at E
  rw [← ey6] at E
  obtain ⟨E1, E5, E6, hRG2⟩ := E
  have bN : bG cI cP L F6 x_no x_no_pa x_no_cr x_no_cr_e pr (y6.2 0) (y6.2 1) (y6.2 2) (y6.2 3) (y6.2 4) (y6.2 6) (y6.2 5) (x_no_ls) (x_no_cr_so) (x_no_cr_sz) (x_no_cr_e_f) (pr_nu) (pr_ki) (pr_st) (pr_sl) := bN.to (congrArg (fun z => z.2.1) E1) (congrArg (fun z => z.2.2.1) E1) (congrArg (fun z => z.2.2.2.1) E1) (congrArg (fun z => z.2.2.2.2.1) E1) (congrArg (fun z => z.2.2.2.2.2) E1) E6.symm E5.symm
  refine lv_icmp_eq (tgt := 1361) hx hb dL_law_286 (by decide) (fun _ => ?_) (fun c9 => absurd (er5.trans ((congrArg Prod.fst E1).trans er6.symm)) c9)
  refine W.widen (k := cells + 1) (n := slots + 7) (by omega) (by omega) ?_
  exact kk L F6 H locs ls ⟨m_hi, m_th, m_po, m_ba, m_en, m_tl, m_hs, y6.2, m_im_f, m_re_f, m_sa_f, m_ke_f, m_so_f, m_si_f, m_el_f, m_kd_f, m_kt_f, m_nu_f, m_ca_f, m_ha_f, m_co_f, fo, ⟨_, _, _, _, _, _, _, _, bN, hRG2⟩, ⟨_, _, _, _, _, _, _, _, _, _, _, _, _, _, _, bM⟩, ⟨_, _, _, _, _, _, _, _, _, _, _, _, _, _, _, bK, hKR⟩, ⟨_, _, _, _, _, _, _, _, bSS, hRS⟩, h_x, ⟨_, h_x_co⟩, ⟨_, h_x_ot⟩, bRR, h_o, hhs⟩ w hl

set_option maxHeartbeats 4000000 in
set_option maxRecDepth 100000 in
theorem law_steps {p : Program} {l : Launch} {e : Env} {s : State} {mt : MethodId} {below : List Frame} {meth : Method} {c : Code} {H : Heap} {locs : List Loc} {cells slots : Nat} {Q : State → Prop} {D : va_G} {A : Nat → Prop} {L : List Nat} {F : Nat → va_E} {cI cP cS cL : ClassId} {sa : Nat → Nat} {b len : Nat} {xs : Nat → Int32} {ls : Array Slot} {i : Int32} {Lst : List Nat} {x x_no x_no_pa x_no_cr x_no_cr_e x_ke x_ke_pa x_ke_cr x_ke_cr_e x_mi x_mi_pa x_mi_cr x_mi_cr_e x_sh x_co x_ot m m_ss m_im m_re m_sa m_ke m_so m_si m_el m_kd m_kt m_nu m_ca m_ha m_co o : Nat} {pr qk qm sh rw el sp : Nat → Nat} (hT : TG Lst x x_no x_no_pa x_no_cr x_no_cr_e x_ke x_ke_pa x_ke_cr x_ke_cr_e x_mi x_mi_pa x_mi_cr x_mi_cr_e x_sh x_co x_ot m m_ss m_im m_re m_sa m_ke m_so m_si m_el m_kd m_kt m_nu m_ca m_ha m_co o pr qk qm sh rw el sp) (hC : LC p l s mt c D cI cP cS cL A sa b len xs) (hI : ∀ k : Int32, 1 ≤ k.toInt → k.toInt ≤ 5 → vp_in (i + k) len) (hroom : cells + 1 ≤ 600128 ∧ slots + 7 ≤ 7301098) (hV : IV cI cP cS cL x x_no x_no_pa x_no_cr x_no_cr_e x_ke x_ke_pa x_ke_cr x_ke_cr_e x_mi x_mi_pa x_mi_cr x_mi_cr_e x_sh x_co x_ot m m_ss m_im m_re m_sa m_ke m_so m_si m_el m_kd m_kt m_nu m_ca m_ha m_co o pr qk qm sh rw el sp L F) (w : ww D A s.heap L F H locs) (hl : lv_has ls 8 (LV b x m o i)) (kk : ∀ (L1 : List Nat) (F1 : Nat → va_E) (H1 : Heap) (locs1 : List Loc) (ls1 : Array Slot), IV cI cP cS cL x x_no x_no_pa x_no_cr x_no_cr_e x_ke x_ke_pa x_ke_cr x_ke_cr_e x_mi x_mi_pa x_mi_cr x_mi_cr_e x_sh x_co x_ot m m_ss m_im m_re m_sa m_ke m_so m_si m_el m_kd m_kt m_nu m_ca m_ha m_co o pr qk qm sh rw el sp L1 F1 → ww D A s.heap L1 F1 H1 locs1 → lv_has ls1 8 (LV b x m o i) → W p l e room_1 s mt #[Value.ref b] below meth c H1 locs1 (cells + 1) (slots + 7) Q (F0 mt 1361 ls1 [])) : W p l e room_1 s mt #[Value.ref b] below meth c H locs cells slots Q (F0 mt 291 ls []) := by
  have hC0 := hC
  obtain ⟨hx, hb, hml, hts, hown, hK, hX, hA, hXs, hbl, hbA, hst⟩ := hC
  obtain ⟨m_hi, m_th, m_po, m_ba, m_en, m_tl, m_hs, m_ss_f, m_im_f, m_re_f, m_sa_f, m_ke_f, m_so_f, m_si_f, m_el_f, m_kd_f, m_kt_f, m_nu_f, m_ca_f, m_ha_f, m_co_f, fo, ⟨x_no_ls, x_no_cr_so, x_no_cr_sz, x_no_cr_e_f, pr_nu, pr_ki, pr_st, pr_sl, bN, hRG⟩, ⟨x_mi_up, x_mi_down, x_mi_high, x_mi_prize, x_mi_z, x_mi_rounds, x_mi_people, x_mi_ls, x_mi_cr_so, x_mi_cr_sz, x_mi_cr_e_f, qm_nu, qm_ki, qm_st, qm_sl, bM⟩, ⟨x_ke_up, x_ke_down, x_ke_high, x_ke_prize, x_ke_z, x_ke_rounds, x_ke_people, x_ke_ls, x_ke_cr_so, x_ke_cr_sz, x_ke_cr_e_f, qk_nu, qk_ki, qk_st, qk_sl, bK, hKR⟩, ⟨sh_ho, rw_so, rw_sz, el_f, sp_nu, sp_ki, sp_st, sp_sl, bSS, hRS⟩, h_x, ⟨x_co_f, h_x_co⟩, ⟨x_ot_f, h_x_ot⟩, bRR, h_o, hhs⟩ := hV
  have hB := hRG.1
  have h5 := hB.2.2.2.2.1
  have hd20 := hB.2.1
  have hd1 := dn_ne hB
  have hi6 := hi_rng hB
  have hr5 := hB.2.2.2.2.2.2.1
  have hsts : ∀ i, i < 12 → (pr_st i).toInt ≤ 1000 := fun i hi => Int.le_trans (hRG.2.1.2 i hi) (by decide)
  have hzc := hRG.2.2.1
  have hzs : ∀ i, i < 8 → (rw_sz i).toInt ≤ 100 := fun i hi => (hRS i hi).2.2.2.2.1.2
  have hsi : ∀ i, i < 8 → (m_si_f i).toInt ≤ 100 := fun i hi => by rw [(hRS i hi).2.2.2.1]; exact (hRS i hi).2.2.2.2.1.2
  have hsi0 : ∀ i, i < 8 → 0 ≤ (m_si_f i).toInt := fun i hi => by rw [(hRS i hi).2.2.2.1]; exact (hRS i hi).2.2.2.2.1.1
  refine lv_aload_n hx hb dL_law_291 rfl (lv_at hl 1 rfl) ?_
  refine l_arg (x := x) (m := m) (o := o) (v := 1) hC0 w hl dL_law_292 dL_law_293 dL_law_295 dL_law_296 dL_law_297 (by decide) (hI 1 (by decide) (by decide)) ?_
  refine l_arg (x := x) (m := m) (o := o) (v := 2) hC0 w hl dL_law_298 dL_law_299 dL_law_301 dL_law_302 dL_law_303 (by decide) (hI 2 (by decide) (by decide)) ?_
  obtain ⟨h_x_no, h_x_no_pa, h_x_no_cr, h_x_no_cr_e, h_pr⟩ := id bN
  refine w_finj (w_runV (rm := ({ frames := 1, cells := 0, slots := 0, locals := 21 } : Room)) (As := [.int (xs (i + 1).toNatClampNeg), .int (xs (i + 2).toNatClampNeg)]) (rest := []) (n := 2) hx hb hml hts hown hK w (c_X5_steps l D cI cP cS cL L _ x (xs (i + 1).toNatClampNeg) (xs (i + 2).toNatClampNeg) x_no x_ke x_mi m_hi x_sh x_co x_ot (m_ss_f 0) (m_ss_f 1) (m_ss_f 2) (m_ss_f 3) (m_ss_f 4) (m_ss_f 6) (m_ss_f 5) x_no_pa x_no_cr x_no_ls pr pr_nu pr_ki pr_st pr_sl h_x h_x_no h_x_no_pa h_pr h5.2 (lne_11 hT)) gL_law_X5_steps rfl rfl rfl (by decide +kernel) ⟨(Nat.le_of_ble_eq_true rfl), (Nat.le_of_ble_eq_true rfl)⟩ h_x rfl rfl hl.1 rfl (Nat.le_of_ble_eq_true rfl) dL_law_304 ⟨by show cells + 0 ≤ 600128; omega, by show slots + 0 ≤ 7301098; omega⟩) w hA (fun r5 F5 H locs hp w => ?_)
  obtain ⟨y5, ey5, er5, e5_pr, hk5⟩ := hp
  have hg5 := gr_wk (L := L) hk5
  have bK := gK hT (fun k a h h1 h2 => fr_X5_steps hT h (by omega)) hg5 bK
  have bM := gM hT (fun k a h h1 h2 => fr_X5_steps hT h (by omega)) hg5 bM
  have bSS := gS hT (fun k a h h1 h2 => fr_X5_steps hT h (by omega)) hg5 bSS
  have h_x := gx hT (fun k a h h1 h2 => fr_X5_steps hT h (by omega)) hg5 h_x
  have h_x_co := gco hT (fun k a h h1 h2 => fr_X5_steps hT h (by omega)) hg5 h_x_co
  have h_x_ot := got hT (fun k a h h1 h2 => fr_X5_steps hT h (by omega)) hg5 h_x_ot
  have bRR := gR hT (fun k a h h1 h2 => fr_X5_steps hT h (by omega)) hg5 bRR
  have h_o := go hT (fun k a h h1 h2 => fr_X5_steps hT h (by omega)) hg5 h_o
  have bN : bG cI cP L F5 x_no x_no_pa x_no_cr x_no_cr_e pr (m_ss_f 0) (m_ss_f 1) (m_ss_f 2) (m_ss_f 3) (m_ss_f 4) (m_ss_f 6) (m_ss_f 5) (x_no_ls) (x_no_cr_so) (x_no_cr_sz) (x_no_cr_e_f) (pr_nu) (pr_ki) (y5.2) (pr_sl) := ⟨h_x_no.grow hg5 (fr_X5_steps hT (hT.2.1.2.1) (by decide)), h_x_no_pa.grow hg5 (fr_X5_steps hT (hT.2.1.2.2.1) (by decide)), h_x_no_cr.grow hg5 (fr_X5_steps hT (hT.2.1.2.2.2.1) (by decide)), h_x_no_cr_e.grow hg5 (fr_X5_steps hT (hT.2.1.2.2.2.2.1) (by decide)), (fun i hi => ⟨(hg5 _ (h_pr i hi).1).1, e5_pr i hi⟩)⟩
  refine lv_aload_n hx hb dL_law_307 rfl (lv_at hl 2 rfl) ?_
  refine l_arg (x := x) (m := m) (o := o) (v := 1) hC0 w hl dL_law_308 dL_law_309 dL_law_311 dL_law_312 dL_law_313 (by decide) (hI 1 (by decide) (by decide)) ?_
  refine l_arg (x := x) (m := m) (o := o) (v := 2) hC0 w hl dL_law_314 dL_law_315 dL_law_317 dL_law_318 dL_law_319 (by decide) (hI 2 (by decide) (by decide)) ?_
  obtain ⟨h_m, h_m_ss, h_m_im, h_m_re, h_m_sa, h_m_ke, h_m_so, h_m_si, h_m_el, h_m_kd, h_m_kt, h_m_nu, h_m_ca, h_m_ha, h_m_co⟩ := id bRR
  refine w_finj (w_runV (rm := ({ frames := 2, cells := 0, slots := 0, locals := 46 } : Room)) (As := [.int (xs (i + 1).toNatClampNeg), .int (xs (i + 2).toNatClampNeg)]) (rest := [.int r5]) (n := 2) hx hb hml hts hown hK w (c_X6_steps l D cI cP cS cL L _ m (xs (i + 1).toNatClampNeg) (xs (i + 2).toNatClampNeg) m_ss m_im m_re m_sa m_ke m_so m_si m_el m_kd m_kt m_hi (m_th) m_po m_ba m_en m_tl m_nu m_ca m_ha m_hs m_co m_ss_f h_m h_m_ss h5) gL_law_X6_steps rfl rfl rfl (by decide +kernel) ⟨(Nat.le_of_ble_eq_true rfl), (Nat.le_of_ble_eq_true rfl)⟩ h_m rfl rfl hl.1 rfl (Nat.le_of_ble_eq_true rfl) dL_law_320 ⟨by show cells + 0 ≤ 600128; omega, by show slots + 0 ≤ 7301098; omega⟩) w hA (fun r6 F6 H locs hp w => ?_)
  obtain ⟨y6, ey6, er6, e6_m_ss, hk6⟩ := hp
  have hg6 := gr_wk (L := L) hk6
  have bN := gN hT (fun k a h h1 h2 => fr_X6_steps hT h (by omega)) hg6 bN
  have bK := gK hT (fun k a h h1 h2 => fr_X6_steps hT h (by omega)) hg6 bK
  have bM := gM hT (fun k a h h1 h2 => fr_X6_steps hT h (by omega)) hg6 bM
  have bSS := gS hT (fun k a h h1 h2 => fr_X6_steps hT h (by omega)) hg6 bSS
  have h_x := gx hT (fun k a h h1 h2 => fr_X6_steps hT h (by omega)) hg6 h_x
  have h_x_co := gco hT (fun k a h h1 h2 => fr_X6_steps hT h (by omega)) hg6 h_x_co
  have h_x_ot := got hT (fun k a h h1 h2 => fr_X6_steps hT h (by omega)) hg6 h_x_ot
  have h_o := go hT (fun k a h h1 h2 => fr_X6_steps hT h (by omega)) hg6 h_o
  have bRR : bR cI L F6 m m_ss m_im m_re m_sa m_ke m_so m_si m_el m_kd m_kt m_nu m_ca m_ha m_co (m_hi) (m_th) (m_po) (m_ba) (m_en) (m_tl) (m_hs) (y6.2) (m_im_f) (m_re_f) (m_sa_f) (m_ke_f) (m_so_f) (m_si_f) (m_el_f) (m_kd_f) (m_kt_f) (m_nu_f) (m_ca_f) (m_ha_f) (m_co_f) := ⟨h_m.grow hg6 (fr_X6_steps hT (hT.2.1.2.2.2.2.2.2.2.2.2.2.2.2.2.2.2.2.1) (by decide)), ⟨(hg6 _ h_m_ss.1).1, e6_m_ss⟩, h_m_im.grow hg6 (fr_X6_steps hT (hT.2.1.2.2.2.2.2.2.2.2.2.2.2.2.2.2.2.2.2.2.1) (by decide)), h_m_re.grow hg6 (fr_X6_steps hT (hT.2.1.2.2.2.2.2.2.2.2.2.2.2.2.2.2.2.2.2.2.2.1) (by decide)), h_m_sa.grow hg6 (fr_X6_steps hT (hT.2.1.2.2.2.2.2.2.2.2.2.2.2.2.2.2.2.2.2.2.2.2.1) (by decide)), h_m_ke.grow hg6 (fr_X6_steps hT (hT.2.1.2.2.2.2.2.2.2.2.2.2.2.2.2.2.2.2.2.2.2.2.2.1) (by decide)), h_m_so.grow hg6 (fr_X6_steps hT (hT.2.1.2.2.2.2.2.2.2.2.2.2.2.2.2.2.2.2.2.2.2.2.2.2.1) (by decide)), h_m_si.grow hg6 (fr_X6_steps hT (hT.2.1.2.2.2.2.2.2.2.2.2.2.2.2.2.2.2.2.2.2.2.2.2.2.2.1) (by decide)), h_m_el.grow hg6 (fr_X6_steps hT (hT.2.1.2.2.2.2.2.2.2.2.2.2.2.2.2.2.2.2.2.2.2.2.2.2.2.2.1) (by decide)), h_m_kd.grow hg6 (fr_X6_steps hT (hT.2.1.2.2.2.2.2.2.2.2.2.2.2.2.2.2.2.2.2.2.2.2.2.2.2.2.2.1) (by decide)), h_m_kt.grow hg6 (fr_X6_steps hT (hT.2.1.2.2.2.2.2.2.2.2.2.2.2.2.2.2.2.2.2.2.2.2.2.2.2.2.2.2.1) (by decide)), h_m_nu.grow hg6 (fr_X6_steps hT (hT.2.1.2.2.2.2.2.2.2.2.2.2.2.2.2.2.2.2.2.2.2.2.2.2.2.2.2.2.2.1) (by decide)), h_m_ca.grow hg6 (fr_X6_steps hT (hT.2.1.2.2.2.2.2.2.2.2.2.2.2.2.2.2.2.2.2.2.2.2.2.2.2.2.2.2.2.2.1) (by decide)), h_m_ha.grow hg6 (fr_X6_steps hT (hT.2.1.2.2.2.2.2.2.2.2.2.2.2.2.2.2.2.2.2.2.2.2.2.2.2.2.2.2.2.2.2.1) (by decide)), h_m_co.grow hg6 (fr_X6_steps hT (hT.2.1.2.2.2.2.2.2.2.2.2.2.2.2.2.2.2.2.2.2.2.2.2.2.2.2.2.2.2.2.2.2.1) (by decide))⟩
  have E := steps_eq (p := (xs (i + 1).toNatClampNeg)) (n := (xs (i + 2).toNatClampNeg)) hRG
  rw [← ey5] at E
  rw [← ey6] at E
  obtain ⟨E1, Ej, hRG2⟩ := E
  have bN : bG cI cP L F6 x_no x_no_pa x_no_cr x_no_cr_e pr (y6.2 0) (y6.2 1) (y6.2 2) (y6.2 3) (y6.2 4) (y6.2 6) (y6.2 5) (x_no_ls) (x_no_cr_so) (x_no_cr_sz) (x_no_cr_e_f) (pr_nu) (pr_ki) (y5.2) (pr_sl) := bN.to (Ej 0 (by decide)).symm (Ej 1 (by decide)).symm (Ej 2 (by decide)).symm (Ej 3 (by decide)).symm (Ej 4 (by decide)).symm (Ej 6 (by decide)).symm (Ej 5 (by decide)).symm
  refine lv_icmp_eq (tgt := 1361) hx hb dL_law_323 (by decide) (fun _ => ?_) (fun c9 => absurd (er5.trans (E1.trans er6.symm)) c9)
  refine W.widen (k := cells + 1) (n := slots + 7) (by omega) (by omega) ?_
  exact kk L F6 H locs ls ⟨m_hi, m_th, m_po, m_ba, m_en, m_tl, m_hs, y6.2, m_im_f, m_re_f, m_sa_f, m_ke_f, m_so_f, m_si_f, m_el_f, m_kd_f, m_kt_f, m_nu_f, m_ca_f, m_ha_f, m_co_f, fo, ⟨_, _, _, _, _, _, _, _, bN, hRG2⟩, ⟨_, _, _, _, _, _, _, _, _, _, _, _, _, _, _, bM⟩, ⟨_, _, _, _, _, _, _, _, _, _, _, _, _, _, _, bK, hKR⟩, ⟨_, _, _, _, _, _, _, _, bSS, hRS⟩, h_x, ⟨_, h_x_co⟩, ⟨_, h_x_ot⟩, bRR, h_o, hhs⟩ w hl

set_option maxHeartbeats 4000000 in
set_option maxRecDepth 100000 in
theorem law_holds {p : Program} {l : Launch} {e : Env} {s : State} {mt : MethodId} {below : List Frame} {meth : Method} {c : Code} {H : Heap} {locs : List Loc} {cells slots : Nat} {Q : State → Prop} {D : va_G} {A : Nat → Prop} {L : List Nat} {F : Nat → va_E} {cI cP cS cL : ClassId} {sa : Nat → Nat} {b len : Nat} {xs : Nat → Int32} {ls : Array Slot} {i : Int32} {Lst : List Nat} {x x_no x_no_pa x_no_cr x_no_cr_e x_ke x_ke_pa x_ke_cr x_ke_cr_e x_mi x_mi_pa x_mi_cr x_mi_cr_e x_sh x_co x_ot m m_ss m_im m_re m_sa m_ke m_so m_si m_el m_kd m_kt m_nu m_ca m_ha m_co o : Nat} {pr qk qm sh rw el sp : Nat → Nat} (hT : TG Lst x x_no x_no_pa x_no_cr x_no_cr_e x_ke x_ke_pa x_ke_cr x_ke_cr_e x_mi x_mi_pa x_mi_cr x_mi_cr_e x_sh x_co x_ot m m_ss m_im m_re m_sa m_ke m_so m_si m_el m_kd m_kt m_nu m_ca m_ha m_co o pr qk qm sh rw el sp) (hC : LC p l s mt c D cI cP cS cL A sa b len xs) (hI : ∀ k : Int32, 1 ≤ k.toInt → k.toInt ≤ 5 → vp_in (i + k) len) (hroom : cells + 1 ≤ 600128 ∧ slots + 7 ≤ 7301098) (hV : IV cI cP cS cL x x_no x_no_pa x_no_cr x_no_cr_e x_ke x_ke_pa x_ke_cr x_ke_cr_e x_mi x_mi_pa x_mi_cr x_mi_cr_e x_sh x_co x_ot m m_ss m_im m_re m_sa m_ke m_so m_si m_el m_kd m_kt m_nu m_ca m_ha m_co o pr qk qm sh rw el sp L F) (w : ww D A s.heap L F H locs) (hl : lv_has ls 8 (LV b x m o i)) (kk : ∀ (L1 : List Nat) (F1 : Nat → va_E) (H1 : Heap) (locs1 : List Loc) (ls1 : Array Slot), IV cI cP cS cL x x_no x_no_pa x_no_cr x_no_cr_e x_ke x_ke_pa x_ke_cr x_ke_cr_e x_mi x_mi_pa x_mi_cr x_mi_cr_e x_sh x_co x_ot m m_ss m_im m_re m_sa m_ke m_so m_si m_el m_kd m_kt m_nu m_ca m_ha m_co o pr qk qm sh rw el sp L1 F1 → ww D A s.heap L1 F1 H1 locs1 → lv_has ls1 8 (LV b x m o i) → W p l e room_1 s mt #[Value.ref b] below meth c H1 locs1 (cells + 1) (slots + 7) Q (F0 mt 1361 ls1 [])) : W p l e room_1 s mt #[Value.ref b] below meth c H locs cells slots Q (F0 mt 328 ls []) := by
  have hC0 := hC
  obtain ⟨hx, hb, hml, hts, hown, hK, hX, hA, hXs, hbl, hbA, hst⟩ := hC
  obtain ⟨m_hi, m_th, m_po, m_ba, m_en, m_tl, m_hs, m_ss_f, m_im_f, m_re_f, m_sa_f, m_ke_f, m_so_f, m_si_f, m_el_f, m_kd_f, m_kt_f, m_nu_f, m_ca_f, m_ha_f, m_co_f, fo, ⟨x_no_ls, x_no_cr_so, x_no_cr_sz, x_no_cr_e_f, pr_nu, pr_ki, pr_st, pr_sl, bN, hRG⟩, ⟨x_mi_up, x_mi_down, x_mi_high, x_mi_prize, x_mi_z, x_mi_rounds, x_mi_people, x_mi_ls, x_mi_cr_so, x_mi_cr_sz, x_mi_cr_e_f, qm_nu, qm_ki, qm_st, qm_sl, bM⟩, ⟨x_ke_up, x_ke_down, x_ke_high, x_ke_prize, x_ke_z, x_ke_rounds, x_ke_people, x_ke_ls, x_ke_cr_so, x_ke_cr_sz, x_ke_cr_e_f, qk_nu, qk_ki, qk_st, qk_sl, bK, hKR⟩, ⟨sh_ho, rw_so, rw_sz, el_f, sp_nu, sp_ki, sp_st, sp_sl, bSS, hRS⟩, h_x, ⟨x_co_f, h_x_co⟩, ⟨x_ot_f, h_x_ot⟩, bRR, h_o, hhs⟩ := hV
  have hB := hRG.1
  have h5 := hB.2.2.2.2.1
  have hd20 := hB.2.1
  have hd1 := dn_ne hB
  have hi6 := hi_rng hB
  have hr5 := hB.2.2.2.2.2.2.1
  have hsts : ∀ i, i < 12 → (pr_st i).toInt ≤ 1000 := fun i hi => Int.le_trans (hRG.2.1.2 i hi) (by decide)
  have hzc := hRG.2.2.1
  have hzs : ∀ i, i < 8 → (rw_sz i).toInt ≤ 100 := fun i hi => (hRS i hi).2.2.2.2.1.2
  have hsi : ∀ i, i < 8 → (m_si_f i).toInt ≤ 100 := fun i hi => by rw [(hRS i hi).2.2.2.1]; exact (hRS i hi).2.2.2.2.1.2
  have hsi0 : ∀ i, i < 8 → 0 ≤ (m_si_f i).toInt := fun i hi => by rw [(hRS i hi).2.2.2.1]; exact (hRS i hi).2.2.2.2.1.1
  refine lv_aload_n hx hb dL_law_328 rfl (lv_at hl 1 rfl) ?_
  refine l_arg (x := x) (m := m) (o := o) (v := 1) hC0 w hl dL_law_329 dL_law_330 dL_law_332 dL_law_333 dL_law_334 (by decide) (hI 1 (by decide) (by decide)) ?_
  obtain ⟨h_x_no, h_x_no_pa, h_x_no_cr, h_x_no_cr_e, h_pr⟩ := id bN
  refine w_finj (w_runV (rm := ({ frames := 5, cells := 0, slots := 0, locals := 108 } : Room)) (As := [.int (xs (i + 1).toNatClampNeg)]) (rest := []) (n := 1) hx hb hml hts hown hK w (c_X5_holds l D cI cP cS cL L _ x (xs (i + 1).toNatClampNeg) x_no x_ke x_mi m_hi x_sh x_co x_ot (m_ss_f 0) (m_ss_f 1) (m_ss_f 2) (m_ss_f 3) (m_ss_f 4) (m_ss_f 6) (m_ss_f 5) x_no_pa x_no_cr x_no_ls pr pr_nu pr_ki pr_st pr_sl h_x h_x_no h_x_no_pa h_pr h5.2 hsts) gL_law_X5_holds rfl rfl rfl (by decide +kernel) ⟨(Nat.le_of_ble_eq_true rfl), (Nat.le_of_ble_eq_true rfl)⟩ h_x rfl rfl hl.1 rfl (Nat.le_of_ble_eq_true rfl) dL_law_335 ⟨by show cells + 0 ≤ 600128; omega, by show slots + 0 ≤ 7301098; omega⟩) w hA (fun r5 F5 H locs hp w => ?_)
  obtain ⟨y5, ey5, er5, e5_x_no, hk5⟩ := hp
  have hg5 := gr_wk (L := L) hk5
  have bK := gK hT (fun k a h h1 h2 => fr_X5_holds hT h (by omega)) hg5 bK
  have bM := gM hT (fun k a h h1 h2 => fr_X5_holds hT h (by omega)) hg5 bM
  have bSS := gS hT (fun k a h h1 h2 => fr_X5_holds hT h (by omega)) hg5 bSS
  have h_x := gx hT (fun k a h h1 h2 => fr_X5_holds hT h (by omega)) hg5 h_x
  have h_x_co := gco hT (fun k a h h1 h2 => fr_X5_holds hT h (by omega)) hg5 h_x_co
  have h_x_ot := got hT (fun k a h h1 h2 => fr_X5_holds hT h (by omega)) hg5 h_x_ot
  have bRR := gR hT (fun k a h h1 h2 => fr_X5_holds hT h (by omega)) hg5 bRR
  have h_o := go hT (fun k a h h1 h2 => fr_X5_holds hT h (by omega)) hg5 h_o
  have bN : bG cI cP L F5 x_no x_no_pa x_no_cr x_no_cr_e pr (m_ss_f 0) (m_ss_f 1) (m_ss_f 2) (m_ss_f 3) (y5.2) (m_ss_f 6) (m_ss_f 5) (x_no_ls) (x_no_cr_so) (x_no_cr_sz) (x_no_cr_e_f) (pr_nu) (pr_ki) (pr_st) (pr_sl) := ⟨⟨(hg5 _ h_x_no.1).1, e5_x_no⟩, h_x_no_pa.grow hg5 (fr_X5_holds hT (hT.2.1.2.2.1) (by decide)), h_x_no_cr.grow hg5 (fr_X5_holds hT (hT.2.1.2.2.2.1) (by decide)), h_x_no_cr_e.grow hg5 (fr_X5_holds hT (hT.2.1.2.2.2.2.1) (by decide)), (fun i hi => (h_pr i hi).grow hg5 (fr_X5_holds hT (hT.2.2.1 i hi) (by omega)))⟩
  refine lv_aload_n hx hb dL_law_338 rfl (lv_at hl 2 rfl) ?_
  refine l_arg (x := x) (m := m) (o := o) (v := 1) hC0 w hl dL_law_339 dL_law_340 dL_law_342 dL_law_343 dL_law_344 (by decide) (hI 1 (by decide) (by decide)) ?_
  obtain ⟨h_m, h_m_ss, h_m_im, h_m_re, h_m_sa, h_m_ke, h_m_so, h_m_si, h_m_el, h_m_kd, h_m_kt, h_m_nu, h_m_ca, h_m_ha, h_m_co⟩ := id bRR
  refine w_finI (w_runV (rm := ({ frames := 5, cells := 0, slots := 0, locals := 118 } : Room)) (As := [.int (xs (i + 1).toNatClampNeg)]) (rest := [.int r5]) (n := 1) hx hb hml hts hown hK w (c_X6_holds l D cI cP cS cL L _ m (xs (i + 1).toNatClampNeg) m_ss m_im m_re m_sa m_ke m_so m_si m_el m_kd m_kt m_hi (m_th) m_po m_ba m_en m_tl m_nu m_ca m_ha m_hs m_co m_ss_f h_m h_m_ss h5 hd1 hr5 hB.hst) gL_law_X6_holds rfl rfl rfl (by decide +kernel) ⟨(Nat.le_of_ble_eq_true rfl), (Nat.le_of_ble_eq_true rfl)⟩ h_m rfl rfl hl.1 rfl (Nat.le_of_ble_eq_true rfl) dL_law_345 ⟨by show cells + 0 ≤ 600128; omega, by show slots + 0 ≤ 7301098; omega⟩) w hA (fun H locs w => ?_)
  have E := holds_eq (p := (xs (i + 1).toNatClampNeg)) hRG
  rw [← ey5] at E
  have bN : bG cI cP L F5 x_no x_no_pa x_no_cr x_no_cr_e pr (m_ss_f 0) (m_ss_f 1) (m_ss_f 2) (m_ss_f 3) (m_ss_f 4) (m_ss_f 6) (m_ss_f 5) (x_no_ls) (x_no_cr_so) (x_no_cr_sz) (x_no_cr_e_f) (pr_nu) (pr_ki) (pr_st) (pr_sl) := bN.to rfl rfl rfl rfl (congrArg Prod.snd E) rfl rfl
  refine lv_icmp_eq (tgt := 1361) hx hb dL_law_348 (by decide) (fun _ => ?_) (fun c9 => absurd (er5.trans (congrArg Prod.fst E)) c9)
  refine W.widen (k := cells + 1) (n := slots + 7) (by omega) (by omega) ?_
  exact kk L F5 H locs ls ⟨m_hi, m_th, m_po, m_ba, m_en, m_tl, m_hs, m_ss_f, m_im_f, m_re_f, m_sa_f, m_ke_f, m_so_f, m_si_f, m_el_f, m_kd_f, m_kt_f, m_nu_f, m_ca_f, m_ha_f, m_co_f, fo, ⟨_, _, _, _, _, _, _, _, bN, hRG⟩, ⟨_, _, _, _, _, _, _, _, _, _, _, _, _, _, _, bM⟩, ⟨_, _, _, _, _, _, _, _, _, _, _, _, _, _, _, bK, hKR⟩, ⟨_, _, _, _, _, _, _, _, bSS, hRS⟩, h_x, ⟨_, h_x_co⟩, ⟨_, h_x_ot⟩, bRR, h_o, hhs⟩ w hl

set_option maxHeartbeats 4000000 in
set_option maxRecDepth 100000 in
theorem law_round {p : Program} {l : Launch} {e : Env} {s : State} {mt : MethodId} {below : List Frame} {meth : Method} {c : Code} {H : Heap} {locs : List Loc} {cells slots : Nat} {Q : State → Prop} {D : va_G} {A : Nat → Prop} {L : List Nat} {F : Nat → va_E} {cI cP cS cL : ClassId} {sa : Nat → Nat} {b len : Nat} {xs : Nat → Int32} {ls : Array Slot} {i : Int32} {Lst : List Nat} {x x_no x_no_pa x_no_cr x_no_cr_e x_ke x_ke_pa x_ke_cr x_ke_cr_e x_mi x_mi_pa x_mi_cr x_mi_cr_e x_sh x_co x_ot m m_ss m_im m_re m_sa m_ke m_so m_si m_el m_kd m_kt m_nu m_ca m_ha m_co o : Nat} {pr qk qm sh rw el sp : Nat → Nat} (hT : TG Lst x x_no x_no_pa x_no_cr x_no_cr_e x_ke x_ke_pa x_ke_cr x_ke_cr_e x_mi x_mi_pa x_mi_cr x_mi_cr_e x_sh x_co x_ot m m_ss m_im m_re m_sa m_ke m_so m_si m_el m_kd m_kt m_nu m_ca m_ha m_co o pr qk qm sh rw el sp) (hC : LC p l s mt c D cI cP cS cL A sa b len xs) (hI : ∀ k : Int32, 1 ≤ k.toInt → k.toInt ≤ 5 → vp_in (i + k) len) (hroom : cells + 1 ≤ 600128 ∧ slots + 7 ≤ 7301098) (hV : IV cI cP cS cL x x_no x_no_pa x_no_cr x_no_cr_e x_ke x_ke_pa x_ke_cr x_ke_cr_e x_mi x_mi_pa x_mi_cr x_mi_cr_e x_sh x_co x_ot m m_ss m_im m_re m_sa m_ke m_so m_si m_el m_kd m_kt m_nu m_ca m_ha m_co o pr qk qm sh rw el sp L F) (w : ww D A s.heap L F H locs) (hl : lv_has ls 8 (LV b x m o i)) (kk : ∀ (L1 : List Nat) (F1 : Nat → va_E) (H1 : Heap) (locs1 : List Loc) (ls1 : Array Slot), IV cI cP cS cL x x_no x_no_pa x_no_cr x_no_cr_e x_ke x_ke_pa x_ke_cr x_ke_cr_e x_mi x_mi_pa x_mi_cr x_mi_cr_e x_sh x_co x_ot m m_ss m_im m_re m_sa m_ke m_so m_si m_el m_kd m_kt m_nu m_ca m_ha m_co o pr qk qm sh rw el sp L1 F1 → ww D A s.heap L1 F1 H1 locs1 → lv_has ls1 8 (LV b x m o i) → W p l e room_1 s mt #[Value.ref b] below meth c H1 locs1 (cells + 1) (slots + 7) Q (F0 mt 1361 ls1 [])) : W p l e room_1 s mt #[Value.ref b] below meth c H locs cells slots Q (F0 mt 353 ls []) := by
  have hC0 := hC
  obtain ⟨hx, hb, hml, hts, hown, hK, hX, hA, hXs, hbl, hbA, hst⟩ := hC
  obtain ⟨m_hi, m_th, m_po, m_ba, m_en, m_tl, m_hs, m_ss_f, m_im_f, m_re_f, m_sa_f, m_ke_f, m_so_f, m_si_f, m_el_f, m_kd_f, m_kt_f, m_nu_f, m_ca_f, m_ha_f, m_co_f, fo, ⟨x_no_ls, x_no_cr_so, x_no_cr_sz, x_no_cr_e_f, pr_nu, pr_ki, pr_st, pr_sl, bN, hRG⟩, ⟨x_mi_up, x_mi_down, x_mi_high, x_mi_prize, x_mi_z, x_mi_rounds, x_mi_people, x_mi_ls, x_mi_cr_so, x_mi_cr_sz, x_mi_cr_e_f, qm_nu, qm_ki, qm_st, qm_sl, bM⟩, ⟨x_ke_up, x_ke_down, x_ke_high, x_ke_prize, x_ke_z, x_ke_rounds, x_ke_people, x_ke_ls, x_ke_cr_so, x_ke_cr_sz, x_ke_cr_e_f, qk_nu, qk_ki, qk_st, qk_sl, bK, hKR⟩, ⟨sh_ho, rw_so, rw_sz, el_f, sp_nu, sp_ki, sp_st, sp_sl, bSS, hRS⟩, h_x, ⟨x_co_f, h_x_co⟩, ⟨x_ot_f, h_x_ot⟩, bRR, h_o, hhs⟩ := hV
  have hB := hRG.1
  have h5 := hB.2.2.2.2.1
  have hd20 := hB.2.1
  have hd1 := dn_ne hB
  have hi6 := hi_rng hB
  have hr5 := hB.2.2.2.2.2.2.1
  have hsts : ∀ i, i < 12 → (pr_st i).toInt ≤ 1000 := fun i hi => Int.le_trans (hRG.2.1.2 i hi) (by decide)
  have hzc := hRG.2.2.1
  have hzs : ∀ i, i < 8 → (rw_sz i).toInt ≤ 100 := fun i hi => (hRS i hi).2.2.2.2.1.2
  have hsi : ∀ i, i < 8 → (m_si_f i).toInt ≤ 100 := fun i hi => by rw [(hRS i hi).2.2.2.1]; exact (hRS i hi).2.2.2.2.1.2
  have hsi0 : ∀ i, i < 8 → 0 ≤ (m_si_f i).toInt := fun i hi => by rw [(hRS i hi).2.2.2.1]; exact (hRS i hi).2.2.2.2.1.1
  refine lv_aload_n hx hb dL_law_353 rfl (lv_at hl 1 rfl) ?_
  obtain ⟨h_x_no, h_x_no_pa, h_x_no_cr, h_x_no_cr_e, h_pr⟩ := id bN
  refine w_finj (w_runV (rm := ({ frames := 7, cells := 0, slots := 0, locals := 151 } : Room)) (As := []) (rest := []) (n := 0) hx hb hml hts hown hK w (c_X5_round l D cI cP cS cL L _ x x_no x_ke x_mi m_hi x_sh x_co x_ot (m_ss_f 0) (m_ss_f 1) (m_ss_f 2) (m_ss_f 3) (m_ss_f 4) (m_ss_f 6) (m_ss_f 5) x_no_pa x_no_cr x_no_ls x_no_cr_e x_no_cr_so x_no_cr_sz x_no_cr_e_f pr pr_nu pr_ki pr_st pr_sl h_x h_x_no h_x_no_pa h_x_no_cr h_x_no_cr_e h_pr hsts) gL_law_X5_round rfl rfl rfl (by decide +kernel) ⟨(Nat.le_of_ble_eq_true rfl), (Nat.le_of_ble_eq_true rfl)⟩ h_x rfl rfl hl.1 rfl (Nat.le_of_ble_eq_true rfl) dL_law_354 ⟨by show cells + 0 ≤ 600128; omega, by show slots + 0 ≤ 7301098; omega⟩) w hA (fun r5 F5 H locs hp w => ?_)
  obtain ⟨y5, ey5, er5, e5_x_no, e5_x_no_cr, e5_x_no_cr_e, hk5⟩ := hp
  have hg5 := gr_wk (L := L) hk5
  have bK := gK hT (fun k a h h1 h2 => fr_X5_round hT h (by omega)) hg5 bK
  have bM := gM hT (fun k a h h1 h2 => fr_X5_round hT h (by omega)) hg5 bM
  have bSS := gS hT (fun k a h h1 h2 => fr_X5_round hT h (by omega)) hg5 bSS
  have h_x := gx hT (fun k a h h1 h2 => fr_X5_round hT h (by omega)) hg5 h_x
  have h_x_co := gco hT (fun k a h h1 h2 => fr_X5_round hT h (by omega)) hg5 h_x_co
  have h_x_ot := got hT (fun k a h h1 h2 => fr_X5_round hT h (by omega)) hg5 h_x_ot
  have bRR := gR hT (fun k a h h1 h2 => fr_X5_round hT h (by omega)) hg5 bRR
  have h_o := go hT (fun k a h h1 h2 => fr_X5_round hT h (by omega)) hg5 h_o
  have bN : bG cI cP L F5 x_no x_no_pa x_no_cr x_no_cr_e pr (m_ss_f 0) (m_ss_f 1) (m_ss_f 2) (m_ss_f 3) (y5.2.1) (y5.2.2.1) (m_ss_f 5) (y5.2.2.2.1) (y5.2.2.2.2.1) (y5.2.2.2.2.2.1) (y5.2.2.2.2.2.2) (pr_nu) (pr_ki) (pr_st) (pr_sl) := ⟨⟨(hg5 _ h_x_no.1).1, e5_x_no⟩, h_x_no_pa.grow hg5 (fr_X5_round hT (hT.2.1.2.2.1) (by decide)), ⟨(hg5 _ h_x_no_cr.1).1, e5_x_no_cr⟩, ⟨(hg5 _ h_x_no_cr_e.1).1, e5_x_no_cr_e⟩, (fun i hi => (h_pr i hi).grow hg5 (fr_X5_round hT (hT.2.2.1 i hi) (by omega)))⟩
  refine lv_aload_n hx hb dL_law_357 rfl (lv_at hl 2 rfl) ?_
  obtain ⟨h_m, h_m_ss, h_m_im, h_m_re, h_m_sa, h_m_ke, h_m_so, h_m_si, h_m_el, h_m_kd, h_m_kt, h_m_nu, h_m_ca, h_m_ha, h_m_co⟩ := id bRR
  refine w_finj (w_runV (rm := ({ frames := 7, cells := 0, slots := 0, locals := 162 } : Room)) (As := []) (rest := [.int r5]) (n := 0) hx hb hml hts hown hK w (c_X6_round l D cI cP cS cL L _ m m_ss m_im m_re m_sa m_ke m_so m_si m_el m_kd m_kt m_hi (m_th) m_po m_ba m_en m_tl m_nu m_ca m_ha m_hs m_co m_ss_f m_ca_f h_m h_m_ss h_m_ca h5 hi6 hd1 hr5 hB.hst (lne_32 hT) (lne_33 hT)) gL_law_X6_round rfl rfl rfl (by decide +kernel) ⟨(Nat.le_of_ble_eq_true rfl), (Nat.le_of_ble_eq_true rfl)⟩ h_m rfl rfl hl.1 rfl (Nat.le_of_ble_eq_true rfl) dL_law_358 ⟨by show cells + 0 ≤ 600128; omega, by show slots + 0 ≤ 7301098; omega⟩) w hA (fun r6 F6 H locs hp w => ?_)
  obtain ⟨y6, ey6, er6, e6_m_ss, e6_m_ca, hk6⟩ := hp
  have hg6 := gr_wk (L := L) hk6
  have bN := gN hT (fun k a h h1 h2 => fr_X6_round hT h (by omega)) hg6 bN
  have bK := gK hT (fun k a h h1 h2 => fr_X6_round hT h (by omega)) hg6 bK
  have bM := gM hT (fun k a h h1 h2 => fr_X6_round hT h (by omega)) hg6 bM
  have bSS := gS hT (fun k a h h1 h2 => fr_X6_round hT h (by omega)) hg6 bSS
  have h_x := gx hT (fun k a h h1 h2 => fr_X6_round hT h (by omega)) hg6 h_x
  have h_x_co := gco hT (fun k a h h1 h2 => fr_X6_round hT h (by omega)) hg6 h_x_co
  have h_x_ot := got hT (fun k a h h1 h2 => fr_X6_round hT h (by omega)) hg6 h_x_ot
  have h_o := go hT (fun k a h h1 h2 => fr_X6_round hT h (by omega)) hg6 h_o
  have bRR : bR cI L F6 m m_ss m_im m_re m_sa m_ke m_so m_si m_el m_kd m_kt m_nu m_ca m_ha m_co (m_hi) (m_th) (m_po) (m_ba) (m_en) (m_tl) (m_hs) (y6.2.1) (m_im_f) (m_re_f) (m_sa_f) (m_ke_f) (m_so_f) (m_si_f) (m_el_f) (m_kd_f) (m_kt_f) (m_nu_f) (y6.2.2) (m_ha_f) (m_co_f) := ⟨h_m.grow hg6 (fr_X6_round hT (hT.2.1.2.2.2.2.2.2.2.2.2.2.2.2.2.2.2.2.1) (by decide)), ⟨(hg6 _ h_m_ss.1).1, e6_m_ss⟩, h_m_im.grow hg6 (fr_X6_round hT (hT.2.1.2.2.2.2.2.2.2.2.2.2.2.2.2.2.2.2.2.2.1) (by decide)), h_m_re.grow hg6 (fr_X6_round hT (hT.2.1.2.2.2.2.2.2.2.2.2.2.2.2.2.2.2.2.2.2.2.1) (by decide)), h_m_sa.grow hg6 (fr_X6_round hT (hT.2.1.2.2.2.2.2.2.2.2.2.2.2.2.2.2.2.2.2.2.2.2.1) (by decide)), h_m_ke.grow hg6 (fr_X6_round hT (hT.2.1.2.2.2.2.2.2.2.2.2.2.2.2.2.2.2.2.2.2.2.2.2.1) (by decide)), h_m_so.grow hg6 (fr_X6_round hT (hT.2.1.2.2.2.2.2.2.2.2.2.2.2.2.2.2.2.2.2.2.2.2.2.2.1) (by decide)), h_m_si.grow hg6 (fr_X6_round hT (hT.2.1.2.2.2.2.2.2.2.2.2.2.2.2.2.2.2.2.2.2.2.2.2.2.2.1) (by decide)), h_m_el.grow hg6 (fr_X6_round hT (hT.2.1.2.2.2.2.2.2.2.2.2.2.2.2.2.2.2.2.2.2.2.2.2.2.2.2.1) (by decide)), h_m_kd.grow hg6 (fr_X6_round hT (hT.2.1.2.2.2.2.2.2.2.2.2.2.2.2.2.2.2.2.2.2.2.2.2.2.2.2.2.1) (by decide)), h_m_kt.grow hg6 (fr_X6_round hT (hT.2.1.2.2.2.2.2.2.2.2.2.2.2.2.2.2.2.2.2.2.2.2.2.2.2.2.2.2.1) (by decide)), h_m_nu.grow hg6 (fr_X6_round hT (hT.2.1.2.2.2.2.2.2.2.2.2.2.2.2.2.2.2.2.2.2.2.2.2.2.2.2.2.2.2.1) (by decide)), ⟨(hg6 _ h_m_ca.1).1, e6_m_ca⟩, h_m_ha.grow hg6 (fr_X6_round hT (hT.2.1.2.2.2.2.2.2.2.2.2.2.2.2.2.2.2.2.2.2.2.2.2.2.2.2.2.2.2.2.2.1) (by decide)), h_m_co.grow hg6 (fr_X6_round hT (hT.2.1.2.2.2.2.2.2.2.2.2.2.2.2.2.2.2.2.2.2.2.2.2.2.2.2.2.2.2.2.2.2.1) (by decide))⟩
  have E := round_eq (so := x_no_cr_so) (ca := m_ca_f) hRG
  rw [← ey5] at E
  rw [← ey6] at E
  obtain ⟨E1, Ej, E4, E6, hRG2⟩ := E
  have bN : bG cI cP L F6 x_no x_no_pa x_no_cr x_no_cr_e pr (y6.2.1 0) (y6.2.1 1) (y6.2.1 2) (y6.2.1 3) (y6.2.1 4) (y6.2.1 6) (y6.2.1 5) (y5.2.2.2.1) (y5.2.2.2.2.1) (y5.2.2.2.2.2.1) (y5.2.2.2.2.2.2) (pr_nu) (pr_ki) (pr_st) (pr_sl) := bN.to (Ej 0 (by decide)).symm (Ej 1 (by decide)).symm (Ej 2 (by decide)).symm (Ej 3 (by decide)).symm E4 E6 (Ej 5 (by decide)).symm
  refine lv_icmp_eq (tgt := 1361) hx hb dL_law_361 (by decide) (fun _ => ?_) (fun c9 => absurd (er5.trans (E1.trans er6.symm)) c9)
  refine W.widen (k := cells + 1) (n := slots + 7) (by omega) (by omega) ?_
  exact kk L F6 H locs ls ⟨m_hi, m_th, m_po, m_ba, m_en, m_tl, m_hs, y6.2.1, m_im_f, m_re_f, m_sa_f, m_ke_f, m_so_f, m_si_f, m_el_f, m_kd_f, m_kt_f, m_nu_f, y6.2.2, m_ha_f, m_co_f, fo, ⟨_, _, _, _, _, _, _, _, bN, hRG2⟩, ⟨_, _, _, _, _, _, _, _, _, _, _, _, _, _, _, bM⟩, ⟨_, _, _, _, _, _, _, _, _, _, _, _, _, _, _, bK, hKR⟩, ⟨_, _, _, _, _, _, _, _, bSS, hRS⟩, h_x, ⟨_, h_x_co⟩, ⟨_, h_x_ot⟩, bRR, h_o, hhs⟩ w hl

set_option maxHeartbeats 4000000 in
set_option maxRecDepth 100000 in
theorem law_anew {p : Program} {l : Launch} {e : Env} {s : State} {mt : MethodId} {below : List Frame} {meth : Method} {c : Code} {H : Heap} {locs : List Loc} {cells slots : Nat} {Q : State → Prop} {D : va_G} {A : Nat → Prop} {L : List Nat} {F : Nat → va_E} {cI cP cS cL : ClassId} {sa : Nat → Nat} {b len : Nat} {xs : Nat → Int32} {ls : Array Slot} {i : Int32} {Lst : List Nat} {x x_no x_no_pa x_no_cr x_no_cr_e x_ke x_ke_pa x_ke_cr x_ke_cr_e x_mi x_mi_pa x_mi_cr x_mi_cr_e x_sh x_co x_ot m m_ss m_im m_re m_sa m_ke m_so m_si m_el m_kd m_kt m_nu m_ca m_ha m_co o : Nat} {pr qk qm sh rw el sp : Nat → Nat} (hT : TG Lst x x_no x_no_pa x_no_cr x_no_cr_e x_ke x_ke_pa x_ke_cr x_ke_cr_e x_mi x_mi_pa x_mi_cr x_mi_cr_e x_sh x_co x_ot m m_ss m_im m_re m_sa m_ke m_so m_si m_el m_kd m_kt m_nu m_ca m_ha m_co o pr qk qm sh rw el sp) (hC : LC p l s mt c D cI cP cS cL A sa b len xs) (hI : ∀ k : Int32, 1 ≤ k.toInt → k.toInt ≤ 5 → vp_in (i + k) len) (hroom : cells + 1 ≤ 600128 ∧ slots + 7 ≤ 7301098) (hV : IV cI cP cS cL x x_no x_no_pa x_no_cr x_no_cr_e x_ke x_ke_pa x_ke_cr x_ke_cr_e x_mi x_mi_pa x_mi_cr x_mi_cr_e x_sh x_co x_ot m m_ss m_im m_re m_sa m_ke m_so m_si m_el m_kd m_kt m_nu m_ca m_ha m_co o pr qk qm sh rw el sp L F) (w : ww D A s.heap L F H locs) (hl : lv_has ls 8 (LV b x m o i)) (kk : ∀ (L1 : List Nat) (F1 : Nat → va_E) (H1 : Heap) (locs1 : List Loc) (ls1 : Array Slot), IV cI cP cS cL x x_no x_no_pa x_no_cr x_no_cr_e x_ke x_ke_pa x_ke_cr x_ke_cr_e x_mi x_mi_pa x_mi_cr x_mi_cr_e x_sh x_co x_ot m m_ss m_im m_re m_sa m_ke m_so m_si m_el m_kd m_kt m_nu m_ca m_ha m_co o pr qk qm sh rw el sp L1 F1 → ww D A s.heap L1 F1 H1 locs1 → lv_has ls1 8 (LV b x m o i) → W p l e room_1 s mt #[Value.ref b] below meth c H1 locs1 (cells + 1) (slots + 7) Q (F0 mt 1361 ls1 [])) : W p l e room_1 s mt #[Value.ref b] below meth c H locs cells slots Q (F0 mt 366 ls []) := by
  have hC0 := hC
  obtain ⟨hx, hb, hml, hts, hown, hK, hX, hA, hXs, hbl, hbA, hst⟩ := hC
  obtain ⟨m_hi, m_th, m_po, m_ba, m_en, m_tl, m_hs, m_ss_f, m_im_f, m_re_f, m_sa_f, m_ke_f, m_so_f, m_si_f, m_el_f, m_kd_f, m_kt_f, m_nu_f, m_ca_f, m_ha_f, m_co_f, fo, ⟨x_no_ls, x_no_cr_so, x_no_cr_sz, x_no_cr_e_f, pr_nu, pr_ki, pr_st, pr_sl, bN, hRG⟩, ⟨x_mi_up, x_mi_down, x_mi_high, x_mi_prize, x_mi_z, x_mi_rounds, x_mi_people, x_mi_ls, x_mi_cr_so, x_mi_cr_sz, x_mi_cr_e_f, qm_nu, qm_ki, qm_st, qm_sl, bM⟩, ⟨x_ke_up, x_ke_down, x_ke_high, x_ke_prize, x_ke_z, x_ke_rounds, x_ke_people, x_ke_ls, x_ke_cr_so, x_ke_cr_sz, x_ke_cr_e_f, qk_nu, qk_ki, qk_st, qk_sl, bK, hKR⟩, ⟨sh_ho, rw_so, rw_sz, el_f, sp_nu, sp_ki, sp_st, sp_sl, bSS, hRS⟩, h_x, ⟨x_co_f, h_x_co⟩, ⟨x_ot_f, h_x_ot⟩, bRR, h_o, hhs⟩ := hV
  have hB := hRG.1
  have h5 := hB.2.2.2.2.1
  have hd20 := hB.2.1
  have hd1 := dn_ne hB
  have hi6 := hi_rng hB
  have hr5 := hB.2.2.2.2.2.2.1
  have hsts : ∀ i, i < 12 → (pr_st i).toInt ≤ 1000 := fun i hi => Int.le_trans (hRG.2.1.2 i hi) (by decide)
  have hzc := hRG.2.2.1
  have hzs : ∀ i, i < 8 → (rw_sz i).toInt ≤ 100 := fun i hi => (hRS i hi).2.2.2.2.1.2
  have hsi : ∀ i, i < 8 → (m_si_f i).toInt ≤ 100 := fun i hi => by rw [(hRS i hi).2.2.2.1]; exact (hRS i hi).2.2.2.2.1.2
  have hsi0 : ∀ i, i < 8 → 0 ≤ (m_si_f i).toInt := fun i hi => by rw [(hRS i hi).2.2.2.1]; exact (hRS i hi).2.2.2.2.1.1
  refine lv_aload_n hx hb dL_law_366 rfl (lv_at hl 1 rfl) ?_
  obtain ⟨h_x_no, h_x_no_pa, h_x_no_cr, h_x_no_cr_e, h_pr⟩ := id bN
  refine w_finj (w_runV (rm := ({ frames := 3, cells := 0, slots := 0, locals := 65 } : Room)) (As := []) (rest := []) (n := 0) hx hb hml hts hown hK w (c_X5_anew l D cI cP cS cL L _ x x_no x_ke x_mi m_hi x_sh x_co x_ot (m_ss_f 0) (m_ss_f 1) (m_ss_f 2) (m_ss_f 3) (m_ss_f 4) (m_ss_f 6) (m_ss_f 5) x_no_pa x_no_cr x_no_ls x_no_cr_e x_no_cr_so x_no_cr_sz x_no_cr_e_f h_x h_x_no h_x_no_cr h_x_no_cr_e) gL_law_X5_anew rfl rfl rfl (by decide +kernel) ⟨(Nat.le_of_ble_eq_true rfl), (Nat.le_of_ble_eq_true rfl)⟩ h_x rfl rfl hl.1 rfl (Nat.le_of_ble_eq_true rfl) dL_law_367 ⟨by show cells + 0 ≤ 600128; omega, by show slots + 0 ≤ 7301098; omega⟩) w hA (fun r5 F5 H locs hp w => ?_)
  obtain ⟨y5, ey5, er5, e5_x_no, e5_x_no_cr, e5_x_no_cr_e, hk5⟩ := hp
  have hg5 := gr_wk (L := L) hk5
  have bK := gK hT (fun k a h h1 h2 => fr_X5_anew hT h (by omega)) hg5 bK
  have bM := gM hT (fun k a h h1 h2 => fr_X5_anew hT h (by omega)) hg5 bM
  have bSS := gS hT (fun k a h h1 h2 => fr_X5_anew hT h (by omega)) hg5 bSS
  have h_x := gx hT (fun k a h h1 h2 => fr_X5_anew hT h (by omega)) hg5 h_x
  have h_x_co := gco hT (fun k a h h1 h2 => fr_X5_anew hT h (by omega)) hg5 h_x_co
  have h_x_ot := got hT (fun k a h h1 h2 => fr_X5_anew hT h (by omega)) hg5 h_x_ot
  have bRR := gR hT (fun k a h h1 h2 => fr_X5_anew hT h (by omega)) hg5 bRR
  have h_o := go hT (fun k a h h1 h2 => fr_X5_anew hT h (by omega)) hg5 h_o
  have bN : bG cI cP L F5 x_no x_no_pa x_no_cr x_no_cr_e pr (m_ss_f 0) (m_ss_f 1) (m_ss_f 2) (m_ss_f 3) (m_ss_f 4) (y5.2.1) (m_ss_f 5) (y5.2.2.1) (y5.2.2.2.1) (y5.2.2.2.2.1) (y5.2.2.2.2.2) (pr_nu) (pr_ki) (pr_st) (pr_sl) := ⟨⟨(hg5 _ h_x_no.1).1, e5_x_no⟩, h_x_no_pa.grow hg5 (fr_X5_anew hT (hT.2.1.2.2.1) (by decide)), ⟨(hg5 _ h_x_no_cr.1).1, e5_x_no_cr⟩, ⟨(hg5 _ h_x_no_cr_e.1).1, e5_x_no_cr_e⟩, (fun i hi => (h_pr i hi).grow hg5 (fr_X5_anew hT (hT.2.2.1 i hi) (by omega)))⟩
  refine lv_aload_n hx hb dL_law_370 rfl (lv_at hl 2 rfl) ?_
  obtain ⟨h_m, h_m_ss, h_m_im, h_m_re, h_m_sa, h_m_ke, h_m_so, h_m_si, h_m_el, h_m_kd, h_m_kt, h_m_nu, h_m_ca, h_m_ha, h_m_co⟩ := id bRR
  refine w_finj (w_runV (rm := ({ frames := 0, cells := 0, slots := 0, locals := 0 } : Room)) (As := []) (rest := [.int r5]) (n := 0) hx hb hml hts hown hK w (c_X6_anew l D cI cP cS cL L _ m m_ss m_im m_re m_sa m_ke m_so m_si m_el m_kd m_kt m_hi (m_th) m_po m_ba m_en m_tl m_nu m_ca m_ha m_hs m_co m_ss_f h_m h_m_ss h5) gL_law_X6_anew rfl rfl rfl (by decide +kernel) ⟨(Nat.le_of_ble_eq_true rfl), (Nat.le_of_ble_eq_true rfl)⟩ h_m rfl rfl hl.1 rfl (Nat.le_of_ble_eq_true rfl) dL_law_371 ⟨by show cells + 0 ≤ 600128; omega, by show slots + 0 ≤ 7301098; omega⟩) w hA (fun r6 F6 H locs hp w => ?_)
  obtain ⟨y6, ey6, er6, e6_m_ss, hk6⟩ := hp
  have hg6 := gr_wk (L := L) hk6
  have bN := gN hT (fun k a h h1 h2 => fr_X6_anew hT h (by omega)) hg6 bN
  have bK := gK hT (fun k a h h1 h2 => fr_X6_anew hT h (by omega)) hg6 bK
  have bM := gM hT (fun k a h h1 h2 => fr_X6_anew hT h (by omega)) hg6 bM
  have bSS := gS hT (fun k a h h1 h2 => fr_X6_anew hT h (by omega)) hg6 bSS
  have h_x := gx hT (fun k a h h1 h2 => fr_X6_anew hT h (by omega)) hg6 h_x
  have h_x_co := gco hT (fun k a h h1 h2 => fr_X6_anew hT h (by omega)) hg6 h_x_co
  have h_x_ot := got hT (fun k a h h1 h2 => fr_X6_anew hT h (by omega)) hg6 h_x_ot
  have h_o := go hT (fun k a h h1 h2 => fr_X6_anew hT h (by omega)) hg6 h_o
  have bRR : bR cI L F6 m m_ss m_im m_re m_sa m_ke m_so m_si m_el m_kd m_kt m_nu m_ca m_ha m_co (m_hi) (m_th) (m_po) (m_ba) (m_en) (m_tl) (m_hs) (y6.2) (m_im_f) (m_re_f) (m_sa_f) (m_ke_f) (m_so_f) (m_si_f) (m_el_f) (m_kd_f) (m_kt_f) (m_nu_f) (m_ca_f) (m_ha_f) (m_co_f) := ⟨h_m.grow hg6 (fr_X6_anew hT (hT.2.1.2.2.2.2.2.2.2.2.2.2.2.2.2.2.2.2.1) (by decide)), ⟨(hg6 _ h_m_ss.1).1, e6_m_ss⟩, h_m_im.grow hg6 (fr_X6_anew hT (hT.2.1.2.2.2.2.2.2.2.2.2.2.2.2.2.2.2.2.2.2.1) (by decide)), h_m_re.grow hg6 (fr_X6_anew hT (hT.2.1.2.2.2.2.2.2.2.2.2.2.2.2.2.2.2.2.2.2.2.1) (by decide)), h_m_sa.grow hg6 (fr_X6_anew hT (hT.2.1.2.2.2.2.2.2.2.2.2.2.2.2.2.2.2.2.2.2.2.2.1) (by decide)), h_m_ke.grow hg6 (fr_X6_anew hT (hT.2.1.2.2.2.2.2.2.2.2.2.2.2.2.2.2.2.2.2.2.2.2.2.1) (by decide)), h_m_so.grow hg6 (fr_X6_anew hT (hT.2.1.2.2.2.2.2.2.2.2.2.2.2.2.2.2.2.2.2.2.2.2.2.2.1) (by decide)), h_m_si.grow hg6 (fr_X6_anew hT (hT.2.1.2.2.2.2.2.2.2.2.2.2.2.2.2.2.2.2.2.2.2.2.2.2.2.1) (by decide)), h_m_el.grow hg6 (fr_X6_anew hT (hT.2.1.2.2.2.2.2.2.2.2.2.2.2.2.2.2.2.2.2.2.2.2.2.2.2.2.1) (by decide)), h_m_kd.grow hg6 (fr_X6_anew hT (hT.2.1.2.2.2.2.2.2.2.2.2.2.2.2.2.2.2.2.2.2.2.2.2.2.2.2.2.1) (by decide)), h_m_kt.grow hg6 (fr_X6_anew hT (hT.2.1.2.2.2.2.2.2.2.2.2.2.2.2.2.2.2.2.2.2.2.2.2.2.2.2.2.2.1) (by decide)), h_m_nu.grow hg6 (fr_X6_anew hT (hT.2.1.2.2.2.2.2.2.2.2.2.2.2.2.2.2.2.2.2.2.2.2.2.2.2.2.2.2.2.1) (by decide)), h_m_ca.grow hg6 (fr_X6_anew hT (hT.2.1.2.2.2.2.2.2.2.2.2.2.2.2.2.2.2.2.2.2.2.2.2.2.2.2.2.2.2.2.1) (by decide)), h_m_ha.grow hg6 (fr_X6_anew hT (hT.2.1.2.2.2.2.2.2.2.2.2.2.2.2.2.2.2.2.2.2.2.2.2.2.2.2.2.2.2.2.2.1) (by decide)), h_m_co.grow hg6 (fr_X6_anew hT (hT.2.1.2.2.2.2.2.2.2.2.2.2.2.2.2.2.2.2.2.2.2.2.2.2.2.2.2.2.2.2.2.2.1) (by decide))⟩
  have E := anew_eq hRG
  rw [← ey5] at E
  rw [← ey6] at E
  obtain ⟨E1, E6, Ej, hRG2⟩ := E
  have bN : bG cI cP L F6 x_no x_no_pa x_no_cr x_no_cr_e pr (y6.2 0) (y6.2 1) (y6.2 2) (y6.2 3) (y6.2 4) (y6.2 6) (y6.2 5) (y5.2.2.1) (y5.2.2.2.1) (y5.2.2.2.2.1) (y5.2.2.2.2.2) (pr_nu) (pr_ki) (pr_st) (pr_sl) := bN.to (Ej 0 (by decide)).symm (Ej 1 (by decide)).symm (Ej 2 (by decide)).symm (Ej 3 (by decide)).symm (Ej 4 (by decide)).symm E6 (Ej 5 (by decide)).symm
  refine lv_icmp_eq (tgt := 1361) hx hb dL_law_374 (by decide) (fun _ => ?_) (fun c9 => absurd (er5.trans (E1.trans er6.symm)) c9)
  refine W.widen (k := cells + 1) (n := slots + 7) (by omega) (by omega) ?_
  exact kk L F6 H locs ls ⟨m_hi, m_th, m_po, m_ba, m_en, m_tl, m_hs, y6.2, m_im_f, m_re_f, m_sa_f, m_ke_f, m_so_f, m_si_f, m_el_f, m_kd_f, m_kt_f, m_nu_f, m_ca_f, m_ha_f, m_co_f, fo, ⟨_, _, _, _, _, _, _, _, bN, hRG2⟩, ⟨_, _, _, _, _, _, _, _, _, _, _, _, _, _, _, bM⟩, ⟨_, _, _, _, _, _, _, _, _, _, _, _, _, _, _, bK, hKR⟩, ⟨_, _, _, _, _, _, _, _, bSS, hRS⟩, h_x, ⟨_, h_x_co⟩, ⟨_, h_x_ot⟩, bRR, h_o, hhs⟩ w hl

set_option maxHeartbeats 4000000 in
set_option maxRecDepth 100000 in
theorem law_last {p : Program} {l : Launch} {e : Env} {s : State} {mt : MethodId} {below : List Frame} {meth : Method} {c : Code} {H : Heap} {locs : List Loc} {cells slots : Nat} {Q : State → Prop} {D : va_G} {A : Nat → Prop} {L : List Nat} {F : Nat → va_E} {cI cP cS cL : ClassId} {sa : Nat → Nat} {b len : Nat} {xs : Nat → Int32} {ls : Array Slot} {i : Int32} {Lst : List Nat} {x x_no x_no_pa x_no_cr x_no_cr_e x_ke x_ke_pa x_ke_cr x_ke_cr_e x_mi x_mi_pa x_mi_cr x_mi_cr_e x_sh x_co x_ot m m_ss m_im m_re m_sa m_ke m_so m_si m_el m_kd m_kt m_nu m_ca m_ha m_co o : Nat} {pr qk qm sh rw el sp : Nat → Nat} (hT : TG Lst x x_no x_no_pa x_no_cr x_no_cr_e x_ke x_ke_pa x_ke_cr x_ke_cr_e x_mi x_mi_pa x_mi_cr x_mi_cr_e x_sh x_co x_ot m m_ss m_im m_re m_sa m_ke m_so m_si m_el m_kd m_kt m_nu m_ca m_ha m_co o pr qk qm sh rw el sp) (hC : LC p l s mt c D cI cP cS cL A sa b len xs) (hI : ∀ k : Int32, 1 ≤ k.toInt → k.toInt ≤ 5 → vp_in (i + k) len) (hroom : cells + 1 ≤ 600128 ∧ slots + 7 ≤ 7301098) (hV : IV cI cP cS cL x x_no x_no_pa x_no_cr x_no_cr_e x_ke x_ke_pa x_ke_cr x_ke_cr_e x_mi x_mi_pa x_mi_cr x_mi_cr_e x_sh x_co x_ot m m_ss m_im m_re m_sa m_ke m_so m_si m_el m_kd m_kt m_nu m_ca m_ha m_co o pr qk qm sh rw el sp L F) (w : ww D A s.heap L F H locs) (hl : lv_has ls 8 (LV b x m o i)) (kk : ∀ (L1 : List Nat) (F1 : Nat → va_E) (H1 : Heap) (locs1 : List Loc) (ls1 : Array Slot), IV cI cP cS cL x x_no x_no_pa x_no_cr x_no_cr_e x_ke x_ke_pa x_ke_cr x_ke_cr_e x_mi x_mi_pa x_mi_cr x_mi_cr_e x_sh x_co x_ot m m_ss m_im m_re m_sa m_ke m_so m_si m_el m_kd m_kt m_nu m_ca m_ha m_co o pr qk qm sh rw el sp L1 F1 → ww D A s.heap L1 F1 H1 locs1 → lv_has ls1 8 (LV b x m o i) → W p l e room_1 s mt #[Value.ref b] below meth c H1 locs1 (cells + 1) (slots + 7) Q (F0 mt 1361 ls1 [])) : W p l e room_1 s mt #[Value.ref b] below meth c H locs cells slots Q (F0 mt 379 ls []) := by
  have hC0 := hC
  obtain ⟨hx, hb, hml, hts, hown, hK, hX, hA, hXs, hbl, hbA, hst⟩ := hC
  obtain ⟨m_hi, m_th, m_po, m_ba, m_en, m_tl, m_hs, m_ss_f, m_im_f, m_re_f, m_sa_f, m_ke_f, m_so_f, m_si_f, m_el_f, m_kd_f, m_kt_f, m_nu_f, m_ca_f, m_ha_f, m_co_f, fo, ⟨x_no_ls, x_no_cr_so, x_no_cr_sz, x_no_cr_e_f, pr_nu, pr_ki, pr_st, pr_sl, bN, hRG⟩, ⟨x_mi_up, x_mi_down, x_mi_high, x_mi_prize, x_mi_z, x_mi_rounds, x_mi_people, x_mi_ls, x_mi_cr_so, x_mi_cr_sz, x_mi_cr_e_f, qm_nu, qm_ki, qm_st, qm_sl, bM⟩, ⟨x_ke_up, x_ke_down, x_ke_high, x_ke_prize, x_ke_z, x_ke_rounds, x_ke_people, x_ke_ls, x_ke_cr_so, x_ke_cr_sz, x_ke_cr_e_f, qk_nu, qk_ki, qk_st, qk_sl, bK, hKR⟩, ⟨sh_ho, rw_so, rw_sz, el_f, sp_nu, sp_ki, sp_st, sp_sl, bSS, hRS⟩, h_x, ⟨x_co_f, h_x_co⟩, ⟨x_ot_f, h_x_ot⟩, bRR, h_o, hhs⟩ := hV
  have hB := hRG.1
  have h5 := hB.2.2.2.2.1
  have hd20 := hB.2.1
  have hd1 := dn_ne hB
  have hi6 := hi_rng hB
  have hr5 := hB.2.2.2.2.2.2.1
  have hsts : ∀ i, i < 12 → (pr_st i).toInt ≤ 1000 := fun i hi => Int.le_trans (hRG.2.1.2 i hi) (by decide)
  have hzc := hRG.2.2.1
  have hzs : ∀ i, i < 8 → (rw_sz i).toInt ≤ 100 := fun i hi => (hRS i hi).2.2.2.2.1.2
  have hsi : ∀ i, i < 8 → (m_si_f i).toInt ≤ 100 := fun i hi => by rw [(hRS i hi).2.2.2.1]; exact (hRS i hi).2.2.2.2.1.2
  have hsi0 : ∀ i, i < 8 → 0 ≤ (m_si_f i).toInt := fun i hi => by rw [(hRS i hi).2.2.2.1]; exact (hRS i hi).2.2.2.2.1.1
  refine lv_aload_n hx hb dL_law_379 rfl (lv_at hl 1 rfl) ?_
  refine l_arg (x := x) (m := m) (o := o) (v := 1) hC0 w hl dL_law_380 dL_law_381 dL_law_383 dL_law_384 dL_law_385 (by decide) (hI 1 (by decide) (by decide)) ?_
  obtain ⟨h_x_no, h_x_no_pa, h_x_no_cr, h_x_no_cr_e, h_pr⟩ := id bN
  refine w_finI (w_runV (rm := ({ frames := 4, cells := 0, slots := 0, locals := 97 } : Room)) (As := [.int (xs (i + 1).toNatClampNeg)]) (rest := []) (n := 1) hx hb hml hts hown hK w (c_X5_last l D cI cP cS cL L _ x (xs (i + 1).toNatClampNeg) x_no x_ke x_mi m_hi x_sh x_co x_ot (m_ss_f 0) (m_ss_f 1) (m_ss_f 2) (m_ss_f 3) (m_ss_f 4) (m_ss_f 6) (m_ss_f 5) x_no_pa x_no_cr x_no_ls x_no_cr_e x_no_cr_so x_no_cr_sz x_no_cr_e_f h_x h_x_no h_x_no_cr h_x_no_cr_e hzc) gL_law_X5_last rfl rfl rfl (by decide +kernel) ⟨(Nat.le_of_ble_eq_true rfl), (Nat.le_of_ble_eq_true rfl)⟩ h_x rfl rfl hl.1 rfl (Nat.le_of_ble_eq_true rfl) dL_law_386 ⟨by show cells + 0 ≤ 600128; omega, by show slots + 0 ≤ 7301098; omega⟩) w hA (fun H locs w => ?_)
  refine lv_aload_n hx hb dL_law_389 rfl (lv_at hl 2 rfl) ?_
  refine l_arg (x := x) (m := m) (o := o) (v := 1) hC0 w hl dL_law_390 dL_law_391 dL_law_393 dL_law_394 dL_law_395 (by decide) (hI 1 (by decide) (by decide)) ?_
  obtain ⟨h_m, h_m_ss, h_m_im, h_m_re, h_m_sa, h_m_ke, h_m_so, h_m_si, h_m_el, h_m_kd, h_m_kt, h_m_nu, h_m_ca, h_m_ha, h_m_co⟩ := id bRR
  refine w_finj (w_runV (rm := ({ frames := 3, cells := 0, slots := 0, locals := 72 } : Room)) (As := [.int (xs (i + 1).toNatClampNeg)]) (rest := [.int (f_X5_last (xs (i + 1).toNatClampNeg) (m_ss_f 0) (m_ss_f 1) (m_ss_f 3) (m_ss_f 6) x_no_ls x_no_cr_sz x_no_cr_e_f)]) (n := 1) hx hb hml hts hown hK w (c_X6_last l D cI cP cS cL L _ m (xs (i + 1).toNatClampNeg) m_ss m_im m_re m_sa m_ke m_so m_si m_el m_kd m_kt m_hi (m_th) m_po m_ba m_en m_tl m_nu m_ca m_ha m_hs m_co m_ss_f m_ha_f h_m h_m_ss h_m_ha h5 (lne_34 hT)) gL_law_X6_last rfl rfl rfl (by decide +kernel) ⟨(Nat.le_of_ble_eq_true rfl), (Nat.le_of_ble_eq_true rfl)⟩ h_m rfl rfl hl.1 rfl (Nat.le_of_ble_eq_true rfl) dL_law_396 ⟨by show cells + 0 ≤ 600128; omega, by show slots + 0 ≤ 7301098; omega⟩) w hA (fun r6 F6 H locs hp w => ?_)
  obtain ⟨y6, ey6, er6, e6_m, e6_m_ha, hk6⟩ := hp
  have hg6 := gr_wk (L := L) hk6
  have bN := gN hT (fun k a h h1 h2 => fr_X6_last hT h (by omega)) hg6 bN
  have bK := gK hT (fun k a h h1 h2 => fr_X6_last hT h (by omega)) hg6 bK
  have bM := gM hT (fun k a h h1 h2 => fr_X6_last hT h (by omega)) hg6 bM
  have bSS := gS hT (fun k a h h1 h2 => fr_X6_last hT h (by omega)) hg6 bSS
  have h_x := gx hT (fun k a h h1 h2 => fr_X6_last hT h (by omega)) hg6 h_x
  have h_x_co := gco hT (fun k a h h1 h2 => fr_X6_last hT h (by omega)) hg6 h_x_co
  have h_x_ot := got hT (fun k a h h1 h2 => fr_X6_last hT h (by omega)) hg6 h_x_ot
  have h_o := go hT (fun k a h h1 h2 => fr_X6_last hT h (by omega)) hg6 h_o
  have bRR : bR cI L F6 m m_ss m_im m_re m_sa m_ke m_so m_si m_el m_kd m_kt m_nu m_ca m_ha m_co (m_hi) (m_th) (m_po) (m_ba) (m_en) (m_tl) (y6.2.2) (m_ss_f) (m_im_f) (m_re_f) (m_sa_f) (m_ke_f) (m_so_f) (m_si_f) (m_el_f) (m_kd_f) (m_kt_f) (m_nu_f) (m_ca_f) (y6.2.1) (m_co_f) := ⟨⟨(hg6 _ h_m.1).1, e6_m⟩, h_m_ss.grow hg6 (fr_X6_last hT (hT.2.1.2.2.2.2.2.2.2.2.2.2.2.2.2.2.2.2.2.1) (by decide)), h_m_im.grow hg6 (fr_X6_last hT (hT.2.1.2.2.2.2.2.2.2.2.2.2.2.2.2.2.2.2.2.2.1) (by decide)), h_m_re.grow hg6 (fr_X6_last hT (hT.2.1.2.2.2.2.2.2.2.2.2.2.2.2.2.2.2.2.2.2.2.1) (by decide)), h_m_sa.grow hg6 (fr_X6_last hT (hT.2.1.2.2.2.2.2.2.2.2.2.2.2.2.2.2.2.2.2.2.2.2.1) (by decide)), h_m_ke.grow hg6 (fr_X6_last hT (hT.2.1.2.2.2.2.2.2.2.2.2.2.2.2.2.2.2.2.2.2.2.2.2.1) (by decide)), h_m_so.grow hg6 (fr_X6_last hT (hT.2.1.2.2.2.2.2.2.2.2.2.2.2.2.2.2.2.2.2.2.2.2.2.2.1) (by decide)), h_m_si.grow hg6 (fr_X6_last hT (hT.2.1.2.2.2.2.2.2.2.2.2.2.2.2.2.2.2.2.2.2.2.2.2.2.2.1) (by decide)), h_m_el.grow hg6 (fr_X6_last hT (hT.2.1.2.2.2.2.2.2.2.2.2.2.2.2.2.2.2.2.2.2.2.2.2.2.2.2.1) (by decide)), h_m_kd.grow hg6 (fr_X6_last hT (hT.2.1.2.2.2.2.2.2.2.2.2.2.2.2.2.2.2.2.2.2.2.2.2.2.2.2.2.1) (by decide)), h_m_kt.grow hg6 (fr_X6_last hT (hT.2.1.2.2.2.2.2.2.2.2.2.2.2.2.2.2.2.2.2.2.2.2.2.2.2.2.2.2.1) (by decide)), h_m_nu.grow hg6 (fr_X6_last hT (hT.2.1.2.2.2.2.2.2.2.2.2.2.2.2.2.2.2.2.2.2.2.2.2.2.2.2.2.2.2.1) (by decide)), h_m_ca.grow hg6 (fr_X6_last hT (hT.2.1.2.2.2.2.2.2.2.2.2.2.2.2.2.2.2.2.2.2.2.2.2.2.2.2.2.2.2.2.1) (by decide)), ⟨(hg6 _ h_m_ha.1).1, e6_m_ha⟩, h_m_co.grow hg6 (fr_X6_last hT (hT.2.1.2.2.2.2.2.2.2.2.2.2.2.2.2.2.2.2.2.2.2.2.2.2.2.2.2.2.2.2.2.2.1) (by decide))⟩
  have E := last_m (what := (xs (i + 1).toNatClampNeg)) (hs := m_hs) (ha := m_ha_f) hRG hhs
  rw [← ey6] at E
  refine lv_icmp_eq (tgt := 1361) hx hb dL_law_399 (by decide) (fun _ => ?_) (fun c9 => absurd (E.1.trans er6.symm) c9)
  refine W.widen (k := cells + 1) (n := slots + 7) (by omega) (by omega) ?_
  exact kk L F6 H locs ls ⟨m_hi, m_th, m_po, m_ba, m_en, m_tl, y6.2.2, m_ss_f, m_im_f, m_re_f, m_sa_f, m_ke_f, m_so_f, m_si_f, m_el_f, m_kd_f, m_kt_f, m_nu_f, m_ca_f, y6.2.1, m_co_f, fo, ⟨_, _, _, _, _, _, _, _, bN, hRG⟩, ⟨_, _, _, _, _, _, _, _, _, _, _, _, _, _, _, bM⟩, ⟨_, _, _, _, _, _, _, _, _, _, _, _, _, _, _, bK, hKR⟩, ⟨_, _, _, _, _, _, _, _, bSS, hRS⟩, h_x, ⟨_, h_x_co⟩, ⟨_, h_x_ot⟩, bRR, h_o, E.2⟩ w hl

set_option maxHeartbeats 4000000 in
set_option maxRecDepth 100000 in
theorem law_target {p : Program} {l : Launch} {e : Env} {s : State} {mt : MethodId} {below : List Frame} {meth : Method} {c : Code} {H : Heap} {locs : List Loc} {cells slots : Nat} {Q : State → Prop} {D : va_G} {A : Nat → Prop} {L : List Nat} {F : Nat → va_E} {cI cP cS cL : ClassId} {sa : Nat → Nat} {b len : Nat} {xs : Nat → Int32} {ls : Array Slot} {i : Int32} {Lst : List Nat} {x x_no x_no_pa x_no_cr x_no_cr_e x_ke x_ke_pa x_ke_cr x_ke_cr_e x_mi x_mi_pa x_mi_cr x_mi_cr_e x_sh x_co x_ot m m_ss m_im m_re m_sa m_ke m_so m_si m_el m_kd m_kt m_nu m_ca m_ha m_co o : Nat} {pr qk qm sh rw el sp : Nat → Nat} (hT : TG Lst x x_no x_no_pa x_no_cr x_no_cr_e x_ke x_ke_pa x_ke_cr x_ke_cr_e x_mi x_mi_pa x_mi_cr x_mi_cr_e x_sh x_co x_ot m m_ss m_im m_re m_sa m_ke m_so m_si m_el m_kd m_kt m_nu m_ca m_ha m_co o pr qk qm sh rw el sp) (hC : LC p l s mt c D cI cP cS cL A sa b len xs) (hI : ∀ k : Int32, 1 ≤ k.toInt → k.toInt ≤ 5 → vp_in (i + k) len) (hroom : cells + 1 ≤ 600128 ∧ slots + 7 ≤ 7301098) (hV : IV cI cP cS cL x x_no x_no_pa x_no_cr x_no_cr_e x_ke x_ke_pa x_ke_cr x_ke_cr_e x_mi x_mi_pa x_mi_cr x_mi_cr_e x_sh x_co x_ot m m_ss m_im m_re m_sa m_ke m_so m_si m_el m_kd m_kt m_nu m_ca m_ha m_co o pr qk qm sh rw el sp L F) (w : ww D A s.heap L F H locs) (hl : lv_has ls 8 (LV b x m o i)) (kk : ∀ (L1 : List Nat) (F1 : Nat → va_E) (H1 : Heap) (locs1 : List Loc) (ls1 : Array Slot), IV cI cP cS cL x x_no x_no_pa x_no_cr x_no_cr_e x_ke x_ke_pa x_ke_cr x_ke_cr_e x_mi x_mi_pa x_mi_cr x_mi_cr_e x_sh x_co x_ot m m_ss m_im m_re m_sa m_ke m_so m_si m_el m_kd m_kt m_nu m_ca m_ha m_co o pr qk qm sh rw el sp L1 F1 → ww D A s.heap L1 F1 H1 locs1 → lv_has ls1 8 (LV b x m o i) → W p l e room_1 s mt #[Value.ref b] below meth c H1 locs1 (cells + 1) (slots + 7) Q (F0 mt 1361 ls1 [])) : W p l e room_1 s mt #[Value.ref b] below meth c H locs cells slots Q (F0 mt 404 ls []) := by
  have hC0 := hC
  obtain ⟨hx, hb, hml, hts, hown, hK, hX, hA, hXs, hbl, hbA, hst⟩ := hC
  obtain ⟨m_hi, m_th, m_po, m_ba, m_en, m_tl, m_hs, m_ss_f, m_im_f, m_re_f, m_sa_f, m_ke_f, m_so_f, m_si_f, m_el_f, m_kd_f, m_kt_f, m_nu_f, m_ca_f, m_ha_f, m_co_f, fo, ⟨x_no_ls, x_no_cr_so, x_no_cr_sz, x_no_cr_e_f, pr_nu, pr_ki, pr_st, pr_sl, bN, hRG⟩, ⟨x_mi_up, x_mi_down, x_mi_high, x_mi_prize, x_mi_z, x_mi_rounds, x_mi_people, x_mi_ls, x_mi_cr_so, x_mi_cr_sz, x_mi_cr_e_f, qm_nu, qm_ki, qm_st, qm_sl, bM⟩, ⟨x_ke_up, x_ke_down, x_ke_high, x_ke_prize, x_ke_z, x_ke_rounds, x_ke_people, x_ke_ls, x_ke_cr_so, x_ke_cr_sz, x_ke_cr_e_f, qk_nu, qk_ki, qk_st, qk_sl, bK, hKR⟩, ⟨sh_ho, rw_so, rw_sz, el_f, sp_nu, sp_ki, sp_st, sp_sl, bSS, hRS⟩, h_x, ⟨x_co_f, h_x_co⟩, ⟨x_ot_f, h_x_ot⟩, bRR, h_o, hhs⟩ := hV
  have hB := hRG.1
  have h5 := hB.2.2.2.2.1
  have hd20 := hB.2.1
  have hd1 := dn_ne hB
  have hi6 := hi_rng hB
  have hr5 := hB.2.2.2.2.2.2.1
  have hsts : ∀ i, i < 12 → (pr_st i).toInt ≤ 1000 := fun i hi => Int.le_trans (hRG.2.1.2 i hi) (by decide)
  have hzc := hRG.2.2.1
  have hzs : ∀ i, i < 8 → (rw_sz i).toInt ≤ 100 := fun i hi => (hRS i hi).2.2.2.2.1.2
  have hsi : ∀ i, i < 8 → (m_si_f i).toInt ≤ 100 := fun i hi => by rw [(hRS i hi).2.2.2.1]; exact (hRS i hi).2.2.2.2.1.2
  have hsi0 : ∀ i, i < 8 → 0 ≤ (m_si_f i).toInt := fun i hi => by rw [(hRS i hi).2.2.2.1]; exact (hRS i hi).2.2.2.2.1.1
  refine lv_aload_n hx hb dL_law_404 rfl (lv_at hl 1 rfl) ?_
  refine l_arg (x := x) (m := m) (o := o) (v := 1) hC0 w hl dL_law_405 dL_law_406 dL_law_408 dL_law_409 dL_law_410 (by decide) (hI 1 (by decide) (by decide)) ?_
  obtain ⟨h_x_no, h_x_no_pa, h_x_no_cr, h_x_no_cr_e, h_pr⟩ := id bN
  refine w_finI (w_runV (rm := ({ frames := 2, cells := 0, slots := 0, locals := 47 } : Room)) (As := [.int (xs (i + 1).toNatClampNeg)]) (rest := []) (n := 1) hx hb hml hts hown hK w (c_X5_target l D cI cP cS cL L _ x (xs (i + 1).toNatClampNeg) x_no x_ke x_mi m_hi x_sh x_co x_ot (m_ss_f 0) (m_ss_f 1) (m_ss_f 2) (m_ss_f 3) (m_ss_f 4) (m_ss_f 6) (m_ss_f 5) x_no_pa x_no_cr x_no_ls x_no_cr_e x_no_cr_so x_no_cr_sz x_no_cr_e_f h_x h_x_no h_x_no_cr h_x_no_cr_e hzc) gL_law_X5_target rfl rfl rfl (by decide +kernel) ⟨(Nat.le_of_ble_eq_true rfl), (Nat.le_of_ble_eq_true rfl)⟩ h_x rfl rfl hl.1 rfl (Nat.le_of_ble_eq_true rfl) dL_law_411 ⟨by show cells + 0 ≤ 600128; omega, by show slots + 0 ≤ 7301098; omega⟩) w hA (fun H locs w => ?_)
  refine lv_aload_n hx hb dL_law_414 rfl (lv_at hl 2 rfl) ?_
  refine l_arg (x := x) (m := m) (o := o) (v := 1) hC0 w hl dL_law_415 dL_law_416 dL_law_418 dL_law_419 dL_law_420 (by decide) (hI 1 (by decide) (by decide)) ?_
  obtain ⟨h_m, h_m_ss, h_m_im, h_m_re, h_m_sa, h_m_ke, h_m_so, h_m_si, h_m_el, h_m_kd, h_m_kt, h_m_nu, h_m_ca, h_m_ha, h_m_co⟩ := id bRR
  refine w_finj (w_runV (rm := ({ frames := 3, cells := 0, slots := 0, locals := 76 } : Room)) (As := [.int (xs (i + 1).toNatClampNeg)]) (rest := [.int (f_X5_target (xs (i + 1).toNatClampNeg) (m_ss_f 0) (m_ss_f 1) (m_ss_f 6) x_no_cr_sz x_no_cr_e_f)]) (n := 1) hx hb hml hts hown hK w (c_X6_target l D cI cP cS cL L _ m (xs (i + 1).toNatClampNeg) m_ss m_im m_re m_sa m_ke m_so m_si m_el m_kd m_kt m_hi (m_th) m_po m_ba m_en m_tl m_nu m_ca m_ha m_hs m_co m_ss_f m_ha_f h_m h_m_ss h_m_ha h5 hd20 hr5 (lne_34 hT)) gL_law_X6_target rfl rfl rfl (by decide +kernel) ⟨(Nat.le_of_ble_eq_true rfl), (Nat.le_of_ble_eq_true rfl)⟩ h_m rfl rfl hl.1 rfl (Nat.le_of_ble_eq_true rfl) dL_law_421 ⟨by show cells + 0 ≤ 600128; omega, by show slots + 0 ≤ 7301098; omega⟩) w hA (fun r6 F6 H locs hp w => ?_)
  obtain ⟨y6, ey6, er6, e6_m, e6_m_ha, hk6⟩ := hp
  have hg6 := gr_wk (L := L) hk6
  have bN := gN hT (fun k a h h1 h2 => fr_X6_target hT h (by omega)) hg6 bN
  have bK := gK hT (fun k a h h1 h2 => fr_X6_target hT h (by omega)) hg6 bK
  have bM := gM hT (fun k a h h1 h2 => fr_X6_target hT h (by omega)) hg6 bM
  have bSS := gS hT (fun k a h h1 h2 => fr_X6_target hT h (by omega)) hg6 bSS
  have h_x := gx hT (fun k a h h1 h2 => fr_X6_target hT h (by omega)) hg6 h_x
  have h_x_co := gco hT (fun k a h h1 h2 => fr_X6_target hT h (by omega)) hg6 h_x_co
  have h_x_ot := got hT (fun k a h h1 h2 => fr_X6_target hT h (by omega)) hg6 h_x_ot
  have h_o := go hT (fun k a h h1 h2 => fr_X6_target hT h (by omega)) hg6 h_o
  have bRR : bR cI L F6 m m_ss m_im m_re m_sa m_ke m_so m_si m_el m_kd m_kt m_nu m_ca m_ha m_co (m_hi) (m_th) (m_po) (m_ba) (m_en) (m_tl) (y6.2.2) (m_ss_f) (m_im_f) (m_re_f) (m_sa_f) (m_ke_f) (m_so_f) (m_si_f) (m_el_f) (m_kd_f) (m_kt_f) (m_nu_f) (m_ca_f) (y6.2.1) (m_co_f) := ⟨⟨(hg6 _ h_m.1).1, e6_m⟩, h_m_ss.grow hg6 (fr_X6_target hT (hT.2.1.2.2.2.2.2.2.2.2.2.2.2.2.2.2.2.2.2.1) (by decide)), h_m_im.grow hg6 (fr_X6_target hT (hT.2.1.2.2.2.2.2.2.2.2.2.2.2.2.2.2.2.2.2.2.1) (by decide)), h_m_re.grow hg6 (fr_X6_target hT (hT.2.1.2.2.2.2.2.2.2.2.2.2.2.2.2.2.2.2.2.2.2.1) (by decide)), h_m_sa.grow hg6 (fr_X6_target hT (hT.2.1.2.2.2.2.2.2.2.2.2.2.2.2.2.2.2.2.2.2.2.2.1) (by decide)), h_m_ke.grow hg6 (fr_X6_target hT (hT.2.1.2.2.2.2.2.2.2.2.2.2.2.2.2.2.2.2.2.2.2.2.2.1) (by decide)), h_m_so.grow hg6 (fr_X6_target hT (hT.2.1.2.2.2.2.2.2.2.2.2.2.2.2.2.2.2.2.2.2.2.2.2.2.1) (by decide)), h_m_si.grow hg6 (fr_X6_target hT (hT.2.1.2.2.2.2.2.2.2.2.2.2.2.2.2.2.2.2.2.2.2.2.2.2.2.1) (by decide)), h_m_el.grow hg6 (fr_X6_target hT (hT.2.1.2.2.2.2.2.2.2.2.2.2.2.2.2.2.2.2.2.2.2.2.2.2.2.2.1) (by decide)), h_m_kd.grow hg6 (fr_X6_target hT (hT.2.1.2.2.2.2.2.2.2.2.2.2.2.2.2.2.2.2.2.2.2.2.2.2.2.2.2.1) (by decide)), h_m_kt.grow hg6 (fr_X6_target hT (hT.2.1.2.2.2.2.2.2.2.2.2.2.2.2.2.2.2.2.2.2.2.2.2.2.2.2.2.2.1) (by decide)), h_m_nu.grow hg6 (fr_X6_target hT (hT.2.1.2.2.2.2.2.2.2.2.2.2.2.2.2.2.2.2.2.2.2.2.2.2.2.2.2.2.2.1) (by decide)), h_m_ca.grow hg6 (fr_X6_target hT (hT.2.1.2.2.2.2.2.2.2.2.2.2.2.2.2.2.2.2.2.2.2.2.2.2.2.2.2.2.2.2.1) (by decide)), ⟨(hg6 _ h_m_ha.1).1, e6_m_ha⟩, h_m_co.grow hg6 (fr_X6_target hT (hT.2.1.2.2.2.2.2.2.2.2.2.2.2.2.2.2.2.2.2.2.2.2.2.2.2.2.2.2.2.2.2.2.1) (by decide))⟩
  have E := target_m (part := (xs (i + 1).toNatClampNeg)) (hs := m_hs) (ha := m_ha_f) hRG hhs
  rw [← ey6] at E
  refine lv_icmp_eq (tgt := 1361) hx hb dL_law_424 (by decide) (fun _ => ?_) (fun c9 => absurd (E.1.trans er6.symm) c9)
  refine W.widen (k := cells + 1) (n := slots + 7) (by omega) (by omega) ?_
  exact kk L F6 H locs ls ⟨m_hi, m_th, m_po, m_ba, m_en, m_tl, y6.2.2, m_ss_f, m_im_f, m_re_f, m_sa_f, m_ke_f, m_so_f, m_si_f, m_el_f, m_kd_f, m_kt_f, m_nu_f, m_ca_f, y6.2.1, m_co_f, fo, ⟨_, _, _, _, _, _, _, _, bN, hRG⟩, ⟨_, _, _, _, _, _, _, _, _, _, _, _, _, _, _, bM⟩, ⟨_, _, _, _, _, _, _, _, _, _, _, _, _, _, _, bK, hKR⟩, ⟨_, _, _, _, _, _, _, _, bSS, hRS⟩, h_x, ⟨_, h_x_co⟩, ⟨_, h_x_ot⟩, bRR, h_o, E.2⟩ w hl
