/-! THE CLAIM OUT OF ONE WALK OF THE LAW'S BODY. Your part is whole_start (and what it stands on); all else here is the same for every law, but numbers. -/
def R_law : String := "TwoThirdsLaw"
def lw_P (b : Addr) (xs : List Int32) (args : Array Value) (s : State) : Prop := args = #[.ref b] ∧ s.IntsAt b xs ∧ xs.length ≤ 384 ∧ (Jvm.Cond.and given_1 narrow_1).before args s = true
def lw_Q (_ : Array Value) (s : State) (o : Outcome) (t : State) : Prop := o = .returned (some (.int 1)) ∧ Framed s o t [] 600128 7301098
def lw_Z (below : List Frame) (a : Array Value) (s : State) : State → Prop := fun t => ∃ o, t.status = .running ∧ Ended t below o ∧ lw_Q a s o t
/-- the law's own end, with 1 on the stack, nothing written that was there before, its room as the claim has it -/
theorem lw_ret {p : Program} {l : Launch} {e : Env} {s : State} {m : MethodId} {below : List Frame} {meth : Method} {c : Code} {b : Nat} (hx : p.tables.exec = Jvm.exec) (hb : c.code = code) (hr : meth.sig.returnType = ret) (hlocks : meth.locks = false) {pc : Nat} {H : Heap} {ls : Array Slot} (hdg : decode code pc = .ok (.ireturn, 1)) : W p l e room_1 s m #[Value.ref b] below meth c H [] 600128 7301098 (lw_Z below #[Value.ref b] s) (F0 m pc ls [.int 1]) := by
  intro T hT X
  obtain ⟨fs, hret, hrun, hended, hW, hframe⟩ := X.leave (v := some (.int 1)) (hlocks := hlocks) (fun h => by rw [hr] at h; cases h)
  have hmeth' : T.vm.method? m = some meth := X.method'
  refine ⟨T.setFrames fs, ?_, .returned (some (.int 1)), hrun, hended, rfl, ⟨_, rfl⟩, hW, hframe⟩
  jvm_step X.here [X.here.top, hx, hb, hdg, hmeth', hr, ret, narrow_b1]
  (try refine ⟨rfl, ?_⟩); (try refine ⟨rfl, ?_⟩)
  first | (intro acts; rw [hret _ acts rfl rfl rfl]) | rw [hret _ _ rfl rfl rfl]
  exact Steps.refl _
/-- what holds at the law's entry: the machine, the code, the tables' words (any of lw_tbl by 'hts w (by decide +kernel)'), the script of L ints xs at the cell b, what the Statement gives of the start (any of its parts by flat_of_before) -/
def lw_At (p : Program) (s : State) (m : MethodId) (meth : Method) (c : Code) (b L : Nat) (xs : Nat → Int32) : Prop :=
  p.tables.exec = Jvm.exec ∧ c.code = code ∧ meth.sig.returnType = ret ∧ c.maxLocals = 8 ∧ s.vm.findClass R_law = some m.cls ∧ (∀ w ∈ lw_tbl, w.before #[Value.ref b] s = true) ∧ va_X b L xs s s.heap ∧ b < s.heap.size ∧ meth.locks = false ∧ (Jvm.Cond.and given_1 narrow_1).before #[Value.ref b] s = true

/-! THE LOOP -/
theorem nI_add6 {a : Nat} (h : a < 1000000) : nI a + Int32.ofInt 6 = nI (a + 6) := by
  have e : (Int32.ofInt 6).toInt = 6 := rfl
  refine xin ?_
  rw [addI (by rw [nI_toInt (by omega), e]; omega), nI_toInt (by omega), nI_toInt (by omega), e]; omega
set_option maxHeartbeats 4000000 in
set_option maxRecDepth 100000 in
theorem law_loop {p : Program} {l : Launch} {e : Env} {s : State} {mt : MethodId} {below : List Frame} {meth : Method} {c : Code} {D : va_G} {A : Nat → Prop} {cI cP cS cL : ClassId} {sa : Nat → Nat} {b len : Nat} {xs : Nat → Int32} {Lst : List Nat} {x x_no x_no_pa x_no_cr x_no_cr_e x_ke x_ke_pa x_ke_cr x_ke_cr_e x_mi x_mi_pa x_mi_cr x_mi_cr_e x_sh x_co x_ot m m_ss m_im m_re m_sa m_ke m_so m_si m_el m_kd m_kt m_nu m_ca m_ha m_co o : Nat} {pr qk qm sh rw el sp : Nat → Nat} (hT : TG Lst x x_no x_no_pa x_no_cr x_no_cr_e x_ke x_ke_pa x_ke_cr x_ke_cr_e x_mi x_mi_pa x_mi_cr x_mi_cr_e x_sh x_co x_ot m m_ss m_im m_re m_sa m_ke m_so m_si m_el m_kd m_kt m_nu m_ca m_ha m_co o pr qk qm sh rw el sp) (hlen : len ≤ 384) (hret : meth.sig.returnType = ret) (hlocks : meth.locks = false) (hAs : ∀ q : Nat, A q → s.heap.size ≤ q) (hC : LC p l s mt c D cI cP cS cL A sa b len xs) :
    ∀ (n j : Nat) (L : List Nat) (F : Nat → va_E) (H : Heap) (locs : List Loc) (ls : Array Slot), j ≤ 64 → 64 - j < n → IV cI cP cS cL x x_no x_no_pa x_no_cr x_no_cr_e x_ke x_ke_pa x_ke_cr x_ke_cr_e x_mi x_mi_pa x_mi_cr x_mi_cr_e x_sh x_co x_ot m m_ss m_im m_re m_sa m_ke m_so m_si m_el m_kd m_kt m_nu m_ca m_ha m_co o pr qk qm sh rw el sp L F → ww D A s.heap L F H locs → lv_has ls 8 (LV b x m o (nI (6 * j))) → W p l e room_1 s mt #[Value.ref b] below meth c H locs (100 + j) (2377 + 7 * j) (lw_Z below #[Value.ref b] s) (F0 mt 23 ls []) := by
  have hC0 := hC
  obtain ⟨hx, hb, hml, hts, hown, hK, hX, hA, hXs, hbl, hbA, hst⟩ := hC
  intro n
  induction n with
  | zero => intro j _ _ _ _ _ _ h; exact absurd h (Nat.not_lt_zero _)
  | succ n ih =>
    intro j L F H locs ls hj hm hV w hl
    have h6 : (6 : Int32).toInt = 6 := rfl
    have hle : (Int32.ofNat len).toInt = len := nI_toInt (n := len) (by omega)
    have hji : (nI (6 * j)).toInt = 6 * j := by rw [nI_toInt (by omega)]; omega
    have hd : (Int32.ofNat len - 6).toInt = len - 6 := by rw [subI (by rw [hle, h6]; omega), hle, h6]
    refine lv_iload hx hb dL_law_23 (lv_at hl 4 rfl) ?_
    refine lv_aload_n hx hb dL_law_25 rfl (lv_at hl 0 rfl) ?_
    refine va_slen hx hb hXs hbl hbA w.2.2 dL_law_26 ?_
    refine lv_bipush (v := 6) hx hb dL_law_27 (by decide) ?_
    refine lv_isub hx hb dL_law_29 ?_
    refine lv_icmp_gt (tgt := 1367) hx hb dL_law_30 (by decide) (fun c1 => ?_) (fun c1 => ?_)
    · refine lv_iconst (v := 1) hx hb dL_law_1367 (by decide) ?_
      refine va_forget (fun q hq => hAs _ (w.2.2.2.2 q hq)) ?_
      refine W.widen (k := 600128) (n := 7301098) (by omega) (by omega) ?_
      exact lw_ret hx hb hret hlocks dL_law_1368
    · rw [xlt, hji, hd] at c1
      have hjl : 6 * j + 6 ≤ len := by omega
      refine lv_aload_n hx hb dL_law_33 rfl (lv_at hl 0 rfl) ?_
      refine lv_iload hx hb dL_law_34 (lv_at hl 4 rfl) ?_
      refine va_sld hx hb hXs hbl hbA w.2.2 (vp_in_nI (n := 6 * j) (N := len) (by omega) (by omega)) dL_law_36 ?_
      refine lv_bipush (v := 63) hx hb dL_law_37 (by decide) ?_
      refine lv_iand hx hb dL_law_39 ?_
      have hI : ∀ k : Int32, 1 ≤ k.toInt → k.toInt ≤ 5 → vp_in (nI (6 * j) + k) len := by
        intro k k1 k5
        refine vp_in_iff.mpr ?_
        rw [addI (by rw [hji]; omega), hji]
        omega
      have kk : ∀ (L1 : List Nat) (F1 : Nat → va_E) (H1 : Heap) (locs1 : List Loc) (ls1 : Array Slot), IV cI cP cS cL x x_no x_no_pa x_no_cr x_no_cr_e x_ke x_ke_pa x_ke_cr x_ke_cr_e x_mi x_mi_pa x_mi_cr x_mi_cr_e x_sh x_co x_ot m m_ss m_im m_re m_sa m_ke m_so m_si m_el m_kd m_kt m_nu m_ca m_ha m_co o pr qk qm sh rw el sp L1 F1 → ww D A s.heap L1 F1 H1 locs1 → lv_has ls1 8 (LV b x m o (nI (6 * j))) → W p l e room_1 s mt #[Value.ref b] below meth c H1 locs1 (100 + j + 1) (2377 + 7 * j + 7) (lw_Z below #[Value.ref b] s) (F0 mt 1361 ls1 []) := by
        intro L1 F1 H1 locs1 ls1 hV1 w1 hl1
        refine lv_iinc (v := nI (6 * j + 6)) (lv' := [(4, .int (nI (6 * j + 6))), (0, .ref b), (1, .ref x), (2, .ref m), (3, .ref o)]) hx hb dL_law_1361 hl1 (k := 4) rfl (nI_add6 (by omega)) (by decide) rfl (fun ls hl => ?_)
        refine lv_goto (tgt := 23) hx hb dL_law_1364 (by decide) ?_
        rw [show 2377 + 7 * j + 7 = 2377 + 7 * (j + 1) by omega, show 100 + j + 1 = 100 + (j + 1) by omega]
        exact ih (j + 1) L1 F1 H1 locs1 ls (by omega) (by omega) hV1 w1 (lv_sub hl [1, 2, 3, 4, 0] (by rw [show 6 * (j + 1) = 6 * j + 6 by omega]; rfl))
      have hroom : 100 + j + 1 ≤ 600128 ∧ 2377 + 7 * j + 7 ≤ 7301098 := by omega
      generalize xs (nI (6 * j)).toNatClampNeg &&& 63 = z
      by_cases c_0 : z = 0
      · refine w_ts (v := 0) (off := 152) (tgt := 192) hx hb dL_law_40 c_0 (by decide) (by decide) rfl (by decide) ?_
        exact law_crowd hT hC0 hI hroom hV w hl kk
      by_cases c_1 : z = 1
      · refine w_ts (v := 1) (off := 177) (tgt := 217) hx hb dL_law_40 c_1 (by decide) (by decide) rfl (by decide) ?_
        exact law_of hT hC0 hI hroom hV w hl kk
      by_cases c_2 : z = 2
      · refine w_ts (v := 2) (off := 214) (tgt := 254) hx hb dL_law_40 c_2 (by decide) (by decide) rfl (by decide) ?_
        exact law_set hT hC0 hI hroom hV w hl kk
      by_cases c_3 : z = 3
      · refine w_ts (v := 3) (off := 251) (tgt := 291) hx hb dL_law_40 c_3 (by decide) (by decide) rfl (by decide) ?_
        exact law_steps hT hC0 hI hroom hV w hl kk
      by_cases c_4 : z = 4
      · refine w_ts (v := 4) (off := 288) (tgt := 328) hx hb dL_law_40 c_4 (by decide) (by decide) rfl (by decide) ?_
        exact law_holds hT hC0 hI hroom hV w hl kk
      by_cases c_5 : z = 5
      · refine w_ts (v := 5) (off := 313) (tgt := 353) hx hb dL_law_40 c_5 (by decide) (by decide) rfl (by decide) ?_
        exact law_round hT hC0 hI hroom hV w hl kk
      by_cases c_6 : z = 6
      · refine w_ts (v := 6) (off := 326) (tgt := 366) hx hb dL_law_40 c_6 (by decide) (by decide) rfl (by decide) ?_
        exact law_anew hT hC0 hI hroom hV w hl kk
      by_cases c_7 : z = 7
      · refine w_ts (v := 7) (off := 339) (tgt := 379) hx hb dL_law_40 c_7 (by decide) (by decide) rfl (by decide) ?_
        exact law_last hT hC0 hI hroom hV w hl kk
      by_cases c_8 : z = 8
      · refine w_ts (v := 8) (off := 364) (tgt := 404) hx hb dL_law_40 c_8 (by decide) (by decide) rfl (by decide) ?_
        exact law_target hT hC0 hI hroom hV w hl kk
      by_cases c_9 : z = 9
      · refine w_ts (v := 9) (off := 389) (tgt := 429) hx hb dL_law_40 c_9 (by decide) (by decide) rfl (by decide) ?_
        exact law_wins hT hC0 hI hroom hV w hl kk
      by_cases c_10 : z = 10
      · refine w_ts (v := 10) (off := 426) (tgt := 466) hx hb dL_law_40 c_10 (by decide) (by decide) rfl (by decide) ?_
        exact law_mean hT hC0 hI hroom hV w hl kk
      by_cases c_11 : z = 11
      · refine w_ts (v := 11) (off := 475) (tgt := 515) hx hb dL_law_40 c_11 (by decide) (by decide) rfl (by decide) ?_
        exact law_winners hT hC0 hI hroom hV w hl kk
      by_cases c_12 : z = 12
      · refine w_ts (v := 12) (off := 512) (tgt := 552) hx hb dL_law_40 c_12 (by decide) (by decide) rfl (by decide) ?_
        exact law_best hT hC0 hI hroom hV w hl kk
      by_cases c_13 : z = 13
      · refine w_ts (v := 13) (off := 537) (tgt := 577) hx hb dL_law_40 c_13 (by decide) (by decide) rfl (by decide) ?_
        exact law_level hT hC0 hI hroom hV w hl kk
      by_cases c_14 : z = 14
      · refine w_ts (v := 14) (off := 562) (tgt := 602) hx hb dL_law_40 c_14 (by decide) (by decide) rfl (by decide) ?_
        exact law_stepsOf hT hC0 hI hroom hV w hl kk
      by_cases c_15 : z = 15
      · refine w_ts (v := 15) (off := 587) (tgt := 627) hx hb dL_law_40 c_15 (by decide) (by decide) rfl (by decide) ?_
        exact law_shares hT hC0 hI hroom hV w hl kk
      by_cases c_16 : z = 16
      · refine w_ts (v := 16) (off := 624) (tgt := 664) hx hb dL_law_40 c_16 (by decide) (by decide) rfl (by decide) ?_
        exact law_words hT hC0 hI hroom hV w hl kk
      by_cases c_17 : z = 17
      · refine w_ts (v := 17) (off := 673) (tgt := 713) hx hb dL_law_40 c_17 (by decide) (by decide) rfl (by decide) ?_
        exact law_ahead hT hC0 hI hroom hV w hl kk
      by_cases c_18 : z = 18
      · refine w_ts (v := 18) (off := 722) (tgt := 762) hx hb dL_law_40 c_18 (by decide) (by decide) rfl (by decide) ?_
        exact law_worth hT hC0 hI hroom hV w hl kk
      by_cases c_19 : z = 19
      · refine w_ts (v := 19) (off := 760) (tgt := 800) hx hb dL_law_40 c_19 (by decide) (by decide) rfl (by decide) ?_
        exact law_jokers hT hC0 hI hroom hV w hl kk
      by_cases c_20 : z = 20
      · refine w_ts (v := 20) (off := 797) (tgt := 837) hx hb dL_law_40 c_20 (by decide) (by decide) rfl (by decide) ?_
        exact law_differ hT hC0 hI hroom hV w hl kk
      by_cases c_21 : z = 21
      · refine w_ts (v := 21) (off := 834) (tgt := 874) hx hb dL_law_40 c_21 (by decide) (by decide) rfl (by decide) ?_
        exact law_judge hT hC0 hI hroom hV w hl kk
      by_cases c_22 : z = 22
      · refine w_ts (v := 22) (off := 859) (tgt := 899) hx hb dL_law_40 c_22 (by decide) (by decide) rfl (by decide) ?_
        exact law_ends hT hC0 hI hroom hV w hl kk
      by_cases c_23 : z = 23
      · refine w_ts (v := 23) (off := 884) (tgt := 924) hx hb dL_law_40 c_23 (by decide) (by decide) rfl (by decide) ?_
        exact law_parts hT hC0 hI hroom hV w hl kk
      by_cases c_24 : z = 24
      · refine w_ts (v := 24) (off := 933) (tgt := 973) hx hb dL_law_40 c_24 (by decide) (by decide) rfl (by decide) ?_
        exact law_image hT hC0 hI hroom hV w hl kk
      by_cases c_25 : z = 25
      · refine w_ts (v := 25) (off := 946) (tgt := 986) hx hb dL_law_40 c_25 (by decide) (by decide) rfl (by decide) ?_
        exact law_restore hT hC0 hI hroom hV w hl kk
      by_cases c_26 : z = 26
      · refine w_ts (v := 26) (off := 959) (tgt := 999) hx hb dL_law_40 c_26 (by decide) (by decide) rfl (by decide) ?_
        exact law_count hT hC0 hI hroom hV w hl kk
      by_cases c_27 : z = 27
      · refine w_ts (v := 27) (off := 984) (tgt := 1024) hx hb dL_law_40 c_27 (by decide) (by decide) rfl (by decide) ?_
        exact law_keep hT hC0 hI hroom hV w hl kk
      by_cases c_28 : z = 28
      · refine w_ts (v := 28) (off := 1033) (tgt := 1073) hx hb dL_law_40 c_28 (by decide) (by decide) rfl (by decide) ?_
        exact law_row hT hC0 hI hroom hV w hl kk
      by_cases c_29 : z = 29
      · refine w_ts (v := 29) (off := 1082) (tgt := 1122) hx hb dL_law_40 c_29 (by decide) (by decide) rfl (by decide) ?_
        exact law_put hT hC0 hI hroom hV w hl kk
      by_cases c_30 : z = 30
      · refine w_ts (v := 30) (off := 1131) (tgt := 1171) hx hb dL_law_40 c_30 (by decide) (by decide) rfl (by decide) ?_
        exact law_element hT hC0 hI hroom hV w hl kk
      by_cases c_31 : z = 31
      · refine w_ts (v := 31) (off := 1198) (tgt := 1238) hx hb dL_law_40 c_31 (by decide) (by decide) rfl (by decide) ?_
        exact law_copy hT hC0 hI hroom hV w hl kk
      by_cases c_32 : z = 32
      · refine w_ts (v := 32) (off := 1271) (tgt := 1311) hx hb dL_law_40 c_32 (by decide) (by decide) rfl (by decide) ?_
        exact law_depth hT hC0 hI hroom hV w hl kk
      by_cases c_33 : z = 33
      · refine w_ts (v := 33) (off := 1296) (tgt := 1336) hx hb dL_law_40 c_33 (by decide) (by decide) rfl (by decide) ?_
        exact law_toss hT hC0 hI hroom hV w hl kk
      have d_0 := w_ne (n := 0) c_0 rfl
      have d_1 := w_ne (n := 1) c_1 rfl
      have d_2 := w_ne (n := 2) c_2 rfl
      have d_3 := w_ne (n := 3) c_3 rfl
      have d_4 := w_ne (n := 4) c_4 rfl
      have d_5 := w_ne (n := 5) c_5 rfl
      have d_6 := w_ne (n := 6) c_6 rfl
      have d_7 := w_ne (n := 7) c_7 rfl
      have d_8 := w_ne (n := 8) c_8 rfl
      have d_9 := w_ne (n := 9) c_9 rfl
      have d_10 := w_ne (n := 10) c_10 rfl
      have d_11 := w_ne (n := 11) c_11 rfl
      have d_12 := w_ne (n := 12) c_12 rfl
      have d_13 := w_ne (n := 13) c_13 rfl
      have d_14 := w_ne (n := 14) c_14 rfl
      have d_15 := w_ne (n := 15) c_15 rfl
      have d_16 := w_ne (n := 16) c_16 rfl
      have d_17 := w_ne (n := 17) c_17 rfl
      have d_18 := w_ne (n := 18) c_18 rfl
      have d_19 := w_ne (n := 19) c_19 rfl
      have d_20 := w_ne (n := 20) c_20 rfl
      have d_21 := w_ne (n := 21) c_21 rfl
      have d_22 := w_ne (n := 22) c_22 rfl
      have d_23 := w_ne (n := 23) c_23 rfl
      have d_24 := w_ne (n := 24) c_24 rfl
      have d_25 := w_ne (n := 25) c_25 rfl
      have d_26 := w_ne (n := 26) c_26 rfl
      have d_27 := w_ne (n := 27) c_27 rfl
      have d_28 := w_ne (n := 28) c_28 rfl
      have d_29 := w_ne (n := 29) c_29 rfl
      have d_30 := w_ne (n := 30) c_30 rfl
      have d_31 := w_ne (n := 31) c_31 rfl
      have d_32 := w_ne (n := 32) c_32 rfl
      have d_33 := w_ne (n := 33) c_33 rfl
      refine lv_tableOut (tgt := 1361) hx hb dL_law_40 (by omega) (by decide) ?_
      refine W.widen (k := 100 + j + 1) (n := 2377 + 7 * j + 7) (by omega) (by omega) ?_
      exact kk L F H locs ls hV w hl
