abbrev eL (cL : ClassId) (n : Nat) (f : Nat → Int64) : va_E := .inl (cL, n, .inr (.inl f))
theorem elem_cases (d i0 : Int32) (ho sz : Nat → Int32) (el : Nat → Nat → Int32) : (f_X5_element d i0 ho sz el).1 = 0 ∨ (f_X5_element d i0 ho sz el).1 = 1 ∨ (f_X5_element d i0 ho sz el).1 = 2 := by
  unfold f_X5_element
  repeat' split
  all_goals first | exact Or.inl rfl | exact Or.inr (Or.inl rfl) | exact Or.inr (Or.inr rfl)
theorem w_lst {p : Program} {l : Launch} {e : Env} {R : Room} {s : State} {m : MethodId} {args : Array Value} {below : List Frame} {meth : Method} {c : Code} {H : Heap} {locs : List Loc} {cells slots : Nat} {Q : State → Prop} {cc : ByteArray} {pc : Nat} {ls : Array Slot} {rest : List Value} {D : va_G} {A : Nat → Prop} {L : List Nat} {F : Nat → va_E} {H0 : Heap} {cI cP cS cL : ClassId} {a : Nat} (hx : p.tables.exec = Jvm.exec) (hb : c.code = cc) (hK : wK D cI cP cS cL s) (w : ww D A H0 L F H locs) {n : Nat} {f : Nat → Int64} (hi : wi L F a (eL cL n f)) {i : Int32} {x : Int64} (hin : vp_in i n) (hdg : decode cc pc = .ok (.lastore, 1))
    (kk : ∀ (H1 : Heap) (locs1 : List Loc), ww D A H0 L (va_up F a (eL cL n (vp_updL f i.toNatClampNeg x))) H1 locs1 → wi L (va_up F a (eL cL n (vp_updL f i.toNatClampNeg x))) a (eL cL n (vp_updL f i.toNatClampNeg x)) → W p l e R s m args below meth c H1 locs1 cells slots Q (F0 m (pc + 1) ls rest)) : W p l e R s m args below meth c H locs cells slots Q (F0 m pc ls (.long x :: .int i :: .ref a :: rest)) := by
  obtain ⟨q0, h9, h0⟩ := hi.at
  exact va_last hx hb hK.1 w.1 w.2.1 w.2.2 q0 3 h0 rfl hin hdg (fun H1 locs1 h1 h2 h3 => kk H1 locs1 (ww_set w.2.1 hi.1 h9 h1 h2 h3) hi.self)
theorem w_lld {p : Program} {l : Launch} {e : Env} {R : Room} {s : State} {m : MethodId} {args : Array Value} {below : List Frame} {meth : Method} {c : Code} {H : Heap} {locs : List Loc} {cells slots : Nat} {Q : State → Prop} {cc : ByteArray} {pc : Nat} {ls : Array Slot} {rest : List Value} {D : va_G} {A : Nat → Prop} {L : List Nat} {F : Nat → va_E} {H0 : Heap} {cI cP cS cL : ClassId} {a : Nat} (hx : p.tables.exec = Jvm.exec) (hb : c.code = cc) (hK : wK D cI cP cS cL s) (w : ww D A H0 L F H locs) {n : Nat} {f : Nat → Int64} (hi : wi L F a (eL cL n f)) {i : Int32} (hin : vp_in i n) (hdg : decode cc pc = .ok (.laload, 1))
    (kk : W p l e R s m args below meth c H locs cells slots Q (F0 m (pc + 1) ls (.long (f i.toNatClampNeg) :: rest))) : W p l e R s m args below meth c H locs cells slots Q (F0 m pc ls (.int i :: .ref a :: rest)) := by
  obtain ⟨q0, -, h0⟩ := hi.at
  exact va_lald hx hb hK.1 w.1 q0 3 h0 rfl hin hdg kk
set_option maxHeartbeats 400000 in
set_option maxRecDepth 100000 in
theorem c_L_element (l : Launch) (hst : l.stackTraces = false) (D : va_G) (cI cP cS cL : ClassId) (sa : Nat → Nat) (L : List Nat) (F : Nat → va_E) (x : Nat) (d : Int32) (i0 : Int32) (x_no : Nat) (x_ke : Nat) (x_mi : Nat) (x_im : Int32) (x_sh : Nat) (x_co : Nat) (x_ot : Nat) (sh : Nat → Nat) (sh_ho : Nat → Int32) (rw : Nat → Nat) (sp : Nat → Nat) (el : Nat → Nat) (rw_so : Nat → Int32) (rw_sz : Nat → Int32) (el_f : Nat → Nat → Int32) (o : Nat) (fo : Nat → Int64) (h_x : wi L F x (eX x_no x_ke x_mi x_im x_sh x_co x_ot)) (h_x_sh : wi L F x_sh (eQ cS 8 (fun i => some (sh i)))) (h_sh : ∀ i, i < 8 → wi L F (sh i) (eS (sh_ho i) (rw i) (sp i))) (h_rw : ∀ i, i < 8 → wi L F (rw i) (eR (el i) (rw_so i) (rw_sz i))) (h_el : ∀ i, i < 8 → wi L F (el i) (eI cI 100 (el_f i))) (hzs : ∀ i, i < 8 → (rw_sz i).toInt ≤ 100) (h_o : wi L F o (eL cL 1 fo)) : wMx l D cI cP cS cL sa yL_element wsL_element ({ frames := 7, cells := 1, slots := 6, locals := 105 } : Room) [.ref x, .int d, .int i0, .ref o] L F (fun A => wQi D A (fun r1 L1 F1 => r1 = (f_X5_element d i0 sh_ho rw_sz el_f).1 ∧ L1 = L ∧ F1 o = eL cL 1 (if (f_X5_element d i0 sh_ho rw_sz el_f).1 = 0 then vp_updL fo 0 (f_X5_element d i0 sh_ho rw_sz el_f).2 else fo) ∧ wk (fun q : Nat => q ≠ o ∧ True) F1 F)) (fun _ _ _ => False) 1 6 := by
  refine wMx.ofH (cc := cL_element) (maxL := 5) (ret := some .int) (by decide) rfl (Nat.le_of_ble_eq_true rfl) ?_
  intro pZ eZ sZ mZ below meth cZ A ls C htab hX hl w
  obtain ⟨hx, hb, hr, hml, hts, hown, hlocks, hK, hA, hin⟩ := C
  have hown : sZ.vm.findClass RL = some mZ.cls := hown
  have hl : lv_has ls 5 [(0, .ref x), (1, .int d), (2, .int i0), (3, .ref o)] := hl
  have m_0 : ((.classLink RL 13 xIAE) : Cond) ∈ wsL_element := by decide +kernel
  have m_1 : ((.classLink RL 15 xISE) : Cond) ∈ wsL_element := by decide +kernel
  refine lv_aload_n hx hb dL_element_0 rfl (lv_at hl 3 rfl) ?_
  refine lv_iconst (v := 0) hx hb dL_element_1 (by decide) ?_
  refine lv_aload_n hx hb dL_element_2 rfl (lv_at hl 0 rfl) ?_
  refine lv_iload_n hx hb dL_element_3 rfl (lv_at hl 1 rfl) ?_
  refine lv_iload_n hx hb dL_element_4 rfl (lv_at hl 2 rfl) ?_
  refine wx_finl (wx_runV (rm := ({ frames := 6, cells := 1, slots := 6, locals := 82 } : Room)) (As := [.int d, .int i0]) (rest := [.int 0, .ref o]) (n := 2) hx hb hml hts hown hK w hA hX (c_X5_element l hst D cI cP cS cL sa L _ x d i0 x_no x_ke x_mi x_im x_sh x_co x_ot sh sh_ho rw sp el rw_so rw_sz el_f h_x h_x_sh h_sh h_rw h_el hzs) gL_element_X5_element rfl rfl rfl (by decide +kernel) ⟨(Nat.le_of_ble_eq_true rfl), (Nat.le_of_ble_eq_true rfl)⟩ h_x rfl rfl hl.1 rfl (Nat.le_of_ble_eq_true rfl) dL_element_5 ⟨(Nat.le_of_ble_eq_true rfl), (Nat.le_of_ble_eq_true rfl)⟩) w hA (fun E ce q9 L9 F9 H locs hp w hc9 hv9 hcl9 => ?_) (fun r9 L9 F9 H locs hp w => ?_)
  · obtain ⟨hne9, hE9, hL9, hF9⟩ := hp
    rw [hL9, hF9] at w
    by_cases c9 : (f_X5_element d i0 sh_ho rw_sz el_f).1 = 1
    · skip
      rw [c9] at hE9
      have hE9 := hE9.trans exn1
      subst hE9
      refine vx_catch (own := RL) (name := xIAE) hown [] { startPc := 0, endPc := 9, handlerPc := 12, catchType := 13 } [{ startPc := 0, endPc := 9, handlerPc := 16, catchType := 15 }] (by rw [htab]; rfl) (fun z hz => by cases hz) rfl (by decide) (hts _ m_0) (va_tabs (wBad_tabs _ (by decide +kernel)) rfl (hX.2.1 (.castable xIAE xIAE) (by decide +kernel))) hc9 hv9 hcl9 ?_
      refine lv_astore (lv' := [(4, .ref q9), (0, .ref x), (1, .int d), (2, .int i0), (3, .ref o)]) hx hb dL_element_12 hl (by decide) rfl (fun ls hl => ?_)
      refine lv_iconst (v := 1) hx hb dL_element_14 (by decide) ?_
      exact vx_ret (w_iret hx hb hr hlocks w ⟨c9.symm, rfl, by rw [if_neg hne9]; exact h_o.2, wk.rf⟩ (Nat.le_of_ble_eq_true rfl) (Nat.le_of_ble_eq_true rfl) dL_element_15)
    · skip
      have c9 : (f_X5_element d i0 sh_ho rw_sz el_f).1 = 2 := by rcases elem_cases d i0 sh_ho rw_sz el_f with h | h | h; exact absurd h hne9; exact absurd h c9; exact h
      rw [c9] at hE9
      have hE9 := hE9.trans exn2
      subst hE9
      refine vx_catch (own := RL) (name := xISE) hown [{ startPc := 0, endPc := 9, handlerPc := 12, catchType := 13 }] { startPc := 0, endPc := 9, handlerPc := 16, catchType := 15 } [] (by rw [htab]; rfl) (fun z hz => by rcases List.mem_cons.mp hz with rfl | hz; exact Or.inr ⟨by decide, xIAE, (hts _ m_0), hX.2.2.1.2.2⟩; cases hz) rfl (by decide) (hts _ m_1) (va_tabs (wBad_tabs _ (by decide +kernel)) rfl (hX.2.1 (.castable xISE xISE) (by decide +kernel))) hc9 hv9 hcl9 ?_
      refine lv_astore (lv' := [(4, .ref q9), (0, .ref x), (1, .int d), (2, .int i0), (3, .ref o)]) hx hb dL_element_16 hl (by decide) rfl (fun ls hl => ?_)
      refine lv_iconst (v := 2) hx hb dL_element_18 (by decide) ?_
      exact vx_ret (w_iret hx hb hr hlocks w ⟨c9.symm, rfl, by rw [if_neg hne9]; exact h_o.2, wk.rf⟩ (Nat.le_of_ble_eq_true rfl) (Nat.le_of_ble_eq_true rfl) dL_element_19)
  · obtain ⟨h09, hL9, hF9⟩ := hp
    rw [hL9, hF9] at w
    have h0 : (f_X5_element d i0 sh_ho rw_sz el_f).1 = 0 := by rw [h09]
    have h1 : r9 = (f_X5_element d i0 sh_ho rw_sz el_f).2 := by rw [h09]
    refine w_lst hx hb hK w h_o (vp_in_nI (n := 0) (N := 1) (by decide) (by decide)) dL_element_8 (fun H locs w h_o => ?_)
    refine lv_goto (tgt := 20) hx hb dL_element_9 (by decide) ?_
    refine lv_iconst (v := 0) hx hb dL_element_20 (by decide) ?_
    exact vx_ret (w_iret hx hb hr hlocks w ⟨h0.symm, rfl, by rw [if_pos h0, ← h1]; exact h_o.2, wk.rf.upw h_o (fun q h => h.1)⟩ (Nat.le_of_ble_eq_true rfl) (Nat.le_of_ble_eq_true rfl) dL_element_21)
