set_option maxHeartbeats 4000000 in
set_option maxRecDepth 100000 in
theorem whole_start {p : Program} {e : Env} {s : State} {m : MethodId} {below : List Frame} {meth : Method} {c : Code} (l : Launch) (hflags : l.flags = flags0) {b L : Nat} {xs : Nat → Int32} (hL : L ≤ 384) (C0 : lw_At p s m meth c b L xs) : W p l e room_1 s m #[Value.ref b] below meth c s.heap [] 0 0 (lw_Z below #[Value.ref b] s) (entryFrame m ([Value.ref b] : List Value).toArray 8) := by
  obtain ⟨hx, hb, hr, hml, hown, hts, hXs, hbl, hlocks, hgv⟩ := id C0
  have hA : ∀ q : Nat, s.heap.size ≤ q → (fun q : Nat => s.heap.size ≤ q) q := fun _ h => h
  have hbA : ¬ (fun q : Nat => s.heap.size ≤ q) b := Nat.not_le.mpr hbl
  have htl : ∀ w ∈ wsL_law, w.before #[Value.ref b] s = true := fun w h => hts w (wsL_law_in w h)
  have hs := flat_of_before _ hgv
  have hown : s.vm.findClass RL = some m.cls := hown
  obtain ⟨c0, iS0, hKn0⟩ := u_known (C := RX0) (T := TX0) (N := 10) (n := 10) htl inlX0 (hts (.instantiable RX0 10) (by decide +kernel))
  obtain ⟨c1, iS1, hKn1⟩ := u_known (C := RX1) (T := TX1) (N := 4) (n := 4) htl inlX1 (hts (.instantiable RX1 4) (by decide +kernel))
  obtain ⟨c2, iS2, hKn2⟩ := u_known (C := RX2) (T := TX2) (N := 7) (n := 7) htl inlX2 (hts (.instantiable RX2 7) (by decide +kernel))
  obtain ⟨c3, iS3, hKn3⟩ := u_known (C := RX3) (T := TX3) (N := 3) (n := 3) htl inlX3 (hts (.instantiable RX3 3) (by decide +kernel))
  obtain ⟨c4, iS4, hKn4⟩ := u_known (C := RX4) (T := TX4) (N := 3) (n := 3) htl inlX4 (hts (.instantiable RX4 3) (by decide +kernel))
  obtain ⟨c5, iS5, hKn5⟩ := u_known (C := RX5) (T := TX5) (N := 7) (n := 7) htl inlX5 (hts (.instantiable RX5 7) (by decide +kernel))
  obtain ⟨c6, iS6, hKn6⟩ := u_known (C := RX6) (T := TX6) (N := 21) (n := 21) htl inlX6 (hts (.instantiable RX6 21) (by decide +kernel))
  obtain ⟨dC, dI, hKc⟩ : ∃ (dC : Nat → ClassId) (dI : Nat → Nat → Nat), ∀ (k : Nat) (q : vw_C), vwCl[k]? = some q → u_Kn s q.1 q.2.1 q.2.2 (dC k) (dI k) := by
    refine ⟨fun k => if k = 0 then c0 else if k = 1 then c1 else if k = 2 then c2 else if k = 3 then c3 else if k = 4 then c4 else if k = 5 then c5 else c6, fun k => if k = 0 then iS0 else if k = 1 then iS1 else if k = 2 then iS2 else if k = 3 then iS3 else if k = 4 then iS4 else if k = 5 then iS5 else iS6, ?_⟩
    intro k q hq
    match k, hq with
    | 0, hq => cases hq; exact hKn0
    | 1, hq => cases hq; exact hKn1
    | 2, hq => cases hq; exact hKn2
    | 3, hq => cases hq; exact hKn3
    | 4, hq => cases hq; exact hKn4
    | 5, hq => cases hq; exact hKn5
    | 6, hq => cases hq; exact hKn6
    | k + 7, hq => simp [vwCl] at hq
  obtain ⟨cI, aI, rI⟩ := ka_int (hts (.arrayClass .int) (by decide +kernel))
  obtain ⟨cL, aL, rL⟩ := ka_long (hts (.arrayClass .long) (by decide +kernel))
  obtain ⟨cP, aP, rP⟩ := ka_obj (C := RX1) (hts (.arrayOver (.object RX1)) (by decide +kernel))
  obtain ⟨cS, aS, rS⟩ := ka_obj (C := RX4) (hts (.arrayOver (.object RX4)) (by decide +kernel))
  have hKa : ∀ (k : Nat) (q : ClassId × FieldType), (wT cI cP cS cL)[k]? = some q → ArrOfT s q.1 q.2 ∧ va_RA s q.1 q.2 := by
    intro k q hq
    match k, hq with
    | 0, hq => cases hq; exact ⟨aI, rI⟩
    | 1, hq => cases hq; exact ⟨aP, rP⟩
    | 2, hq => cases hq; exact ⟨aS, rS⟩
    | 3, hq => cases hq; exact ⟨aL, rL⟩
    | k + 4, hq => simp [wT] at hq
  have hK : wK (dC, dI) cI cP cS cL s := ⟨⟨hKc, hKa⟩, va_Nw.of rfl (hts (.methodLinkNest RX0 105 yX5_over RX5) (by decide +kernel)), va_Nw.of rfl (hts (.methodLinkNest RX0 62 yX5_isOneOfTwo RX5) (by decide +kernel)), va_Nw.of rfl (hts (.methodLinkNest RX0 95 yX5_isStepCount RX5) (by decide +kernel)), va_AO.of (hts (.arrayOver (.object RX1)) (by decide +kernel)), va_AO.of (hts (.arrayOver (.object RX4)) (by decide +kernel))⟩
  obtain ⟨s0, hs0⟩ := ks_str (own := RX1) (k := 30) (tx := "a learning one failed") (hts (.stringRef RX1 30 "a learning one failed") (by decide +kernel)) (hs (.exactly (.string RX1 30) "java/lang/String") (by decide +kernel))
  obtain ⟨s1, hs1⟩ := ks_str (own := RX1) (k := 37) (tx := "a mixing one failed") (hts (.stringRef RX1 37 "a mixing one failed") (by decide +kernel)) (hs (.exactly (.string RX1 37) "java/lang/String") (by decide +kernel))
  obtain ⟨s2, hs2⟩ := ks_str (own := RX1) (k := 42) (tx := "a person failed") (hts (.stringRef RX1 42 "a person failed") (by decide +kernel)) (hs (.exactly (.string RX1 42) "java/lang/String") (by decide +kernel))
  obtain ⟨s3, hs3⟩ := ks_str (own := RX5) (k := 252) (tx := "no such shelf") (hts (.stringRef RX5 252 "no such shelf") (by decide +kernel)) (hs (.exactly (.string RX5 252) "java/lang/String") (by decide +kernel))
  obtain ⟨s4, hs4⟩ := ks_str (own := RX5) (k := 259) (tx := "no row") (hts (.stringRef RX5 259 "no row") (by decide +kernel)) (hs (.exactly (.string RX5 259) "java/lang/String") (by decide +kernel))
  obtain ⟨s5, hs5⟩ := ks_str (own := RX5) (k := 262) (tx := "no such place") (hts (.stringRef RX5 262 "no such place") (by decide +kernel)) (hs (.exactly (.string RX5 262) "java/lang/String") (by decide +kernel))
  have hX : wX (fun q : Nat => s.heap.size ≤ q) (fun k => if k = 0 then s0 else if k = 1 then s1 else if k = 2 then s2 else if k = 3 then s3 else if k = 4 then s4 else s5) s s.heap := ⟨⟨hs0, hs1, hs2, hs3, hs4, hs5⟩, fun w hw => wBad_moved (args := #[Value.ref b]) (u := s) hw (Vm.Alike.refl s.vm) (hts w ((by decide +kernel : ∀ w ∈ wBad, w ∈ lw_tbl) w hw)), ⟨va_Nc.of (hs (.not (.castable xIAE xUOE)) (by decide +kernel)), va_Nc.of (hs (.not (.castable xISE xUOE)) (by decide +kernel)), va_Nc.of (hs (.not (.castable xISE xIAE)) (by decide +kernel))⟩, vx_Zqof (hts (.laysStatic Bundle.tN "UNASSIGNED_STACK" Bundle.steD) (by decide +kernel)) (hts (.initialized Bundle.tN) (by decide +kernel)) (hs (.isRef (.static Bundle.tN "UNASSIGNED_STACK" Bundle.steD)) (by decide +kernel)) (fun a ha => Nat.not_le.mpr ha), vx_Zqof (hts (.laysStatic Bundle.tN "SUPPRESSED_SENTINEL" Bundle.listD) (by decide +kernel)) (hts (.initialized Bundle.tN) (by decide +kernel)) (hs (.isRef (.static Bundle.tN "SUPPRESSED_SENTINEL" Bundle.listD)) (by decide +kernel)) (fun a ha => Nat.not_le.mpr ha)⟩
  have hst : l.stackTraces = false := by
    unfold Launch.stackTraces
    rw [hflags]
    decide +kernel
  have hC : LC p l s m c (dC, dI) cI cP cS cL (fun q : Nat => s.heap.size ≤ q) (fun k => if k = 0 then s0 else if k = 1 then s1 else if k = 2 then s2 else if k = 3 then s3 else if k = 4 then s4 else s5) b L xs := ⟨hx, hb, hml, htl, hown, hK, hX, hA, hXs, hbl, hbA, hst⟩
  have w : ww (dC, dI) (fun q : Nat => s.heap.size ≤ q) s.heap [] (fun _ => eI cI 0 fz) s.heap [] := ⟨fun k q h => by simp [va_pl] at h, ⟨fun i j p q h => by simp [va_pl] at h, fun k q h => by simp [va_pl] at h⟩, va_S.rf⟩
  have hl := lv_entry ([.ref b]) (n := 8) (Nat.le_of_ble_eq_true rfl)
  rw [lg_entry_eq]
  generalize (lg_sl ([.ref b]) ++ List.replicate (8 - (lg_sl ([.ref b])).length) Slot.unset).toArray = ls at hl ⊢
  have hl : lv_has ls 8 [(0, .ref b)] := hl
  have m_0 : Cond.classLink RL 8 RX5 ∈ wsL_law := by decide +kernel
  have m_1 : Cond.instantiable RX5 7 ∈ wsL_law := by decide +kernel
  have m_2 : Cond.initialized RX5 ∈ wsL_law := by decide +kernel
  have m_3 : Cond.classLink RL 18 RX6 ∈ wsL_law := by decide +kernel
  have m_4 : Cond.instantiable RX6 21 ∈ wsL_law := by decide +kernel
  have m_5 : Cond.initialized RX6 ∈ wsL_law := by decide +kernel
  have m_6 : Cond.methodLink RL 17 yX5_init ∈ wsL_law := by decide +kernel
  have m_7 : Cond.instanceMethod yX5_init ∈ wsL_law := by decide +kernel
  have m_8 : Cond.methodLink RL 20 yX6_init ∈ wsL_law := by decide +kernel
  have m_9 : Cond.instanceMethod yX6_init ∈ wsL_law := by decide +kernel
  have m_10 : Cond.arrayClass .long ∈ wsL_law := by decide +kernel
  refine w_newO (ci := 5) (fs := [.null, .null, .null, .int 0, .null, .null, .null]) (C := RX5) (T := TX5) (N := 7) hx hb htl inlX5 tyX5 tyX5_ok hown m_0 m_1 m_2 hK w hA rfl (fun j hj => by rcases (show j = 0 ∨ j = 1 ∨ j = 2 ∨ j = 3 ∨ j = 4 ∨ j = 5 ∨ j = 6 by omega) with rfl | rfl | rfl | rfl | rfl | rfl | rfl <;> rfl) (Nat.le_of_ble_eq_true rfl) (Nat.le_of_ble_eq_true rfl) dL_law_0 (fun x H hq w h_x => ?_)
  refine lv_dup hx hb dL_law_3 rfl ?_
  refine w_finv (w_runI (rm := ({ frames := 3, cells := 83, slots := 1163, locals := 54 } : Room)) (As := []) (rest := [.ref x]) (n := 0) hx hb hml htl hown hK w (c_X5_init l (dC, dI) cI cP cS cL _ _ x h_x) gL_law_X5_init rfl rfl rfl m_2 m_6 m_7 rfl (by decide +kernel) ⟨(Nat.le_of_ble_eq_true rfl), (Nat.le_of_ble_eq_true rfl)⟩ rfl hl.1 rfl (Nat.le_of_ble_eq_true rfl) dL_law_4 ⟨(Nat.le_of_ble_eq_true rfl), (Nat.le_of_ble_eq_true rfl)⟩) w hA (fun L1 F1 H locs hp w => ?_)
  obtain ⟨g1, pa1, ps1, r1, e1, g2, pa2, ps2, r2, e2, g3, pa3, ps3, r3, e3, sh9, qs, co, ot, hL1, n1, n2, n3, hsa, hqs, hsh, hco, hot, hxx, hg1⟩ := hp
  refine lv_astore_n (lv' := [(1, .ref x), (0, .ref b)]) hx hb dL_law_7 rfl hl (by decide) rfl (fun ls hl => ?_)
  refine w_newO (ci := 6) (fs := [.null, .null, .null, .null, .null, .null, .null, .null, .null, .null, .int 0, .int 0, .int 0, .int 0, .int 0, .int 0, .null, .null, .null, .int 0, .null]) (C := RX6) (T := TX6) (N := 21) hx hb htl inlX6 tyX6 tyX6_ok hown m_3 m_4 m_5 hK w hA rfl (fun j hj => by rcases (show j = 0 ∨ j = 1 ∨ j = 2 ∨ j = 3 ∨ j = 4 ∨ j = 5 ∨ j = 6 ∨ j = 7 ∨ j = 8 ∨ j = 9 ∨ j = 10 ∨ j = 11 ∨ j = 12 ∨ j = 13 ∨ j = 14 ∨ j = 15 ∨ j = 16 ∨ j = 17 ∨ j = 18 ∨ j = 19 ∨ j = 20 by omega) with rfl | rfl | rfl | rfl | rfl | rfl | rfl | rfl | rfl | rfl | rfl | rfl | rfl | rfl | rfl | rfl | rfl | rfl | rfl | rfl | rfl <;> rfl) (Nat.le_of_ble_eq_true rfl) (Nat.le_of_ble_eq_true rfl) dL_law_8 (fun mm H hqm w h_m => ?_)
  have hgA := gr.push (P := fun _ => True) (gr.rf (L0 := L1) (F0 := F1)) h_m hqm
  refine lv_dup hx hb dL_law_11 rfl ?_
  refine w_finv (w_runI (rm := ({ frames := 1, cells := 14, slots := 1185, locals := 12 } : Room)) (As := []) (rest := [.ref mm]) (n := 0) hx hb hml htl hown hK w (c_X6_init l (dC, dI) cI cP cS cL _ _ mm h_m) gL_law_X6_init rfl rfl rfl m_5 m_8 m_9 rfl (by decide +kernel) ⟨(Nat.le_of_ble_eq_true rfl), (Nat.le_of_ble_eq_true rfl)⟩ rfl hl.1 rfl (Nat.le_of_ble_eq_true rfl) dL_law_12 ⟨(Nat.le_of_ble_eq_true rfl), (Nat.le_of_ble_eq_true rfl)⟩) w hA (fun L3 F3 H locs hp w => ?_)
  obtain ⟨q1, q2, q3, q4, q5, q6, q7, q8, q9, q10, q11, q12, q13, q14, hL3, fm, f1, f2, f3, f4, f5, f6, f7, f8, f9, f10, f11, f12, f13, f14, hg3⟩ := hp
  have hgB := hgA.call hg3 (fun a ha _ => fun q => hqm (by rw [← q]; exact ha))
  refine lv_astore_n (lv' := [(2, .ref mm), (1, .ref x), (0, .ref b)]) hx hb dL_law_15 rfl hl (by decide) rfl (fun ls hl => ?_)
  refine lv_iconst (v := 1) hx hb dL_law_16 (by decide) ?_
  refine w_newJ (N' := 1) hx hb htl m_10 hK w hA (by decide) rfl (by decide) (Nat.le_of_ble_eq_true rfl) (Nat.le_of_ble_eq_true rfl) dL_law_17 (fun o H hqo w h_o => ?_)
  have hgC := gr.push hgB h_o hqo
  have mq : ∀ q, q ∈ [q1, q2, q3, q4, q5, q6, q7, q8, q9, q10, q11, q12, q13, q14] → q ∈ L3 := fun q hq => by rw [hL3]; exact List.mem_append_right _ hq
  have mm3 : wi L3 F3 mm (eM q1 q2 q3 q4 q5 q6 q7 q8 q9 q10 0 0 0 0 0 0 q11 q12 q13 0 q14) := ⟨(hg3 mm h_m.1).1, fm⟩
  have hmm := mm3.pushw h_o hqo
  have hh1 := wi.pushw (show wi L3 F3 q1 _ from ⟨mq q1 (by simp), f1⟩) h_o hqo
  have hh2 := wi.pushw (show wi L3 F3 q2 _ from ⟨mq q2 (by simp), f2⟩) h_o hqo
  have hh3 := wi.pushw (show wi L3 F3 q3 _ from ⟨mq q3 (by simp), f3⟩) h_o hqo
  have hh4 := wi.pushw (show wi L3 F3 q4 _ from ⟨mq q4 (by simp), f4⟩) h_o hqo
  have hh5 := wi.pushw (show wi L3 F3 q5 _ from ⟨mq q5 (by simp), f5⟩) h_o hqo
  have hh6 := wi.pushw (show wi L3 F3 q6 _ from ⟨mq q6 (by simp), f6⟩) h_o hqo
  have hh7 := wi.pushw (show wi L3 F3 q7 _ from ⟨mq q7 (by simp), f7⟩) h_o hqo
  have hh8 := wi.pushw (show wi L3 F3 q8 _ from ⟨mq q8 (by simp), f8⟩) h_o hqo
  have hh9 := wi.pushw (show wi L3 F3 q9 _ from ⟨mq q9 (by simp), f9⟩) h_o hqo
  have hh10 := wi.pushw (show wi L3 F3 q10 _ from ⟨mq q10 (by simp), f10⟩) h_o hqo
  have hh11 := wi.pushw (show wi L3 F3 q11 _ from ⟨mq q11 (by simp), f11⟩) h_o hqo
  have hh12 := wi.pushw (show wi L3 F3 q12 _ from ⟨mq q12 (by simp), f12⟩) h_o hqo
  have hh13 := wi.pushw (show wi L3 F3 q13 _ from ⟨mq q13 (by simp), f13⟩) h_o hqo
  have hh14 := wi.pushw (show wi L3 F3 q14 _ from ⟨mq q14 (by simp), f14⟩) h_o hqo
  refine lv_astore_n (lv' := [(3, .ref o), (2, .ref mm), (1, .ref x), (0, .ref b)]) hx hb dL_law_19 rfl hl (by decide) rfl (fun ls hl => ?_)
  refine lv_iconst (v := 0) hx hb dL_law_20 (by decide) ?_
  refine lv_istore (lv' := [(4, .int 0), (3, .ref o), (2, .ref mm), (1, .ref x), (0, .ref b)]) hx hb dL_law_21 hl (by decide) rfl (fun ls hl => ?_)
  have hV := iv_make (F3 := F3) (cI := cI) (cP := cP) (cS := cS) (cL := cL) (m := mm) hL1 n1 n2 n3 hsa hqs hsh hco hot hxx hgC hmm hh1 hh2 hh3 hh4 hh5 hh6 hh7 hh8 hh9 hh10 hh11 hh12 hh13 hh14 h_o
  have hnd := hnd_of w
  rw [hL3, hL1] at hnd
  have hT := tg_make rfl rfl rfl rfl rfl rfl rfl rfl rfl rfl rfl rfl rfl rfl rfl rfl rfl rfl rfl rfl n1.1 n2.1 n3.1 hqs hnd
  exact law_loop hT hL hr hlocks (fun _ h => h) hC 65 0 _ _ _ _ ls (by decide) (by decide) hV w (lv_sub hl [4, 3, 2, 1, 0] rfl)
set_option maxHeartbeats 4000000 in
theorem lw_walk (l : Launch) (hflags : l.flags = flags0) (b : Addr) (xs : List Int32) : MetFree l x (headSpec (Jvm.Cond.code x code maxLocals ret :: tables_1) room_1) (lw_P b xs) (fun _ _ _ _ _ => True) lw_Q := by
  refine MetFree.of_bodyS (code := code) (maxLocals := maxLocals) (ret := ret) (by decide) ?_ ?_
  · intro args s m h hn
    obtain ⟨meth, c, h1, h2, h3, h4, h5, h6, -, -⟩ := Cond.code_spec hn (atoms_spec (ws := Jvm.Cond.code x code maxLocals ret :: tables_1) h _ List.mem_cons_self)
    exact ⟨meth, c, h1, h2, h3, h4, h5, h6⟩
  · intro p e s m args below meth c s₁ B hml0 hP _
    obtain ⟨rfl, hx, hbd, hgv⟩ := hP
    obtain ⟨scr, harrAt, hlist, hof, hsmall⟩ := hx
    obtain ⟨hcb, hkn, -, -⟩ := State.arrayAt?_spec harrAt
    have hown : s.vm.findClass R_law = some m.cls := findClass_of_methodNamed B.named
    have hts0 : ∀ c ∈ (Jvm.Cond.code x code maxLocals ret :: tables_1), c.before #[Value.ref b] s = true := atoms_spec (ws := Jvm.Cond.code x code maxLocals ret :: tables_1) B.pre
    have hts : ∀ w ∈ lw_tbl, w.before #[Value.ref b] s = true := k2_hts_sels lw_privs (fun w hw => hts0 w (List.mem_cons_of_mem _ hw)) lw_privs_ok
    have hml : c.maxLocals = 8 := B.maxLocals_eq (hts0 _ List.mem_cons_self)
    have X₀ : Stand p l e room_1 s m #[Value.ref b] below meth c s₁ [] 0 0 := Stand.of_body B
    have hh0 : s₁.heap = s.heap := by rw [B.state]; rfl
    have hsz : scr.slots.size = xs.length := by rw [← Array.length_toList, hlist, List.length_map]
    have hval : ∀ j : Nat, j < xs.length → scr.slots[j]? = some (.int (xs.getD j 0)) := fun j hj => by
      rw [← Array.getElem?_toList, hlist]
      simp [hj]
    have hbl : b < s.heap.size := (Array.getElem?_eq_some_iff.mp hcb).1
    have hX : va_X b xs.length (fun j => xs.getD j 0) s s.heap := ⟨scr, hcb, hof, hkn, hsz, hval⟩
    have K : W p l e room_1 s m #[Value.ref b] below meth c s₁.heap [] 0 0 (lw_Z below #[Value.ref b] s) (entryFrame m ([Value.ref b] : List Value).toArray 8) := by
      rw [hh0]
      exact whole_start l hflags hbd ⟨B.exec, B.bytes, B.returns, hml, hown, hts, hX, hbl, B.notSynchronized, hgv⟩
    obtain ⟨t, a1, o, b1, b2, b3⟩ := K s₁ rfl X₀
    exact ⟨t, o, a1, b1, b2, b3⟩
theorem lw_pre_spec {args : Array Value} {s : State} (h : (Jvm.Cond.and given_1 narrow_1).before args s = true) (hr : rest_1_c.before args s = true) : ∃ (b : Addr) (xs : List Int32), lw_P b xs args s := by
  have hs := flat_of_before _ h
  have hq := flat_of_before _ hr
  have hc : (Cond.count 1).before args s = true := hs _ (by decide +kernel)
  have harr : (Cond.arrayOf (.arg 0) .int).before args s = true := hs _ (by decide +kernel)
  have hle : (Cond.le (.length (.arg 0)) (.int 384)).before args s = true := hs _ (by decide +kernel)
  have hlen : (Cond.isInt (.length (.arg 0))).before args s = true := hq _ (by decide +kernel)
  have hall : (Cond.all (.arg 0) (.isInt (.elem (.arg 0) (.index 0)))).before args s = true := hq _ (by decide +kernel)
  obtain ⟨b, xs, hb, hx⟩ := State.ints_of_pre rfl harr hlen hall
  have hsm : xs.length < 2 ^ 31 := hx.choose_spec.2.2.2
  have hev : (Term.length (.arg 0)).eval args s none [] s = some (.int xs.length.toInt32) := hx.length_eval hb
  have hv := Cond.le_ints hev (show (Term.int 384).eval args s none [] s = some (.int 384) from rfl)
  have hd : xs.length.toInt32 ≤ 384 := by
    simpa [Cond.before, Cond.holds, hv] using hle
  have hN : xs.length ≤ 384 := (Int32.ofNat_le_ofNat hsm (by decide)).mp (show Int32.ofNat xs.length ≤ Int32.ofNat 384 from hd)
  exact ⟨b, xs, Cond.one_arg hc (show args[0]? = some (.ref b) from hb), hx, hN, h⟩
theorem lw_comes (l : Launch) (hflags : l.flags = flags0) : Comes l x (Jvm.Cond.code x code maxLocals ret :: tables_1) room_1 (fun tb e args s => Calls_1 tb e args s ∧ rest_1 tb e args s ∧ Pre_1 tb e args s)
    (fun _ _ args s o t => lw_Q args s o t) := by
  intro p e ha hc hk s m args below hf hfit hheap happ hpre
  obtain ⟨b, xs, hP⟩ := lw_pre_spec hpre.2.2 hpre.2.1
  obtain ⟨k, o, h1, h2, h3, hQ⟩ := lw_walk l hflags b xs p e ha hc hk s m args below hf ((Spec.applies_iff_loose hf).mp happ).1 hP trivial
  exact ⟨k, o, h1, h2, h3, hQ⟩
theorem lw_frame {s t : State} {o : Outcome} {args : Array Value} (h : Framed s o t [] 600128 7301098) :
    Framed s o t (fieldLocs frame_1_writes args s ++ arrayLocs frame_1_arrays args s ++ staticLocs frame_1_statics s) 600128 7301098 := h
theorem lw_limb (L : Cond) (hL : ∀ (args : Array Value) (s t : State), L.after args s (.returned (some (.int 1))) t = true) :
    ArmFor flags0 classFile x code maxLocals ret World_1 tables_1 room_1 Calls_1 rest_1 Pre_1
      (fun tb e a s o t => postC L tb e a s o t ∧ Framed s o t (fieldLocs frame_1_writes a s ++ arrayLocs frame_1_arrays a s ++ staticLocs frame_1_statics s) 600128 7301098) := by
  intro l hflags _ _ p e ha hc hk s m args below hf hfit hheap happ hpre
  obtain ⟨k, o, h1, h2, h3, rfl, hF⟩ := lw_comes l hflags p e ha hc hk s m args below hf hfit hheap happ hpre
  exact ⟨k, _, h1, h2, h3, hL args s _, lw_frame hF⟩
theorem i_vc : Claimed_1_1 ∧ Claimed_1_2 := ⟨lw_limb limb_1_1 (fun args s t => by simp [limb_1_1, Cond.after, Cond.holds, Cond.value]), lw_limb limb_1_2 (fun args s t => Cond.after_iff.mpr (by
  first | (rw [show limb_1_2 = Cond.eq .result (.int 1) from rfl, Cond.eq_ints (x := 1) (y := 1) rfl rfl]; simp; done) | (simp [limb_1_2, Cond.value, Term.eval]; done)))⟩


