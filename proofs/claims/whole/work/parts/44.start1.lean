/-! THE START -/
theorem ka_arr {args : Array Value} {s : State} {ty : FieldType} (h : (Cond.arrayClass ty).before args s = true) : ∃ (cA : ClassId) (kA : Class) (comp : ClassId), s.vm.findClass ("[" ++ ty.toString) = some cA ∧ s.vm.classes[cA]? = some kA ∧ kA.kind = .array comp ty := Cond.arrayClass_spec h
theorem ka_int {args : Array Value} {s : State} (h : (Cond.arrayClass .int).before args s = true) : ∃ cA : ClassId, ArrOfT s cA .int ∧ va_RA s cA .int := by
  obtain ⟨cA, kA, comp, h1, h2, h3⟩ := ka_arr h
  exact ⟨cA, fun n z => ⟨fun k h => (by cases h), kA, h2, comp, h3⟩, h1⟩
theorem ka_long {args : Array Value} {s : State} (h : (Cond.arrayClass .long).before args s = true) : ∃ cA : ClassId, ArrOfT s cA .long ∧ va_RA s cA .long := by
  obtain ⟨cA, kA, comp, h1, h2, h3⟩ := ka_arr h
  exact ⟨cA, fun n z => ⟨fun k h => (by cases h), kA, h2, comp, h3⟩, h1⟩
theorem ka_obj {args : Array Value} {s : State} {C : String} (h : (Cond.arrayOver (.object C)).before args s = true) : ∃ cA : ClassId, ArrOfT s cA (.object C) ∧ va_RA s cA (.object C) := by
  obtain ⟨comp, cA, kA, f1, -, f2, f3, f4⟩ := Cond.arrayOver_spec h
  exact ⟨cA, fun n z => ⟨fun k h => (by cases h), kA, f2, comp, f3⟩, kA, comp, f2, f3, f1, f4⟩
theorem ks_str {args : Array Value} {s : State} {own tx : String} {k : Nat} (h1 : (Cond.stringRef own k tx).before args s = true) (h2 : (Cond.exactly (.string own k) "java/lang/String").before args s = true) : ∃ a : Nat, vk_R own k tx a s := by
  obtain ⟨a, c, cell, kk, h, -⟩ := Cond.exactly_spec h2
  exact ⟨a, vk_R.of (A := args) h1 h⟩
theorem ap_l {A B : List Nat} {k a : Nat} (h : A[k]? = some a) : (A ++ B)[k]? = some a := by
  rw [List.getElem?_append_left (List.getElem?_eq_some_iff.mp h).1]; exact h
theorem ap_r {A B : List Nat} {n k a : Nat} (hA : A.length = n) (h : B[k]? = some a) : (A ++ B)[n + k]? = some a := by
  subst hA
  rw [List.getElem?_append_right (by omega), show A.length + k - A.length = k by omega]; exact h
theorem gD {l : List Nat} {i : Nat} (h : i < l.length) : l[i]? = some (l.getD i 0) := by
  rw [List.getD_eq_getElem?_getD, List.getElem?_eq_getElem h]; rfl
theorem w_newJ {p : Program} {l : Launch} {e : Env} {R : Room} {s : State} {m : MethodId} {args : Array Value} {below : List Frame} {meth : Method} {c : Code} {H : Heap} {locs : List Loc} {cells slots : Nat} {Q : State → Prop} {cc : ByteArray} {pc : Nat} {ls : Array Slot} {rest : List Value} {D : va_G} {A : Nat → Prop} {L : List Nat} {F : Nat → va_E} {cI cP cS cL : ClassId} {Ts : List Cond} (hx : p.tables.exec = Jvm.exec) (hb : c.code = cc) (hts : ∀ w ∈ Ts, w.before args s = true) (harr : (Cond.arrayClass .long) ∈ Ts) (hK : wK D cI cP cS cL s) (w : ww D A s.heap L F H locs) (hA : ∀ q : Nat, s.heap.size ≤ q → A q) {n : Int32} {N' : Nat} (hn : ¬ n < 0) (hN : n.toNatClampNeg = N') (hB : N' ≤ 1000) (hcells : cells + 1 ≤ R.cells) (hslots : slots + N' ≤ R.slots) (hdg : decode cc pc = .ok (.newarray .long, 2))
    (kk : ∀ (q : Nat) (H1 : Heap), q ∉ L → ww D A s.heap (L ++ [q]) (va_up F q (eL cL N' (fun _ => 0))) H1 locs → wi (L ++ [q]) (va_up F q (eL cL N' (fun _ => 0))) q (eL cL N' (fun _ => 0)) → W p l e R s m args below meth c H1 locs (cells + 1) (slots + N') Q (F0 m (pc + 2) ls (.ref q :: rest))) : W p l e R s m args below meth c H locs cells slots Q (F0 m pc ls (.int n :: rest)) :=
  va_newa (atype := .long) (ty := .long) (a0 := (N', .inr (.inl (fun _ => 0)))) hx hb (hts _ harr) rfl hK.1 w.1 w.2.1 w.2.2 hA (fun cA => rfl) hn hN (by show N' * 8 ≤ 536870912; omega) hcells hslots hdg (fun q cA H1 hk h1 h2 h3 => by
    have e1 : s.vm.findClass ("[" ++ FieldType.long.toString) = some cL := (hK.1.2 3 (cL, .long) rfl).2
    have e2 : s.vm.findClass ("[" ++ FieldType.long.toString) = some cA := (hk.2 4 (cA, .long) rfl).2
    have e3 : cA = cL := Option.some.inj (e2.symm.trans e1)
    subst e3
    obtain ⟨g1, g2, g3⟩ := ww_push h1 h2 h3
    exact kk q H1 g1 g2 g3)
theorem hnd_of {D : va_G} {A : Nat → Prop} {H0 H : Heap} {L : List Nat} {F : Nat → va_E} {locs : List Loc} (w : ww D A H0 L F H locs) : ∀ (i j a : Nat), L[i]? = some a → L[j]? = some a → i = j := by
  intro i j a hi hj
  have g : ∀ k : Nat, L[k]? = some a → (va_pl L F)[k]? = some (a, F a) := by
    intro k hk
    show (L.map (fun a => (a, F a)))[k]? = _
    rw [List.getElem?_map, hk]; rfl
  exact w.2.1.1 i j _ _ (g i hi) (g j hj) rfl
theorem inlX0 : ∀ w ∈ wsX00, w ∈ wsL_law := fun _ h => List.mem_append_left _ (List.mem_append_left _ (List.mem_append_left _ (List.mem_append_left _ (List.mem_append_left _ (List.mem_append_left _ (List.mem_append_left _ (List.mem_append_left _ (List.mem_append_left _ (List.mem_append_left _ (List.mem_append_right _ h))))))))))
theorem inlX1 : ∀ w ∈ wsX10, w ∈ wsL_law := fun _ h => List.mem_append_left _ (List.mem_append_left _ (List.mem_append_left _ (List.mem_append_left _ (List.mem_append_left _ (List.mem_append_left _ (List.mem_append_left _ (List.mem_append_left _ (List.mem_append_right _ h))))))))
theorem inlX2 : ∀ w ∈ wsX20, w ∈ wsL_law := fun _ h => List.mem_append_left _ (List.mem_append_left _ (List.mem_append_left _ (List.mem_append_left _ (List.mem_append_left _ (List.mem_append_left _ (List.mem_append_right _ h))))))
theorem inlX3 : ∀ w ∈ wsX30, w ∈ wsL_law := fun _ h => List.mem_append_left _ (List.mem_append_left _ (List.mem_append_left _ (List.mem_append_left _ (List.mem_append_left _ (List.mem_append_left _ (List.mem_append_left _ (List.mem_append_right _ h)))))))
theorem inlX4 : ∀ w ∈ wsX40, w ∈ wsL_law := fun _ h => List.mem_append_left _ (List.mem_append_left _ (List.mem_append_left _ (List.mem_append_left _ (List.mem_append_left _ (List.mem_append_left _ (List.mem_append_left _ (List.mem_append_left _ (List.mem_append_left _ (List.mem_append_right _ h)))))))))
theorem inlX5 : ∀ w ∈ wsX50, w ∈ wsL_law := fun _ h => List.mem_append_left _ (List.mem_append_left _ (List.mem_append_left _ (List.mem_append_left _ (List.mem_append_left _ (List.mem_append_left _ (List.mem_append_left _ (List.mem_append_left _ (List.mem_append_left _ (List.mem_append_left _ (List.mem_append_left _ (List.mem_append_left _ (List.mem_append_right _ h))))))))))))
theorem inlX6 : ∀ w ∈ wsX60, w ∈ wsL_law := fun _ h => List.mem_append_left _ (List.mem_append_left _ (List.mem_append_left _ (List.mem_append_left _ (List.mem_append_left _ (List.mem_append_left _ (List.mem_append_left _ (List.mem_append_left _ (List.mem_append_left _ (List.mem_append_left _ (List.mem_append_left _ (List.mem_append_right _ h)))))))))))
abbrev ss0 : Nat → Int32 := upd (upd (upd (upd (fun _ => 0) 0 2) 1 3) 2 100) 4 1
theorem ss0_8 {j : Nat} (h : 5 ≤ j) : ss0 j = 0 := by
  show upd (upd (upd (upd (fun _ => 0) 0 2) 1 3) 2 100) 4 1 j = 0
  rw [upd_ne _ _ (by omega), upd_ne _ _ (by omega), upd_ne _ _ (by omega), upd_ne _ _ (by omega)]
theorem rg0 : RG ss0 0 0 fz fz fz fz fz := by
  refine ⟨⟨by decide, by decide, by decide, Or.inl rfl, by decide, by decide, fun q => absurd rfl q, fun i hi => ?_⟩, ⟨fun i hi => absurd hi (Nat.not_lt_zero _), fun i hi => (show (0 : Int32).toInt ≤ 9 by decide)⟩, by decide, fun _ i hi => absurd hi (Nat.not_lt_zero _), fun q => absurd rfl q⟩
  rw [ss0_8 (by omega)]; decide
theorem rs0 : RS fz fz fz fz fz fz fz fz fz (fun _ => fz) fz fz fz fz := fun i hi => ⟨rfl, Or.inl rfl, rfl, rfl, (show 0 ≤ (0 : Int32).toInt ∧ (0 : Int32).toInt ≤ 100 by decide), fun _ _ => rfl, fun q => absurd q (show ¬ (0 : Int32) = 1 by decide)⟩
set_option maxHeartbeats 4000000 in
theorem tg_make {x g1 pa1 r1 e1 g2 pa2 r2 e2 g3 pa3 r3 e3 sh9 co ot m q1 q2 q3 q4 q5 q6 q7 q8 q9 q10 q11 q12 q13 q14 o : Nat} {ps1 ps2 ps3 qs : List Nat} {Z0 Z1 Z2 Z3 Z4 Z5 Z6 Z7 Z8 Z9 Z10 Z11 Z12 Z13 Z14 Z15 Z16 Z17 Z18 Z19 : List Nat} (z0 : Z0 = [] ++ [x]) (z1 : Z1 = Z0 ++ [g1]) (z2 : Z2 = Z1 ++ [pa1]) (z3 : Z3 = Z2 ++ ps1) (z4 : Z4 = Z3 ++ [r1, e1]) (z5 : Z5 = Z4 ++ [g2]) (z6 : Z6 = Z5 ++ [pa2]) (z7 : Z7 = Z6 ++ ps2) (z8 : Z8 = Z7 ++ [r2, e2]) (z9 : Z9 = Z8 ++ [g3]) (z10 : Z10 = Z9 ++ [pa3]) (z11 : Z11 = Z10 ++ ps3) (z12 : Z12 = Z11 ++ [r3, e3]) (z13 : Z13 = Z12 ++ [sh9]) (z14 : Z14 = Z13 ++ qs) (z15 : Z15 = Z14 ++ [co]) (z16 : Z16 = Z15 ++ [ot]) (z17 : Z17 = Z16 ++ [m]) (z18 : Z18 = Z17 ++ [q1, q2, q3, q4, q5, q6, q7, q8, q9, q10, q11, q12, q13, q14]) (z19 : Z19 = Z18 ++ [o]) (l1 : ps1.length = 12) (l2 : ps2.length = 12) (l3 : ps3.length = 12) (l4 : qs.length = 32) (hnd : ∀ (i j a : Nat), Z19[i]? = some a → Z19[j]? = some a → i = j) : TG Z19 x g1 pa1 r1 e1 g2 pa2 r2 e2 g3 pa3 r3 e3 sh9 co ot m q1 q2 q3 q4 q5 q6 q7 q8 q9 q10 q11 q12 q13 q14 o (fun i => ps1.getD i 0) (fun i => ps2.getD i 0) (fun i => ps3.getD i 0) (fun i => qs.getD (4 * i) 0) (fun i => qs.getD (4 * i + 1) 0) (fun i => qs.getD (4 * i + 2) 0) (fun i => qs.getD (4 * i + 3) 0) := by
  have n0 : Z0.length = 1 := by rw [z0]; rfl
  have n1 : Z1.length = 2 := by rw [z1, List.length_append, n0]; rfl
  have n2 : Z2.length = 3 := by rw [z2, List.length_append, n1]; rfl
  have n3 : Z3.length = 15 := by rw [z3, List.length_append, n2, l1]
  have n4 : Z4.length = 17 := by rw [z4, List.length_append, n3]; rfl
  have n5 : Z5.length = 18 := by rw [z5, List.length_append, n4]; rfl
  have n6 : Z6.length = 19 := by rw [z6, List.length_append, n5]; rfl
  have n7 : Z7.length = 31 := by rw [z7, List.length_append, n6, l2]
  have n8 : Z8.length = 33 := by rw [z8, List.length_append, n7]; rfl
  have n9 : Z9.length = 34 := by rw [z9, List.length_append, n8]; rfl
  have n10 : Z10.length = 35 := by rw [z10, List.length_append, n9]; rfl
  have n11 : Z11.length = 47 := by rw [z11, List.length_append, n10, l3]
  have n12 : Z12.length = 49 := by rw [z12, List.length_append, n11]; rfl
  have n13 : Z13.length = 50 := by rw [z13, List.length_append, n12]; rfl
  have n14 : Z14.length = 82 := by rw [z14, List.length_append, n13, l4]
  have n15 : Z15.length = 83 := by rw [z15, List.length_append, n14]; rfl
  have n16 : Z16.length = 84 := by rw [z16, List.length_append, n15]; rfl
  have n17 : Z17.length = 85 := by rw [z17, List.length_append, n16]; rfl
  have n18 : Z18.length = 99 := by rw [z18, List.length_append, n17]; rfl
  have n19 : Z19.length = 100 := by rw [z19, List.length_append, n18]; rfl
  have u19 : ∀ (k a : Nat), Z19[k]? = some a → Z19[k]? = some a := fun _ _ h => h
  have u18 : ∀ (k a : Nat), Z18[k]? = some a → Z19[k]? = some a := fun k a h => u19 k a (by rw [z19]; exact ap_l h)
  have u17 : ∀ (k a : Nat), Z17[k]? = some a → Z19[k]? = some a := fun k a h => u18 k a (by rw [z18]; exact ap_l h)
  have u16 : ∀ (k a : Nat), Z16[k]? = some a → Z19[k]? = some a := fun k a h => u17 k a (by rw [z17]; exact ap_l h)
  have u15 : ∀ (k a : Nat), Z15[k]? = some a → Z19[k]? = some a := fun k a h => u16 k a (by rw [z16]; exact ap_l h)
  have u14 : ∀ (k a : Nat), Z14[k]? = some a → Z19[k]? = some a := fun k a h => u15 k a (by rw [z15]; exact ap_l h)
  have u13 : ∀ (k a : Nat), Z13[k]? = some a → Z19[k]? = some a := fun k a h => u14 k a (by rw [z14]; exact ap_l h)
  have u12 : ∀ (k a : Nat), Z12[k]? = some a → Z19[k]? = some a := fun k a h => u13 k a (by rw [z13]; exact ap_l h)
  have u11 : ∀ (k a : Nat), Z11[k]? = some a → Z19[k]? = some a := fun k a h => u12 k a (by rw [z12]; exact ap_l h)
  have u10 : ∀ (k a : Nat), Z10[k]? = some a → Z19[k]? = some a := fun k a h => u11 k a (by rw [z11]; exact ap_l h)
  have u9 : ∀ (k a : Nat), Z9[k]? = some a → Z19[k]? = some a := fun k a h => u10 k a (by rw [z10]; exact ap_l h)
  have u8 : ∀ (k a : Nat), Z8[k]? = some a → Z19[k]? = some a := fun k a h => u9 k a (by rw [z9]; exact ap_l h)
  have u7 : ∀ (k a : Nat), Z7[k]? = some a → Z19[k]? = some a := fun k a h => u8 k a (by rw [z8]; exact ap_l h)
  have u6 : ∀ (k a : Nat), Z6[k]? = some a → Z19[k]? = some a := fun k a h => u7 k a (by rw [z7]; exact ap_l h)
  have u5 : ∀ (k a : Nat), Z5[k]? = some a → Z19[k]? = some a := fun k a h => u6 k a (by rw [z6]; exact ap_l h)
  have u4 : ∀ (k a : Nat), Z4[k]? = some a → Z19[k]? = some a := fun k a h => u5 k a (by rw [z5]; exact ap_l h)
  have u3 : ∀ (k a : Nat), Z3[k]? = some a → Z19[k]? = some a := fun k a h => u4 k a (by rw [z4]; exact ap_l h)
  have u2 : ∀ (k a : Nat), Z2[k]? = some a → Z19[k]? = some a := fun k a h => u3 k a (by rw [z3]; exact ap_l h)
  have u1 : ∀ (k a : Nat), Z1[k]? = some a → Z19[k]? = some a := fun k a h => u2 k a (by rw [z2]; exact ap_l h)
  have u0 : ∀ (k a : Nat), Z0[k]? = some a → Z19[k]? = some a := fun k a h => u1 k a (by rw [z1]; exact ap_l h)
  have t_x : Z19[0]? = some x := u0 _ _ (by rw [z0]; exact show ([] ++ [x] : List Nat)[0]? = some x from rfl)
  have t_g1 : Z19[1]? = some g1 := u1 _ _ (by rw [z1]; exact ap_r n0 (show ([g1] : List Nat)[0]? = some g1 from rfl))
  have t_pa1 : Z19[2]? = some pa1 := u2 _ _ (by rw [z2]; exact ap_r n1 (show ([pa1] : List Nat)[0]? = some pa1 from rfl))
  have t_r1 : Z19[15]? = some r1 := u4 _ _ (by rw [z4]; exact ap_r n3 (show ([r1, e1] : List Nat)[0]? = some r1 from rfl))
  have t_e1 : Z19[16]? = some e1 := u4 _ _ (by rw [z4]; exact ap_r n3 (show ([r1, e1] : List Nat)[1]? = some e1 from rfl))
  have t_g2 : Z19[17]? = some g2 := u5 _ _ (by rw [z5]; exact ap_r n4 (show ([g2] : List Nat)[0]? = some g2 from rfl))
  have t_pa2 : Z19[18]? = some pa2 := u6 _ _ (by rw [z6]; exact ap_r n5 (show ([pa2] : List Nat)[0]? = some pa2 from rfl))
  have t_r2 : Z19[31]? = some r2 := u8 _ _ (by rw [z8]; exact ap_r n7 (show ([r2, e2] : List Nat)[0]? = some r2 from rfl))
  have t_e2 : Z19[32]? = some e2 := u8 _ _ (by rw [z8]; exact ap_r n7 (show ([r2, e2] : List Nat)[1]? = some e2 from rfl))
  have t_g3 : Z19[33]? = some g3 := u9 _ _ (by rw [z9]; exact ap_r n8 (show ([g3] : List Nat)[0]? = some g3 from rfl))
  have t_pa3 : Z19[34]? = some pa3 := u10 _ _ (by rw [z10]; exact ap_r n9 (show ([pa3] : List Nat)[0]? = some pa3 from rfl))
  have t_r3 : Z19[47]? = some r3 := u12 _ _ (by rw [z12]; exact ap_r n11 (show ([r3, e3] : List Nat)[0]? = some r3 from rfl))
  have t_e3 : Z19[48]? = some e3 := u12 _ _ (by rw [z12]; exact ap_r n11 (show ([r3, e3] : List Nat)[1]? = some e3 from rfl))
  have t_sh9 : Z19[49]? = some sh9 := u13 _ _ (by rw [z13]; exact ap_r n12 (show ([sh9] : List Nat)[0]? = some sh9 from rfl))
  have t_co : Z19[82]? = some co := u15 _ _ (by rw [z15]; exact ap_r n14 (show ([co] : List Nat)[0]? = some co from rfl))
  have t_ot : Z19[83]? = some ot := u16 _ _ (by rw [z16]; exact ap_r n15 (show ([ot] : List Nat)[0]? = some ot from rfl))
  have t_m : Z19[84]? = some m := u17 _ _ (by rw [z17]; exact ap_r n16 (show ([m] : List Nat)[0]? = some m from rfl))
  have t_q1 : Z19[85]? = some q1 := u18 _ _ (by rw [z18]; exact ap_r n17 (show ([q1, q2, q3, q4, q5, q6, q7, q8, q9, q10, q11, q12, q13, q14] : List Nat)[0]? = some q1 from rfl))
  have t_q2 : Z19[86]? = some q2 := u18 _ _ (by rw [z18]; exact ap_r n17 (show ([q1, q2, q3, q4, q5, q6, q7, q8, q9, q10, q11, q12, q13, q14] : List Nat)[1]? = some q2 from rfl))
  have t_q3 : Z19[87]? = some q3 := u18 _ _ (by rw [z18]; exact ap_r n17 (show ([q1, q2, q3, q4, q5, q6, q7, q8, q9, q10, q11, q12, q13, q14] : List Nat)[2]? = some q3 from rfl))
  have t_q4 : Z19[88]? = some q4 := u18 _ _ (by rw [z18]; exact ap_r n17 (show ([q1, q2, q3, q4, q5, q6, q7, q8, q9, q10, q11, q12, q13, q14] : List Nat)[3]? = some q4 from rfl))
  have t_q5 : Z19[89]? = some q5 := u18 _ _ (by rw [z18]; exact ap_r n17 (show ([q1, q2, q3, q4, q5, q6, q7, q8, q9, q10, q11, q12, q13, q14] : List Nat)[4]? = some q5 from rfl))
  have t_q6 : Z19[90]? = some q6 := u18 _ _ (by rw [z18]; exact ap_r n17 (show ([q1, q2, q3, q4, q5, q6, q7, q8, q9, q10, q11, q12, q13, q14] : List Nat)[5]? = some q6 from rfl))
  have t_q7 : Z19[91]? = some q7 := u18 _ _ (by rw [z18]; exact ap_r n17 (show ([q1, q2, q3, q4, q5, q6, q7, q8, q9, q10, q11, q12, q13, q14] : List Nat)[6]? = some q7 from rfl))
  have t_q8 : Z19[92]? = some q8 := u18 _ _ (by rw [z18]; exact ap_r n17 (show ([q1, q2, q3, q4, q5, q6, q7, q8, q9, q10, q11, q12, q13, q14] : List Nat)[7]? = some q8 from rfl))
  have t_q9 : Z19[93]? = some q9 := u18 _ _ (by rw [z18]; exact ap_r n17 (show ([q1, q2, q3, q4, q5, q6, q7, q8, q9, q10, q11, q12, q13, q14] : List Nat)[8]? = some q9 from rfl))
  have t_q10 : Z19[94]? = some q10 := u18 _ _ (by rw [z18]; exact ap_r n17 (show ([q1, q2, q3, q4, q5, q6, q7, q8, q9, q10, q11, q12, q13, q14] : List Nat)[9]? = some q10 from rfl))
  have t_q11 : Z19[95]? = some q11 := u18 _ _ (by rw [z18]; exact ap_r n17 (show ([q1, q2, q3, q4, q5, q6, q7, q8, q9, q10, q11, q12, q13, q14] : List Nat)[10]? = some q11 from rfl))
  have t_q12 : Z19[96]? = some q12 := u18 _ _ (by rw [z18]; exact ap_r n17 (show ([q1, q2, q3, q4, q5, q6, q7, q8, q9, q10, q11, q12, q13, q14] : List Nat)[11]? = some q12 from rfl))
  have t_q13 : Z19[97]? = some q13 := u18 _ _ (by rw [z18]; exact ap_r n17 (show ([q1, q2, q3, q4, q5, q6, q7, q8, q9, q10, q11, q12, q13, q14] : List Nat)[12]? = some q13 from rfl))
  have t_q14 : Z19[98]? = some q14 := u18 _ _ (by rw [z18]; exact ap_r n17 (show ([q1, q2, q3, q4, q5, q6, q7, q8, q9, q10, q11, q12, q13, q14] : List Nat)[13]? = some q14 from rfl))
  have t_o : Z19[99]? = some o := u19 _ _ (by rw [z19]; exact ap_r n18 (show ([o] : List Nat)[0]? = some o from rfl))
  refine ⟨hnd, ⟨t_x, t_g1, t_pa1, t_r1, t_e1, t_g2, t_pa2, t_r2, t_e2, t_g3, t_pa3, t_r3, t_e3, t_sh9, t_co, t_ot, t_m, t_q1, t_q2, t_q3, t_q4, t_q5, t_q6, t_q7, t_q8, t_q9, t_q10, t_q11, t_q12, t_q13, t_q14, t_o⟩, fun i hi => ?_, fun i hi => ?_, fun i hi => ?_, fun i hi => ?_, fun i hi => ?_, fun i hi => ?_, fun i hi => ?_⟩
  · exact u3 _ _ (by rw [z3]; exact ap_r n2 (gD (l := ps1) (by omega)))
  · exact u7 _ _ (by rw [z7]; exact ap_r n6 (gD (l := ps2) (by omega)))
  · exact u11 _ _ (by rw [z11]; exact ap_r n10 (gD (l := ps3) (by omega)))
  · skip
    exact u14 _ _ (by rw [z14]; exact ap_r n13 (gD (l := qs) (i := 4 * i) (by omega)))
  · rw [show 51 + 4 * i = 50 + (4 * i + 1) by omega]
    exact u14 _ _ (by rw [z14]; exact ap_r n13 (gD (l := qs) (i := 4 * i + 1) (by omega)))
  · rw [show 52 + 4 * i = 50 + (4 * i + 2) by omega]
    exact u14 _ _ (by rw [z14]; exact ap_r n13 (gD (l := qs) (i := 4 * i + 2) (by omega)))
  · rw [show 53 + 4 * i = 50 + (4 * i + 3) by omega]
    exact u14 _ _ (by rw [z14]; exact ap_r n13 (gD (l := qs) (i := 4 * i + 3) (by omega)))
/-! WHAT IS MADE AHEAD OF THE LOOP KEEPS THE INVARIANT -/
set_option maxHeartbeats 4000000 in
theorem iv_make {cI cP cS cL : ClassId} {x g1 pa1 r1 e1 g2 pa2 r2 e2 g3 pa3 r3 e3 sh9 co ot m q1 q2 q3 q4 q5 q6 q7 q8 q9 q10 q11 q12 q13 q14 o : Nat} {ps1 ps2 ps3 qs : List Nat} {L1 L4 : List Nat} {F1 F3 F4 : Nat → va_E} (hL1 : L1 = [x] ++ [g1] ++ [pa1] ++ ps1 ++ [r1, e1] ++ [g2] ++ [pa2] ++ ps2 ++ [r2, e2] ++ [g3] ++ [pa3] ++ ps3 ++ [r3, e3] ++ [sh9] ++ qs ++ [co] ++ [ot]) (n1 : newGame cI cP F1 g1 pa1 ps1 r1 e1) (n2 : newGame cI cP F1 g2 pa2 ps2 r2 e2) (n3 : newGame cI cP F1 g3 pa3 ps3 r3 e3) (hsa : F1 sh9 = eQ cS 8 (fun i => some (qs.getD (4 * i) 0))) (hqs : qs.length = 32) (hsh : ∀ i, i < 8 → shelfAt cI F1 qs i) (hco : F1 co = eI cI 10 (fun _ => 0)) (hot : F1 ot = eI cI 10 (fun _ => 0)) (hx : F1 x = eX g1 g2 g3 0 sh9 co ot) (hg : gr L1 F1 (fun _ => True) L4 F4) (hm : wi L4 F4 m (eM q1 q2 q3 q4 q5 q6 q7 q8 q9 q10 0 0 0 0 0 0 q11 q12 q13 0 q14)) (h1 : wi L4 F4 q1 (eI cI 55 ss0)) (h2 : wi L4 F4 q2 (eI cI 55 (fun _ => 0))) (h3 : wi L4 F4 q3 (eI cI 55 (fun _ => 0))) (h4 : wi L4 F4 q4 (eI cI 55 (fun _ => 0))) (h5 : wi L4 F4 q5 (eI cI 8 (fun _ => 0))) (h6 : wi L4 F4 q6 (eI cI 8 (fun _ => 0))) (h7 : wi L4 F4 q7 (eI cI 8 (fun _ => 0))) (h8 : wi L4 F4 q8 (eI cI 800 (fun _ => 0))) (h9 : wi L4 F4 q9 (eI cI 8 (fun _ => 0))) (h10 : wi L4 F4 q10 (eI cI 8 (fun _ => 0))) (h11 : wi L4 F4 q11 (eI cI 3 (fun _ => 0))) (h12 : wi L4 F4 q12 (eI cI 12 (fun _ => 0))) (h13 : wi L4 F4 q13 (eI cI 100 (fun _ => 0))) (h14 : wi L4 F4 q14 (eI cI 10 (fun _ => 0))) (ho : wi L4 F4 o (eL cL 1 (fun _ => 0))) : IV cI cP cS cL x g1 pa1 r1 e1 g2 pa2 r2 e2 g3 pa3 r3 e3 sh9 co ot m q1 q2 q3 q4 q5 q6 q7 q8 q9 q10 q11 q12 q13 q14 o (fun i => ps1.getD i 0) (fun i => ps2.getD i 0) (fun i => ps3.getD i 0) (fun i => qs.getD (4 * i) 0) (fun i => qs.getD (4 * i + 1) 0) (fun i => qs.getD (4 * i + 2) 0) (fun i => qs.getD (4 * i + 3) 0) L4 F4 := by
  have gw : ∀ (a : Nat) (e : va_E), a ∈ L1 → F1 a = e → wi L4 F4 a e := fun a e h1 h2 => ⟨(hg a h1).1, ((hg a h1).2 trivial).trans h2⟩
  have m_x : x ∈ L1 := by rw [hL1]; exact List.mem_append_left _ (List.mem_append_left _ (List.mem_append_left _ (List.mem_append_left _ (List.mem_append_left _ (List.mem_append_left _ (List.mem_append_left _ (List.mem_append_left _ (List.mem_append_left _ (List.mem_append_left _ (List.mem_append_left _ (List.mem_append_left _ (List.mem_append_left _ (List.mem_append_left _ (List.mem_append_left _ (List.mem_append_left _ ((by simp : x ∈ ([x] : List Nat))))))))))))))))))
  have m_g1 : g1 ∈ L1 := by rw [hL1]; exact List.mem_append_left _ (List.mem_append_left _ (List.mem_append_left _ (List.mem_append_left _ (List.mem_append_left _ (List.mem_append_left _ (List.mem_append_left _ (List.mem_append_left _ (List.mem_append_left _ (List.mem_append_left _ (List.mem_append_left _ (List.mem_append_left _ (List.mem_append_left _ (List.mem_append_left _ (List.mem_append_left _ (List.mem_append_right _ ((by simp : g1 ∈ ([g1] : List Nat))))))))))))))))))
  have m_pa1 : pa1 ∈ L1 := by rw [hL1]; exact List.mem_append_left _ (List.mem_append_left _ (List.mem_append_left _ (List.mem_append_left _ (List.mem_append_left _ (List.mem_append_left _ (List.mem_append_left _ (List.mem_append_left _ (List.mem_append_left _ (List.mem_append_left _ (List.mem_append_left _ (List.mem_append_left _ (List.mem_append_left _ (List.mem_append_left _ (List.mem_append_right _ ((by simp : pa1 ∈ ([pa1] : List Nat)))))))))))))))))
  have m_r1 : r1 ∈ L1 := by rw [hL1]; exact List.mem_append_left _ (List.mem_append_left _ (List.mem_append_left _ (List.mem_append_left _ (List.mem_append_left _ (List.mem_append_left _ (List.mem_append_left _ (List.mem_append_left _ (List.mem_append_left _ (List.mem_append_left _ (List.mem_append_left _ (List.mem_append_left _ (List.mem_append_right _ ((by simp : r1 ∈ ([r1, e1] : List Nat)))))))))))))))
  have m_e1 : e1 ∈ L1 := by rw [hL1]; exact List.mem_append_left _ (List.mem_append_left _ (List.mem_append_left _ (List.mem_append_left _ (List.mem_append_left _ (List.mem_append_left _ (List.mem_append_left _ (List.mem_append_left _ (List.mem_append_left _ (List.mem_append_left _ (List.mem_append_left _ (List.mem_append_left _ (List.mem_append_right _ ((by simp : e1 ∈ ([r1, e1] : List Nat)))))))))))))))
  have m_g2 : g2 ∈ L1 := by rw [hL1]; exact List.mem_append_left _ (List.mem_append_left _ (List.mem_append_left _ (List.mem_append_left _ (List.mem_append_left _ (List.mem_append_left _ (List.mem_append_left _ (List.mem_append_left _ (List.mem_append_left _ (List.mem_append_left _ (List.mem_append_left _ (List.mem_append_right _ ((by simp : g2 ∈ ([g2] : List Nat))))))))))))))
  have m_pa2 : pa2 ∈ L1 := by rw [hL1]; exact List.mem_append_left _ (List.mem_append_left _ (List.mem_append_left _ (List.mem_append_left _ (List.mem_append_left _ (List.mem_append_left _ (List.mem_append_left _ (List.mem_append_left _ (List.mem_append_left _ (List.mem_append_left _ (List.mem_append_right _ ((by simp : pa2 ∈ ([pa2] : List Nat)))))))))))))
  have m_r2 : r2 ∈ L1 := by rw [hL1]; exact List.mem_append_left _ (List.mem_append_left _ (List.mem_append_left _ (List.mem_append_left _ (List.mem_append_left _ (List.mem_append_left _ (List.mem_append_left _ (List.mem_append_left _ (List.mem_append_right _ ((by simp : r2 ∈ ([r2, e2] : List Nat)))))))))))
  have m_e2 : e2 ∈ L1 := by rw [hL1]; exact List.mem_append_left _ (List.mem_append_left _ (List.mem_append_left _ (List.mem_append_left _ (List.mem_append_left _ (List.mem_append_left _ (List.mem_append_left _ (List.mem_append_left _ (List.mem_append_right _ ((by simp : e2 ∈ ([r2, e2] : List Nat)))))))))))
  have m_g3 : g3 ∈ L1 := by rw [hL1]; exact List.mem_append_left _ (List.mem_append_left _ (List.mem_append_left _ (List.mem_append_left _ (List.mem_append_left _ (List.mem_append_left _ (List.mem_append_left _ (List.mem_append_right _ ((by simp : g3 ∈ ([g3] : List Nat))))))))))
  have m_pa3 : pa3 ∈ L1 := by rw [hL1]; exact List.mem_append_left _ (List.mem_append_left _ (List.mem_append_left _ (List.mem_append_left _ (List.mem_append_left _ (List.mem_append_left _ (List.mem_append_right _ ((by simp : pa3 ∈ ([pa3] : List Nat)))))))))
  have m_r3 : r3 ∈ L1 := by rw [hL1]; exact List.mem_append_left _ (List.mem_append_left _ (List.mem_append_left _ (List.mem_append_left _ (List.mem_append_right _ ((by simp : r3 ∈ ([r3, e3] : List Nat)))))))
  have m_e3 : e3 ∈ L1 := by rw [hL1]; exact List.mem_append_left _ (List.mem_append_left _ (List.mem_append_left _ (List.mem_append_left _ (List.mem_append_right _ ((by simp : e3 ∈ ([r3, e3] : List Nat)))))))
  have m_sh9 : sh9 ∈ L1 := by rw [hL1]; exact List.mem_append_left _ (List.mem_append_left _ (List.mem_append_left _ (List.mem_append_right _ ((by simp : sh9 ∈ ([sh9] : List Nat))))))
  have m_co : co ∈ L1 := by rw [hL1]; exact List.mem_append_left _ (List.mem_append_right _ ((by simp : co ∈ ([co] : List Nat))))
  have m_ot : ot ∈ L1 := by rw [hL1]; exact List.mem_append_right _ ((by simp : ot ∈ ([ot] : List Nat)))
  have m_ps1 : ∀ i, i < 12 → ps1.getD i 0 ∈ L1 := fun i hi => by rw [hL1]; exact List.mem_append_left _ (List.mem_append_left _ (List.mem_append_left _ (List.mem_append_left _ (List.mem_append_left _ (List.mem_append_left _ (List.mem_append_left _ (List.mem_append_left _ (List.mem_append_left _ (List.mem_append_left _ (List.mem_append_left _ (List.mem_append_left _ (List.mem_append_left _ (List.mem_append_right _ (List.mem_of_getElem? (gD (l := ps1) (i := i) (by have := n1.1; omega))))))))))))))))
  have m_ps2 : ∀ i, i < 12 → ps2.getD i 0 ∈ L1 := fun i hi => by rw [hL1]; exact List.mem_append_left _ (List.mem_append_left _ (List.mem_append_left _ (List.mem_append_left _ (List.mem_append_left _ (List.mem_append_left _ (List.mem_append_left _ (List.mem_append_left _ (List.mem_append_left _ (List.mem_append_right _ (List.mem_of_getElem? (gD (l := ps2) (i := i) (by have := n2.1; omega))))))))))))
  have m_ps3 : ∀ i, i < 12 → ps3.getD i 0 ∈ L1 := fun i hi => by rw [hL1]; exact List.mem_append_left _ (List.mem_append_left _ (List.mem_append_left _ (List.mem_append_left _ (List.mem_append_left _ (List.mem_append_right _ (List.mem_of_getElem? (gD (l := ps3) (i := i) (by have := n3.1; omega))))))))
  have m_qs : ∀ i, i < 32 → qs.getD i 0 ∈ L1 := fun i hi => by rw [hL1]; exact List.mem_append_left _ (List.mem_append_left _ (List.mem_append_right _ (List.mem_of_getElem? (gD (l := qs) (i := i) (by omega)))))
  have b1 : bG cI cP L4 F4 g1 pa1 r1 e1 (fun i => ps1.getD i 0) 2 3 100 0 1 0 0 0 0 0 fz fz fz fz fz := ⟨gw _ _ m_g1 n1.2.1, gw _ _ m_pa1 n1.2.2.1, gw _ _ m_r1 n1.2.2.2.2.1, gw _ _ m_e1 n1.2.2.2.2.2, fun i hi => gw _ _ (m_ps1 i hi) (n1.2.2.2.1 i hi)⟩
  have b2 : bG cI cP L4 F4 g2 pa2 r2 e2 (fun i => ps2.getD i 0) 2 3 100 0 1 0 0 0 0 0 fz fz fz fz fz := ⟨gw _ _ m_g2 n2.2.1, gw _ _ m_pa2 n2.2.2.1, gw _ _ m_r2 n2.2.2.2.2.1, gw _ _ m_e2 n2.2.2.2.2.2, fun i hi => gw _ _ (m_ps2 i hi) (n2.2.2.2.1 i hi)⟩
  have b3 : bG cI cP L4 F4 g3 pa3 r3 e3 (fun i => ps3.getD i 0) 2 3 100 0 1 0 0 0 0 0 fz fz fz fz fz := ⟨gw _ _ m_g3 n3.2.1, gw _ _ m_pa3 n3.2.2.1, gw _ _ m_r3 n3.2.2.2.2.1, gw _ _ m_e3 n3.2.2.2.2.2, fun i hi => gw _ _ (m_ps3 i hi) (n3.2.2.2.1 i hi)⟩
  have bS9 : bS cI cS L4 F4 sh9 (fun i => qs.getD (4 * i) 0) (fun i => qs.getD (4 * i + 1) 0) (fun i => qs.getD (4 * i + 2) 0) (fun i => qs.getD (4 * i + 3) 0) fz fz fz (fun _ => fz) fz fz fz fz := ⟨gw _ _ m_sh9 hsa, fun i hi => gw _ _ (m_qs _ (by omega)) (hsh i hi).1, fun i hi => gw _ _ (m_qs _ (by omega)) (hsh i hi).2.1, fun i hi => gw _ _ (m_qs _ (by omega)) (hsh i hi).2.2.1, fun i hi => gw _ _ (m_qs _ (by omega)) (hsh i hi).2.2.2⟩
  exact ⟨0, 0, 0, 0, 0, 0, 0, ss0, fz, fz, fz, fz, fz, fz, fz, fz, fz, fz, fz, fz, fz, (fun _ => 0), ⟨_, _, _, _, _, _, _, _, b1, rg0⟩, ⟨_, _, _, _, _, _, _, _, _, _, _, _, _, _, _, b3⟩, ⟨_, _, _, _, _, _, _, _, _, _, _, _, _, _, _, b2, by decide, Or.inl rfl⟩, ⟨_, _, _, _, _, _, _, _, bS9, rs0⟩, gw _ _ m_x hx, ⟨_, gw _ _ m_co hco⟩, ⟨_, gw _ _ m_ot hot⟩, ⟨hm, h1, h2, h3, h4, h5, h6, h7, h8, h9, h10, h11, h12, h13, h14⟩, ho, by decide⟩
