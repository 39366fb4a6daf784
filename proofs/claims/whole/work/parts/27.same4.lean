/-! SAME ANSWERS: tests; people; shelves -/
theorem i64n (n : Nat) (h : n < 1000000) : (Int64.ofNat n).toInt = n := by
  rw [Int64.toInt_ofNat']
  exact bm64 (by omega)
theorem isIn_if {P : Prop} [Decidable P] {x : Int32} {a b : Int64} (h : P ↔ (a.toInt ≤ x.toInt ∧ x.toInt ≤ b.toInt)) : f_X6_isIn x.toInt64 a b = if P then 1 else 0 := by
  rw [isIn_iff, i64]
  by_cases c : P
  · rw [if_pos c, if_pos (h.mp c)]
  · rw [if_neg c, if_neg (fun q => c (h.mpr q))]
theorem L0 : (0 : Int64).toInt = 0 := rfl
theorem L1 : (1 : Int64).toInt = 1 := rfl
theorem if10 {P : Prop} [Decidable P] : ((if P then (1 : Int32) else 0) = 0) ↔ ¬ P := by
  by_cases c : P
  · rw [if_pos c]; exact ⟨fun q => absurd q (by decide), fun q => absurd c q⟩
  · rw [if_neg c]; exact ⟨fun _ => c, fun _ => rfl⟩
theorem shelf_eq (d : Int32) : f_X6_isShelf d = if (¬ d < 0 ∧ ¬ (8 : Int32) ≤ d) then 1 else 0 := by
  unfold f_X6_isShelf
  refine isIn_if ?_
  rw [xlt, xle, x0, L0]
  have a : (7 : Int64).toInt = 7 := rfl
  have b : (8 : Int32).toInt = 8 := rfl
  rw [a, b]; omega
theorem person_eq {p : Int32} {ss : Nat → Int32} (h5 : 0 ≤ (ss 5).toInt ∧ (ss 5).toInt ≤ 12) : f_X6_isPerson p ss = if (¬ p < 0 ∧ ¬ ss 5 ≤ p) then 1 else 0 := by
  unfold f_X6_isPerson
  refine isIn_if ?_
  rw [xlt, xle, x0, L0, i64, subI (by rw [x1]; omega), x1]
  omega
theorem one2_eq (w : Int32) : f_X5_isOneOfTwo w = f_X6_isIn w.toInt64 0 1 := by
  rw [isIn_if (P := w = 0 ∨ w = 1) (by
    rw [L0, L1]
    constructor
    · rintro (rfl | rfl) <;> decide
    · intro h
      by_cases c : w.toInt = 0
      · exact Or.inl (xin c)
      · exact Or.inr (xin (by rw [x1]; omega)))]
  unfold f_X5_isOneOfTwo
  by_cases a : w = 0
  · rw [if_pos a, if_pos (Or.inl a)]
  · rw [if_neg a]
    by_cases b : w = 1
    · rw [if_pos b, if_pos (Or.inr b)]
    · rw [if_neg b, if_neg (by rintro (h | h); exact a h; exact b h)]
theorem ge_le {x a b : Int32} {A B : Int64} (hA : A.toInt = a.toInt) (hB : B.toInt = b.toInt) : f_X6_isIn x.toInt64 A B = if x < a then 0 else (if b < x then 0 else 1) := by
  rw [isIn_if (P := ¬ x < a ∧ ¬ b < x) (by rw [xlt, xlt, hA, hB]; omega)]
  by_cases c : x < a
  · rw [if_pos c, if_neg (fun q => q.1 c)]
  · rw [if_neg c]
    by_cases d : b < x
    · rw [if_pos d, if_neg (fun q => q.2 d)]
    · rw [if_neg d, if_pos ⟨c, d⟩]
theorem step_eq (k : Int32) : f_X5_isStepCount k = f_X6_isIn k.toInt64 0 9 := (ge_le (a := 0) (b := 9) rfl rfl).symm
theorem card_eq (c : Int32) (h : Int32) : f_X0_isCard c h = f_X6_isIn c.toInt64 0 h.toInt64 := (ge_le (a := 0) rfl (i64 h)).symm
theorem value_eq (w n : Int32) : f_X0_canBe w n = f_X6_isValue w n := by
  unfold f_X0_canBe f_X6_isValue
  rw [one2_eq, ge_le (x := n) (A := 0) (B := 20) (a := 0) (b := 20) rfl rfl, ge_le (x := n) (A := 1) (B := 20) (a := 1) (b := 20) rfl rfl, ge_le (x := n) (A := 1) (B := 1000) (a := 1) (b := 1000) rfl rfl]
theorem place_eq {i sz : Int32} (h : 0 ≤ sz.toInt ∧ sz.toInt ≤ 100) : f_X3_hasPlace i sz = f_X6_isIn i.toInt64 0 (sz - 1).toInt64 := by
  rw [isIn_if (P := ¬ i < 0 ∧ ¬ sz ≤ i) (by rw [xlt, xle, x0, L0, i64, subI (by rw [x1]; omega), x1]; omega)]
  unfold f_X3_hasPlace
  by_cases c : i < 0
  · rw [if_pos c, if_neg (fun q => q.1 c)]
  · rw [if_neg c]
    by_cases d : sz ≤ i
    · rw [if_pos d, if_neg (fun q => q.2 d)]
    · rw [if_neg d, if_pos ⟨c, d⟩]
theorem pers_ok {p : Int32} {ss : Nat → Int32} (h5 : 0 ≤ (ss 5).toInt ∧ (ss 5).toInt ≤ 12) (c : ¬ p < 0 ∧ ¬ ss 5 ≤ p) : p = nI p.toNatClampNeg ∧ p.toNatClampNeg < (ss 5).toNatClampNeg ∧ p.toNatClampNeg < 12 := by
  rw [xlt, xle, x0] at c
  have a := cl_nat p
  have b := cl_nat (ss 5)
  exact ⟨asN (by omega), by omega, by omega⟩
theorem at_i {i : Nat} {sz : Int32} {f : Nat → Int32} (h : i < sz.toNatClampNeg) : f_X3_at (nI i) sz f = f i := by
  have hb := w_clamp_lt sz
  have hz := cl_nat sz
  have hP : f_X3_hasPlace (nI i) sz = 1 := by
    unfold f_X3_hasPlace
    rw [if_neg (nI_neg (by omega)), if_neg (by rw [xle, nI_toInt (by omega)]; omega)]
  rw [at_place, hP, if_neg o0, nI_clamp (by omega)]
theorem of_eq {p what ls sz : Int32} {ss cf nu ki st sl : Nat → Int32} (h : RG ss ls sz cf nu ki st sl) : f_X5_of p what (ss 6) (ss 5) sz cf ki st sl = f_X6_of p what ss := by
  obtain ⟨hB, hP, hC⟩ := h
  have h5 := hB.2.2.2.2.1
  unfold f_X5_of f_X6_of
  rw [person_eq h5]
  by_cases c : ¬ p < 0 ∧ ¬ ss 5 ≤ p
  · rw [if_pos c, if_pos c, if_neg o0]
    obtain ⟨e, l1, l2⟩ := pers_ok h5 c
    generalize p.toNatClampNeg = i at e l1 l2
    subst e
    obtain ⟨_, a1, a2, a3, _⟩ := hP.1 i l1
    rw [isIn_if (P := what = 0 ∨ what = 1 ∨ what = 2 ∨ what = 3) (by
      have b : (3 : Int64).toInt = 3 := rfl
      rw [L0, b]
      constructor
      · rintro (rfl | rfl | rfl | rfl) <;> decide
      · intro h
        by_cases c0 : what.toInt = 0
        · exact Or.inl (xin c0)
        · by_cases c1 : what.toInt = 1
          · exact Or.inr (Or.inl (xin c1))
          · by_cases c2 : what.toInt = 2
            · exact Or.inr (Or.inr (Or.inl (xin c2)))
            · exact Or.inr (Or.inr (Or.inr (xin (by show what.toInt = 3; omega)))))]
    by_cases w0 : what = 0
    · subst w0
      rw [if_pos rfl, if_neg (by rw [if10]; exact fun q => q (Or.inl rfl)), if_neg (by decide), get0 l2, a1]
    · rw [if_neg w0]
      by_cases w1 : what = 1
      · subst w1
        rw [if_pos rfl, if_neg (by rw [if10]; exact fun q => q (Or.inr (Or.inl rfl))), if_neg (by decide), get1 l2, a2]
      · rw [if_neg w1]
        by_cases w2 : what = 2
        · subst w2
          rw [if_pos rfl, if_neg (by rw [if10]; exact fun q => q (Or.inr (Or.inr (Or.inl rfl)))), if_neg (by decide), get2 l2, a3]
        · rw [if_neg w2]
          by_cases w3 : what = 3
          · subst w3
            have hN : ¬ (if ((3 : Int32) = 0 ∨ (3 : Int32) = 1 ∨ (3 : Int32) = 2 ∨ (3 : Int32) = 3) then (1 : Int32) else 0) = 0 := by decide
            rw [if_pos rfl, if_neg hN, if_pos rfl, get3 l2]
            by_cases r : ss 6 = 0
            · rw [if_pos r, hC.2.1 r i l1, if_neg (by decide)]
            · obtain ⟨z1, _, z2⟩ := hC.2.2 r
              obtain ⟨q1, q2, _⟩ := z2 i l1
              rw [if_neg r, q1, if_pos (by rw [xle, x0]; exact q2), z1, at_i l1]
          · rw [if_neg w3, if_pos (by rw [if10]; rintro (q | q | q | q); exact w0 q; exact w1 q; exact w2 q; exact w3 q)]
  · rw [if_neg c, if_neg c, if_pos rfl]
/-- a write at a place that says nothing of people's cards -/
theorem set_eq {what n ls sz : Int32} {ss cf nu ki st sl : Nat → Int32} (h : RG ss ls sz cf nu ki st sl) :
    (f_X5_set what n (ss 0) (ss 1) (ss 2) (ss 3) (ss 4) (ss 6)) = ((f_X6_set what n ss).1, (f_X6_set what n ss).2 0, (f_X6_set what n ss).2 1, (f_X6_set what n ss).2 2, (f_X6_set what n ss).2 3, (f_X6_set what n ss).2 4) ∧
    (f_X6_set what n ss).2 5 = ss 5 ∧ (f_X6_set what n ss).2 6 = ss 6 ∧ RG (f_X6_set what n ss).2 ls sz cf nu ki st sl := by
  have h0 := h
  obtain ⟨hB, hP, hC⟩ := h
  obtain ⟨b0, b1, b2, b3, b5, b6, b65, b8⟩ := hB
  unfold f_X5_set f_X6_set
  rw [value_eq]
  by_cases c : f_X6_isValue what n = 0
  · rw [if_pos c, if_pos c]
    exact ⟨rfl, rfl, rfl, h0⟩
  · rw [if_neg c, if_neg c]
    have key : ∀ w : Nat, w ≤ 4 → what = nI w → (w ≠ 4 → ss 6 = 0) → f_X6_isValue (nI w) n = 0 ∨ RG (upd ss w n) ls sz cf nu ki st sl := by
      intro w hw hw2 h6
      by_cases cv : f_X6_isValue (nI w) n = 0
      · exact Or.inl cv
      · right
        have n0 : ∀ j, j ≠ w → upd ss w n j = ss j := fun j hj => upd_ne _ _ hj
        have hR : RB (upd ss w n) := by
          unfold RB
          rw [n0 5 (by omega), n0 6 (by omega)]
          have h8 : ∀ i, i < 12 → 0 ≤ (upd ss w n (8 + 4 * i)).toInt ∧ (upd ss w n (8 + 4 * i)).toInt ≤ 9 := fun i hi => by rw [n0 _ (by omega)]; exact b8 i hi
          rcases (show w = 0 ∨ w = 1 ∨ w = 2 ∨ w = 3 ∨ w = 4 by omega) with rfl | rfl | rfl | rfl | rfl
          · unfold f_X6_isValue at cv
            rw [if_pos (show nI 0 = 0 from rfl)] at cv
            have := isIn_ok cv
            rw [i64] at this
            rw [n0 1 (by omega), n0 2 (by omega), n0 3 (by omega), upd_at]
            exact ⟨this, b1, b2, b3, b5, b6, b65, h8⟩
          · unfold f_X6_isValue at cv
            rw [if_neg (show ¬ nI 1 = 0 by decide), if_pos (show nI 1 = 1 from rfl)] at cv
            have := isIn_ok cv
            rw [i64] at this
            rw [n0 0 (by omega), n0 2 (by omega), n0 3 (by omega), upd_at]
            exact ⟨b0, this, b2, b3, b5, b6, b65, h8⟩
          · unfold f_X6_isValue at cv
            rw [if_neg (show ¬ nI 2 = 0 by decide), if_neg (show ¬ nI 2 = 1 by decide), if_pos (show nI 2 = 2 from rfl)] at cv
            have := isIn_ok cv
            rw [i64] at this
            rw [n0 0 (by omega), n0 1 (by omega), n0 3 (by omega), upd_at]
            exact ⟨b0, b1, this, b3, b5, b6, b65, h8⟩
          · unfold f_X6_isValue at cv
            rw [if_neg (show ¬ nI 3 = 0 by decide), if_neg (show ¬ nI 3 = 1 by decide), if_neg (show ¬ nI 3 = 2 by decide), if_pos (show nI 3 = 3 from rfl), ← one2_eq] at cv
            rw [n0 0 (by omega), n0 1 (by omega), n0 2 (by omega), upd_at]
            refine ⟨b0, b1, b2, ?_, b5, b6, b65, h8⟩
            unfold f_X5_isOneOfTwo at cv
            by_cases q : n = 0
            · exact Or.inl q
            · rw [if_neg q] at cv
              by_cases q1 : n = 1
              · exact Or.inr q1
              · rw [if_neg q1] at cv; exact absurd rfl cv
          · rw [n0 0 (by omega), n0 1 (by omega), n0 2 (by omega), n0 3 (by omega)]
            exact ⟨b0, b1, b2, b3, b5, b6, b65, h8⟩
        refine ⟨hR, ⟨fun i hi => ?_, hP.2⟩, hC.1, fun q i hi => ?_, fun q => ?_⟩
        · rw [n0 5 (by omega)] at hi
          rw [n0 _ (by omega), n0 _ (by omega), n0 _ (by omega)]
          exact hP.1 i hi
        · rw [n0 5 (by omega)] at hi
          rw [n0 6 (by omega)] at q
          rw [n0 _ (by omega)]
          exact hC.2.1 q i hi
        · rw [n0 6 (by omega)] at q
          rw [n0 5 (by omega)]
          obtain ⟨z1, z2, z3⟩ := hC.2.2 q
          refine ⟨z1, z2, fun i hi => ?_⟩
          rw [n0 _ (by omega)]
          by_cases h2 : w = 2
          · exact absurd (h6 (by omega)) q
          · rw [n0 2 (by omega)]
            exact z3 i hi
    have fin : ∀ w : Nat, w ≤ 4 → what = nI w → (w ≠ 4 → ss 6 = 0) →
        (bnd (f_X0_change what n (ss 0) (ss 1) (ss 2) (ss 3) (ss 4)) (fun x43 : Int32 × Int32 × Int32 × Int32 × Int32 => ((f_X0_setting what (ss 0) (ss 1) (ss 2) (ss 3) (ss 4)), x43.1, x43.2.1, x43.2.2.1, x43.2.2.2.1, x43.2.2.2.2))) = ((f_X6_becomes what n ss).1, (f_X6_becomes what n ss).2 0, (f_X6_becomes what n ss).2 1, (f_X6_becomes what n ss).2 2, (f_X6_becomes what n ss).2 3, (f_X6_becomes what n ss).2 4) ∧ (f_X6_becomes what n ss).2 5 = ss 5 ∧ (f_X6_becomes what n ss).2 6 = ss 6 ∧ RG (f_X6_becomes what n ss).2 ls sz cf nu ki st sl := by
      intro w hw hw2 h6
      have e : f_X6_becomes what n ss = (ss w, upd ss w n) := by unfold f_X6_becomes; rw [hw2, nI_clamp (by omega)]
      rw [e]
      refine ⟨?_, upd_ne _ _ (by omega), upd_ne _ _ (by omega), (key w hw hw2 h6).resolve_left (by rw [← hw2]; exact c)⟩
      rw [hw2]
      rcases (show w = 0 ∨ w = 1 ∨ w = 2 ∨ w = 3 ∨ w = 4 by omega) with rfl | rfl | rfl | rfl | rfl <;> rfl
    by_cases w4 : what = 4
    · rw [if_pos w4, if_pos w4]
      exact fin 4 (by omega) w4 (fun q => absurd rfl q)
    · rw [if_neg w4, if_neg w4]
      by_cases r : ss 6 ≤ 0
      · rw [if_pos r, if_pos r]
        have r0 : ss 6 = 0 := xin (by rw [xle, x0] at r; rw [x0]; omega)
        have hw : what = nI 0 ∨ what = nI 1 ∨ what = nI 2 ∨ what = nI 3 := by
          unfold f_X6_isValue at c
          by_cases a0 : what = 0
          · exact Or.inl a0
          · rw [if_neg a0] at c
            by_cases a1 : what = 1
            · exact Or.inr (Or.inl a1)
            · rw [if_neg a1] at c
              by_cases a2 : what = 2
              · exact Or.inr (Or.inr (Or.inl a2))
              · rw [if_neg a2] at c
                by_cases a3 : what = 3
                · exact Or.inr (Or.inr (Or.inr a3))
                · rw [if_neg a3, if_neg w4] at c
                  exact absurd rfl c
        rcases hw with hw | hw | hw | hw
        · exact fin 0 (by omega) hw (fun _ => r0)
        · exact fin 1 (by omega) hw (fun _ => r0)
        · exact fin 2 (by omega) hw (fun _ => r0)
        · exact fin 3 (by omega) hw (fun _ => r0)
      · rw [if_neg r, if_neg r]
        exact ⟨rfl, rfl, rfl, h0⟩
theorem steps_eq {p n ls sz : Int32} {ss cf nu ki st sl : Nat → Int32} (h : RG ss ls sz cf nu ki st sl) :
    (f_X5_steps p n (ss 5) st).1 = (f_X6_steps p n ss).1 ∧ (∀ j, j ≤ 6 → (f_X6_steps p n ss).2 j = ss j) ∧ RG (f_X6_steps p n ss).2 ls sz cf nu ki (f_X5_steps p n (ss 5) st).2 sl := by
  have h0 := h
  obtain ⟨hB, hP, hC⟩ := h
  obtain ⟨b0, b1, b2, b3, b5, b6, b65, b8⟩ := hB
  unfold f_X5_steps f_X6_steps
  rw [person_eq b5, step_eq]
  by_cases c : ¬ p < 0 ∧ ¬ ss 5 ≤ p
  · rw [if_pos c, if_pos c, if_neg o0]
    by_cases d : f_X6_isIn n.toInt64 0 9 = 0
    · rw [if_pos d, if_pos d]
      exact ⟨rfl, fun _ _ => rfl, h0⟩
    · rw [if_neg d, if_neg d]
      obtain ⟨e, l1, l2⟩ := pers_ok b5 c
      generalize p.toNatClampNeg = i at e l1 l2
      subst e
      have hn := isIn_ok d
      rw [i64] at hn
      have h9 : (9 : Int64).toInt = 9 := rfl
      rw [L0, h9] at hn
      have ix : ((7 + (4 * nI i)) + 1).toNatClampNeg = 8 + 4 * i := by
        rw [cl_nat, gixI (nIb l2) (by decide), nI_toInt (by omega), x1]; omega
      have eb : f_X6_becomes ((7 + (4 * nI i)) + 1) n ss = (ss (8 + 4 * i), upd ss (8 + 4 * i) n) := by unfold f_X6_becomes; rw [ix]
      rw [eb, bnd_eq]
      dsimp only
      have n0 : ∀ j, j ≠ 8 + 4 * i → upd ss (8 + 4 * i) n j = ss j := fun j hj => upd_ne _ _ hj
      have a2 := (hP.1 i l1).2.2.1
      refine ⟨a2, fun j hj => n0 j (by omega), ?_, ⟨fun k hk => ?_, fun k hk => ?_⟩, hC.1, fun q k hk => ?_, fun q => ?_⟩
      · refine ⟨by rw [n0 0 (by omega)]; exact b0, by rw [n0 1 (by omega)]; exact b1, by rw [n0 2 (by omega)]; exact b2, by rw [n0 3 (by omega)]; exact b3, by rw [n0 5 (by omega)]; exact b5, by rw [n0 6 (by omega)]; exact b6, by rw [n0 6 (by omega), n0 5 (by omega)]; exact b65, fun k hk => ?_⟩
        by_cases hki : k = i
        · subst hki; rw [upd_at]; exact hn
        · rw [n0 _ (by omega)]; exact b8 k hk
      · have hk : k < (ss 5).toNatClampNeg := by rw [n0 5 (by omega)] at hk; exact hk
        rw [n0 (7 + 4 * k) (by omega), n0 (9 + 4 * k) (by omega)]
        obtain ⟨q0, q1, q2, q3⟩ := hP.1 k hk
        refine ⟨q0, q1, ?_, q3⟩
        by_cases hki : k = i
        · subst hki; rw [upd_at]; exact (upd_at _ _ _).symm
        · rw [n0 _ (by omega)]; exact (upd_ne _ _ hki).trans q2
      · show (upd st i n k).toInt ≤ 9
        by_cases hki : k = i
        · subst hki; rw [upd_at]; exact hn.2
        · rw [upd_ne _ _ hki]; exact hP.2 k hk
      · rw [n0 5 (by omega)] at hk
        rw [n0 6 (by omega)] at q
        rw [n0 _ (by omega)]
        exact hC.2.1 q k hk
      · rw [n0 6 (by omega)] at q
        rw [n0 5 (by omega), n0 2 (by omega)]
        obtain ⟨z1, z2, z3⟩ := hC.2.2 q
        exact ⟨z1, z2, fun k hk => by rw [n0 _ (by omega)]; exact z3 k hk⟩
  · rw [if_neg c, if_neg c, if_pos rfl]
    exact ⟨rfl, fun _ _ => rfl, h0⟩
theorem holds_eq {p ls sz : Int32} {ss cf nu ki st sl : Nat → Int32} (h : RG ss ls sz cf nu ki st sl) : f_X5_holds p (ss 0) (ss 1) (ss 2) (ss 4) (ss 6) (ss 5) ls ki st = (f_X6_holds p ss, ss 4) := by
  obtain ⟨hB, hP, hC⟩ := h
  have hls := hC.ls hB
  obtain ⟨b0, b1, b2, b3, b5, b6, b65, b8⟩ := hB
  unfold f_X5_holds f_X6_holds
  rw [person_eq b5]
  by_cases c : ¬ p < 0 ∧ ¬ ss 5 ≤ p
  · rw [if_pos c, if_pos c, if_neg o0]
    obtain ⟨e, l1, l2⟩ := pers_ok b5 c
    generalize p.toNatClampNeg = i at e l1 l2
    subst e
    obtain ⟨_, a1, a2, a3, _⟩ := hP.1 i l1
    rw [a1, a2, drawn_eq l2]
    by_cases d : f_X1_holdsByDraw (ss (7 + 4 * i)) = 0
    · rw [if_pos d, if_pos d]
      have d1 : ¬ ss (7 + 4 * i) = 1 := fun q => by unfold f_X1_holdsByDraw at d; rw [if_pos q] at d; exact absurd d (by decide)
      have d7 : ¬ ss (7 + 4 * i) = 7 := fun q => by unfold f_X1_holdsByDraw at d; rw [if_neg d1, if_pos q] at d; exact absurd d (by decide)
      have q8 := b8 i l2
      rw [holdsBy_eq l2 (by omega) (fun q => by rw [q, x0] at b1; omega) ⟨q8.1, by omega⟩ b65 hls d1 d7]
      rfl
    · rw [if_neg d, if_neg d]
  · rw [if_neg c, if_neg c, if_pos rfl]
theorem fill_any : True := trivial
theorem anew_loop : ∀ (n k : Nat) (u : Nat → Int32), 0 ≤ (u 5).toInt ∧ (u 5).toInt ≤ 12 → k ≤ (u 5).toNatClampNeg → (u 5).toNatClampNeg - k < n →
    (f_X6_anew_L10 n k u).1 = u 5 ∧ (∀ i, k ≤ i → i < (u 5).toNatClampNeg → (f_X6_anew_L10 n k u).2 (10 + 4 * i) = -1) ∧ (∀ j, (∀ i, k ≤ i → i < (u 5).toNatClampNeg → j ≠ 10 + 4 * i) → (f_X6_anew_L10 n k u).2 j = u j) := by
  intro n
  induction n with
  | zero => intro k u _ _ h; exact absurd h (Nat.not_lt_zero _)
  | succ n ih =>
    intro k u h5 hk hm
    have hb := cl_nat (u 5)
    rw [f_X6_anew_L10_s]
    by_cases c : u 5 ≤ nI k
    · rw [if_pos c]
      rw [leB h5.1 (by omega)] at c
      exact ⟨rfl, fun i h1 h2 => absurd h2 (by omega), fun j _ => rfl⟩
    · rw [if_neg c]
      rw [leB h5.1 (by omega)] at c
      have e5 : upd u (10 + 4 * k) (-1) 5 = u 5 := upd_ne _ _ (by omega)
      obtain ⟨a1, a3, a4⟩ := ih (k + 1) (upd u (10 + 4 * k) (-1)) (by rw [e5]; exact h5) (by rw [e5]; omega) (by rw [e5]; omega)
      rw [e5] at a1 a3 a4
      refine ⟨a1, fun i h1 h2 => ?_, fun j h2 => ?_⟩
      · by_cases hik : i = k
        · subst hik
          rw [a4 (10 + 4 * i) (fun i2 _ _ => by omega), upd_at]
        · exact a3 i (by omega) h2
      · rw [a4 j (fun i q1 q2 => h2 i (by omega) q2), upd_ne _ _ (h2 k (Nat.le_refl _) (by omega))]
theorem anew_eq {ls sz : Int32} {ss cf nu ki st sl : Nat → Int32} (h : RG ss ls sz cf nu ki st sl) :
    (f_X5_anew (ss 5) cf).1 = (f_X6_anew ss).1 ∧ (f_X5_anew (ss 5) cf).2.1 = (f_X6_anew ss).2 6 ∧ (∀ j, j ≤ 5 → (f_X6_anew ss).2 j = ss j) ∧
    RG (f_X6_anew ss).2 (f_X5_anew (ss 5) cf).2.2.1 (f_X5_anew (ss 5) cf).2.2.2.2.1 (f_X5_anew (ss 5) cf).2.2.2.2.2 nu ki st sl := by
  obtain ⟨hB, hP, hC⟩ := h
  obtain ⟨b0, b1, b2, b3, b5, b6, b65, b8⟩ := hB
  have hb := cl_nat (ss 5)
  have e5 : upd ss 6 0 5 = ss 5 := upd_ne _ _ (by omega)
  obtain ⟨a1, a2, a3⟩ := anew_loop ((ss 5).toNatClampNeg + 1) 0 (upd ss 6 0) (by rw [e5]; exact b5) (Nat.zero_le _) (by rw [e5]; omega)
  rw [e5] at a1 a2 a3
  have n0 : ∀ j, j ≠ 6 → (∀ i, i < (ss 5).toNatClampNeg → j ≠ 10 + 4 * i) → (f_X6_anew ss).2 j = ss j := fun j h1 h2 => (a3 j (fun i _ hi => h2 i hi)).trans (upd_ne _ _ h1)
  have n6 : (f_X6_anew ss).2 6 = 0 := (a3 6 (fun i _ _ => by omega)).trans (upd_at _ _ _)
  have n5 : (f_X6_anew ss).2 5 = ss 5 := n0 5 (by omega) (fun i _ => by omega)
  refine ⟨a1.symm, n6.symm, fun j hj => n0 j (by omega) (fun i _ => by omega), ?_, ⟨fun i hi => ?_, hP.2⟩, ?_, fun _ i hi => ?_, fun q => absurd n6 q⟩
  · refine ⟨by rw [n0 0 (by omega) (fun i _ => by omega)]; exact b0, by rw [n0 1 (by omega) (fun i _ => by omega)]; exact b1, by rw [n0 2 (by omega) (fun i _ => by omega)]; exact b2, by rw [n0 3 (by omega) (fun i _ => by omega)]; exact b3, by rw [n5]; exact b5, by rw [n6]; decide, fun q => absurd n6 q, fun i hi => by rw [n0 _ (by omega) (fun j _ => by omega)]; exact b8 i hi⟩
  · rw [n5] at hi
    rw [n0 (7 + 4 * i) (by omega) (fun j _ => by omega), n0 (8 + 4 * i) (by omega) (fun j _ => by omega), n0 (9 + 4 * i) (by omega) (fun j _ => by omega)]
    exact hP.1 i hi
  · show (f_X3_begin 2 0 12 cf).2.1.toInt ≤ 12
    exact begin_le (by decide)
  · rw [n5] at hi
    exact a2 i (Nat.zero_le _) hi
