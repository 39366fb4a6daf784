/-! SAME ANSWERS: the last round -/
theorem tl_loop {ss : Nat → Int32} (h5 : 0 ≤ (ss 5).toInt ∧ (ss 5).toInt ≤ 12) : ∀ (n k : Nat) (u : Nat → Int32), k ≤ (ss 5).toNatClampNeg → (ss 5).toNatClampNeg - k < n → (∀ i, i < k → u i = ss (10 + 4 * i)) →
    (f_X6_takesLast_L12 ss n k u).2 = ss 5 ∧ ∀ i, i < (ss 5).toNatClampNeg → (f_X6_takesLast_L12 ss n k u).1 i = ss (10 + 4 * i) := by
  have hz := cl_nat (ss 5)
  intro n
  induction n with
  | zero => intro k u _ h; exact absurd h (Nat.not_lt_zero _)
  | succ n ih =>
    intro k u hk hm hu
    rw [f_X6_takesLast_L12_s]
    by_cases c : ss 5 ≤ nI k
    · rw [if_pos c]
      rw [leB h5.1 (by omega)] at c
      exact ⟨rfl, fun i hi => hu i (by omega)⟩
    · rw [if_neg c]
      rw [leB h5.1 (by omega)] at c
      rw [get3 (by omega)]
      refine ih (k + 1) _ (by omega) (by omega) (fun i hi => ?_)
      by_cases hik : i = k
      · subst hik; exact upd_at _ _ _
      · rw [upd_ne _ _ hik]; exact hu i (by omega)
theorem tl_ok {ss ha : Nat → Int32} (h5 : 0 ≤ (ss 5).toInt ∧ (ss 5).toInt ≤ 12) : (f_X6_takesLast ss ha).2 = ss 5 ∧ ∀ i, i < (ss 5).toNatClampNeg → (f_X6_takesLast ss ha).1 i = ss (10 + 4 * i) :=
  tl_loop h5 _ 0 _ (Nat.zero_le _) (by omega) (fun i hi => absurd hi (Nat.not_lt_zero _))
/-- the cards of the last round -/
theorem lastCD {ls sz : Int32} {ss cf nu ki st sl : Nat → Int32} (h : RG ss ls sz cf nu ki st sl) (r6 : ¬ ss 6 = 0) : sz = ss 5 ∧ ls = sumN cf (ss 5).toNatClampNeg ∧ CD ss (ss 5) cf ∧ ∀ i, i < (ss 5).toNatClampNeg → ss (10 + 4 * i) = cf i := by
  obtain ⟨hB, hP, hC⟩ := h
  obtain ⟨z1, z2, z3⟩ := hC.2.2 r6
  have b5 := hB.2.2.2.2.1
  have p5 := w_pos b5.1 (hB.2.2.2.2.2.2.1 r6)
  exact ⟨z1, z2, ⟨hB, p5, by omega, fun j hj => (z3 j hj).2⟩, fun i hi => (z3 i hi).1⟩
theorem last_m {what ls sz hs : Int32} {ss cf nu ki st sl ha : Nat → Int32} (h : RG ss ls sz cf nu ki st sl) (hhs : hs.toInt ≤ 100) :
    f_X5_last what (ss 0) (ss 1) (ss 3) (ss 6) ls sz cf = (f_X6_last what hs ss ha).1 ∧ (f_X6_last what hs ss ha).2.2.toInt ≤ 100 := by
  unfold f_X5_last f_X6_last
  rw [ge_le (x := what) (A := 0) (B := 2) (a := 0) (b := 2) rfl rfl]
  by_cases w0 : what < 0
  · rw [if_pos w0, if_pos w0, if_pos rfl]; exact ⟨rfl, hhs⟩
  · rw [if_neg w0, if_neg w0]
    by_cases w2 : (2 : Int32) < what
    · rw [if_neg (show ¬ what ≤ 2 by rw [xle]; rw [xlt] at w2; omega), if_pos w2, if_pos rfl]; exact ⟨rfl, hhs⟩
    · rw [if_pos (show what ≤ 2 by rw [xle]; rw [xlt] at w2; omega), if_neg w2, if_neg o0]
      by_cases r6 : ss 6 = 0
      · rw [if_pos r6, if_pos r6]; exact ⟨rfl, hhs⟩
      · rw [if_neg r6, if_neg r6, bnd_eq]
        obtain ⟨z1, z2, z3, z4⟩ := lastCD h r6
        have b5 := h.1.2.2.2.2.1
        obtain ⟨t1, t2⟩ := tl_ok (ha := ha) b5
        generalize f_X6_takesLast ss ha = t at t1 t2
        have he : ∀ j, j < (ss 5).toNatClampNeg → t.1 j = cf j := fun j hj => (t2 j hj).trans (z4 j hj)
        have h100 : (ss 5).toInt ≤ 100 := by omega
        rw [t1, z1]
        by_cases e0 : what = 0
        · rw [if_pos e0, if_pos e0]
          refine ⟨?_, h100⟩
          show ls = f_X6_sumOf (ss 5) t.1
          rw [z2, sum6 b5.1]
          exact (sumN_congr _ he).symm
        · rw [if_neg e0, if_neg e0]
          refine ⟨?_, h100⟩
          show _ = f_X6_winnersOf (what - 1) (ss 5) ss t.1
          by_cases e1 : what = 1
          · rw [if_pos e1, e1, count_eq z3 he]
            rfl
          · have e2 : what = 2 := by
              have q0 := xne e0
              have q1 := xne e1
              rw [xlt, x0] at w0
              rw [xlt, x2] at w2
              rw [x0] at q0
              rw [x1] at q1
              exact xin (by rw [x2]; omega)
            rw [if_neg e1, e2, first_eq z3 he]
            rfl
theorem target_m {part ls sz hs : Int32} {ss cf nu ki st sl ha : Nat → Int32} (h : RG ss ls sz cf nu ki st sl) (hhs : hs.toInt ≤ 100) :
    f_X5_target part (ss 0) (ss 1) (ss 6) sz cf = (f_X6_target part hs ss ha).1 ∧ (f_X6_target part hs ss ha).2.2.toInt ≤ 100 := by
  unfold f_X5_target f_X6_target
  rw [one2_eq]
  by_cases w : f_X6_isIn part.toInt64 0 1 = 0
  · rw [if_pos w, if_pos w]; exact ⟨rfl, hhs⟩
  · rw [if_neg w, if_neg w]
    by_cases r6 : ss 6 = 0
    · rw [if_pos r6, if_pos r6]; exact ⟨rfl, hhs⟩
    · rw [if_neg r6, if_neg r6, bnd_eq]
      obtain ⟨z1, z2, z3, z4⟩ := lastCD h r6
      have b5 := h.1.2.2.2.2.1
      obtain ⟨t1, t2⟩ := tl_ok (ha := ha) b5
      generalize f_X6_takesLast ss ha = t at t1 t2
      have he : ∀ j, j < (ss 5).toNatClampNeg → t.1 j = cf j := fun j hj => (t2 j hj).trans (z4 j hj)
      rw [t1, z1]
      exact ⟨(tgt_eq z3 he).1, by show (ss 5).toInt ≤ 100; omega⟩
