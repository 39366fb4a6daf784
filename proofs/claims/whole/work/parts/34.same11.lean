/-! SAME ANSWERS: jokers, ahead, differ, last, target -/
/-- cards that are no jokers: how many, their sum -/
def oN (h : Int32) (f : Nat → Int32) : Nat → Nat
  | 0 => 0
  | k + 1 => if f k = h then oN h f k else oN h f k + 1
def oS (h : Int32) (f : Nat → Int32) : Nat → Int
  | 0 => 0
  | k + 1 => if f k = h then oS h f k else oS h f k + (f k).toInt
theorem oN_s (h : Int32) (f : Nat → Int32) (k : Nat) : oN h f (k + 1) = if f k = h then oN h f k else oN h f k + 1 := rfl
theorem oS_s (h : Int32) (f : Nat → Int32) (k : Nat) : oS h f (k + 1) = if f k = h then oS h f k else oS h f k + (f k).toInt := rfl
theorem oN_le (h : Int32) (f : Nat → Int32) : ∀ k, oN h f k ≤ k := by
  intro k
  induction k with
  | zero => exact Nat.le_refl _
  | succ k ih => unfold oN; split <;> omega
theorem oS_rng {h : Int32} {f : Nat → Int32} (h0 : 0 ≤ h.toInt ∧ h.toInt ≤ 1000) : ∀ k, k ≤ 100 → (∀ i, i < k → 0 ≤ (f i).toInt ∧ (f i).toInt ≤ h.toInt) → 0 ≤ oS h f k ∧ oS h f k ≤ oN h f k * h.toInt ∧ (sumN f k).toInt = oS h f k + (k - oN h f k : Int) * h.toInt := by
  intro k
  induction k with
  | zero => intro _ _; exact ⟨Int.le_refl _, by show (0 : Int) ≤ (0 : Nat) * _; omega, by show (0 : Int32).toInt = 0 + ((0 : Nat) - (0 : Nat) : Int) * _; rw [x0]; omega⟩
  | succ k ih =>
    intro hk hf
    obtain ⟨a, b, c⟩ := ih (by omega) (fun i hi => hf i (by omega))
    have hfk := hf k (by omega)
    have hs := sumN_rng (f := f) k (by omega) (fun i hi => by have := hf i (by omega); omega)
    unfold oS oN sumN
    rw [addI (by omega), c]
    by_cases q : f k = h
    · rw [if_pos q, if_pos q, q]
      refine ⟨a, b, ?_⟩
      have : ((k + 1 : Nat) - oN h f k : Int) * h.toInt = (k - oN h f k : Int) * h.toInt + h.toInt := by
        rw [show ((k + 1 : Nat) - oN h f k : Int) = (k - oN h f k : Int) + 1 by omega, Int.add_mul, Int.one_mul]
      omega
    · rw [if_neg q, if_neg q]
      refine ⟨by omega, ?_, ?_⟩
      · rw [show ((oN h f k + 1 : Nat) : Int) = (oN h f k : Int) + 1 by omega, Int.add_mul, Int.one_mul]; omega
      · rw [show ((k + 1 : Nat) - (oN h f k + 1 : Nat) : Int) = (k - oN h f k : Int) by omega]; omega
theorem cnt_loop {h : Int32} {f : Nat → Int32} {sz : Int32} (h0 : 0 ≤ sz.toInt ∧ sz.toInt ≤ 100) : ∀ (n k : Nat) (v : Int32), k ≤ sz.toNatClampNeg → sz.toNatClampNeg - k < n → v.toInt = k - oN h f k → (f_X3_countOf_L4 h sz f n k v).toInt = sz.toInt - oN h f sz.toNatClampNeg := by
  have hz := cl_nat sz
  intro n
  induction n with
  | zero => intro k _ _ hq; exact absurd hq (Nat.not_lt_zero _)
  | succ n ih =>
    intro k v hk hm hv
    have ho := oN_le h f k
    rw [f_X3_countOf_L4_s]
    by_cases c : sz ≤ nI k
    · rw [if_pos c]
      rw [leB h0.1 (by omega)] at c
      rw [hv, show k = sz.toNatClampNeg by omega]; omega
    · rw [if_neg c]
      rw [leB h0.1 (by omega)] at c
      by_cases q : f k = h
      · rw [if_pos q]
        exact ih _ _ (by omega) (by omega) (by rw [addI (by rw [x1]; omega), x1, hv, oN_s, if_pos q]; omega)
      · rw [if_neg q]
        exact ih _ _ (by omega) (by omega) (by rw [hv, oN_s, if_neg q]; omega)
section
variable {ke so si el kd kt ho rso rsz snu ski sst ssl : Nat → Int32} {rel : Nat → Nat → Int32}
theorem jok_loop {i : Nat} {part : Int32} {ss : Nat → Int32} {x : Int32 × (Nat → Int32) × Int32} (h : CD ss (rsz i) (rel i)) (ex : x.2.2 = rsz i) (he : ∀ j, j < (rsz i).toNatClampNeg → x.2.1 j = rel i j) :
    ∀ (n k : Nat) (v4 v6 : Int64), k ≤ (rsz i).toNatClampNeg → (rsz i).toNatClampNeg - k < n → v4.toInt = oS (ss 2) (rel i) k → v6.toInt = oN (ss 2) (rel i) k →
    ∃ (a b : Int64), a.toInt = oS (ss 2) (rel i) (rsz i).toNatClampNeg ∧ b.toInt = oN (ss 2) (rel i) (rsz i).toNatClampNeg ∧ f_X6_jokers_L40 part ss x n k v4 v6 = (if lg_cmp b 0 = 0 then (((f_X6_partOf (((ss 0).toInt64) * ((((f_X6_sumOf x.2.2 x.2.1).toInt64) * 1) - (a * (x.2.2.toInt64)))) ((((ss 1) * x.2.2).toInt64) * 1) part).toInt32), x.2.1, x.2.2) else (((f_X6_partOf (((ss 0).toInt64) * ((((f_X6_sumOf x.2.2 x.2.1).toInt64) * b) - (a * (x.2.2.toInt64)))) ((((ss 1) * x.2.2).toInt64) * b) part).toInt32), x.2.1, x.2.2)) := by
  obtain ⟨hB, h1, h2, h3⟩ := h
  have b2 := hB.2.2.1
  have hz := cl_nat (rsz i)
  intro n
  induction n with
  | zero => intro k _ _ _ hq; exact absurd hq (Nat.not_lt_zero _)
  | succ n ih =>
    intro k v4 v6 hk hm e4 e6
    have ho := oN_le (ss 2) (rel i) k
    obtain ⟨r1, r2, r3⟩ := oS_rng (h := ss 2) (f := rel i) ⟨by omega, b2.2⟩ k (by omega) (fun j hj => h3 j (by omega))
    have r4 : (oN (ss 2) (rel i) k : Int) * (ss 2).toInt ≤ 100 * 1000 := Int.mul_le_mul (by omega) b2.2 (by omega) (by omega)
    rw [f_X6_jokers_L40_s, ex]
    by_cases c : rsz i ≤ nI k
    · rw [if_pos c]
      rw [leB (by omega) (by omega)] at c
      refine ⟨v4, v6, ?_, ?_, rfl⟩
      · rw [e4, show k = (rsz i).toNatClampNeg by omega]
      · rw [e6, show k = (rsz i).toNatClampNeg by omega]
    · rw [if_neg c]
      rw [leB (by omega) (by omega)] at c
      have ih' := fun a b c d => ih (k + 1) a b (by omega) (by omega) c d
      rw [ex] at ih'
      rw [he k (by omega)]
      by_cases q : rel i k = ss 2
      · rw [if_pos q]
        exact ih' _ _ (by rw [e4]; show _ = oS (ss 2) (rel i) (k + 1); rw [oS_s, if_pos q]) (by rw [e6]; show _ = ((oN (ss 2) (rel i) (k + 1) : Nat) : Int); rw [oN_s, if_pos q])
      · rw [if_neg q]
        have hfk := h3 k (by omega)
        refine ih' _ _ ?_ ?_
        · rw [addL (by rw [e4, i64]; omega), e4, i64]
          show _ = oS (ss 2) (rel i) (k + 1)
          rw [oS_s, if_neg q]
        · rw [addL (by rw [e6, L1]; omega), e6, L1]
          show _ = ((oN (ss 2) (rel i) (k + 1) : Nat) : Int)
          rw [oN_s, if_neg q]; omega
theorem jokers_m {d part hs : Int32} {ss ha : Nat → Int32} (hS : RS ke so si el kd kt ho rso rsz rel snu ski sst ssl) (hB : RB ss) (hhs : hs.toInt ≤ 100) :
    f_X5_jokers d part (ss 0) (ss 1) (ss 2) ho rsz rel = (f_X6_jokers d part hs ss ke so si el ha).1 ∧ (f_X6_jokers d part hs ss ke so si el ha).2.2.toInt ≤ 100 := by
  unfold f_X5_jokers f_X6_jokers
  rw [one2_eq]
  by_cases c : ¬ d < 0 ∧ ¬ (8 : Int32) ≤ d
  · rw [if_pos c]
    obtain ⟨ed, hd⟩ := sh_ok c
    generalize d.toNatClampNeg = i at ed hd
    subst ed
    rw [shelf_i hd, if_neg o0]
    by_cases w : f_X6_isIn part.toInt64 0 1 = 0
    · rw [if_pos w, if_pos w]; exact ⟨rfl, hhs⟩
    · rw [if_neg w, if_neg w, bnd_eq]
      have ht := takes_i (ha := ha) hS hB hhs hd
      generalize f_X6_takesRow (nI i) hs ss ke so si el ha = t at ht
      obtain ⟨t1, t2, t3⟩ := ht
      rw [← t1]
      by_cases q : t.1 = 0
      · rw [if_pos q, if_pos q]
        obtain ⟨u1, u2, u3⟩ := t3 q
        have hz := cl_nat (rsz i)
        obtain ⟨a, b, ea, eb, ej⟩ := jok_loop (part := part) u2 u1 u3 (t.2.2.toNatClampNeg + 1) 0 0 0 (Nat.zero_le _) (by rw [u1]; omega) (by rw [L0]; rfl) (by rw [L0]; rfl)
        rw [ej]
        obtain ⟨hB, h1, h2, h3⟩ := u2
        obtain ⟨b0, b1, b2, _⟩ := hB
        have hcnt : (f_X3_countOf (ss 2) (rsz i) (rel i)).toInt = (rsz i).toInt - oN (ss 2) (rel i) (rsz i).toNatClampNeg := cnt_loop ⟨by omega, h2⟩ _ 0 0 (Nat.zero_le _) (by omega) (by rw [x0]; show (0 : Int) = (0 : Nat) - (0 : Nat); omega)
        have ho := oN_le (ss 2) (rel i) (rsz i).toNatClampNeg
        obtain ⟨r1, r2, r3⟩ := oS_rng (h := ss 2) (f := rel i) ⟨by omega, b2.2⟩ (rsz i).toNatClampNeg (by omega) h3
        have hs9 := sumN_rng (f := rel i) (rsz i).toNatClampNeg (by omega) (fun j hj => by have := h3 j hj; omega)
        have eo : (rsz i - f_X3_countOf (ss 2) (rsz i) (rel i)).toInt = oN (ss 2) (rel i) (rsz i).toNatClampNeg := by rw [subI (by omega)]; omega
        rw [u1, sum3 (by omega), sum6 (by omega), sumN_congr _ u3]
        rw [u1] at t2
        generalize rsz i - f_X3_countOf (ss 2) (rsz i) (rel i) = o at eo
        generalize sumN (rel i) (rsz i).toNatClampNeg = S at r3 hs9
        generalize oS (ss 2) (rel i) (rsz i).toNatClampNeg = P at ea r1 r2 r3
        generalize oN (ss 2) (rel i) (rsz i).toNatClampNeg = O at eb r2 r3 eo ho
        generalize rsz i = m at *
        obtain ⟨g1, g2, g3⟩ := mul_rng (a := ss 1) (b := m) (A := 20) (B := 100) ⟨by omega, b1.2⟩ ⟨by omega, h2⟩ (by omega)
        have g4 : 1 * 1 ≤ (ss 1).toInt * m.toInt := Int.mul_le_mul b1.1 h1 (by decide) (by omega)
        by_cases z : o = 0
        · rw [if_pos z]
          have O0 : O = 0 := by rw [z, x0] at eo; omega
          subst O0
          rw [if_pos ((lg_cmp_eq b 0).mpr (Int64.toInt_inj.mp (by rw [eb, L0]; rfl)))]
          refine ⟨?_, t2⟩
          have P0 : P = 0 := by omega
          obtain ⟨k1, k2, k3⟩ := mul_rng (a := ss 0) (b := S) (A := 20) (B := 100000) b0 ⟨hs9.1, by omega⟩ (by omega)
          have q1 : (S.toInt64 * 1).toInt = S.toInt := by rw [mulL (by rw [i64, L1]; omega), i64, L1, Int.mul_one]
          have q2 : (a * m.toInt64).toInt = 0 := by rw [mulL (by rw [ea, P0, Int.zero_mul]; omega), ea, P0, Int.zero_mul]
          have q3 : (S.toInt64 * 1 - a * m.toInt64).toInt = S.toInt := by rw [subL (by rw [q1, q2]; omega), q1, q2]; omega
          exact (lp_eq (by omega) ⟨by omega, by omega⟩ (by rw [mulL (by rw [i64, q3]; omega), i64, q3, k1]) (by rw [mulL (by rw [i64, L1]; omega), i64, L1, Int.mul_one])).1
        · rw [if_neg z]
          have Op : 1 ≤ (O : Int) := by have := w_pos (x := o) (by omega) z; omega
          rw [if_neg (show ¬ lg_cmp b 0 = 0 by intro qq; have e := (lg_cmp_eq b 0).mp qq; rw [e, L0] at eb; omega)]
          refine ⟨?_, t2⟩
          have em : (m - o).toInt = m.toInt - O := by rw [subI (by omega)]; omega
          obtain ⟨k1, k2, k3⟩ := mul_rng (a := m - o) (b := ss 2) (A := 100) (B := 1000) ⟨by omega, by omega⟩ ⟨by omega, b2.2⟩ (by omega)
          have es : (S - (m - o) * ss 2).toInt = P := by
            have e9 : (m.toNatClampNeg - O : Int) * (ss 2).toInt = (m.toInt - O) * (ss 2).toInt := by rw [show (m.toNatClampNeg : Int) = m.toInt by omega]
            rw [em] at k1 k2 k3
            rw [subI (by rw [k1]; omega), k1]; omega
          have eo2 : o.toInt = O := eo
          obtain ⟨l1, l2, l3⟩ := mul_rng (a := S) (b := o) (A := 100000) (B := 100) ⟨hs9.1, by omega⟩ ⟨by omega, by omega⟩ (by omega)
          have Pb : P ≤ 100000 := by
            have : (O : Int) * (ss 2).toInt ≤ 100 * 1000 := Int.mul_le_mul (by omega) b2.2 (by omega) (by omega)
            omega
          obtain ⟨n1, n2, n3⟩ := mul_rng (a := S - (m - o) * ss 2) (b := m) (A := 100000) (B := 100) ⟨by omega, by omega⟩ ⟨by omega, h2⟩ (by omega)
          rw [es] at n1 n2 n3
          have hD : 0 ≤ S.toInt * o.toInt - P * m.toInt := by
            have hm : (m.toNatClampNeg : Int) = m.toInt := by omega
            rw [r3, eo2, hm]
            have e1 : (P + (m.toInt - O) * (ss 2).toInt) * O - P * m.toInt = (m.toInt - O) * (O * (ss 2).toInt - P) := by grind
            rw [e1]
            exact Int.mul_nonneg (by omega) (by omega)
          have eD : (S * o - (S - (m - o) * ss 2) * m).toInt = S.toInt * o.toInt - P * m.toInt := by rw [subI (by rw [l1, n1]; omega), l1, n1]
          obtain ⟨v1, v2, v3⟩ := mul_rng (a := ss 0) (b := S * o - (S - (m - o) * ss 2) * m) (A := 20) (B := 10000000) b0 ⟨by omega, by omega⟩ (by omega)
          obtain ⟨w1, w2, w3⟩ := mul_rng (a := ss 1 * m) (b := o) (A := 2000) (B := 100) ⟨by omega, by omega⟩ ⟨by omega, by omega⟩ (by omega)
          have w4 : 1 * 1 ≤ (ss 1 * m).toInt * o.toInt := Int.mul_le_mul (by omega) (by omega) (by decide) (by omega)
          have q1 : (S.toInt64 * b).toInt = S.toInt * o.toInt := by rw [mulL (by rw [i64, eb, ← eo2]; omega), i64, eb, ← eo2]
          have q2 : (a * m.toInt64).toInt = P * m.toInt := by rw [mulL (by rw [ea, i64]; omega), ea, i64]
          have q3 : (S.toInt64 * b - a * m.toInt64).toInt = S.toInt * o.toInt - P * m.toInt := by rw [subL (by rw [q1, q2]; omega), q1, q2]
          exact (lp_eq (by omega) ⟨by omega, by omega⟩ (by rw [mulL (by rw [i64, q3, ← eD]; omega), i64, q3, v1, eD]) (by rw [mulL (by rw [i64, eb, ← eo2]; omega), i64, eb, ← eo2, w1])).1
      · rw [if_neg q, if_neg q]; exact ⟨rfl, t2⟩
  · rw [if_neg c, shelf_no c, if_pos rfl]
    refine ⟨?_, hhs⟩
    split <;> rfl
end
