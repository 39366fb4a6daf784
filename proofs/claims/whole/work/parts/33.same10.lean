/-! SAME ANSWERS: fractions -/
theorem half_lt {a b : Nat} (h : 0 < a % b) (hb : 0 < b) : 2 * (b % (a % b)) < b := by
  have h1 : a % b < b := Nat.mod_lt _ hb
  have h2 : b % (a % b) < a % b := Nat.mod_lt _ h
  have h3 := Nat.div_add_mod b (a % b)
  have h4 : 1 ≤ b / (a % b) := (Nat.one_le_div_iff h).mpr (by omega)
  have h5 : (a % b) * 1 ≤ (a % b) * (b / (a % b)) := Nat.mul_le_mul_left _ h4
  omega
theorem nat_mod {a b : Int} (ha : 0 ≤ a) (hb : 0 ≤ b) : a % b = ((a.toNat % b.toNat : Nat) : Int) := by
  obtain ⟨m, rfl⟩ := Int.eq_ofNat_of_zero_le ha
  obtain ⟨n, rfl⟩ := Int.eq_ofNat_of_zero_le hb
  rfl
theorem mod_step {x y : Int32} (hx : 0 ≤ x.toInt) (hy : 0 < y.toInt) : (x - x / y * y).toInt = ((x.toInt.toNat % y.toInt.toNat : Nat) : Int) := by
  rw [rem32, Int.tmod_eq_emod_of_nonneg hx]
  exact nat_mod hx (by omega)
theorem gcd5 : ∀ (t n k : Nat) (x y : Int32), 0 ≤ x.toInt → 0 ≤ y.toInt → y.toInt.toNat < 2 ^ t → 2 * t + 1 ≤ n → k + 2 * t + 1 ≤ 1000 → (f_X5_commonMeasure_L7 n k x y).toInt = (Nat.gcd x.toInt.toNat y.toInt.toNat : Nat) := by
  intro t
  induction t with
  | zero =>
    intro n k x y hx hy hlt hn hk
    obtain ⟨n, rfl⟩ : ∃ m, n = m + 1 := ⟨n - 1, by omega⟩
    have y0 : y = 0 := xin (by rw [x0]; omega)
    rw [f_X5_commonMeasure_L7_s, if_neg (by rw [show (1000 : Int32) = nI 1000 from rfl, nI_leI (by decide) (by omega)]; omega), if_pos y0, y0, x0]
    show x.toInt = (Nat.gcd x.toInt.toNat 0 : Nat)
    rw [Nat.gcd_zero_right]; omega
  | succ t ih =>
    intro n k x y hx hy hlt hn hk
    obtain ⟨n, rfl⟩ : ∃ m, n = m + 1 := ⟨n - 1, by omega⟩
    rw [f_X5_commonMeasure_L7_s, if_neg (by rw [show (1000 : Int32) = nI 1000 from rfl, nI_leI (by decide) (by omega)]; omega)]
    by_cases y0 : y = 0
    · rw [if_pos y0, y0, x0]
      show x.toInt = (Nat.gcd x.toInt.toNat 0 : Nat)
      rw [Nat.gcd_zero_right]; omega
    · rw [if_neg y0]
      have yp := w_pos hy y0
      have e1 := mod_step hx (show 0 < y.toInt by omega)
      obtain ⟨n, rfl⟩ : ∃ m, n = m + 1 := ⟨n - 1, by omega⟩
      have hg : Nat.gcd x.toInt.toNat y.toInt.toNat = Nat.gcd y.toInt.toNat (x.toInt.toNat % y.toInt.toNat) := by
        rw [Nat.gcd_comm, Nat.gcd_rec, Nat.gcd_comm]
      rw [f_X5_commonMeasure_L7_s, if_neg (by rw [show (1000 : Int32) = nI 1000 from rfl, nI_leI (by decide) (by omega)]; omega)]
      by_cases r0 : x - x / y * y = 0
      · rw [if_pos r0]
        rw [r0, x0] at e1
        rw [hg, show x.toInt.toNat % y.toInt.toNat = 0 by omega, Nat.gcd_zero_right]; omega
      · rw [if_neg r0]
        have rp := w_pos (x := x - x / y * y) (by omega) r0
        have e2 := mod_step hy (show 0 < (x - x / y * y).toInt by omega)
        have hh := half_lt (a := x.toInt.toNat) (b := y.toInt.toNat) (by omega) (by omega)
        have en : (x - x / y * y).toInt.toNat = x.toInt.toNat % y.toInt.toNat := by omega
        rw [en] at e2
        rw [ih n (k + 1 + 1) _ _ (by omega) (by omega) (by rw [e2]; have : 2 ^ (t + 1) = 2 ^ t * 2 := Nat.pow_succ 2 t; omega) (by omega) (by omega), hg, en, e2]
        have hg2 : Nat.gcd y.toInt.toNat (x.toInt.toNat % y.toInt.toNat) = Nat.gcd (x.toInt.toNat % y.toInt.toNat) (y.toInt.toNat % (x.toInt.toNat % y.toInt.toNat)) := by
          rw [Nat.gcd_comm, Nat.gcd_rec, Nat.gcd_comm]
        rw [hg2]
        rfl
theorem gcd6 : ∀ (n : Nat) (x y : Int64), 0 ≤ x.toInt → 0 ≤ y.toInt → y.toInt.toNat < n → (f_X6_common_L6 n 0 x y).toInt = (Nat.gcd x.toInt.toNat y.toInt.toNat : Nat) := by
  intro n
  induction n with
  | zero => intro x y _ _ h; exact absurd h (Nat.not_lt_zero _)
  | succ n ih =>
    intro x y hx hy hn
    rw [f_X6_common_L6_s]
    by_cases c : lg_cmp y 0 = 0
    · have y0 : y = 0 := (lg_cmp_eq y 0).mp c
      rw [if_pos c]
      have hc : (0 : Int32) ≤ lg_cmp x 0 := by
        refine Int32.not_lt.mp (fun q => ?_)
        rw [lg_cmp_lt, Int64.lt_iff_toInt_lt, L0] at q; omega
      rw [if_pos hc, y0, L0]
      show x.toInt = (Nat.gcd x.toInt.toNat 0 : Nat)
      rw [Nat.gcd_zero_right]; omega
    · rw [if_neg c]
      have yn := lne_toInt (lg_ne c)
      have e1 : (x - x / y * y).toInt = ((x.toInt.toNat % y.toInt.toNat : Nat) : Int) := by
        rw [lremI, Int.tmod_eq_emod_of_nonneg hx]; exact nat_mod hx hy
      have hl : x.toInt.toNat % y.toInt.toNat < y.toInt.toNat := Nat.mod_lt _ (by omega)
      rw [ih _ _ hy (by omega) (by omega)]
      have en : (x - x / y * y).toInt.toNat = x.toInt.toNat % y.toInt.toNat := by omega
      rw [en]
      have hg : Nat.gcd x.toInt.toNat y.toInt.toNat = Nat.gcd y.toInt.toNat (x.toInt.toNat % y.toInt.toNat) := by
        rw [Nat.gcd_comm, Nat.gcd_rec, Nat.gcd_comm]
      rw [hg]
theorem gcd_pos {a b : Nat} (hb : 0 < b) : 0 < Nat.gcd a b ∧ Nat.gcd a b ≤ b := ⟨Nat.gcd_pos_of_pos_right _ hb, Nat.gcd_le_right _ hb⟩
/-- the least part of a fraction, as a number -/
def lpN (a b : Nat) (part : Int32) : Nat := if part = 0 then a / Nat.gcd a b else b / Nat.gcd a b
theorem lpa {a b part : Int32} (ha : 0 ≤ a.toInt) (hb : 1 ≤ b.toInt ∧ b.toInt < 1048576) : (f_X5_leastPart a b part).toInt = lpN a.toInt.toNat b.toInt.toNat part := by
  unfold f_X5_leastPart lpN f_X5_commonMeasure
  have hg := gcd5 20 (1000 + 1) 0 a b ha (by omega) (by show b.toInt.toNat < 1048576; omega) (by omega) (by omega)
  have hp := gcd_pos (a := a.toInt.toNat) (b := b.toInt.toNat) (by omega)
  generalize f_X5_commonMeasure_L7 (1000 + 1) 0 a b = g at hg
  have g0 : ¬ g = 0 := fun q => by rw [q, x0] at hg; omega
  unfold f_X5_over
  rw [if_neg g0, if_neg g0]
  by_cases c : part = 0
  · rw [if_pos c, if_pos c, divI ha (by omega), hg]
    have : a.toInt = (a.toInt.toNat : Int) := by omega
    conv => lhs; rw [this]
    rw [← Int.natCast_ediv]
    rfl
  · rw [if_neg c, if_neg c, divI (by omega) (by omega), hg]
    have : b.toInt = (b.toInt.toNat : Int) := by omega
    conv => lhs; rw [this]
    rw [← Int.natCast_ediv]
    rfl
theorem divL {a b : Int64} (ha : 0 ≤ a.toInt) (hb : 0 < b.toInt) : (a / b).toInt = a.toInt / b.toInt := by
  rw [Int64.toInt_div, Int.tdiv_eq_ediv_of_nonneg ha]
  have h1 : a.toInt / b.toInt ≤ a.toInt := Int.ediv_le_self _ ha
  have h2 : 0 ≤ a.toInt / b.toInt := Int.ediv_nonneg ha (by omega)
  have := Int64.toInt_lt a
  exact bm64 (by omega)
theorem lpb {a b : Int64} {part : Int32} (ha : 0 ≤ a.toInt) (hb : 1 ≤ b.toInt) : (f_X6_partOf a b part).toInt = lpN a.toInt.toNat b.toInt.toNat part := by
  unfold f_X6_partOf lpN f_X6_common
  have hg := gcd6 (b.toInt.natAbs + 1) a b ha (by omega) (by omega)
  have hp := gcd_pos (a := a.toInt.toNat) (b := b.toInt.toNat) (by omega)
  generalize f_X6_common_L6 (b.toInt.natAbs + 1) 0 a b = g at hg
  by_cases c : part = 0
  · rw [if_pos c, if_pos c, divL ha (by omega), hg]
    have : a.toInt = (a.toInt.toNat : Int) := by omega
    conv => lhs; rw [this]
    rw [← Int.natCast_ediv]
    rfl
  · rw [if_neg c, if_neg c, divL (by omega) (by omega), hg]
    have : b.toInt = (b.toInt.toNat : Int) := by omega
    conv => lhs; rw [this]
    rw [← Int.natCast_ediv]
    rfl
theorem lpN_le {a b : Nat} {part : Int32} : lpN a b part ≤ max a b := by
  unfold lpN
  split
  · exact Nat.le_trans (Nat.div_le_self _ _) (Nat.le_max_left _ _)
  · exact Nat.le_trans (Nat.div_le_self _ _) (Nat.le_max_right _ _)
theorem l2i {x : Int64} {v : Int32} (h : x.toInt = v.toInt) : x.toInt32 = v := by
  refine xin ?_
  rw [Int64.toInt_toInt32, h]
  exact bm32 ⟨Int32.le_toInt _, Int32.toInt_lt _⟩
/-- one least part in ints, the other in longs -/
theorem lp_eq {a b part : Int32} {A B : Int64} (ha : 0 ≤ a.toInt) (hb : 1 ≤ b.toInt ∧ b.toInt < 1048576) (eA : A.toInt = a.toInt) (eB : B.toInt = b.toInt) : f_X5_leastPart a b part = (f_X6_partOf A B part).toInt32 ∧ (f_X6_partOf A B part).toInt = (f_X5_leastPart a b part).toInt := by
  have h : (f_X6_partOf A B part).toInt = (f_X5_leastPart a b part).toInt := by rw [lpa ha hb, lpb (by omega) (by omega), eA, eB]
  exact ⟨(l2i h).symm, h⟩
theorem lp_rng {a b part : Int32} {M : Nat} (ha : 0 ≤ a.toInt ∧ a.toInt ≤ M) (hb : 1 ≤ b.toInt ∧ b.toInt < 1048576) (hbM : b.toInt ≤ M) : 0 ≤ (f_X5_leastPart a b part).toInt ∧ (f_X5_leastPart a b part).toInt ≤ M := by
  rw [lpa ha.1 hb]
  have := lpN_le (a := a.toInt.toNat) (b := b.toInt.toNat) (part := part)
  omega
/-- the target of told cards -/
theorem tgt_eq {ss ha f : Nat → Int32} {sz part : Int32} (h : CD ss sz f) (he : ∀ j, j < sz.toNatClampNeg → ha j = f j) :
    f_X5_leastPart (f_X0_targetAbove (ss 0) sz f) (f_X0_targetLine (ss 1) sz) part = (f_X6_targetOf part sz ss ha).toInt32 ∧ (f_X6_targetOf part sz ss ha).toInt = (f_X5_leastPart (f_X0_targetAbove (ss 0) sz f) (f_X0_targetLine (ss 1) sz) part).toInt ∧ 0 ≤ (f_X5_leastPart (f_X0_targetAbove (ss 0) sz f) (f_X0_targetLine (ss 1) sz) part).toInt ∧ (f_X5_leastPart (f_X0_targetAbove (ss 0) sz f) (f_X0_targetLine (ss 1) sz) part).toInt ≤ 2000000 ∧ (part = 1 → (f_X5_leastPart (f_X0_targetAbove (ss 0) sz f) (f_X0_targetLine (ss 1) sz) part).toInt ≤ 2000) := by
  obtain ⟨hB, h1, h2, h3⟩ := h
  obtain ⟨b0, b1, b2, _⟩ := hB
  have hz := cl_nat sz
  have hs := sumN_rng (f := f) sz.toNatClampNeg (by omega) (fun i hi => by have := h3 i hi; omega)
  obtain ⟨e1, g1, g2⟩ := mul_rng (a := ss 1) (b := sz) (A := 20) (B := 100) ⟨by omega, b1.2⟩ ⟨by omega, h2⟩ (by omega)
  have g3 : 1 * 1 ≤ (ss 1).toInt * sz.toInt := Int.mul_le_mul b1.1 h1 (by decide) (by omega)
  obtain ⟨e2, k1, k2⟩ := mul_rng (a := ss 0) (b := sumN f sz.toNatClampNeg) (A := 20) (B := 100000) b0 ⟨hs.1, by omega⟩ (by omega)
  unfold f_X6_targetOf f_X0_targetAbove f_X0_targetLine
  rw [sum3 (by omega), sum6 (by omega), sumN_congr _ he]
  have eA : ((ss 0).toInt64 * (sumN f sz.toNatClampNeg).toInt64).toInt = (ss 0 * sumN f sz.toNatClampNeg).toInt := by rw [mulL (by rw [i64, i64]; omega), i64, i64, e2]
  have eB : ((ss 1).toInt64 * sz.toInt64).toInt = (ss 1 * sz).toInt := by rw [mulL (by rw [i64, i64]; omega), i64, i64, e1]
  obtain ⟨r1, r2⟩ := lp_eq (a := ss 0 * sumN f sz.toNatClampNeg) (b := ss 1 * sz) (part := part) (by omega) ⟨by omega, by omega⟩ eA eB
  have r3 := lp_rng (a := ss 0 * sumN f sz.toNatClampNeg) (b := ss 1 * sz) (part := part) (M := 2000000) ⟨by omega, by omega⟩ ⟨by omega, by omega⟩ (by omega)
  refine ⟨r1, r2, r3.1, r3.2, fun p => ?_⟩
  rw [lpa (by omega) ⟨by omega, by omega⟩]
  unfold lpN
  rw [if_neg (by rw [p]; decide)]
  have := Nat.div_le_self (ss 1 * sz).toInt.toNat (Nat.gcd (ss 0 * sumN f sz.toNatClampNeg).toInt.toNat (ss 1 * sz).toInt.toNat)
  omega
section
variable {ke so si el kd kt ho rso rsz snu ski sst ssl : Nat → Int32} {rel : Nat → Nat → Int32}
theorem mean_m {d what part hs : Int32} {ss ha : Nat → Int32} (hS : RS ke so si el kd kt ho rso rsz rel snu ski sst ssl) (hB : RB ss) (hhs : hs.toInt ≤ 100) :
    f_X5_mean d what part (ss 0) (ss 1) (ss 2) ho rsz rel = (f_X6_mean d what part hs ss ke so si el ha).1 ∧ (f_X6_mean d what part hs ss ke so si el ha).2.2.toInt ≤ 100 := by
  unfold f_X5_mean f_X6_mean
  rw [one2_eq, one2_eq]
  by_cases c : ¬ d < 0 ∧ ¬ (8 : Int32) ≤ d
  · rw [if_pos c]
    obtain ⟨ed, hd⟩ := sh_ok c
    generalize d.toNatClampNeg = i at ed hd
    subst ed
    rw [shelf_i hd, if_neg o0]
    by_cases w : f_X6_isIn what.toInt64 0 1 = 0
    · rw [if_pos w, if_pos w]; exact ⟨rfl, hhs⟩
    · rw [if_neg w, if_neg w]
      by_cases pw : f_X6_isIn part.toInt64 0 1 = 0
      · rw [if_pos pw, if_pos pw]; exact ⟨rfl, hhs⟩
      · rw [if_neg pw, if_neg pw, bnd_eq]
        have ht := takes_i (ha := ha) hS hB hhs hd
        generalize f_X6_takesRow (nI i) hs ss ke so si el ha = t at ht
        obtain ⟨t1, t2, t3⟩ := ht
        rw [← t1]
        by_cases q : t.1 = 0
        · rw [if_pos q, if_pos q]
          obtain ⟨u1, u2, u3⟩ := t3 q
          by_cases w0 : what = 0
          · rw [if_pos w0, if_pos w0]
            refine ⟨?_, t2⟩
            obtain ⟨hB, h1, h2, h3⟩ := u2
            have b2 := hB.2.2.1
            have hz := cl_nat (rsz i)
            have hs := sumN_rng (f := rel i) (rsz i).toNatClampNeg (by omega) (fun j hj => by have := h3 j hj; omega)
            show _ = (f_X6_partOf (f_X6_sumOf t.2.2 t.2.1).toInt64 t.2.2.toInt64 part).toInt32
            rw [u1, sum3 (by omega), sum6 (by omega), sumN_congr _ u3]
            exact (lp_eq hs.1 ⟨h1, by omega⟩ (i64 _) (i64 _)).1
          · rw [if_neg w0, if_neg w0]
            refine ⟨?_, t2⟩
            show _ = (f_X6_targetOf part t.2.2 ss t.2.1).toInt32
            rw [u1]
            exact (tgt_eq u2 u3).1
        · rw [if_neg q, if_neg q]; exact ⟨rfl, t2⟩
  · rw [if_neg c, shelf_no c, if_pos rfl]
    refine ⟨?_, hhs⟩
    split
    · rfl
    · split <;> rfl
theorem worth_m {d k0 hs : Int32} {ss ha : Nat → Int32} (hS : RS ke so si el kd kt ho rso rsz rel snu ski sst ssl) (hB : RB ss) (hhs : hs.toInt ≤ 100) :
    f_X5_worth d k0 (ss 0) (ss 1) (ss 2) ho rsz rel = (f_X6_worth d k0 hs ss ke so si el ha).1 ∧ (f_X6_worth d k0 hs ss ke so si el ha).2.2.toInt ≤ 100 := by
  unfold f_X5_worth f_X6_worth
  have e8 : f_X6_isIn k0.toInt64 0 8 = if k0 < 0 then 0 else (if k0 < 9 then 1 else 0) := by
    rw [ge_le (x := k0) (A := 0) (B := 8) (a := 0) (b := 8) rfl rfl]
    have h8 : (8 : Int32).toInt = 8 := rfl
    have h9 : (9 : Int32).toInt = 9 := rfl
    by_cases a : k0 < 0
    · rw [if_pos a, if_pos a]
    · rw [if_neg a, if_neg a]
      by_cases b : (8 : Int32) < k0
      · rw [if_pos b, if_neg (by rw [xlt, h9]; rw [xlt, h8] at b; omega)]
      · rw [if_neg b, if_pos (by rw [xlt, h9]; rw [xlt, h8] at b; omega)]
  rw [e8]
  by_cases c : ¬ d < 0 ∧ ¬ (8 : Int32) ≤ d
  · rw [if_pos c]
    obtain ⟨ed, hd⟩ := sh_ok c
    generalize d.toNatClampNeg = i at ed hd
    subst ed
    rw [shelf_i hd, if_neg o0]
    by_cases w0 : k0 < 0
    · rw [if_pos w0, if_pos w0, if_pos rfl]; exact ⟨rfl, hhs⟩
    · rw [if_neg w0, if_neg w0]
      by_cases w9 : k0 < 9
      · rw [if_pos w9, if_pos w9, if_neg o0, bnd_eq]
        have ht := takes_i (ha := ha) hS hB hhs hd
        generalize f_X6_takesRow (nI i) hs ss ke so si el ha = t at ht
        obtain ⟨t1, t2, t3⟩ := ht
        rw [← t1]
        by_cases q : t.1 = 0
        · rw [if_pos q, if_pos q]
          obtain ⟨u1, u2, u3⟩ := t3 q
          have hh := hi_rng hB
          have a0 := tgt_eq (part := 0) u2 u3
          have a1 := tgt_eq (part := 1) u2 u3
          rw [u1]
          unfold f_X6_levelOf
          rw [level_eq hh.1 (dn_ne hB), level_eq hh.1 (dn_ne hB)]
          generalize f_X5_leastPart (f_X0_targetAbove (ss 0) (rsz i) (rel i)) (f_X0_targetLine (ss 1) (rsz i)) 0 = A at a0
          generalize f_X5_leastPart (f_X0_targetAbove (ss 0) (rsz i) (rel i)) (f_X0_targetLine (ss 1) (rsz i)) 1 = B at a1
          generalize f_X6_targetOf 0 (rsz i) ss t.2.1 = A6 at a0
          generalize f_X6_targetOf 1 (rsz i) ss t.2.1 = B6 at a1
          obtain ⟨_, eA, A1, A2, _⟩ := a0
          obtain ⟨_, eB, B1, _, B2⟩ := a1
          have B3 := B2 rfl
          have key : ∀ v : Int32, (0 ≤ v.toInt ∧ v.toInt ≤ 1000) → ((v.toInt64 * B6) - A6).toInt = v.toInt * B.toInt - A.toInt ∧ ((v * B) - A).toInt = v.toInt * B.toInt - A.toInt ∧ -2000000 ≤ v.toInt * B.toInt - A.toInt ∧ v.toInt * B.toInt - A.toInt ≤ 2000000 := by
            intro v hv
            obtain ⟨e3, l1, l2⟩ := mul_rng (a := v) (b := B) (A := 1000) (B := 2000) hv ⟨B1, B3⟩ (by omega)
            have m6 : (v.toInt64 * B6).toInt = v.toInt * B.toInt := by rw [mulL (by rw [i64, eB]; omega), i64, eB]
            exact ⟨by rw [subL (by rw [m6, eA]; omega), m6, eA], by rw [subI (by rw [e3]; omega), e3], by omega, by omega⟩
          have l1 := level_rng (k0 := k0) (up := ss 0) (down := ss 1) hh.1 (k0.toNatClampNeg + 1) 0 (ss 2 / 2) (half_rng hh.1)
          have l2 := level_rng (k0 := k0 + 1) (up := ss 0) (down := ss 1) hh.1 ((k0 + 1).toNatClampNeg + 1) 0 (ss 2 / 2) (half_rng hh.1)
          have L1' : 0 ≤ (f_X6_levelBy k0 (ss 0) (ss 1) ss).toInt ∧ (f_X6_levelBy k0 (ss 0) (ss 1) ss).toInt ≤ (ss 2).toInt := l1
          have L2' : 0 ≤ (f_X6_levelBy (k0 + 1) (ss 0) (ss 1) ss).toInt ∧ (f_X6_levelBy (k0 + 1) (ss 0) (ss 1) ss).toInt ≤ (ss 2).toInt := l2
          generalize f_X6_levelBy k0 (ss 0) (ss 1) ss = v1 at L1'
          generalize f_X6_levelBy (k0 + 1) (ss 0) (ss 1) ss = v2 at L2'
          obtain ⟨p1, p2, p3, p4⟩ := key v1 ⟨L1'.1, by omega⟩
          obtain ⟨r1, r2, r3, r4⟩ := key v2 ⟨L2'.1, by omega⟩
          generalize (v1.toInt64 * B6) - A6 = X1 at p1
          generalize (v2.toInt64 * B6) - A6 = X2 at r1
          generalize (v1 * B) - A = Y1 at p2
          generalize (v2 * B) - A = Y2 at r2
          have cmp : ∀ x : Int64, ((0 : Int32) ≤ lg_cmp x 0) ↔ 0 ≤ x.toInt := by
            intro x
            constructor
            · intro h
              have h2 : ¬ lg_cmp x 0 < 0 := Int32.not_lt.mpr h
              rw [lg_cmp_lt, Int64.lt_iff_toInt_lt, L0] at h2; omega
            · intro h
              refine Int32.not_lt.mp (fun q => ?_)
              rw [lg_cmp_lt, Int64.lt_iff_toInt_lt, L0] at q; omega
          have fin : ∀ (U V : Int64), U.toInt = (Y1.toInt.natAbs : Int) → V.toInt = (Y2.toInt.natAbs : Int) → ((if 0 ≤ Y1 then Y1 else 0 - Y1) - (if 0 ≤ Y2 then Y2 else 0 - Y2)).toInt64 = U - V := by
            intro U V hU hV
            apply Int64.toInt_inj.mp
            have q1 := absI (x := Y1) (by omega)
            have q2 := absI (x := Y2) (by omega)
            rw [i64, subI (by rw [q1, q2]; omega), q1, q2, subL (by rw [hU, hV]; omega), hU, hV]
          have neg : ∀ x : Int64, -2000000 ≤ x.toInt → (-x).toInt = -x.toInt := by
            intro x h
            rw [Int64.toInt_neg]
            have := Int64.toInt_lt x
            exact bm64 (by omega)
          by_cases g1 : (0 : Int32) ≤ lg_cmp X1 0
          · rw [if_pos g1]
            rw [cmp] at g1
            by_cases g2 : (0 : Int32) ≤ lg_cmp X2 0
            · rw [if_pos g2]
              rw [cmp] at g2
              exact ⟨fin _ _ (by omega) (by omega), by rw [u1] at t2; exact t2⟩
            · rw [if_neg g2]
              rw [cmp] at g2
              exact ⟨fin _ _ (by omega) (by rw [neg _ (by omega)]; omega), by rw [u1] at t2; exact t2⟩
          · rw [if_neg g1]
            rw [cmp] at g1
            by_cases g2 : (0 : Int32) ≤ lg_cmp X2 0
            · rw [if_pos g2]
              rw [cmp] at g2
              exact ⟨fin _ _ (by rw [neg _ (by omega)]; omega) (by omega), by rw [u1] at t2; exact t2⟩
            · rw [if_neg g2]
              rw [cmp] at g2
              exact ⟨fin _ _ (by rw [neg _ (by omega)]; omega) (by rw [neg _ (by omega)]; omega), by rw [u1] at t2; exact t2⟩
        · rw [if_neg q, if_neg q]; exact ⟨rfl, t2⟩
      · rw [if_neg w9, if_neg w9, if_pos rfl]; exact ⟨rfl, hhs⟩
  · rw [if_neg c, shelf_no c, if_pos rfl]
    refine ⟨?_, hhs⟩
    split
    · rfl
    · split <;> rfl
end
