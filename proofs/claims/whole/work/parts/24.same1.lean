/-! SAME ANSWERS: the sums, the shares, what one holds -/
theorem xle {a b : Int32} : a ≤ b ↔ a.toInt ≤ b.toInt := Int32.le_iff_toInt_le
theorem xlt {a b : Int32} : a < b ↔ a.toInt < b.toInt := Int32.lt_iff_toInt_lt
theorem xin {a b : Int32} (h : a.toInt = b.toInt) : a = b := Int32.toInt_inj.mp h
theorem xne {a b : Int32} (h : ¬ a = b) : ¬ a.toInt = b.toInt := fun q => h (xin q)
theorem x0 : (0 : Int32).toInt = 0 := rfl
theorem x1 : (1 : Int32).toInt = 1 := rfl
theorem x2 : (2 : Int32).toInt = 2 := rfl
theorem cl_nat (x : Int32) : x.toNatClampNeg = x.toInt.toNat := rfl
def sumN (f : Nat → Int32) : Nat → Int32
  | 0 => 0
  | n + 1 => sumN f n + f n
theorem asN {x : Int32} (h : 0 ≤ x.toInt) : x = nI x.toNatClampNeg := pos_nI h
theorem leB {B : Int32} {k : Nat} (h0 : 0 ≤ B.toInt) (hk : k < 2147483648) : (B ≤ nI k) ↔ B.toNatClampNeg ≤ k := by
  rw [xle, nI_toInt hk, cl_nat]; omega
theorem ltB {B : Int32} {k : Nat} (h0 : 0 ≤ B.toInt) (hk : k < 2147483648) : (B < nI k) ↔ B.toNatClampNeg < k := by
  rw [xlt, nI_toInt hk, cl_nat]; omega
theorem nltB {B : Int32} {k : Nat} (h0 : 0 ≤ B.toInt) (hk : k < 2147483648) : (nI k < B) ↔ k < B.toNatClampNeg := by
  rw [xlt, nI_toInt hk, cl_nat]; omega
theorem sum_loop {B : Int32} {f : Nat → Int32} (h0 : 0 ≤ B.toInt) : ∀ (n k : Nat), k ≤ B.toNatClampNeg → B.toNatClampNeg - k < n → f_X3_sum_L4 B f n k (sumN f k) = sumN f B.toNatClampNeg := by
  intro n
  induction n with
  | zero => intro k _ h; exact absurd h (Nat.not_lt_zero _)
  | succ n ih =>
    intro k hk hm
    have hb := w_clamp_lt B
    rw [f_X3_sum_L4_s]
    by_cases c : B ≤ nI k
    · rw [if_pos c]
      rw [leB h0 (by omega)] at c
      rw [show k = B.toNatClampNeg by omega]
    · rw [if_neg c]
      rw [leB h0 (by omega)] at c
      exact ih (k + 1) (by omega) (by omega)
theorem sum3 {B : Int32} {f : Nat → Int32} (h0 : 0 ≤ B.toInt) : f_X3_sum B f = sumN f B.toNatClampNeg := sum_loop h0 _ 0 (Nat.zero_le _) (by omega)
theorem sum6_loop {B : Int32} {f : Nat → Int32} (h0 : 0 ≤ B.toInt) : ∀ (n k : Nat), k ≤ B.toNatClampNeg → B.toNatClampNeg - k < n → f_X6_sumOf_L4 B f n k (sumN f k) = sumN f B.toNatClampNeg := by
  intro n
  induction n with
  | zero => intro k _ h; exact absurd h (Nat.not_lt_zero _)
  | succ n ih =>
    intro k hk hm
    have hb := w_clamp_lt B
    rw [f_X6_sumOf_L4_s]
    by_cases c : B ≤ nI k
    · rw [if_pos c]
      rw [leB h0 (by omega)] at c
      rw [show k = B.toNatClampNeg by omega]
    · rw [if_neg c]
      rw [leB h0 (by omega)] at c
      exact ih (k + 1) (by omega) (by omega)
theorem sum6 {B : Int32} {f : Nat → Int32} (h0 : 0 ≤ B.toInt) : f_X6_sumOf B f = sumN f B.toNatClampNeg := sum6_loop h0 _ 0 (Nat.zero_le _) (by omega)
theorem sumN_congr {f g : Nat → Int32} : ∀ n : Nat, (∀ i, i < n → f i = g i) → sumN f n = sumN g n := by
  intro n
  induction n with
  | zero => intro _; rfl
  | succ n ih => intro h; unfold sumN; rw [ih (fun i hi => h i (by omega)), h n (by omega)]
theorem get_i {i : Nat} {k : Int32} {ss : Nat → Int32} (hi : i < 12) (hk : 0 ≤ k.toInt ∧ k.toInt < 4) : f_X6_get (nI i) k ss = ss (7 + 4 * i + k.toNatClampNeg) := by
  unfold f_X6_get
  congr 1
  rw [cl_nat, gixI (nIb hi) hk, nI_toInt (by omega), cl_nat]
  omega
theorem get0 {i : Nat} {ss : Nat → Int32} (hi : i < 12) : f_X6_get (nI i) 0 ss = ss (7 + 4 * i) := get_i hi (by decide)
theorem get1 {i : Nat} {ss : Nat → Int32} (hi : i < 12) : f_X6_get (nI i) 1 ss = ss (8 + 4 * i) := (get_i hi (by decide)).trans (congrArg ss (by show 7 + 4 * i + 1 = _; omega))
theorem get2 {i : Nat} {ss : Nat → Int32} (hi : i < 12) : f_X6_get (nI i) 2 ss = ss (9 + 4 * i) := (get_i hi (by decide)).trans (congrArg ss (by show 7 + 4 * i + 2 = _; omega))
theorem get3 {i : Nat} {ss : Nat → Int32} (hi : i < 12) : f_X6_get (nI i) 3 ss = ss (10 + 4 * i) := (get_i hi (by decide)).trans (congrArg ss (by show 7 + 4 * i + 3 = _; omega))
theorem lastSum_loop {ss : Nat → Int32} (h0 : 0 ≤ (ss 5).toInt ∧ (ss 5).toInt ≤ 12) : ∀ (n k : Nat), k ≤ (ss 5).toNatClampNeg → (ss 5).toNatClampNeg - k < n → f_X6_lastSum_L4 ss n k (sumN (fun i => ss (10 + 4 * i)) k) = sumN (fun i => ss (10 + 4 * i)) (ss 5).toNatClampNeg := by
  intro n
  induction n with
  | zero => intro k _ h; exact absurd h (Nat.not_lt_zero _)
  | succ n ih =>
    intro k hk hm
    have hb := cl_nat (ss 5)
    rw [f_X6_lastSum_L4_s]
    by_cases c : ss 5 ≤ nI k
    · rw [if_pos c]
      rw [leB h0.1 (by omega)] at c
      rw [show k = (ss 5).toNatClampNeg by omega]
    · rw [if_neg c]
      rw [leB h0.1 (by omega)] at c
      rw [get3 (by omega)]
      exact ih (k + 1) (by omega) (by omega)
theorem lastSum6 {ss : Nat → Int32} (h0 : 0 ≤ (ss 5).toInt ∧ (ss 5).toInt ≤ 12) : f_X6_lastSum ss = sumN (fun i => ss (10 + 4 * i)) (ss 5).toNatClampNeg := lastSum_loop h0 _ 0 (Nat.zero_le _) (by omega)
theorem held_eq {v : Int32} {ss : Nat → Int32} (hh : 0 ≤ (ss 2).toInt) : f_X0_heldToCards v (ss 2) = f_X6_held v ss := by
  rfl
theorem share_eq {v up down : Int32} {ss : Nat → Int32} (hh : 0 ≤ (ss 2).toInt) (hd : ¬ down = 0) : f_X0_shareOf v up down (ss 2) = f_X6_shareOf v up down ss := by
  unfold f_X0_shareOf f_X6_shareOf f_X5_over
  rw [if_neg hd, held_eq hh]
theorem level_loop {k0 up down : Int32} {ss : Nat → Int32} (hh : 0 ≤ (ss 2).toInt) (hd : ¬ down = 0) : ∀ (n k : Nat) (v : Int32), f_X0_sharedTimes_L5 k0 up down (ss 2) n k v = f_X6_levelBy_L13 k0 up down ss n k v := by
  intro n
  induction n with
  | zero => intro k v; rfl
  | succ n ih =>
    intro k v
    rw [f_X0_sharedTimes_L5_s, f_X6_levelBy_L13_s]
    by_cases c : k0 ≤ nI k
    · rw [if_pos c, if_pos c]
    · rw [if_neg c, if_neg c, share_eq hh hd, ih]
theorem level_eq {k0 up down : Int32} {ss : Nat → Int32} (hh : 0 ≤ (ss 2).toInt) (hd : ¬ down = 0) : f_X0_stepped k0 up down (ss 2) = f_X6_levelBy k0 up down ss := level_loop hh hd _ _ _
theorem mixed_loop {k0 up down : Int32} {ss : Nat → Int32} (hh : 0 ≤ (ss 2).toInt) (hd : ¬ down = 0) (hk0 : 0 ≤ k0.toInt ∧ k0.toInt ≤ 1000) : ∀ (n k : Nat) (v u : Int32), k ≤ k0.toNatClampNeg → k0.toNatClampNeg - k < n → f_X0_mixed_L10 k0 up down (ss 2) (n + 1) (k + 1) v u = f_X6_mixed_L16 k0 up down ss n k v u := by
  intro n
  induction n with
  | zero => intro k v u _ h; exact absurd h (Nat.not_lt_zero _)
  | succ n ih =>
    intro k v u hk hm
    have hb := cl_nat k0
    rw [f_X0_mixed_L10_s, f_X6_mixed_L16_s]
    by_cases c : k0 ≤ nI k
    · rw [if_pos c, if_pos (by rw [leB hk0.1 (by omega)] at c; rw [ltB hk0.1 (by omega)]; omega)]
    · rw [if_neg c, if_neg (by rw [leB hk0.1 (by omega)] at c; rw [ltB hk0.1 (by omega)]; omega)]
      rw [leB hk0.1 (by omega)] at c
      have hn0 : ¬ nI (k + 1) = 0 := nI_ne0 (by omega) (by omega)
      have e : f_X5_over (u + v) (nI (k + 1)) = (u + v) / (nI k + 1) := by unfold f_X5_over; rw [if_neg hn0, nI_1]
      rw [e, share_eq hh hd, ih (k + 1) _ _ (by omega) (by omega)]
theorem mixed_eq {k0 up down : Int32} {ss : Nat → Int32} (hh : 0 ≤ (ss 2).toInt) (hd : ¬ down = 0) (hk0 : 0 ≤ k0.toInt ∧ k0.toInt ≤ 1000) : f_X0_mixed k0 up down (ss 2) = f_X6_mixed k0 up down ss := mixed_loop hh hd hk0 _ 0 _ _ (Nat.zero_le _) (by omega)
theorem learnt_loop {k0 up down : Int32} {ss : Nat → Int32} (hh : 0 ≤ (ss 2).toInt) (hd : ¬ down = 0) (hk0 : 0 ≤ k0.toInt ∧ k0.toInt ≤ 1000) : ∀ (n k : Nat) (v : Int32), k ≤ (if (1 : Int32) < k0 then k0 else 1).toNatClampNeg → (if (1 : Int32) < k0 then k0 else 1).toNatClampNeg - k < n → f_X0_sharedTimes_L5 (if (1 : Int32) < k0 then k0 else 1) up down (ss 2) n k v = f_X6_learnt_L34 k0 up down ss n k v := by
  intro n
  induction n with
  | zero => intro k v _ h; exact absurd h (Nat.not_lt_zero _)
  | succ n ih =>
    intro k v hk hm
    have hb := cl_nat k0
    have hM : (if (1 : Int32) < k0 then k0 else 1).toNatClampNeg = max 1 k0.toNatClampNeg := by
      by_cases c : (1 : Int32) < k0
      · rw [if_pos c]; rw [xlt, x1] at c; omega
      · rw [if_neg c]; rw [xlt, x1] at c; show 1 = _; omega
    have hM0 : 0 ≤ (if (1 : Int32) < k0 then k0 else 1).toInt := by
      by_cases c : (1 : Int32) < k0
      · rw [if_pos c]; exact hk0.1
      · rw [if_neg c]; decide
    have hk1 : k < 2000 := by omega
    rw [f_X0_sharedTimes_L5_s, f_X6_learnt_L34_s]
    by_cases c : (if (1 : Int32) < k0 then k0 else 1) ≤ nI k
    · rw [if_pos c]
      rw [leB hM0 (by omega)] at c
      rw [if_neg (by rw [nltB hk0.1 (by omega)]; omega), if_neg (nI_ne0 (by omega) (by omega))]
    · rw [if_neg c]
      rw [leB hM0 (by omega)] at c
      rw [share_eq hh hd, ih (k + 1) _ (by omega) (by omega)]
      by_cases d : nI k < k0
      · rw [if_pos d]
      · rw [nltB hk0.1 (by omega)] at d
        rw [if_neg (by rw [nltB hk0.1 (by omega)]; exact d), if_pos (by rw [show k = 0 by omega]; rfl)]
theorem learnt_fuel {k0 up down : Int32} {ss : Nat → Int32} (hk0 : 0 ≤ k0.toInt ∧ k0.toInt ≤ 1000) : ∀ (n n2 k : Nat) (v : Int32), k ≤ max 1 k0.toNatClampNeg → max 1 k0.toNatClampNeg - k < n → max 1 k0.toNatClampNeg - k < n2 → f_X6_learnt_L34 k0 up down ss n k v = f_X6_learnt_L34 k0 up down ss n2 k v := by
  intro n
  induction n with
  | zero => intro n2 k v _ h; exact absurd h (Nat.not_lt_zero _)
  | succ n ih =>
    intro n2 k v hk hm hm2
    have hb := cl_nat k0
    obtain ⟨n2, rfl⟩ : ∃ m, n2 = m + 1 := ⟨n2 - 1, by omega⟩
    rw [f_X6_learnt_L34_s, f_X6_learnt_L34_s]
    by_cases d : nI k < k0
    · rw [if_pos d, if_pos d]
      rw [nltB hk0.1 (by omega)] at d
      exact ih _ _ _ (by omega) (by omega) (by omega)
    · rw [if_neg d, if_neg d]
      rw [nltB hk0.1 (by omega)] at d
      by_cases e : nI k = 0
      · rw [if_pos e, if_pos e]
        have : k = 0 := nI_eq0 (by omega) e
        exact ih _ _ _ (by omega) (by omega) (by omega)
      · rw [if_neg e, if_neg e]
theorem learnt_eq {k0 up down ls : Int32} {ss : Nat → Int32} (hh : 0 ≤ (ss 2).toInt) (hd : ¬ down = 0) (hk0 : 0 ≤ k0.toInt ∧ k0.toInt ≤ 1000) (h5 : ¬ ss 6 = 0 → ¬ ss 5 = 0) (hls : ¬ ss 6 = 0 → ls = f_X6_lastSum ss) : f_X0_learned k0 up down (ss 2) (ss 6) (ss 5) ls = f_X6_learnt k0 up down ss := by
  unfold f_X0_learned f_X6_learnt
  by_cases c : ss 6 = 0
  · rw [if_pos c, if_pos c]
    exact level_eq hh hd
  · rw [if_neg c, if_neg c]
    have hT : (if k0 = (0 : Int32) then f_X0_sharedTimes (f_X5_over ls (ss 5)) 1 up down (ss 2) else f_X0_sharedTimes (f_X5_over ls (ss 5)) k0 up down (ss 2)) = f_X0_sharedTimes (f_X5_over ls (ss 5)) (if (1 : Int32) < k0 then k0 else 1) up down (ss 2) := by
      by_cases z : k0 = 0
      · rw [z, if_pos rfl, if_neg (by decide)]
      · rw [if_neg z]
        by_cases o : (1 : Int32) < k0
        · rw [if_pos o]
        · rw [if_neg o]
          have z2 : ¬ k0.toInt = 0 := fun e => z (xin (e.trans x0.symm))
          rw [xlt, x1] at o
          rw [show k0 = 1 from xin (by rw [x1]; omega)]
    rw [hT]
    unfold f_X0_sharedTimes f_X5_over
    have hb := cl_nat k0
    have hM : (if (1 : Int32) < k0 then k0 else 1).toNatClampNeg = max 1 k0.toNatClampNeg := by
      by_cases c : (1 : Int32) < k0
      · rw [if_pos c]; rw [xlt, x1] at c; omega
      · rw [if_neg c]; rw [xlt, x1] at c; show 1 = _; omega
    rw [if_neg (h5 c), hls c, learnt_loop hh hd hk0 _ 0 _ (Nat.zero_le _) (by omega)]
    exact learnt_fuel hk0 _ _ _ _ (Nat.zero_le _) (by omega) (by omega)
theorem holdsBy_eq {i : Nat} {up down ls z : Int32} {ss : Nat → Int32} (hi : i < 12) (hh : 0 ≤ (ss 2).toInt) (hd : ¬ down = 0) (hk0 : 0 ≤ (ss (8 + 4 * i)).toInt ∧ (ss (8 + 4 * i)).toInt ≤ 1000) (h5 : ¬ ss 6 = 0 → ¬ ss 5 = 0) (hls : ¬ ss 6 = 0 → ls = f_X6_lastSum ss) (hn1 : ¬ ss (7 + 4 * i) = 1) (hn7 : ¬ ss (7 + 4 * i) = 7) :
    f_X0_heldBy up down (ss 2) z (ss 6) (ss 5) ls (ss (7 + 4 * i)) (ss (8 + 4 * i)) = (f_X6_holdsBy (nI i) up down ss, z) := by
  unfold f_X0_heldBy f_X6_holdsBy
  rw [get0 hi, get1 hi, if_neg hn1]
  by_cases c2 : ss (7 + 4 * i) = 2
  · rw [if_pos c2, if_pos c2, level_eq hh hd]
  · rw [if_neg c2, if_neg c2]
    by_cases c3 : ss (7 + 4 * i) = 3
    · rw [if_pos c3, if_pos c3, mixed_eq hh hd hk0]
    · rw [if_neg c3, if_neg c3]
      by_cases c4 : ss (7 + 4 * i) = 4
      · rw [if_pos c4, if_pos c4]
        by_cases u : down < up
        · rw [if_pos u, if_pos u]
        · rw [if_neg u, if_neg u]
      · rw [if_neg c4, if_neg c4]
        by_cases c5 : ss (7 + 4 * i) = 5
        · rw [if_pos c5, if_pos c5]
        · rw [if_neg c5, if_neg c5]
          by_cases c6 : ss (7 + 4 * i) = 6
          · rw [if_pos c6, if_pos c6, learnt_eq hh hd hk0 h5 hls]
          · rw [if_neg c6, if_neg c6, if_neg hn7]
            rfl
