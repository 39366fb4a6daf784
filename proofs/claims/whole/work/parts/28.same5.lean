/-! SAME ANSWERS: levels, counts, images -/
theorem xneg {a : Int32} (h : -2147483647 ≤ a.toInt) : (-a).toInt = -a.toInt := by
  rw [Int32.toInt_neg]
  have := Int32.toInt_lt a
  exact bm32 (by omega)
theorem absI {x : Int32} (h : -2147483647 ≤ x.toInt) : (if 0 ≤ x then x else 0 - x).toInt = (x.toInt.natAbs : Int) := by
  have := Int32.toInt_lt x
  by_cases c : 0 ≤ x
  · rw [if_pos c]; rw [xle, x0] at c; omega
  · rw [if_neg c]; rw [xle, x0] at c
    rw [subI (by rw [x0]; omega), x0]; omega
theorem amtI {x : Int32} (h : -2147483647 ≤ x.toInt) : (f_X6_amount x).toInt = (x.toInt.natAbs : Int) := by
  unfold f_X6_amount
  by_cases c : 0 ≤ x
  · rw [if_pos c]; rw [xle, x0] at c; omega
  · rw [if_neg c]; rw [xle, x0] at c
    rw [xneg h]; omega
theorem abs_amt {a b : Int32} (ha : -1000000 ≤ a.toInt ∧ a.toInt ≤ 1000000) (hb : -1000000 ≤ b.toInt ∧ b.toInt ≤ 1000000) : (if 0 ≤ a - b then a - b else 0 - (a - b)) = f_X6_amount (b - a) := by
  have e1 : (a - b).toInt = a.toInt - b.toInt := subI (by omega)
  have e2 : (b - a).toInt = b.toInt - a.toInt := subI (by omega)
  refine xin ?_
  rw [absI (by omega), amtI (by omega), e1, e2]; omega
theorem abs_amt2 {x : Int32} : (if 0 ≤ x then x else 0 - x) = f_X6_amount x := by
  unfold f_X6_amount
  by_cases c : 0 ≤ x
  · rw [if_pos c, if_pos c]
  · rw [if_neg c, if_neg c, Int32.zero_sub]
def lev (up down : Int32) (ss : Nat → Int32) : Nat → Int32
  | 0 => ss 2 / 2
  | k + 1 => f_X6_shareOf (lev up down ss k) up down ss
theorem lev_loop {up down : Int32} {ss : Nat → Int32} {K : Nat} (hK : K < 1000) : ∀ (n k : Nat), k ≤ K → K - k < n → f_X6_levelBy_L13 (nI K) up down ss n k (lev up down ss k) = lev up down ss K := by
  intro n
  induction n with
  | zero => intro k _ h; exact absurd h (Nat.not_lt_zero _)
  | succ n ih =>
    intro k hk hm
    rw [f_X6_levelBy_L13_s]
    by_cases c : nI K ≤ nI k
    · rw [if_pos c]
      rw [nI_leI (by omega) (by omega)] at c
      rw [show k = K by omega]
    · rw [if_neg c]
      rw [nI_leI (by omega) (by omega)] at c
      exact ih (k + 1) (by omega) (by omega)
theorem levelBy_lev {up down : Int32} {ss : Nat → Int32} {K : Nat} (hK : K < 1000) : f_X6_levelBy (nI K) up down ss = lev up down ss K := by
  unfold f_X6_levelBy
  exact lev_loop hK _ 0 (Nat.zero_le _) (by rw [nI_clamp (by omega)]; omega)
theorem lev_rng {up down : Int32} {ss : Nat → Int32} (hh : 0 ≤ (ss 2).toInt) : ∀ k, 0 ≤ (lev up down ss k).toInt ∧ (lev up down ss k).toInt ≤ (ss 2).toInt := by
  intro k
  cases k with
  | zero => exact half_rng hh
  | succ k => exact held_rng hh
theorem near_loop {card : Int32} {ss : Nat → Int32} (hh : 0 ≤ (ss 2).toInt ∧ (ss 2).toInt ≤ 1000) (hd : ¬ ss 1 = 0) (hc : 0 ≤ card.toInt ∧ card.toInt ≤ 1000) :
    ∀ (n k b : Nat), 1 ≤ k → k ≤ 10 → b < 10 → f_X0_nearestSteps_L18 card (ss 0) (ss 1) (ss 2) n k (lev (ss 0) (ss 1) ss (k - 1)) (f_X6_amount (lev (ss 0) (ss 1) ss b - card)) (nI b) = f_X6_stepsFor_L4 card ss n k (nI b) := by
  intro n
  induction n with
  | zero => intro k b _ _ _; rfl
  | succ n ih =>
    intro k b h1 h10 hb
    rw [f_X0_nearestSteps_L18_s, f_X6_stepsFor_L4_s]
    by_cases c : (10 : Int32) ≤ nI k
    · rw [if_pos c, if_pos (by rw [show (10 : Int32) = nI 10 from rfl, nI_leI (by decide) (by omega)] at c; rw [show (9 : Int32) = nI 9 from rfl, nI_ltI (by decide) (by omega)]; omega)]
    · rw [if_neg c]
      rw [show (10 : Int32) = nI 10 from rfl, nI_leI (by decide) (by omega)] at c
      rw [if_neg (by rw [show (9 : Int32) = nI 9 from rfl, nI_ltI (by decide) (by omega)]; omega)]
      have es : f_X0_shareOf (lev (ss 0) (ss 1) ss (k - 1)) (ss 0) (ss 1) (ss 2) = lev (ss 0) (ss 1) ss k := by
        rw [share_eq hh.1 hd]
        obtain ⟨j, rfl⟩ : ∃ j, k = j + 1 := ⟨k - 1, by omega⟩
        rfl
      have r := lev_rng (up := ss 0) (down := ss 1) hh.1 k
      rw [es, abs_amt ⟨by omega, by omega⟩ ⟨by omega, by omega⟩]
      unfold f_X6_levelOf
      rw [levelBy_lev (by omega), levelBy_lev (by omega)]
      by_cases d : f_X6_amount (lev (ss 0) (ss 1) ss b - card) ≤ f_X6_amount (lev (ss 0) (ss 1) ss k - card)
      · rw [if_pos d, if_pos d]
        exact ih (k + 1) b (by omega) (by omega) hb
      · rw [if_neg d, if_neg d]
        exact ih (k + 1) k (by omega) (by omega) (by omega)
theorem near_eq {card : Int32} {ss : Nat → Int32} (hh : 0 ≤ (ss 2).toInt ∧ (ss 2).toInt ≤ 1000) (hd : ¬ ss 1 = 0) (hc : 0 ≤ card.toInt ∧ card.toInt ≤ (ss 2).toInt) : f_X0_nearestSteps card (ss 0) (ss 1) (ss 2) = f_X6_stepsFor card ss := by
  unfold f_X0_nearestSteps f_X6_stepsFor
  have r := lev_rng (up := ss 0) (down := ss 1) hh.1 0
  have e := near_loop hh hd ⟨hc.1, by omega⟩ (10 + 1) 1 0 (by omega) (by omega) (by omega)
  have e0 : f_X0_middle (ss 2) = lev (ss 0) (ss 1) ss 0 := rfl
  rw [e0, abs_amt ⟨by omega, by omega⟩ ⟨by omega, by omega⟩]
  exact e
theorem dn_ne {ss : Nat → Int32} (hB : RB ss) : ¬ ss 1 = 0 := fun q => by have := hB.2.1; rw [q, x0] at this; omega
theorem hi_rng {ss : Nat → Int32} (hB : RB ss) : 0 ≤ (ss 2).toInt ∧ (ss 2).toInt ≤ 1000 := by have := hB.2.2.1; omega
theorem level_m {k : Int32} {ss : Nat → Int32} (hB : RB ss) : f_X5_level k (ss 0) (ss 1) (ss 2) = f_X6_level k ss := by
  unfold f_X5_level f_X6_level f_X6_levelOf
  rw [step_eq, level_eq (hi_rng hB).1 (dn_ne hB)]
theorem stepsOf_m {card : Int32} {ss : Nat → Int32} (hB : RB ss) : f_X5_stepsOf card (ss 0) (ss 1) (ss 2) = f_X6_stepsOf card ss := by
  unfold f_X5_stepsOf f_X6_stepsOf
  rw [card_eq]
  by_cases c : f_X6_isIn card.toInt64 0 (ss 2).toInt64 = 0
  · rw [if_pos c, if_pos c]
  · rw [if_neg c, if_neg c]
    have := isIn_ok c
    rw [i64, i64, L0] at this
    exact near_eq (hi_rng hB) (dn_ne hB) this
theorem ends_loop {what : Int32} {ss : Nat → Int32} (hB : RB ss) : ∀ (n k : Nat) (v : Int32), f_X5_ends_L19 what (ss 0) (ss 1) (ss 2) n k v = f_X6_ends_L23 what ss n k v := by
  intro n
  induction n with
  | zero => intro k v; rfl
  | succ n ih =>
    intro k v
    rw [f_X5_ends_L19_s, f_X6_ends_L23_s, share_eq (hi_rng hB).1 (dn_ne hB), ih]
theorem ends_m {what : Int32} {ss : Nat → Int32} (hB : RB ss) : f_X5_ends what (ss 0) (ss 1) (ss 2) = f_X6_ends what ss := by
  unfold f_X5_ends f_X6_ends
  rw [one2_eq, ends_loop hB]
  rfl
theorem all_loop {ss st : Nat → Int32} (h5 : 0 ≤ (ss 5).toInt ∧ (ss 5).toInt ≤ 12) (hp : ∀ i, i < (ss 5).toNatClampNeg → st i = ss (8 + 4 * i)) : ∀ (n k : Nat) (v : Int32), k ≤ (ss 5).toNatClampNeg → f_X0_allSteps_L4 (ss 5) st n k v = f_X6_count_L66 ss n k v := by
  intro n
  induction n with
  | zero => intro k v _; rfl
  | succ n ih =>
    intro k v hk
    have hb := cl_nat (ss 5)
    rw [f_X0_allSteps_L4_s, f_X6_count_L66_s]
    by_cases c : ss 5 ≤ nI k
    · rw [if_pos c, if_pos c]
    · rw [if_neg c, if_neg c]
      rw [leB h5.1 (by omega)] at c
      rw [if_neg (by rw [show (12 : Int32) = nI 12 from rfl, nI_leI (by decide) (by omega)]; omega), hp k (by omega), get1 (by omega)]
      exact ih _ _ (by omega)
theorem count_m {what ls sz : Int32} {ss cf nu ki st sl : Nat → Int32} (h : RG ss ls sz cf nu ki st sl) : f_X5_count what (ss 0) (ss 1) (ss 2) (ss 6) (ss 5) st = f_X6_count what ss := by
  unfold f_X5_count f_X6_count f_X0_allSteps
  rw [all_loop h.1.2.2.2.2.1 (fun i hi => (h.2.1.1 i hi).2.2.1) _ _ _ (Nat.zero_le _)]
  by_cases w2 : what = 2
  · subst w2; rfl
  · by_cases w3 : what = 3
    · subst w3; rfl
    · by_cases w4 : what = 4
      · subst w4; rfl
      · rw [if_neg w2, if_neg w3, if_neg w4, if_neg w2, if_neg w3, if_neg w4]
/-! images -/
theorem rtf_loop {sz : Int32} {fo : Nat → Int32} {x9 : Int32 × Int32 × (Nat → Int32)} (h9 : x9.2.1 = sz) (h0 : 0 ≤ sz.toInt) : ∀ (n k : Nat) (f : Nat → Int32), k ≤ sz.toNatClampNeg → sz.toNatClampNeg - k < n → (∀ i, i < k → f i = fo i) →
    (f_X3_takeFrom_L14 sz fo x9 n k f).2.1 = sz ∧ ∀ i, i < sz.toNatClampNeg → (f_X3_takeFrom_L14 sz fo x9 n k f).2.2 i = fo i := by
  intro n
  induction n with
  | zero => intro k f _ h; exact absurd h (Nat.not_lt_zero _)
  | succ n ih =>
    intro k f hk hm hf
    have hb := w_clamp_lt sz
    rw [f_X3_takeFrom_L14_s, h9]
    by_cases c : sz ≤ nI k
    · rw [if_pos c]
      rw [leB h0 (by omega)] at c
      exact ⟨rfl, fun i hi => hf i (by omega)⟩
    · rw [if_neg c]
      rw [leB h0 (by omega)] at c
      refine ih (k + 1) _ (by omega) (by omega) (fun i hi => ?_)
      by_cases hik : i = k
      · subst hik; rw [upd_at, at_i (by omega)]
      · rw [upd_ne _ _ hik]; exact hf i (by omega)
theorem rtf_ok {N : Nat} {f fo : Nat → Int32} {so sz : Int32} (h0 : 0 ≤ sz.toInt) (h : sz.toInt ≤ N) (hN : N < 2147483648) : (f_X3_takeFrom N f so sz fo).2.1 = sz ∧ ∀ i, i < sz.toNatClampNeg → (f_X3_takeFrom N f so sz fo).2.2 i = fo i := by
  unfold f_X3_takeFrom
  rw [bnd_eq, begin_sz h0 h hN]
  exact rtf_loop (begin_sz h0 h hN) h0 _ 0 _ (Nat.zero_le _) (by omega) (fun i hi => absurd hi (Nat.not_lt_zero _))
theorem cp_lt {n i : Nat} {f g : Nat → Int32} (h : i < n) : cp n f g i = g i := if_pos h
theorem RG.copy {ss s2 cf nu ki st sl f a b c d : Nat → Int32} {ls sz so : Int32} (h : RG ss ls sz cf nu ki st sl) (he : ∀ j, j < 55 → s2 j = ss j) :
    RG s2 ls (f_X3_takeFrom 12 f so sz cf).2.1 (f_X3_takeFrom 12 f so sz cf).2.2 (cp 12 a nu) (cp 12 b ki) (cp 12 c st) (cp 12 d sl) := by
  obtain ⟨hB, hP, hC⟩ := h
  obtain ⟨b0, b1, b2, b3, b5, b6, b65, b8⟩ := hB
  have hb := cl_nat (ss 5)
  refine ⟨⟨by rw [he 0 (by omega)]; exact b0, by rw [he 1 (by omega)]; exact b1, by rw [he 2 (by omega)]; exact b2, by rw [he 3 (by omega)]; exact b3, by rw [he 5 (by omega)]; exact b5, by rw [he 6 (by omega)]; exact b6, by rw [he 6 (by omega), he 5 (by omega)]; exact b65, fun i hi => by rw [he _ (by omega)]; exact b8 i hi⟩, ⟨fun i hi => ?_, fun i hi => by rw [cp_lt hi]; exact hP.2 i hi⟩, rtf_le (by decide), fun q i hi => ?_, fun q => ?_⟩
  · rw [he 5 (by omega)] at hi
    have hi12 : i < 12 := by omega
    rw [he _ (by omega), he _ (by omega), he _ (by omega), cp_lt hi12, cp_lt hi12, cp_lt hi12, cp_lt hi12]
    exact hP.1 i hi
  · rw [he 5 (by omega)] at hi
    rw [he 6 (by omega)] at q
    rw [he _ (by omega)]
    exact hC.2.1 q i hi
  · rw [he 6 (by omega)] at q
    rw [he 5 (by omega), he 2 (by omega)]
    obtain ⟨z1, z2, z3⟩ := hC.2.2 q
    obtain ⟨r1, r2⟩ := rtf_ok (f := f) (fo := cf) (so := so) (N := 12) (sz := sz) (by rw [z1]; exact b5.1) hC.1 (by decide)
    refine ⟨r1.trans z1, ?_, fun i hi => ?_⟩
    · rw [z2]
      exact sumN_congr _ (fun i hi => (r2 i (by rw [z1]; exact hi)).symm)
    · rw [he _ (by omega), r2 i (by rw [z1]; exact hi)]
      exact z3 i hi
theorem RG.congr {ss s2 cf nu ki st sl : Nat → Int32} {ls sz : Int32} (h : RG ss ls sz cf nu ki st sl) (he : ∀ j, j < 55 → s2 j = ss j) : RG s2 ls sz cf nu ki st sl := by
  obtain ⟨hB, hP, hC⟩ := h
  obtain ⟨b0, b1, b2, b3, b5, b6, b65, b8⟩ := hB
  have hb := cl_nat (ss 5)
  refine ⟨⟨by rw [he 0 (by omega)]; exact b0, by rw [he 1 (by omega)]; exact b1, by rw [he 2 (by omega)]; exact b2, by rw [he 3 (by omega)]; exact b3, by rw [he 5 (by omega)]; exact b5, by rw [he 6 (by omega)]; exact b6, by rw [he 6 (by omega), he 5 (by omega)]; exact b65, fun i hi => by rw [he _ (by omega)]; exact b8 i hi⟩, ⟨fun i hi => ?_, hP.2⟩, hC.1, fun q i hi => ?_, fun q => ?_⟩
  · rw [he 5 (by omega)] at hi
    rw [he _ (by omega), he _ (by omega), he _ (by omega)]
    exact hP.1 i hi
  · rw [he 5 (by omega)] at hi
    rw [he 6 (by omega)] at q
    rw [he _ (by omega)]
    exact hC.2.1 q i hi
  · rw [he 6 (by omega)] at q
    rw [he 5 (by omega), he 2 (by omega)]
    obtain ⟨z1, z2, z3⟩ := hC.2.2 q
    exact ⟨z1, z2, fun i hi => by rw [he _ (by omega)]; exact z3 i hi⟩
theorem img_loop {ss : Nat → Int32} : ∀ (n k : Nat) (u : Nat → Int32), k ≤ 55 → 55 - k < n → (∀ j, j < k → u j = ss j) → (f_X6_image_L2 ss n k u).1 = ss 5 ∧ (f_X6_image_L2 ss n k u).2.2 = 1 ∧ ∀ j, j < 55 → (f_X6_image_L2 ss n k u).2.1 j = ss j := by
  intro n
  induction n with
  | zero => intro k u _ h; exact absurd h (Nat.not_lt_zero _)
  | succ n ih =>
    intro k u hk hm hu
    rw [f_X6_image_L2_s]
    by_cases c : (55 : Int32) ≤ nI k
    · rw [if_pos c]
      rw [show (55 : Int32) = nI 55 from rfl, nI_leI (by decide) (by omega)] at c
      exact ⟨rfl, rfl, fun j hj => hu j (by omega)⟩
    · rw [if_neg c]
      rw [show (55 : Int32) = nI 55 from rfl, nI_leI (by decide) (by omega)] at c
      refine ih (k + 1) _ (by omega) (by omega) (fun j hj => ?_)
      by_cases hjk : j = k
      · subst hjk; exact upd_at _ _ _
      · rw [upd_ne _ _ hjk]; exact hu j (by omega)
theorem img_ok {ss im : Nat → Int32} : (f_X6_image ss im).1 = ss 5 ∧ (f_X6_image ss im).2.2 = 1 ∧ ∀ j, j < 55 → (f_X6_image ss im).2.1 j = ss j := img_loop _ 0 _ (by decide) (by decide) (fun j hj => absurd hj (Nat.not_lt_zero _))
theorem res_loop {im : Nat → Int32} : ∀ (n k : Nat) (u : Nat → Int32), k ≤ 55 → 55 - k < n → (∀ j, j < k → u j = im j) → (f_X6_restore_L12 im n k u).1 = im 5 ∧ ∀ j, j < 55 → (f_X6_restore_L12 im n k u).2 j = im j := by
  intro n
  induction n with
  | zero => intro k u _ h; exact absurd h (Nat.not_lt_zero _)
  | succ n ih =>
    intro k u hk hm hu
    rw [f_X6_restore_L12_s]
    by_cases c : (55 : Int32) ≤ nI k
    · rw [if_pos c]
      rw [show (55 : Int32) = nI 55 from rfl, nI_leI (by decide) (by omega)] at c
      exact ⟨hu 5 (by omega), fun j hj => hu j (by omega)⟩
    · rw [if_neg c]
      rw [show (55 : Int32) = nI 55 from rfl, nI_leI (by decide) (by omega)] at c
      refine ih (k + 1) _ (by omega) (by omega) (fun j hj => ?_)
      by_cases hjk : j = k
      · subst hjk; exact upd_at _ _ _
      · rw [upd_ne _ _ hjk]; exact hu j (by omega)
theorem res_ok {hi : Int32} {ss im : Nat → Int32} (c : ¬ hi = 0) : (f_X6_restore hi ss im).1 = im 5 ∧ ∀ j, j < 55 → (f_X6_restore hi ss im).2 j = im j := by
  unfold f_X6_restore
  rw [if_neg c]
  exact res_loop _ 0 _ (by decide) (by decide) (fun j hj => absurd hj (Nat.not_lt_zero _))
