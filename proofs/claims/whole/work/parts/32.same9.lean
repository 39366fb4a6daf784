/-! SAME ANSWERS: winners counted; told cards -/
theorem cw_loop {ss ha f : Nat → Int32} {sz : Int32} {i : Nat} (h : CD ss sz f) (hi : i < sz.toNatClampNeg) (er : f_X0_firstWinner (ss 0) (ss 1) (ss 3) sz f = nI i) (hw : ∀ j, j < sz.toNatClampNeg → (¬ Wn ss ha sz (ha j) = 0 ↔ gF ss sz f (f j) = gF ss sz f (f i))) :
    ∀ (n k : Nat) (v : Int32), k ≤ sz.toNatClampNeg → f_X0_countWinners_L47 (ss 0) (ss 1) (ss 3) sz f n k v = f_X6_winnersOf_L17 0 sz ss ha n k v := by
  obtain ⟨hB, h1, h2, h3⟩ := h
  have hz := cl_nat sz
  intro n
  induction n with
  | zero => intro k v _; rfl
  | succ n ih =>
    intro k v hk
    rw [f_X0_countWinners_L47_s, f_X6_winnersOf_L17_s]
    by_cases c : sz ≤ nI k
    · rw [if_pos c, if_pos c, if_neg (by decide)]
    · rw [if_neg c, if_neg c]
      rw [leB (by omega) (by omega)] at c
      rw [er, at_i (by omega), at_i hi, far5 (by omega), far5 (by omega), if_neg (show ¬ (0 : Int32) = 1 by decide)]
      have hw' := hw k (by omega)
      by_cases d : gF ss sz f (f k) = gF ss sz f (f i)
      · have w := hw'.mpr d
        unfold gF at d
        unfold Wn at w
        rw [if_pos d, if_neg w]
        exact ih _ _ (by omega)
      · have w : Wn ss ha sz (ha k) = 0 := Classical.byContradiction fun q => d (hw'.mp q)
        unfold gF at d
        unfold Wn at w
        rw [if_neg d, if_pos w]
        exact ih _ _ (by omega)
theorem none_loop {what : Int32} {ss ha : Nat → Int32} {sz : Int32} (h0 : 0 ≤ sz.toInt) (hw : ∀ j, j < sz.toNatClampNeg → Wn ss ha sz (ha j) = 0) :
    ∀ (n k : Nat) (v : Int32), k ≤ sz.toNatClampNeg → sz.toNatClampNeg - k < n → f_X6_winnersOf_L17 what sz ss ha n k v = if what = 1 then -4 else v := by
  have hz := w_clamp_lt sz
  intro n
  induction n with
  | zero => intro k v _ hh; exact absurd hh (Nat.not_lt_zero _)
  | succ n ih =>
    intro k v hk hm
    rw [f_X6_winnersOf_L17_s]
    by_cases c : sz ≤ nI k
    · rw [if_pos c]
    · rw [if_neg c]
      rw [leB h0 (by omega)] at c
      have w := hw k (by omega)
      unfold Wn at w
      rw [if_pos w]
      exact ih _ _ (by omega) (by omega)
theorem fw_loop {ss ha f : Nat → Int32} {sz : Int32} {i : Nat} (h0 : 0 ≤ sz.toInt) (hi : i < sz.toNatClampNeg) (hw : ∀ j, j < sz.toNatClampNeg → (¬ Wn ss ha sz (ha j) = 0 ↔ gF ss sz f (f j) = gF ss sz f (f i))) (hl : ∀ j, j < i → ¬ gF ss sz f (f j) = gF ss sz f (f i)) :
    ∀ (n k : Nat) (v : Int32), k ≤ i → i - k < n → f_X6_winnersOf_L17 1 sz ss ha n k v = nI i := by
  have hz := w_clamp_lt sz
  intro n
  induction n with
  | zero => intro k v _ hh; exact absurd hh (Nat.not_lt_zero _)
  | succ n ih =>
    intro k v hk hm
    rw [f_X6_winnersOf_L17_s, if_neg (by rw [leB h0 (by omega)]; omega)]
    by_cases c : k = i
    · subst c
      have w := (hw k hi).mpr rfl
      unfold Wn at w
      rw [if_neg w, if_pos rfl]
    · have w : Wn ss ha sz (ha k) = 0 := Classical.byContradiction fun q => hl k (by omega) ((hw k (by omega)).mp q)
      unfold Wn at w
      rw [if_pos w]
      exact ih _ _ (by omega) (by omega)
theorem count_eq {ss ha f : Nat → Int32} {sz : Int32} (h : CD ss sz f) (he : ∀ j, j < sz.toNatClampNeg → ha j = f j) : f_X0_countWinners (ss 0) (ss 1) (ss 3) sz f = f_X6_winnersOf 0 sz ss ha := by
  unfold f_X0_countWinners f_X6_winnersOf
  have h1 := h.2.1
  rcases win_core h he with ⟨a, b⟩ | ⟨i, hi, a, b, d⟩
  · rw [if_pos a, none_loop (by omega) b _ _ _ (Nat.zero_le _) (by omega), if_neg (by decide)]
  · have hz := w_clamp_lt sz
    rw [if_neg (by rw [a]; intro q; have := congrArg Int32.toInt q; rw [nI_toInt (by omega)] at this; have h4 : (-4 : Int32).toInt = -4 := rfl; omega)]
    exact cw_loop h hi a b _ _ _ (Nat.zero_le _)
theorem first_eq {ss ha f : Nat → Int32} {sz : Int32} (h : CD ss sz f) (he : ∀ j, j < sz.toNatClampNeg → ha j = f j) : f_X0_firstWinner (ss 0) (ss 1) (ss 3) sz f = f_X6_winnersOf 1 sz ss ha := by
  unfold f_X6_winnersOf
  have h1 := h.2.1
  rcases win_core h he with ⟨a, b⟩ | ⟨i, hi, a, b, d⟩
  · rw [a, none_loop (by omega) b _ _ _ (Nat.zero_le _) (by omega), if_pos rfl]
  · rw [a]
    exact (fw_loop (by omega) hi b d _ _ _ (Nat.zero_le _) (by omega)).symm
theorem isW_eq {ss ha f : Nat → Int32} {sz : Int32} {p : Nat} (h : CD ss sz f) (he : ∀ j, j < sz.toNatClampNeg → ha j = f j) (hp : p < sz.toNatClampNeg) : (f_X0_isWinner (nI p) (ss 0) (ss 1) (ss 3) sz f = 0 ↔ Wn ss ha sz (ha p) = 0) := by
  unfold f_X0_isWinner
  have h1 := h.2.1
  have hz := w_clamp_lt sz
  have hz2 := cl_nat sz
  rcases win_core h he with ⟨a, b⟩ | ⟨i, hi, a, b, d⟩
  · rw [if_pos a]; exact ⟨fun _ => b p hp, fun _ => rfl⟩
  · rw [if_neg (by rw [a]; intro q; have := congrArg Int32.toInt q; rw [nI_toInt (by omega)] at this; have h4 : (-4 : Int32).toInt = -4 := rfl; omega)]
    have hP : f_X3_hasPlace (nI p) sz = 1 := by
      unfold f_X3_hasPlace
      rw [if_neg (nI_neg (by omega)), if_neg (by rw [xle, nI_toInt (by omega)]; omega)]
    rw [hP, if_neg o0, a, at_i hp, at_i hi, far5 (by omega), far5 (by omega)]
    have q := b p hp
    unfold gF at q
    by_cases c : (if mor ss sz f (f p) ≤ 0 then -(mor ss sz f (f p)) else (if ss 3 = 1 then 2147483647 else mor ss sz f (f p))) = (if mor ss sz f (f i) ≤ 0 then -(mor ss sz f (f i)) else (if ss 3 = 1 then 2147483647 else mor ss sz f (f i)))
    · rw [if_pos c]; exact ⟨fun q => absurd q o0, fun r => absurd r (q.mpr c)⟩
    · rw [if_neg c]; exact ⟨fun _ => Classical.byContradiction fun r => c (q.mp r), fun _ => rfl⟩
/-- what the reference's hand holds -/
def TK (ss ho rsz : Nat → Int32) (rel : Nat → Nat → Int32) (i : Nat) (t : Int32 × (Nat → Int32) × Int32) : Prop := t.1 = f_X5_cardsRefusal (ss 2) (ho i) (rsz i) (rel i) ∧ t.2.2.toInt ≤ 100 ∧ (t.1 = 0 → t.2.2 = rsz i ∧ CD ss (rsz i) (rel i) ∧ ∀ j, j < (rsz i).toNatClampNeg → t.2.1 j = rel i j)
section
variable {ke so si el kd kt ho rso rsz snu ski sst ssl : Nat → Int32} {rel : Nat → Nat → Int32}
theorem tr_loop {i : Nat} {hs : Int32} {ss : Nat → Int32} (hS : RS ke so si el kd kt ho rso rsz rel snu ski sst ssl) (hB : RB ss) (hhs : hs.toInt ≤ 100) (hi : i < 8) (h1 : 1 ≤ (rsz i).toInt) :
    ∀ (n k : Nat) (u : Nat → Int32), k ≤ (rsz i).toNatClampNeg → (rsz i).toNatClampNeg - k < n → (∀ j, j < k → u j = rel i j ∧ 0 ≤ (rel i j).toInt ∧ (rel i j).toInt ≤ (ss 2).toInt) →
    (f_X6_takesRow_L27 (nI i) hs ss si el n k u).1 = (if f_X0_areCards_L2 (ss 2) (rsz i) (rel i) n k = 0 then -13 else 0) ∧ (f_X6_takesRow_L27 (nI i) hs ss si el n k u).2.2.toInt ≤ 100 ∧ ((f_X6_takesRow_L27 (nI i) hs ss si el n k u).1 = 0 → (f_X6_takesRow_L27 (nI i) hs ss si el n k u).2.2 = rsz i ∧ CD ss (rsz i) (rel i) ∧ ∀ j, j < (rsz i).toNatClampNeg → (f_X6_takesRow_L27 (nI i) hs ss si el n k u).2.1 j = rel i j) := by
  obtain ⟨a1, a2, a3, a4, a5, a6, a7⟩ := hS i hi
  have hz := cl_nat (rsz i)
  intro n
  induction n with
  | zero => intro k u _ hh; exact absurd hh (Nat.not_lt_zero _)
  | succ n ih =>
    intro k u hk hm hu
    rw [f_X6_takesRow_L27_s, f_X0_areCards_L2_s, nI_clamp (by omega), a4]
    by_cases c : rsz i ≤ nI k
    · rw [if_pos c, if_pos c]
      rw [leB a5.1 (by omega)] at c
      rw [if_neg (show ¬ rsz i ≤ 0 by rw [xle, x0]; omega), if_neg o0]
      exact ⟨rfl, a5.2, fun _ => ⟨rfl, ⟨hB, h1, a5.2, fun j hj => (hu j (by omega)).2⟩, fun j hj => (hu j (by omega)).1⟩⟩
    · rw [if_neg c, if_neg c]
      rw [leB a5.1 (by omega)] at c
      rw [upd_at, at_i (by omega), card_eq, a6 k (by omega)]
      by_cases d : f_X6_isIn (rel i k).toInt64 0 (ss 2).toInt64 = 0
      · rw [if_pos d, if_pos d, if_pos rfl]
        exact ⟨rfl, hhs, fun q => absurd q (show ¬ (-13 : Int32) = 0 by decide)⟩
      · rw [if_neg d, if_neg d]
        have hr := isIn_ok d
        rw [i64, i64, L0] at hr
        refine ih (k + 1) _ (by omega) (by omega) (fun j hj => ?_)
        by_cases hjk : j = k
        · subst hjk; rw [upd_at]; exact ⟨rfl, hr⟩
        · rw [upd_ne _ _ hjk]; exact hu j (by omega)
theorem takes_i {i : Nat} {hs : Int32} {ss ha : Nat → Int32} (hS : RS ke so si el kd kt ho rso rsz rel snu ski sst ssl) (hB : RB ss) (hhs : hs.toInt ≤ 100) (hi : i < 8) : TK ss ho rsz rel i (f_X6_takesRow (nI i) hs ss ke so si el ha) := by
  obtain ⟨a1, a2, a3, a4, a5, a6, a7⟩ := hS i hi
  unfold TK f_X6_takesRow f_X5_cardsRefusal
  rw [wrow_i (so := so) hi a1, nI_clamp (by omega), a4]
  by_cases r : f_X5_rowRefusal (ho i) = 0
  · rw [if_pos r, if_pos r]
    by_cases z : rsz i = 0
    · rw [if_pos z]
      have e : f_X0_areCards (ss 2) (rsz i) (rel i) = 0 := by
        unfold f_X0_areCards
        rw [f_X0_areCards_L2_s, z, if_pos (by decide), if_pos (by decide)]
      rw [e, if_pos rfl]
      exact ⟨rfl, hhs, fun q => absurd q (show ¬ (-13 : Int32) = 0 by decide)⟩
    · rw [if_neg z]
      exact tr_loop hS hB hhs hi (w_pos a5.1 z) _ 0 _ (Nat.zero_le _) (by omega) (fun j hj => absurd hj (Nat.not_lt_zero _))
  · rw [if_neg r, if_neg r]
    exact ⟨rfl, hhs, fun q => absurd q r⟩
theorem takes_no {d hs : Int32} {ss ha : Nat → Int32} (c : ¬ (¬ d < 0 ∧ ¬ (8 : Int32) ≤ d)) : f_X6_takesRow d hs ss ke so si el ha = (-1, ha, hs) := by
  unfold f_X6_takesRow
  rw [wrow_no c, if_neg (by decide)]
theorem winners_m {d what hs : Int32} {ss ha : Nat → Int32} (hS : RS ke so si el kd kt ho rso rsz rel snu ski sst ssl) (hB : RB ss) (hhs : hs.toInt ≤ 100) :
    f_X5_winners d what (ss 0) (ss 1) (ss 2) (ss 3) ho rsz rel = (f_X6_winners d what hs ss ke so si el ha).1 ∧ (f_X6_winners d what hs ss ke so si el ha).2.2.toInt ≤ 100 := by
  unfold f_X5_winners f_X6_winners
  rw [one2_eq]
  by_cases c : ¬ d < 0 ∧ ¬ (8 : Int32) ≤ d
  · rw [if_pos c]
    obtain ⟨ed, hd⟩ := sh_ok c
    generalize d.toNatClampNeg = i at ed hd
    subst ed
    rw [shelf_i hd, if_neg o0]
    by_cases w : f_X6_isIn what.toInt64 0 1 = 0
    · rw [if_pos w, if_pos w]; exact ⟨rfl, hhs⟩
    · rw [if_neg w, if_neg w, bnd_eq]
      have ht := takes_i (ha := ha) hS hB hhs hd
      generalize f_X6_takesRow (nI i) hs ss ke so si el ha = t at ht
      obtain ⟨t1, t2, t3⟩ := ht
      rw [← t1]
      by_cases q : t.1 = 0
      · rw [if_pos q, if_pos q]
        obtain ⟨u1, u2, u3⟩ := t3 q
        refine ⟨?_, t2⟩
        show _ = f_X6_winnersOf what t.2.2 ss t.2.1
        rw [u1]
        by_cases w0 : what = 0
        · rw [if_pos w0, w0, count_eq u2 u3]
        · have w1 : what = 1 := by
            by_cases w1 : what = 1
            · exact w1
            · exfalso; apply w; rw [← one2_eq]; unfold f_X5_isOneOfTwo; rw [if_neg w0, if_neg w1]
          rw [if_neg w0, w1, first_eq u2 u3]
      · rw [if_neg q, if_neg q]; exact ⟨rfl, t2⟩
  · rw [if_neg c, shelf_no c, if_pos rfl]
    refine ⟨?_, hhs⟩
    split <;> rfl
theorem shares_loop {i : Nat} {k0 : Int32} {ss ha : Nat → Int32} (hd : i < 8) (h : CD ss (rsz i) (rel i)) (he : ∀ j, j < (rsz i).toNatClampNeg → ha j = rel i j) : ∀ (n k : Nat) (v : Int32), k ≤ (rsz i).toNatClampNeg → f_X5_shares_L36 (nI i) k0 (ss 0) (ss 1) (ss 2) rsz rel n k v = f_X6_sharesOf_L4 k0 (rsz i) ss ha n k v := by
  obtain ⟨hB, h1, h2, h3⟩ := h
  have hz := cl_nat (rsz i)
  intro n
  induction n with
  | zero => intro k v _; rfl
  | succ n ih =>
    intro k v hk
    rw [f_X5_shares_L36_s, f_X6_sharesOf_L4_s, nI_clamp (by omega)]
    by_cases c : rsz i ≤ nI k
    · rw [if_pos c, if_pos c]
    · rw [if_neg c, if_neg c]
      rw [leB (by omega) (by omega)] at c
      rw [at_i (by omega), near_eq (hi_rng hB) (dn_ne hB) (h3 k (by omega)), he k (by omega)]
      by_cases d : f_X6_stepsFor (rel i k) ss = k0
      · rw [if_pos d, if_pos d]; exact ih _ _ (by omega)
      · rw [if_neg d, if_neg d, Int32.add_zero]; exact ih _ _ (by omega)
theorem shares_m {d k0 hs : Int32} {ss ha : Nat → Int32} (hS : RS ke so si el kd kt ho rso rsz rel snu ski sst ssl) (hB : RB ss) (hhs : hs.toInt ≤ 100) :
    f_X5_shares d k0 (ss 0) (ss 1) (ss 2) ho rsz rel = (f_X6_shares d k0 hs ss ke so si el ha).1 ∧ (f_X6_shares d k0 hs ss ke so si el ha).2.2.toInt ≤ 100 := by
  unfold f_X5_shares f_X6_shares
  rw [step_eq]
  by_cases c : ¬ d < 0 ∧ ¬ (8 : Int32) ≤ d
  · rw [if_pos c]
    obtain ⟨ed, hd⟩ := sh_ok c
    generalize hi : d.toNatClampNeg = i at ed hd
    subst ed
    rw [shelf_i hd, if_neg o0]
    by_cases w : f_X6_isIn k0.toInt64 0 9 = 0
    · rw [if_pos w, if_pos w]; exact ⟨rfl, hhs⟩
    · rw [if_neg w, if_neg w, bnd_eq]
      have ht := takes_i (ha := ha) hS hB hhs hd
      generalize f_X6_takesRow (nI i) hs ss ke so si el ha = t at ht
      obtain ⟨t1, t2, t3⟩ := ht
      rw [← t1]
      by_cases q : t.1 = 0
      · rw [if_pos q, if_pos q]
        obtain ⟨u1, u2, u3⟩ := t3 q
        refine ⟨?_, t2⟩
        show _ = f_X6_sharesOf k0 t.2.2 ss t.2.1
        rw [u1]
        exact shares_loop hd u2 u3 _ _ _ (Nat.zero_le _)
      · rw [if_neg q, if_neg q]; exact ⟨rfl, t2⟩
  · rw [if_neg c, shelf_no c, if_pos rfl]
    refine ⟨?_, hhs⟩
    split <;> rfl
/-- how far, with one card more -/
def mor1 (ss : Nat → Int32) (sz : Int32) (f : Nat → Int32) (k : Nat) : Int32 := nI k * (ss 1 * (sz + 1)) - ss 0 * (sumN f sz.toNatClampNeg + nI k)
theorem mor1_0 {ss f : Nat → Int32} {sz : Int32} (h : CD ss sz f) : mor1 ss sz f 0 ≤ 0 ∧ -(mor1 ss sz f 0) < 2147483647 := by
  obtain ⟨hB, h1, h2, h3⟩ := h
  obtain ⟨b0, b1, b2, _⟩ := hB
  have hz := cl_nat sz
  have hs := sumN_rng (f := f) sz.toNatClampNeg (by omega) (fun i hi => by have := h3 i hi; omega)
  have e0 : sumN f sz.toNatClampNeg + nI 0 = sumN f sz.toNatClampNeg := Int32.add_zero _
  obtain ⟨e2, k1, k2⟩ := mul_rng (a := ss 0) (b := sumN f sz.toNatClampNeg) (A := 20) (B := 100000) b0 ⟨hs.1, by omega⟩ (by omega)
  have em : (mor1 ss sz f 0).toInt = -((ss 0).toInt * (sumN f sz.toNatClampNeg).toInt) := by
    unfold mor1
    rw [e0, show nI 0 = 0 from rfl, Int32.zero_mul, subI (by rw [e2, x0]; omega), x0, e2]; omega
  have hM : (2147483647 : Int32).toInt = 2147483647 := rfl
  exact ⟨by rw [xle, x0]; omega, by rw [xlt, xneg (by omega), hM]; omega⟩
theorem far_amt (D : Int32) : (if D ≤ 0 then -D else D) = f_X6_amount D := by
  unfold f_X6_amount
  by_cases c : D ≤ 0
  · rw [if_pos c]
    by_cases d : 0 ≤ D
    · rw [if_pos d]
      have : D = 0 := xin (by rw [xle, x0] at c d; rw [x0]; omega)
      subst this; rfl
    · rw [if_neg d]
  · rw [if_neg c, if_pos (by rw [xle, x0]; rw [xle, x0] at c; omega)]
theorem best_loop2 {ss f : Nat → Int32} {sz : Int32} {x2 : Int32 × (Nat → Int32) × Int32} (h : CD ss sz f) (ex : x2.2.2 = sz) (he : ∀ j, j < sz.toNatClampNeg → x2.2.1 j = f j) :
    ∀ (n k : Nat) (v4 v5 w4 w5 : Int32), k ≤ (ss 2).toNatClampNeg + 1 → (ss 2).toNatClampNeg + 1 - k < n →
    ((k = 0 ∧ v4 = 0 ∧ v5 = 2147483647 ∧ w4 = -4) ∨ (0 < k ∧ v4 = w4 ∧ (ss 3 = 0 → v5 = w5 ∧ 0 ≤ w4.toInt))) →
    f_X0_bestAgainst_L27 (ss 0) (ss 1) (ss 2) (ss 3) sz f n k v4 v5 = (f_X6_best_L27 ss x2 n k w4 w5).1 ∧ (f_X6_best_L27 ss x2 n k w4 w5).2.2 = x2.2.2 := by
  have h0 := h
  obtain ⟨hB, h1, h2, h3⟩ := h
  have b2 := hB.2.2.1
  have b3 := hB.2.2.2.1
  have hh := cl_nat (ss 2)
  intro n
  induction n with
  | zero => intro k _ _ _ _ _ hq; exact absurd hq (Nat.not_lt_zero _)
  | succ n ih =>
    intro k v4 v5 w4 w5 hk hm hv
    rw [f_X0_bestAgainst_L27_s, f_X6_best_L27_s]
    by_cases c : ss 2 < nI k
    · rw [if_pos c, if_pos c]
      rw [ltB (by omega) (by omega)] at c
      rcases hv with ⟨a, _⟩ | ⟨_, a, _⟩
      · omega
      · exact ⟨a, rfl⟩
    · rw [if_neg c, if_neg c]
      rw [ltB (by omega) (by omega)] at c
      have e5 : f_X0_farFrom (ss 0 * (f_X3_sum sz f + nI k)) (ss 1 * (sz + 1)) (nI k) (ss 3) = if mor1 ss sz f k ≤ 0 then -(mor1 ss sz f k) else (if ss 3 = 1 then 2147483647 else mor1 ss sz f k) := by
        unfold f_X0_farFrom mor1
        rw [sum3 (by omega)]
      have e6 : f_X6_farOf (nI k) (f_X6_sumOf x2.2.2 x2.2.1 + nI k) (x2.2.2 + 1) ss = mor1 ss sz f k := by
        unfold f_X6_farOf mor1
        rw [ex, sum6 (by omega), sumN_congr _ he, Int32.mul_assoc]
      rw [e5, e6]
      have m0 := mor1_0 h0
      by_cases p : ss 3 = 1
      · rw [if_pos p, if_pos p, if_pos p]
        have p0 : ¬ ss 3 = 0 := by rw [p]; decide
        have fin : ∀ v v' w w' : Int32, v = w → _ := fun v v' w w' hvw => ih (k + 1) v v' w w' (by omega) (by omega) (Or.inr ⟨by omega, hvw, fun q => absurd q p0⟩)
        by_cases g : mor1 ss sz f k ≤ 0
        · rw [if_neg (Int32.not_lt.mpr g), if_pos g]
          by_cases q1 : -(mor1 ss sz f k) < v5
          · rw [if_pos q1]; exact fin _ _ _ _ rfl
          · rw [if_neg q1]
            by_cases q2 : -(mor1 ss sz f k) = 2147483647
            · exfalso
              have e := congrArg Int32.toInt q2
              have hM : (2147483647 : Int32).toInt = 2147483647 := rfl
              -- the cards' bound
              obtain ⟨b0, b1, _⟩ := hB
              have hz := cl_nat sz
              have hs := sumN_rng (f := f) sz.toNatClampNeg (by omega) (fun i hi => by have := h3 i hi; omega)
              have es : (sumN f sz.toNatClampNeg + nI k).toInt = (sumN f sz.toNatClampNeg).toInt + k := by rw [addI (by rw [nI_toInt (by omega)]; omega), nI_toInt (by omega)]
              have ez : (sz + 1).toInt = sz.toInt + 1 := by rw [addI (by rw [x1]; omega), x1]
              obtain ⟨e2, k1, k2⟩ := mul_rng (a := ss 0) (b := sumN f sz.toNatClampNeg + nI k) (A := 20) (B := 101000) b0 ⟨by omega, by omega⟩ (by omega)
              obtain ⟨e3, l1, l2⟩ := mul_rng (a := ss 1) (b := sz + 1) (A := 20) (B := 101) ⟨by omega, b1.2⟩ ⟨by omega, by omega⟩ (by omega)
              obtain ⟨e4, n1, n2⟩ := mul_rng (a := nI k) (b := ss 1 * (sz + 1)) (A := 1000) (B := 2020) (by rw [nI_toInt (by omega)]; omega) ⟨by omega, by omega⟩ (by omega)
              have em : (mor1 ss sz f k).toInt = (nI k).toInt * (ss 1 * (sz + 1)).toInt - (ss 0).toInt * (sumN f sz.toNatClampNeg + nI k).toInt := by
                unfold mor1
                rw [subI (by rw [e4, e2]; omega), e4, e2]
              rw [xneg (by omega), hM] at e
              omega
            · rw [if_neg q2]; exact fin _ _ _ _ rfl
        · rw [if_pos (Int32.not_le.mp g), if_neg g]
          have k0 : k ≠ 0 := fun q => by rw [q] at g; exact g m0.1
          have hv2 : v4 = w4 := by
            rcases hv with ⟨a, _⟩ | ⟨_, a, _⟩
            · exact absurd a k0
            · exact a
          rw [if_neg (show ¬ (2147483647 : Int32) < v5 by rw [xlt]; have := Int32.toInt_lt v5; have hM : (2147483647 : Int32).toInt = 2147483647 := rfl; omega), if_pos rfl]
          exact fin _ _ _ _ hv2
      · have p0 : ss 3 = 0 := b3.resolve_right p
        rw [if_neg p, if_neg p, if_neg p, far_amt]
        have fin : ∀ v v' w w' : Int32, v = w → v' = w' → 0 ≤ w.toInt → _ := fun v v' w w' hvw hvw' h9 => ih (k + 1) v v' w w' (by omega) (by omega) (Or.inr ⟨by omega, hvw, fun q => ⟨hvw', h9⟩⟩)
        have hk0 : 0 ≤ (nI k).toInt := by rw [nI_toInt (by omega)]; omega
        rcases hv with ⟨a, a2, a3, a4⟩ | ⟨a, a2, a3⟩
        · subst a
          have q : f_X6_amount (mor1 ss sz f 0) < 2147483647 := by rw [← far_amt, if_pos m0.1]; exact m0.2
          rw [a3, a4, if_pos q, if_pos (show (-4 : Int32) < 0 by decide)]
          exact fin _ _ _ _ rfl rfl hk0
        · obtain ⟨q1, q2⟩ := a3 p0
          rw [a2, q1, if_neg (show ¬ w4 < 0 by rw [xlt, x0]; omega)]
          by_cases g : f_X6_amount (mor1 ss sz f k) < w5
          · rw [if_pos g, if_neg (Int32.not_le.mpr g)]
            exact fin _ _ _ _ rfl rfl hk0
          · rw [if_neg g, if_pos (Int32.not_lt.mp g)]
            exact fin _ _ _ _ rfl rfl q2
theorem best_m {d hs : Int32} {ss ha : Nat → Int32} (hS : RS ke so si el kd kt ho rso rsz rel snu ski sst ssl) (hB : RB ss) (hhs : hs.toInt ≤ 100) :
    f_X5_best d (ss 0) (ss 1) (ss 2) (ss 3) ho rsz rel = (f_X6_best d hs ss ke so si el ha).1 ∧ (f_X6_best d hs ss ke so si el ha).2.2.toInt ≤ 100 := by
  unfold f_X5_best f_X6_best
  by_cases c : ¬ d < 0 ∧ ¬ (8 : Int32) ≤ d
  · rw [if_pos c]
    obtain ⟨ed, hd⟩ := sh_ok c
    generalize d.toNatClampNeg = i at ed hd
    subst ed
    rw [bnd_eq]
    have ht := takes_i (ha := ha) hS hB hhs hd
    generalize f_X6_takesRow (nI i) hs ss ke so si el ha = t at ht
    obtain ⟨t1, t2, t3⟩ := ht
    rw [← t1]
    by_cases q : t.1 = 0
    · rw [if_pos q, if_pos q]
      obtain ⟨u1, u2, u3⟩ := t3 q
      obtain ⟨r1, r2⟩ := best_loop2 (x2 := t) u2 u1 u3 ((ss 2).toNatClampNeg + 1 + 1) 0 0 2147483647 (-4) 0 (Nat.zero_le _) (by omega) (Or.inl ⟨rfl, rfl, rfl, rfl⟩)
      exact ⟨r1, by rw [r2]; exact t2⟩
    · rw [if_neg q, if_neg q]; exact ⟨rfl, t2⟩
  · rw [if_neg c, takes_no c, bnd_eq, if_neg (show ¬ (-1 : Int32) = 0 by decide)]
    exact ⟨rfl, hhs⟩
theorem words_loop {i j : Nat} {what : Int32} {ss : Nat → Int32} {x : Int32 × (Nat → Int32) × Int32} (hS : RS ke so si el kd kt ho rso rsz rel snu ski sst ssl) (hd : i < 8) (hj : j < 8) (h : CD ss (rsz i) (rel i)) (ez : rsz j = rsz i) (ex : x.2.2 = rsz i) (he : ∀ k, k < (rsz i).toNatClampNeg → x.2.1 k = rel i k) :
    ∀ (n k : Nat) (v7 v8 v5 : Int32), k ≤ (rsz i).toNatClampNeg → (rsz i).toNatClampNeg - k < n → v5 = (if what = 0 then v7 else v8) → f_X5_words_L100 (nI i) (nI j) what (ss 0) (ss 1) (ss 2) rsz rel n k v7 v8 = (f_X6_words_L118 (nI j) what ss el x n k v5).1 ∧ (f_X6_words_L118 (nI j) what ss el x n k v5).2.2 = x.2.2 := by
  obtain ⟨hB, h1, h2, h3⟩ := h
  have hz := cl_nat (rsz i)
  intro n
  induction n with
  | zero => intro k _ _ _ _ hq; exact absurd hq (Nat.not_lt_zero _)
  | succ n ih =>
    intro k v7 v8 v5 hk hm hv
    rw [f_X5_words_L100_s, f_X6_words_L118_s, nI_clamp (by omega), nI_clamp (by omega), ez, ex]
    by_cases c : rsz i ≤ nI k
    · rw [if_pos c, if_pos c]
      exact ⟨hv.symm, rfl⟩
    · rw [if_neg c, if_neg c]
      rw [leB (by omega) (by omega)] at c
      rw [at_i (by omega), at_i (by omega), near_eq (hi_rng hB) (dn_ne hB) (h3 k (by omega)), he k (by omega), (hS j hj).2.2.2.2.2.1 k (by omega)]
      have ih' := fun a b c d => ih (k + 1) a b c (by omega) (by omega) d
      rw [ex] at ih'
      by_cases w : what = 0
      · rw [if_pos w] at hv
        rw [if_pos w]
        by_cases z : rel j k - f_X6_stepsFor (rel i k) ss = 0
        · rw [if_pos z, if_pos z]
          exact ih' _ _ _ (by rw [if_pos w, hv])
        · rw [if_neg z, if_neg z]
          split
          · exact ih' _ _ _ (by rw [if_pos w, hv, Int32.add_zero])
          · exact ih' _ _ _ (by rw [if_pos w, hv, Int32.add_zero])
      · rw [if_neg w] at hv
        rw [if_neg w]
        by_cases z : rel j k - f_X6_stepsFor (rel i k) ss = 0
        · rw [if_pos z, z, if_pos (show (0 : Int32) ≤ 0 by decide)]
          exact ih' _ _ _ (by rw [if_neg w, hv, Int32.add_zero])
        · rw [if_neg z]
          by_cases g : rel j k - f_X6_stepsFor (rel i k) ss ≤ 0
          · rw [if_pos g, if_pos g]
            exact ih' _ _ _ (by rw [if_neg w, hv, Int32.add_zero])
          · rw [if_neg g, if_neg g]
            exact ih' _ _ _ (by rw [if_neg w, hv])
theorem words_m {d e0 what hs : Int32} {ss ha : Nat → Int32} (hS : RS ke so si el kd kt ho rso rsz rel snu ski sst ssl) (hB : RB ss) (hhs : hs.toInt ≤ 100) :
    f_X5_words d e0 what (ss 0) (ss 1) (ss 2) ho rso rsz rel = (f_X6_words d e0 what hs ss ke so si el ha).1 ∧ (f_X6_words d e0 what hs ss ke so si el ha).2.2.toInt ≤ 100 := by
  unfold f_X5_words f_X6_words
  rw [one2_eq]
  by_cases c : ¬ d < 0 ∧ ¬ (8 : Int32) ≤ d
  · rw [if_pos c]
    obtain ⟨ed, hd⟩ := sh_ok c
    generalize d.toNatClampNeg = i at ed hd
    subst ed
    rw [shelf_i hd, if_neg o0]
    by_cases c2 : ¬ e0 < 0 ∧ ¬ (8 : Int32) ≤ e0
    · rw [if_pos c2]
      obtain ⟨ee, hj⟩ := sh_ok c2
      generalize e0.toNatClampNeg = j at ee hj
      subst ee
      rw [shelf_i hj, if_neg o0]
      by_cases w : f_X6_isIn what.toInt64 0 1 = 0
      · rw [if_pos w, if_pos w]; exact ⟨rfl, hhs⟩
      · rw [if_neg w, if_neg w, two_eq hS hd hj _ (fun x => (x, ha, hs))]
        by_cases r : f_X5_twoRowsRefusal (ho i) (ho j) = 0
        · rw [if_pos r, if_pos r]
          obtain ⟨a1, a2, a3, a4, a5, a6, a7⟩ := hS i hd
          obtain ⟨b1, b2, b3, b4, b5, b6, b7⟩ := hS j hj
          rw [b3, a4, b4]
          by_cases s0 : rso j = 0
          · rw [if_pos s0, if_pos s0, bnd_eq]
            have ht := takes_i (ha := ha) hS hB hhs hd
            generalize f_X6_takesRow (nI i) hs ss ke so si el ha = t at ht
            obtain ⟨t1, t2, t3⟩ := ht
            have hr : f_X5_rowRefusal (ho i) = 0 := by
              unfold f_X5_twoRowsRefusal at r
              unfold f_X5_rowRefusal f_X5_refusalUnless
              by_cases g0 : ho i = 0
              · rw [if_pos g0] at r; exact absurd r (by decide)
              · rw [if_neg g0] at r
                rw [if_neg g0]
                by_cases g1 : ho j = 0
                · rw [if_pos g1] at r; exact absurd r (by decide)
                · rw [if_neg g1] at r
                  by_cases g2 : ho i = 2
                  · rw [if_pos g2]
                  · rw [if_neg g2] at r; exact absurd r (by decide)
            unfold f_X5_cardsRefusal at t1
            rw [if_pos hr] at t1
            by_cases ac : f_X0_areCards (ss 2) (rsz i) (rel i) = 0
            · rw [if_pos ac] at t1
              rw [if_pos ac, t1, if_neg (by decide)]
              exact ⟨rfl, t2⟩
            · rw [if_neg ac] at t1
              rw [if_neg ac, if_pos t1]
              obtain ⟨u1, u2, u3⟩ := t3 t1
              by_cases z : rsz i = rsz j
              · rw [if_pos z, if_pos z.symm]
                obtain ⟨r1, r2⟩ := words_loop (what := what) (x := t) hS hd hj u2 z.symm u1 u3 ((rsz i).toNatClampNeg + 1) 0 0 0 0 (Nat.zero_le _) (by omega) (by split <;> rfl)
                rw [u1]
                rw [u1] at r2 t2
                exact ⟨r1, by rw [r2]; exact t2⟩
              · rw [if_neg z, if_neg (fun q => z q.symm)]
                exact ⟨rfl, t2⟩
          · rw [if_neg s0, if_neg s0]; exact ⟨rfl, hhs⟩
        · rw [if_neg r, if_neg r]; exact ⟨rfl, hhs⟩
    · rw [if_neg c2, shelf_no c2, if_pos rfl]
      refine ⟨?_, hhs⟩
      split <;> rfl
  · rw [if_neg c, shelf_no c, if_pos rfl]
    refine ⟨?_, hhs⟩
    split <;> split <;> rfl
end
