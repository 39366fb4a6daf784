/-! SAME ANSWERS: who wins -/
theorem mul_rng {a b : Int32} {A B : Int} (ha : 0 ≤ a.toInt ∧ a.toInt ≤ A) (hb : 0 ≤ b.toInt ∧ b.toInt ≤ B) (hAB : A * B ≤ 2000000000) : (a * b).toInt = a.toInt * b.toInt ∧ 0 ≤ a.toInt * b.toInt ∧ a.toInt * b.toInt ≤ A * B := by
  have h1 : 0 ≤ a.toInt * b.toInt := Int.mul_nonneg ha.1 hb.1
  have h2 : a.toInt * b.toInt ≤ A * B := Int.mul_le_mul ha.2 hb.2 hb.1 (by omega)
  exact ⟨mulI (by omega), h1, h2⟩
theorem sumN_rng {f : Nat → Int32} : ∀ n : Nat, n ≤ 100 → (∀ i, i < n → 0 ≤ (f i).toInt ∧ (f i).toInt ≤ 1000) → 0 ≤ (sumN f n).toInt ∧ (sumN f n).toInt ≤ 1000 * n := by
  intro n
  induction n with
  | zero => intro _ _; exact ⟨Int.le_refl 0, show (0 : Int32).toInt ≤ 1000 * ((0 : Nat) : Int) by decide⟩
  | succ n ih =>
    intro hn h
    obtain ⟨a, b⟩ := ih (by omega) (fun i hi => h i (by omega))
    have c := h n (by omega)
    unfold sumN
    rw [addI (by omega)]
    omega
/-- n cards f of a game ss -/
def CD (ss : Nat → Int32) (sz : Int32) (f : Nat → Int32) : Prop := RB ss ∧ 1 ≤ sz.toInt ∧ sz.toInt ≤ 100 ∧ ∀ j, j < sz.toNatClampNeg → 0 ≤ (f j).toInt ∧ (f j).toInt ≤ (ss 2).toInt
/-- how far from the target: the class's 'more' -/
def mor (ss : Nat → Int32) (sz : Int32) (f : Nat → Int32) (c : Int32) : Int32 := c * (ss 1 * sz) - ss 0 * sumN f sz.toNatClampNeg
theorem mor_I {ss f : Nat → Int32} {sz c : Int32} (h : CD ss sz f) (hc : 0 ≤ c.toInt ∧ c.toInt ≤ 1000) : ∃ Ln Ab : Int, 1 ≤ Ln ∧ Ln ≤ 2000 ∧ 0 ≤ Ab ∧ Ab ≤ 2000000 ∧ (∀ c : Int32, (0 ≤ c.toInt ∧ c.toInt ≤ 1000) → (mor ss sz f c).toInt = c.toInt * Ln - Ab ∧ -2000000 ≤ (mor ss sz f c).toInt ∧ (mor ss sz f c).toInt ≤ 2000000) := by
  obtain ⟨hB, h1, h2, h3⟩ := h
  obtain ⟨b0, b1, b2, _⟩ := hB
  have hz := cl_nat sz
  have hs := sumN_rng (f := f) sz.toNatClampNeg (by omega) (fun i hi => by have := h3 i hi; omega)
  obtain ⟨e1, g1, g2⟩ := mul_rng (a := ss 1) (b := sz) (A := 20) (B := 100) ⟨by omega, b1.2⟩ ⟨by omega, h2⟩ (by omega)
  have g3 : 1 * 1 ≤ (ss 1).toInt * sz.toInt := Int.mul_le_mul b1.1 h1 (by decide) (by omega)
  obtain ⟨e2, k1, k2⟩ := mul_rng (a := ss 0) (b := sumN f sz.toNatClampNeg) (A := 20) (B := 100000) b0 ⟨hs.1, by omega⟩ (by omega)
  refine ⟨(ss 1).toInt * sz.toInt, (ss 0).toInt * (sumN f sz.toNatClampNeg).toInt, by omega, by omega, k1, by omega, fun c hc => ?_⟩
  obtain ⟨e3, l1, l2⟩ := mul_rng (a := c) (b := ss 1 * sz) (A := 1000) (B := 2000) hc ⟨by omega, by omega⟩ (by omega)
  have e4 : (mor ss sz f c).toInt = c.toInt * ((ss 1).toInt * sz.toInt) - (ss 0).toInt * (sumN f sz.toNatClampNeg).toInt := by
    unfold mor
    rw [subI (by rw [e3, e2]; omega), e3, e2, e1]
  rw [e1] at l1 l2
  refine ⟨e4, ?_, ?_⟩ <;> rw [e4] <;> omega
theorem far6 {ss ha f : Nat → Int32} {sz c : Int32} (h0 : 0 ≤ sz.toInt) (he : ∀ j, j < sz.toNatClampNeg → ha j = f j) : f_X6_farOf c (f_X6_sumOf sz ha) sz ss = mor ss sz f c := by
  unfold f_X6_farOf mor
  rw [sum6 h0, sumN_congr _ he, Int32.mul_assoc]
theorem far5 {ss f : Nat → Int32} {sz c : Int32} (h0 : 0 ≤ sz.toInt) : f_X0_farFrom (f_X0_targetAbove (ss 0) sz f) (f_X0_targetLine (ss 1) sz) c (ss 3) = if mor ss sz f c ≤ 0 then -(mor ss sz f c) else (if ss 3 = 1 then 2147483647 else mor ss sz f c) := by
  unfold f_X0_farFrom f_X0_targetAbove f_X0_targetLine mor
  rw [sum3 h0]
/-- the class's measure -/
def gF (ss : Nat → Int32) (sz : Int32) (f : Nat → Int32) (c : Int32) : Int32 := if mor ss sz f c ≤ 0 then -(mor ss sz f c) else (if ss 3 = 1 then 2147483647 else mor ss sz f c)
theorem first_loop {ss f : Nat → Int32} {sz : Int32} (h0 : 0 ≤ sz.toInt ∧ sz.toInt ≤ 100) : ∀ (n k : Nat) (v4 v5 : Int32), k ≤ sz.toNatClampNeg → sz.toNatClampNeg - k < n →
    ((v4 = -4 ∧ v5 = 2147483647 ∧ ∀ j, j < k → ¬ gF ss sz f (f j) < 2147483647) ∨ (∃ i, i < k ∧ v4 = nI i ∧ v5 = gF ss sz f (f i) ∧ v5 < 2147483647 ∧ (∀ j, j < k → v5 ≤ gF ss sz f (f j)) ∧ (∀ j, j < i → v5 < gF ss sz f (f j)))) →
    ((f_X0_firstWinner_L23 (ss 0) (ss 1) (ss 3) sz f n k v4 v5 = -4 ∧ ∀ j, j < sz.toNatClampNeg → ¬ gF ss sz f (f j) < 2147483647) ∨ (∃ i, i < sz.toNatClampNeg ∧ f_X0_firstWinner_L23 (ss 0) (ss 1) (ss 3) sz f n k v4 v5 = nI i ∧ gF ss sz f (f i) < 2147483647 ∧ (∀ j, j < sz.toNatClampNeg → gF ss sz f (f i) ≤ gF ss sz f (f j)) ∧ (∀ j, j < i → gF ss sz f (f i) < gF ss sz f (f j)))) := by
  intro n
  induction n with
  | zero => intro k _ _ _ h; exact absurd h (Nat.not_lt_zero _)
  | succ n ih =>
    intro k v4 v5 hk hm hv
    have hz := cl_nat sz
    rw [f_X0_firstWinner_L23_s]
    by_cases c : sz ≤ nI k
    · rw [if_pos c]
      rw [leB h0.1 (by omega)] at c
      have ek : k = sz.toNatClampNeg := by omega
      subst ek
      rcases hv with ⟨a, _, b⟩ | ⟨i, a, b, d, e, g, l⟩
      · exact Or.inl ⟨a, b⟩
      · subst d
        exact Or.inr ⟨i, a, b, e, g, l⟩
    · rw [if_neg c]
      rw [leB h0.1 (by omega)] at c
      rw [at_i (by omega), far5 h0.1]
      show (((if v5 ≤ gF ss sz f (f k) then _ else f_X0_firstWinner_L23 (ss 0) (ss 1) (ss 3) sz f n (k + 1) (nI k) (gF ss sz f (f k))) = -4) ∧ _) ∨ (∃ i, i < sz.toNatClampNeg ∧ ((if v5 ≤ gF ss sz f (f k) then _ else f_X0_firstWinner_L23 (ss 0) (ss 1) (ss 3) sz f n (k + 1) (nI k) (gF ss sz f (f k))) = nI i) ∧ _)
      by_cases d : v5 ≤ gF ss sz f (f k)
      · rw [if_pos d]
        refine ih (k + 1) v4 v5 (by omega) (by omega) ?_
        rcases hv with ⟨a, a2, b⟩ | ⟨i, a, b, e0, e, g, l⟩
        · refine Or.inl ⟨a, a2, fun j hj => ?_⟩
          by_cases hjk : j = k
          · subst hjk; rw [a2] at d; exact Int32.not_lt.mpr d
          · exact b j (by omega)
        · refine Or.inr ⟨i, by omega, b, e0, e, fun j hj => ?_, l⟩
          by_cases hjk : j = k
          · subst hjk; exact d
          · exact g j (by omega)
      · rw [if_neg d]
        have d2 : gF ss sz f (f k) < v5 := Int32.not_le.mp d
        refine ih (k + 1) _ _ (by omega) (by omega) (Or.inr ⟨k, by omega, rfl, rfl, ?_, fun j hj => ?_, fun j hj => ?_⟩)
        · rcases hv with ⟨a, a2, b⟩ | ⟨i, a, b, e0, e, g, l⟩
          · rw [a2] at d2; exact d2
          · exact Int32.lt_trans d2 e
        · by_cases hjk : j = k
          · subst hjk; exact Int32.le_refl _
          · rcases hv with ⟨a, a2, b⟩ | ⟨i, a, b, e0, e, g, l⟩
            · have q := b j (by omega)
              rw [a2] at d2
              rw [xlt] at q d2; rw [xle]; omega
            · have q := g j (by omega)
              rw [xle] at q; rw [xlt] at d2; rw [xle]; omega
        · rcases hv with ⟨a, a2, b⟩ | ⟨i, a, b, e0, e, g, l⟩
          · have q := b j hj
            rw [a2] at d2
            rw [xlt] at q d2 ⊢; omega
          · have q := g j hj
            rw [xle] at q; rw [xlt] at d2 ⊢; omega
theorem first_ok {ss f : Nat → Int32} {sz : Int32} (h0 : 0 ≤ sz.toInt ∧ sz.toInt ≤ 100) :
    (f_X0_firstWinner (ss 0) (ss 1) (ss 3) sz f = -4 ∧ ∀ j, j < sz.toNatClampNeg → ¬ gF ss sz f (f j) < 2147483647) ∨ (∃ i, i < sz.toNatClampNeg ∧ f_X0_firstWinner (ss 0) (ss 1) (ss 3) sz f = nI i ∧ gF ss sz f (f i) < 2147483647 ∧ (∀ j, j < sz.toNatClampNeg → gF ss sz f (f i) ≤ gF ss sz f (f j)) ∧ (∀ j, j < i → gF ss sz f (f i) < gF ss sz f (f j))) :=
  first_loop h0 _ 0 _ _ (Nat.zero_le _) (by omega) (Or.inl ⟨rfl, rfl, fun j hj => absurd hj (Nat.not_lt_zero _)⟩)
theorem best_loop {ss ha f : Nat → Int32} {sz : Int32} (h : CD ss sz f) (he : ∀ j, j < sz.toNatClampNeg → ha j = f j) : ∀ (n k : Nat) (v : Int32), k ≤ sz.toNatClampNeg → sz.toNatClampNeg - k < n →
    (if ss 3 = 0 then (k = 0 ∧ v = -1) ∨ (∃ i, i < k ∧ v = f_X6_amount (mor ss sz f (f i)) ∧ ∀ j, j < k → v ≤ f_X6_amount (mor ss sz f (f j))) else (v = -1 ∧ ∀ j, j < k → 0 < mor ss sz f (f j)) ∨ (∃ i, i < k ∧ v = f i ∧ mor ss sz f (f i) ≤ 0 ∧ ∀ j, j < k → mor ss sz f (f j) ≤ 0 → f j ≤ v)) →
    (if ss 3 = 0 then (∃ i, i < sz.toNatClampNeg ∧ f_X6_bestOf_L4 (f_X6_sumOf sz ha) sz ss ha n k v = f_X6_amount (mor ss sz f (f i)) ∧ ∀ j, j < sz.toNatClampNeg → f_X6_bestOf_L4 (f_X6_sumOf sz ha) sz ss ha n k v ≤ f_X6_amount (mor ss sz f (f j))) else (f_X6_bestOf_L4 (f_X6_sumOf sz ha) sz ss ha n k v = -1 ∧ ∀ j, j < sz.toNatClampNeg → 0 < mor ss sz f (f j)) ∨ (∃ i, i < sz.toNatClampNeg ∧ f_X6_bestOf_L4 (f_X6_sumOf sz ha) sz ss ha n k v = f i ∧ mor ss sz f (f i) ≤ 0 ∧ ∀ j, j < sz.toNatClampNeg → mor ss sz f (f j) ≤ 0 → f j ≤ f i)) := by
  have h0 := h
  obtain ⟨hB, h1, h2, h3⟩ := h
  have b2 := hB.2.2.1
  have hz := cl_nat sz
  intro n
  induction n with
  | zero => intro k _ _ hh; exact absurd hh (Nat.not_lt_zero _)
  | succ n ih =>
    intro k v hk hm hv
    rw [f_X6_bestOf_L4_s]
    by_cases c : sz ≤ nI k
    · rw [leB (by omega) (by omega)] at c
      have ek : k = sz.toNatClampNeg := by omega
      rw [if_pos (show sz ≤ nI k by rw [leB (by omega) (by omega)]; exact c)]
      subst ek
      by_cases p : ss 3 = 0
      · rw [if_pos p] at hv ⊢
        rcases hv with ⟨a, _⟩ | ⟨i, a, b, d⟩
        · omega
        · exact ⟨i, a, b, d⟩
      · rw [if_neg p] at hv ⊢
        rcases hv with ⟨a, b⟩ | ⟨i, a, b, d, e⟩
        · exact Or.inl ⟨a, b⟩
        · exact Or.inr ⟨i, a, b, d, fun j hj hq => by rw [← b]; exact e j hj hq⟩
    · rw [if_neg c]
      rw [leB (by omega) (by omega)] at c
      have hfk : 0 ≤ (f k).toInt ∧ (f k).toInt ≤ (ss 2).toInt := h3 k (by omega)
      obtain ⟨Ln, Ab, q1, q2, q3, q4, q5⟩ := mor_I (c := 0) h0 (by decide)
      have am : ∀ j, j < sz.toNatClampNeg → 0 ≤ (f_X6_amount (mor ss sz f (f j))).toInt := fun j hj => by
        have hf := h3 j hj
        rw [amtI (by have := (q5 (f j) ⟨hf.1, by omega⟩).2.1; omega)]; omega
      rw [he k (by omega), far6 (by omega) he]
      by_cases p : ss 3 = 0
      · rw [if_pos p] at hv ⊢
        rw [if_pos p]
        have fin : ∀ w : Int32, (∃ i, i < k + 1 ∧ w = f_X6_amount (mor ss sz f (f i)) ∧ ∀ j, j < k + 1 → w ≤ f_X6_amount (mor ss sz f (f j))) → _ := fun w hw => by
          have := ih (k + 1) w (by omega) (by omega) (by rw [if_pos p]; exact Or.inr hw)
          rw [if_pos p] at this
          exact this
        by_cases v0 : v < 0
        · rw [if_pos v0]
          refine fin _ ⟨k, by omega, rfl, fun j hj => ?_⟩
          rcases hv with ⟨a, _⟩ | ⟨i, a, b, d⟩
          · rw [show j = k by omega]; exact Int32.le_refl _
          · have := am i (by omega); rw [xlt, b, x0] at v0; omega
        · rw [if_neg v0]
          have hv2 : ∃ i, i < k ∧ v = f_X6_amount (mor ss sz f (f i)) ∧ ∀ j, j < k → v ≤ f_X6_amount (mor ss sz f (f j)) := by
            rcases hv with ⟨_, b⟩ | hv
            · rw [b] at v0; exact absurd (by decide) v0
            · exact hv
          obtain ⟨i, a, b, d⟩ := hv2
          by_cases w : v ≤ f_X6_amount (mor ss sz f (f k))
          · rw [if_pos w]
            refine fin _ ⟨i, by omega, b, fun j hj => ?_⟩
            by_cases hjk : j = k
            · subst hjk; exact w
            · exact d j (by omega)
          · rw [if_neg w]
            refine fin _ ⟨k, by omega, rfl, fun j hj => ?_⟩
            by_cases hjk : j = k
            · subst hjk; exact Int32.le_refl _
            · have := d j (by omega)
              rw [xle] at this w ⊢; omega
      · rw [if_neg p] at hv ⊢
        rw [if_neg p]
        have fin : ∀ w : Int32, ((w = -1 ∧ ∀ j, j < k + 1 → 0 < mor ss sz f (f j)) ∨ (∃ i, i < k + 1 ∧ w = f i ∧ mor ss sz f (f i) ≤ 0 ∧ ∀ j, j < k + 1 → mor ss sz f (f j) ≤ 0 → f j ≤ w)) → _ := fun w hw => by
          have := ih (k + 1) w (by omega) (by omega) (by rw [if_neg p]; exact hw)
          rw [if_neg p] at this
          exact this
        by_cases g : 0 < mor ss sz f (f k)
        · rw [if_pos g]
          refine fin _ ?_
          rcases hv with ⟨a, b⟩ | ⟨i, a, b, d, e⟩
          · refine Or.inl ⟨a, fun j hj => ?_⟩
            by_cases hjk : j = k
            · subst hjk; exact g
            · exact b j (by omega)
          · refine Or.inr ⟨i, by omega, b, d, fun j hj hq => ?_⟩
            by_cases hjk : j = k
            · subst hjk; exact absurd g (Int32.not_lt.mpr hq)
            · exact e j (by omega) hq
        · rw [if_neg g]
          have g2 : mor ss sz f (f k) ≤ 0 := Int32.not_lt.mp g
          by_cases w : f k ≤ v
          · rw [if_pos w]
            refine fin _ ?_
            rcases hv with ⟨a, b⟩ | ⟨i, a, b, d, e⟩
            · exfalso
              rw [a, xle] at w
              have : (-1 : Int32).toInt = -1 := rfl
              omega
            · refine Or.inr ⟨i, by omega, b, d, fun j hj hq => ?_⟩
              by_cases hjk : j = k
              · subst hjk; exact w
              · exact e j (by omega) hq
          · rw [if_neg w]
            refine fin _ (Or.inr ⟨k, by omega, rfl, g2, fun j hj hq => ?_⟩)
            by_cases hjk : j = k
            · subst hjk; exact Int32.le_refl _
            · rcases hv with ⟨a, b⟩ | ⟨i, a, b, d, e⟩
              · exact absurd (b j (by omega)) (Int32.not_lt.mpr hq)
              · have := e j (by omega) hq
                rw [xle] at this w ⊢; omega
/-- the reference's winners are the class's -/
def Wn (ss ha : Nat → Int32) (sz c : Int32) : Int32 := f_X6_wins c (f_X6_sumOf sz ha) (f_X6_bestOf (f_X6_sumOf sz ha) sz ss ha) sz ss
theorem win_core {ss ha f : Nat → Int32} {sz : Int32} (h : CD ss sz f) (he : ∀ j, j < sz.toNatClampNeg → ha j = f j) :
    (f_X0_firstWinner (ss 0) (ss 1) (ss 3) sz f = -4 ∧ ∀ j, j < sz.toNatClampNeg → Wn ss ha sz (ha j) = 0) ∨
    (∃ i, i < sz.toNatClampNeg ∧ f_X0_firstWinner (ss 0) (ss 1) (ss 3) sz f = nI i ∧ (∀ j, j < sz.toNatClampNeg → (¬ Wn ss ha sz (ha j) = 0 ↔ gF ss sz f (f j) = gF ss sz f (f i))) ∧ (∀ j, j < i → ¬ gF ss sz f (f j) = gF ss sz f (f i))) := by
  have h0 := h
  obtain ⟨hB, h1, h2, h3⟩ := h
  have b2 := hB.2.2.1
  have b3 := hB.2.2.2.1
  have hz := cl_nat sz
  obtain ⟨Ln, Ab, q1, q2, q3, q4, q5⟩ := mor_I (c := 0) h0 (by decide)
  have qf : ∀ j, j < sz.toNatClampNeg → (mor ss sz f (f j)).toInt = (f j).toInt * Ln - Ab ∧ -2000000 ≤ (mor ss sz f (f j)).toInt ∧ (mor ss sz f (f j)).toInt ≤ 2000000 := fun j hj => q5 (f j) (by have := h3 j hj; omega)
  have hb := best_loop h0 he (sz.toNatClampNeg + 1) 0 (-1) (Nat.zero_le _) (by omega) (by
    by_cases p : ss 3 = 0
    · rw [if_pos p]; exact Or.inl ⟨rfl, rfl⟩
    · rw [if_neg p]; exact Or.inl ⟨rfl, fun j hj => absurd hj (Nat.not_lt_zero _)⟩)
  have eb : f_X6_bestOf_L4 (f_X6_sumOf sz ha) sz ss ha (sz.toNatClampNeg + 1) 0 (-1) = f_X6_bestOf (f_X6_sumOf sz ha) sz ss ha := rfl
  rw [eb] at hb
  have hM : (2147483647 : Int32).toInt = 2147483647 := rfl
  by_cases p : ss 3 = 0
  · rw [if_pos p] at hb
    have eg : ∀ j, j < sz.toNatClampNeg → (gF ss sz f (f j)).toInt = ((mor ss sz f (f j)).toInt.natAbs : Int) := fun j hj => by
      obtain ⟨_, r1, r2⟩ := qf j hj
      unfold gF
      by_cases c : mor ss sz f (f j) ≤ 0
      · rw [if_pos c, xneg (by omega)]; rw [xle, x0] at c; omega
      · rw [if_neg c, if_neg (by rw [p]; decide)]; rw [xle, x0] at c; omega
    have eW : ∀ j, j < sz.toNatClampNeg → (¬ Wn ss ha sz (ha j) = 0 ↔ (f_X6_amount (mor ss sz f (f j))).toInt = (f_X6_bestOf (f_X6_sumOf sz ha) sz ss ha).toInt) := fun j hj => by
      unfold Wn f_X6_wins
      rw [if_pos p, he j hj, far6 (by omega) he]
      by_cases c : f_X6_amount (mor ss sz f (f j)) = f_X6_bestOf (f_X6_sumOf sz ha) sz ss ha
      · rw [if_pos c]; exact ⟨fun _ => by rw [c], fun _ => o0⟩
      · rw [if_neg c]; exact ⟨fun q => absurd rfl q, fun q => absurd (xin q) c⟩
    obtain ⟨i0, hi0, e0, m0⟩ := hb
    rcases first_ok (ss := ss) (f := f) (sz := sz) ⟨by omega, h2⟩ with ⟨_, b⟩ | ⟨i, hi, a, b, d, e⟩
    · exfalso
      have q := b i0 hi0
      rw [xlt, eg i0 hi0, hM] at q
      have := qf i0 hi0
      omega
    · refine Or.inr ⟨i, hi, a, fun j hj => ?_, fun j hj q => ?_⟩
      · rw [eW j hj, amtI (by have := qf j hj; omega)]
        have t1 := m0 i hi
        have t2 := d i0 hi0
        rw [xle, amtI (by have := qf i hi; omega)] at t1
        rw [xle, eg i hi, eg i0 hi0] at t2
        have t3 := congrArg Int32.toInt e0
        rw [amtI (by have := qf i0 hi0; omega)] at t3
        constructor
        · intro q; exact xin (by rw [eg j hj, eg i hi]; omega)
        · intro q; have := congrArg Int32.toInt q; rw [eg j hj, eg i hi] at this; omega
      · have := e j hj
        rw [q, xlt] at this; omega
  · rw [if_neg p] at hb
    have p1 : ss 3 = 1 := b3.resolve_left p
    have eg : ∀ j, j < sz.toNatClampNeg → (gF ss sz f (f j)).toInt = if (mor ss sz f (f j)).toInt ≤ 0 then -(mor ss sz f (f j)).toInt else 2147483647 := fun j hj => by
      obtain ⟨_, r1, r2⟩ := qf j hj
      unfold gF
      by_cases c : mor ss sz f (f j) ≤ 0
      · rw [if_pos c, xneg (by omega), if_pos (by rw [xle, x0] at c; exact c)]
      · rw [if_neg c, if_pos p1, if_neg (by rw [xle, x0] at c; exact c), hM]
    have eW : ∀ j, j < sz.toNatClampNeg → (¬ Wn ss ha sz (ha j) = 0 ↔ (mor ss sz f (f j)).toInt ≤ 0 ∧ (f j).toInt = (f_X6_bestOf (f_X6_sumOf sz ha) sz ss ha).toInt) := fun j hj => by
      unfold Wn f_X6_wins
      rw [if_neg p, he j hj, far6 (by omega) he]
      by_cases c : 0 < mor ss sz f (f j)
      · rw [if_pos c]; rw [xlt, x0] at c; exact ⟨fun q => absurd rfl q, fun q => by omega⟩
      · rw [if_neg c]
        rw [xlt, x0] at c
        by_cases d : f j = f_X6_bestOf (f_X6_sumOf sz ha) sz ss ha
        · rw [if_pos d]; exact ⟨fun _ => ⟨by omega, by rw [← d]⟩, fun _ => o0⟩
        · rw [if_neg d]; exact ⟨fun q => absurd rfl q, fun q => absurd (xin q.2) d⟩
    rcases hb with ⟨_, hall⟩ | ⟨i0, hi0, e0, m0, w0⟩
    · rcases first_ok (ss := ss) (f := f) (sz := sz) ⟨by omega, h2⟩ with ⟨a, b⟩ | ⟨i, hi, a, b, d, e⟩
      · refine Or.inl ⟨a, fun j hj => ?_⟩
        by_cases q : Wn ss ha sz (ha j) = 0
        · exact q
        · have := (eW j hj).mp q
          have t := hall j hj
          rw [xlt, x0] at t; omega
      · exfalso
        rw [xlt, eg i hi, hM, if_neg (by have t := hall i hi; rw [xlt, x0] at t; omega)] at b
        omega
    · rw [xle, x0] at m0
      rcases first_ok (ss := ss) (f := f) (sz := sz) ⟨by omega, h2⟩ with ⟨a, b⟩ | ⟨i, hi, a, b, d, e⟩
      · exfalso
        have q := b i0 hi0
        rw [xlt, eg i0 hi0, hM, if_pos m0] at q
        have := qf i0 hi0
        omega
      · have mi : (mor ss sz f (f i)).toInt ≤ 0 := by
          by_cases c : (mor ss sz f (f i)).toInt ≤ 0
          · exact c
          · rw [xlt, eg i hi, if_neg c, hM] at b; omega
        -- the class's first has the best card
        have t1 := d i0 hi0
        rw [xle, eg i hi, eg i0 hi0, if_pos mi, if_pos m0, (qf i hi).1, (qf i0 hi0).1] at t1
        have t2 := w0 i hi (by rw [xle, x0]; exact mi)
        rw [xle] at t2
        have t3 : (f i0).toInt ≤ (f i).toInt := Int.le_of_mul_le_mul_right (by omega : (f i0).toInt * Ln ≤ (f i).toInt * Ln) (by omega)
        have t4 : (f i).toInt = (f i0).toInt := by omega
        refine Or.inr ⟨i, hi, a, fun j hj => ?_, fun j hj q => ?_⟩
        · rw [eW j hj, e0]
          constructor
          · rintro ⟨u1, u2⟩
            refine xin ?_
            rw [eg j hj, eg i hi, if_pos u1, if_pos mi, (qf j hj).1, (qf i hi).1, u2, t4]
          · intro q
            have q2 := congrArg Int32.toInt q
            rw [eg j hj, eg i hi, if_pos mi] at q2
            by_cases u1 : (mor ss sz f (f j)).toInt ≤ 0
            · rw [if_pos u1, (qf j hj).1, (qf i hi).1] at q2
              refine ⟨u1, ?_⟩
              have : (f j).toInt * Ln = (f i).toInt * Ln := by omega
              have := Int.eq_of_mul_eq_mul_right (by omega) this
              omega
            · rw [if_neg u1] at q2
              have := qf i hi
              omega
        · have := e j hj
          rw [q, xlt] at this; omega
