/-! SAME ANSWERS: ahead, differ -/
theorem can0 (n : Int32) : f_X0_canBe 0 n = f_X6_isIn n.toInt64 0 20 := by
  unfold f_X0_canBe
  rw [if_pos rfl]
  exact (ge_le (x := n) (A := 0) (B := 20) (a := 0) (b := 20) rfl rfl).symm
theorem can1 (n : Int32) : f_X0_canBe 1 n = f_X6_isIn n.toInt64 1 20 := by
  unfold f_X0_canBe
  rw [if_neg (by decide), if_pos rfl]
  exact (ge_le (x := n) (A := 1) (B := 20) (a := 1) (b := 20) rfl rfl).symm
theorem near_b {card : Int32} {ss : Nat → Int32} : ∀ (n k b : Nat), k ≤ 10 → b < 10 → ∃ b', b' < 10 ∧ f_X6_stepsFor_L4 card ss n k (nI b) = nI b' := by
  intro n
  induction n with
  | zero => intro k b _ _; exact ⟨0, by omega, rfl⟩
  | succ n ih =>
    intro k b hk hb
    rw [f_X6_stepsFor_L4_s]
    by_cases c : (10 : Int32) ≤ nI k
    · rw [if_pos c]; exact ⟨b, hb, rfl⟩
    · rw [if_neg c]
      rw [show (10 : Int32) = nI 10 from rfl, nI_leI (by decide) (by omega)] at c
      split
      · exact ih _ _ (by omega) hb
      · exact ih _ _ (by omega) (by omega)
theorem near_ex {card : Int32} {ss : Nat → Int32} : ∃ b', b' < 10 ∧ f_X6_stepsFor card ss = nI b' := near_b (10 + 1) 1 0 (by omega) (by omega)
theorem two_rr {a b : Int32} (r : f_X5_twoRowsRefusal a b = 0) : f_X5_rowRefusal a = 0 ∧ f_X5_rowRefusal b = 0 := by
  unfold f_X5_twoRowsRefusal at r
  unfold f_X5_rowRefusal f_X5_refusalUnless
  by_cases g0 : a = 0
  · rw [if_pos g0] at r; exact absurd r (by decide)
  · rw [if_neg g0] at r
    by_cases g1 : b = 0
    · rw [if_pos g1] at r; exact absurd r (by decide)
    · rw [if_neg g1] at r
      by_cases g2 : a = 2
      · rw [if_pos g2] at r
        by_cases g3 : b = 2
        · exact ⟨by rw [if_neg g0, if_pos g2], by rw [if_neg g1, if_pos g3]⟩
        · rw [if_neg g3] at r; exact absurd r (by decide)
      · rw [if_neg g2] at r; exact absurd r (by decide)
section
variable {ke so si el kd kt ho rso rsz snu ski sst ssl : Nat → Int32} {rel : Nat → Nat → Int32}
theorem ahead_loop {i : Nat} {up down : Int32} {ss : Nat → Int32} {t : Int32 × (Nat → Int32) × Int32} {x49 : Int32 × Int32 × Int32 × Int32 × Int32 × Int32 × Int32 × Int32 × Int32 × Int32 × (Nat → Int32) × (Nat → Int32) × (Nat → Int32) × (Nat → Int32) × (Nat → Int32)} (e49 : x49.2.2.1 = ss 2) (hd : i < 8) (hdn : ¬ down = 0) (h : CD ss (rsz i) (rel i)) (et : t.2.2 = rsz i) (he : ∀ j, j < (rsz i).toNatClampNeg → t.2.1 j = rel i j) :
    ∀ (n k : Nat) (v : Int32), k ≤ (rsz i).toNatClampNeg → (f_X5_ahead_L74 (nI i) up down (ss 0) (ss 1) (ss 2) rsz rel x49 n k v).1 = (f_X6_ahead_L38 up down ss t n k v).1 ∧ (f_X6_ahead_L38 up down ss t n k v).2.2.toInt ≤ 100 := by
  obtain ⟨hB, h1, h2, h3⟩ := h
  have hz := cl_nat (rsz i)
  intro n
  induction n with
  | zero => intro k v _; exact ⟨rfl, by show (0 : Int32).toInt ≤ 100; decide⟩
  | succ n ih =>
    intro k v hk
    rw [f_X5_ahead_L74_s, f_X6_ahead_L38_s, nI_clamp (by omega), et]
    by_cases c : rsz i ≤ nI k
    · rw [if_pos c, if_pos c]
      exact ⟨rfl, h2⟩
    · rw [if_neg c, if_neg c]
      rw [leB (by omega) (by omega)] at c
      rw [at_i (by omega), near_eq (hi_rng hB) (dn_ne hB) (h3 k (by omega)), he k (by omega), e49, level_eq (hi_rng hB).1 hdn]
      exact ih _ _ (by omega)
theorem ahead_m {d up down hs pz z rr pp ls so0 sz mup mdn mhi mpz mz mrr mpp mls mso msz : Int32} {ss ha cf mcf nu ki st sl qnu qki qst qsl : Nat → Int32} (hS : RS ke so si el kd kt ho rso rsz rel snu ski sst ssl) (hB : RB ss) (hhs : hs.toInt ≤ 100) :
    (f_X5_ahead d up down (ss 0) (ss 1) (ss 2) pz z rr pp ls so0 sz cf mup mdn mhi mpz mz mrr mpp mls mso msz mcf nu ki st sl qnu qki qst qsl ho rsz rel).1 = (f_X6_ahead d up down hs ss ke so si el ha).1 ∧ (f_X6_ahead d up down hs ss ke so si el ha).2.2.toInt ≤ 100 := by
  unfold f_X5_ahead f_X6_ahead f_X6_isShare
  rw [can0, can1]
  by_cases c : ¬ d < 0 ∧ ¬ (8 : Int32) ≤ d
  · rw [if_pos c]
    obtain ⟨ed, hd⟩ := sh_ok c
    generalize d.toNatClampNeg = i at ed hd
    subst ed
    rw [shelf_i hd, if_neg o0]
    by_cases w : f_X6_isIn up.toInt64 0 20 = 0
    · rw [if_pos w, if_pos w, if_pos rfl]; exact ⟨rfl, hhs⟩
    · rw [if_neg w, if_neg w]
      by_cases w2 : f_X6_isIn down.toInt64 1 20 = 0
      · rw [if_pos w2, if_pos w2, if_pos rfl]; exact ⟨rfl, hhs⟩
      · rw [if_neg w2, if_neg w2, if_neg o0, bnd_eq, bnd_eq]
        have hr := isIn_ok w2
        rw [i64, L1] at hr
        have hdn : ¬ down = 0 := fun q => by rw [q, x0] at hr; omega
        have ht := takes_i (ha := ha) hS hB hhs hd
        generalize f_X6_takesRow (nI i) hs ss ke so si el ha = t at ht
        obtain ⟨t1, t2, t3⟩ := ht
        rw [← t1]
        by_cases q : t.1 = 0
        · rw [if_pos q, if_pos q]
          obtain ⟨u1, u2, u3⟩ := t3 q
          rw [u1]
          exact ahead_loop (by rw [tf_eq]) hd hdn u2 u1 u3 _ _ _ (Nat.zero_le _)
        · rw [if_neg q, if_neg q]; exact ⟨rfl, t2⟩
  · rw [if_neg c, shelf_no c, if_pos rfl]
    refine ⟨?_, hhs⟩
    split
    · rfl
    · split <;> rfl
theorem cs_loop {ss f ha : Nat → Int32} {sz : Int32} {k : Nat} (h : CD ss sz f) (he : ∀ j, j < sz.toNatClampNeg → ha j = f j) (hk : k < 10) : ∀ (n j : Nat) (u : Nat → Int32), j ≤ sz.toNatClampNeg → (f_X0_countSteps_L7 (ss 0) (ss 1) (ss 2) sz f n j u) k = f_X6_sharesOf_L4 (nI k) sz ss ha n j (u k) := by
  obtain ⟨hB, h1, h2, h3⟩ := h
  have hz := cl_nat sz
  intro n
  induction n with
  | zero => intro j u _; rfl
  | succ n ih =>
    intro j u hj
    rw [f_X0_countSteps_L7_s, f_X6_sharesOf_L4_s]
    by_cases c : sz ≤ nI j
    · rw [if_pos c, if_pos c]
    · rw [if_neg c, if_neg c]
      rw [leB (by omega) (by omega)] at c
      rw [at_i (by omega), near_eq (hi_rng hB) (dn_ne hB) (h3 j (by omega)), he j (by omega)]
      obtain ⟨b, hb, eb⟩ := near_ex (card := f j) (ss := ss)
      rw [eb, nI_clamp (by omega), if_neg (show ¬ (10 : Int32) ≤ nI b by rw [show (10 : Int32) = nI 10 from rfl, nI_leI (by decide) (by omega)]; omega)]
      rw [ih _ _ (by omega)]
      by_cases hbk : k = b
      · subst hbk
        rw [if_pos rfl, upd_at]
      · rw [if_neg (fun q => hbk (nI_inj' (by omega) (by omega) q).symm), upd_ne _ _ hbk, Int32.add_zero]
theorem cs_ok {ss f ha a : Nat → Int32} {sz : Int32} {k : Nat} (h : CD ss sz f) (he : ∀ j, j < sz.toNatClampNeg → ha j = f j) (hk : k < 10) : (f_X0_countSteps (ss 0) (ss 1) (ss 2) sz f a) k = f_X6_sharesOf (nI k) sz ss ha := by
  unfold f_X0_countSteps f_X6_sharesOf
  rw [bnd_eq, cs_loop h he hk _ _ _ (Nat.zero_le _)]
  have e : f_J7_fill_53178 0 10 a k = 0 := fill_loop (v := 0) (N := 10) (by decide) (10 + 1) 0 a (Nat.zero_le _) (by omega) (fun i hi => absurd hi (Nat.not_lt_zero _)) k hk
  rw [e]
theorem d119 {i j : Nat} {ss x73 x89 u : Nat → Int32} {s : Int32 × (Nat → Int32) × Int32} (hS : RS ke so si el kd kt ho rso rsz rel snu ski sst ssl) (hi : i < 8) (hj : j < 8) (hs : s.2.2.toInt ≤ 100) (e73 : ∀ k, k < 10 → x73 k = u k) (e89 : ∀ k, k < 10 → x89 k = f_X6_sharesOf (nI k) s.2.2 ss s.2.1) :
    ∀ (n k : Nat) (v : Int32), k ≤ 10 → (f_X5_differ_L98 (nI i) (nI j) rsz x73 x89 n k v).1 = (f_X6_differ_L119 (nI i) (nI j) ss si u s n k v).1 ∧ (f_X6_differ_L119 (nI i) (nI j) ss si u s n k v).2.2.1.toInt ≤ 100 := by
  obtain ⟨a1, a2, a3, a4, a5, a6, a7⟩ := hS i hi
  obtain ⟨b1, b2, b3, b4, b5, b6, b7⟩ := hS j hj
  intro n
  induction n with
  | zero => intro k v _; exact ⟨rfl, by show (0 : Int32).toInt ≤ 100; decide⟩
  | succ n ih =>
    intro k v hk
    rw [f_X5_differ_L98_s, f_X6_differ_L119_s, nI_clamp (by omega), nI_clamp (by omega), a4, b4]
    by_cases c : (10 : Int32) ≤ nI k
    · rw [if_pos c, if_pos (by rw [show (10 : Int32) = nI 10 from rfl, nI_leI (by decide) (by omega)] at c; rw [show (9 : Int32) = nI 9 from rfl, nI_ltI (by decide) (by omega)]; omega)]
      exact ⟨rfl, hs⟩
    · rw [if_neg c]
      rw [show (10 : Int32) = nI 10 from rfl, nI_leI (by decide) (by omega)] at c
      rw [if_neg (by rw [show (9 : Int32) = nI 9 from rfl, nI_ltI (by decide) (by omega)]; omega), abs_amt2, e73 k (by omega), e89 k (by omega)]
      exact ih _ _ (by omega)
theorem d75 {d e0 : Int32} {ss : Nat → Int32} {t : Int32 × (Nat → Int32) × Int32} : ∀ (n k : Nat) (u : Nat → Int32), k ≤ 10 → 10 - k < n → (∀ j, j < k → u j = f_X6_sharesOf (nI j) t.2.2 ss t.2.1) →
    ∃ u', (∀ j, j < 10 → u' j = f_X6_sharesOf (nI j) t.2.2 ss t.2.1) ∧ f_X6_differ_L75 d e0 ss ke so si el t n k u = (bnd (f_X6_takesRow e0 t.2.2 ss ke so si el t.2.1) (fun x103 : Int32 × (Nat → Int32) × Int32 => if x103.1 = (0 : Int32) then (f_X6_differ_L119 d e0 ss si u' x103 (10 + 1) 0 0) else (x103.1, x103.2.1, x103.2.2, u'))) := by
  intro n
  induction n with
  | zero => intro k u _ h; exact absurd h (Nat.not_lt_zero _)
  | succ n ih =>
    intro k u hk hm hu
    rw [f_X6_differ_L75_s]
    by_cases c : (10 : Int32) ≤ nI k
    · rw [if_pos c]
      rw [show (10 : Int32) = nI 10 from rfl, nI_leI (by decide) (by omega)] at c
      exact ⟨u, fun j hj => hu j (by omega), rfl⟩
    · rw [if_neg c]
      rw [show (10 : Int32) = nI 10 from rfl, nI_leI (by decide) (by omega)] at c
      refine ih (k + 1) _ (by omega) (by omega) (fun j hj => ?_)
      by_cases hjk : j = k
      · subst hjk; exact upd_at _ _ _
      · rw [upd_ne _ _ hjk]; exact hu j (by omega)
theorem differ_m {d e0 hs : Int32} {ss ha co xc xo : Nat → Int32} (hS : RS ke so si el kd kt ho rso rsz rel snu ski sst ssl) (hB : RB ss) (hhs : hs.toInt ≤ 100) :
    (f_X5_differ d e0 (ss 0) (ss 1) (ss 2) xc xo ho rsz rel).1 = (f_X6_differ d e0 hs ss ke so si el ha co).1 ∧ (f_X6_differ d e0 hs ss ke so si el ha co).2.2.1.toInt ≤ 100 := by
  unfold f_X5_differ f_X6_differ
  by_cases c : ¬ d < 0 ∧ ¬ (8 : Int32) ≤ d
  · rw [if_pos c]
    obtain ⟨ed, hd⟩ := sh_ok c
    generalize d.toNatClampNeg = i at ed hd
    subst ed
    rw [shelf_i hd, if_neg o0]
    by_cases c2 : ¬ e0 < 0 ∧ ¬ (8 : Int32) ≤ e0
    · rw [if_pos c2]
      obtain ⟨ee, hj⟩ := sh_ok c2
      generalize e0.toNatClampNeg = j at ee hj
      subst ee
      rw [shelf_i hj, if_neg o0, two_eq hS hd hj _ (fun x => (x, ha, hs, co))]
      by_cases r : f_X5_twoRowsRefusal (ho i) (ho j) = 0
      · rw [if_pos r, if_pos r]
        obtain ⟨hri, hrj⟩ := two_rr r
        have ht := takes_i (ha := ha) hS hB hhs hd
        generalize f_X6_takesRow (nI i) hs ss ke so si el ha = t at ht
        obtain ⟨t1, t2, t3⟩ := ht
        unfold f_X5_cardsRefusal at t1
        rw [if_pos hri] at t1
        by_cases ac : f_X0_areCards (ss 2) (rsz i) (rel i) = 0
        · rw [if_pos ac] at t1
          rw [if_pos ac, bnd_eq, if_neg (by rw [t1]; decide)]
          exact ⟨t1.symm, t2⟩
        · rw [if_neg ac] at t1
          obtain ⟨u1, u2, u3⟩ := t3 t1
          obtain ⟨u', hu', e'⟩ := d75 (d := nI i) (e0 := nI j) (ss := ss) (t := t) (ke := ke) (so := so) (si := si) (el := el) (10 + 1) 0 co (by omega) (by omega) (fun j hj => absurd hj (Nat.not_lt_zero _))
          have hs2 := takes_i (hs := t.2.2) (ha := t.2.1) hS hB t2 hj
          rw [if_neg ac]
          by_cases ac2 : f_X0_areCards (ss 2) (rsz j) (rel j) = 0
          · rw [if_pos ac2, bnd_eq, if_pos t1, e', bnd_eq]
            generalize f_X6_takesRow (nI j) t.2.2 ss ke so si el t.2.1 = s at hs2
            obtain ⟨s1, s2, s3⟩ := hs2
            unfold f_X5_cardsRefusal at s1
            rw [if_pos hrj, if_pos ac2] at s1
            rw [if_neg (by rw [s1]; decide)]
            exact ⟨s1.symm, s2⟩
          · rw [if_neg ac2, bnd_eq, bnd_eq, bnd_eq, if_pos t1, e', bnd_eq]
            generalize f_X6_takesRow (nI j) t.2.2 ss ke so si el t.2.1 = s at hs2
            obtain ⟨s1, s2, s3⟩ := hs2
            unfold f_X5_cardsRefusal at s1
            rw [if_pos hrj, if_neg ac2] at s1
            rw [if_pos s1]
            obtain ⟨v1, v2, v3⟩ := s3 s1
            rw [u1] at hu'
            exact d119 hS hd hj s2 (fun k hk => by rw [hu' k hk]; exact cs_ok u2 u3 hk) (fun k hk => by rw [v1]; exact cs_ok v2 v3 hk) _ _ _ (Nat.zero_le _)
      · rw [if_neg r, if_neg r]; exact ⟨rfl, hhs⟩
    · rw [if_neg c2, shelf_no c2, if_pos rfl]
      exact ⟨rfl, hhs⟩
  · rw [if_neg c, shelf_no c, if_pos rfl]
    refine ⟨?_, hhs⟩
    split <;> rfl
end
