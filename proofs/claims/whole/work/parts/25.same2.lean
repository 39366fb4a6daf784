/-! SAME ANSWERS: rounds -/
theorem and_nn (a : Int32) : 0 ≤ (a &&& 2147483647).toInt := by
  show 0 ≤ (a.toBitVec &&& (2147483647 : Int32).toBitVec).toInt
  rw [BitVec.toInt_eq_toNat_cond]
  have h : (a.toBitVec &&& (2147483647 : Int32).toBitVec).toNat ≤ 2147483647 := by
    rw [BitVec.toNat_and]
    exact Nat.and_le_right
  rw [if_pos (by omega)]
  omega
theorem divI {a b : Int32} (ha : 0 ≤ a.toInt) (hb : 0 < b.toInt) : (a / b).toInt = a.toInt / b.toInt := by
  rw [Int32.toInt_div, Int.tdiv_eq_ediv_of_nonneg ha]
  have h1 : a.toInt / b.toInt ≤ a.toInt := Int.ediv_le_self _ ha
  have h2 : 0 ≤ a.toInt / b.toInt := Int.ediv_nonneg ha (by omega)
  have := Int32.toInt_lt a
  exact bm32 (by omega)
theorem rem32 (x y : Int32) : (x - x / y * y).toInt = x.toInt.tmod y.toInt := by
  rw [Int32.toInt_sub, Int32.toInt_mul, Int32.toInt_div, Int.sub_bmod_bmod]
  have e : (x.toInt - (x.toInt.tdiv y.toInt).bmod (2 ^ 32) * y.toInt).bmod (2 ^ 32) = (x.toInt - x.toInt.tdiv y.toInt * y.toInt).bmod (2 ^ 32) := by
    rw [← Int.sub_bmod_bmod, Int.bmod_mul_bmod, Int.sub_bmod_bmod]
  rw [e, Int.mul_comm, ← Int.tmod_def]
  have h1 := Int32.toInt_mod x y
  rw [← h1]
  exact bm32 ⟨Int32.le_toInt _, Int32.toInt_lt _⟩
theorem remI {x y : Int32} (hx : 0 ≤ x.toInt) (hy : 0 < y.toInt) : 0 ≤ (x - x / y * y).toInt ∧ (x - x / y * y).toInt < y.toInt := by
  rw [rem32, Int.tmod_eq_emod_of_nonneg hx]
  exact ⟨Int.emod_nonneg _ (by omega), Int.emod_lt_of_pos _ hy⟩
theorem held_rng {v : Int32} {ss : Nat → Int32} (hh : 0 ≤ (ss 2).toInt) : 0 ≤ (f_X6_held v ss).toInt ∧ (f_X6_held v ss).toInt ≤ (ss 2).toInt := by
  unfold f_X6_held
  by_cases a : 0 ≤ v
  · rw [if_pos a]
    rw [xle, x0] at a
    by_cases b : v ≤ ss 2
    · rw [if_pos b]; rw [xle] at b; exact ⟨a, b⟩
    · rw [if_neg b]; exact ⟨hh, Int.le_refl _⟩
  · rw [if_neg a, x0]; exact ⟨Int.le_refl _, hh⟩
theorem held_id {v : Int32} {ss : Nat → Int32} (h : 0 ≤ v.toInt ∧ v.toInt ≤ (ss 2).toInt) : f_X6_held v ss = v := by
  unfold f_X6_held
  rw [if_pos (by rw [xle, x0]; exact h.1), if_pos (by rw [xle]; exact h.2)]
theorem half_rng {ss : Nat → Int32} (hh : 0 ≤ (ss 2).toInt) : 0 ≤ (ss 2 / 2).toInt ∧ (ss 2 / 2).toInt ≤ (ss 2).toInt := by
  rw [divI hh (by decide), x2]; omega
theorem level_rng {k0 up down : Int32} {ss : Nat → Int32} (hh : 0 ≤ (ss 2).toInt) : ∀ (n k : Nat) (v : Int32), (0 ≤ v.toInt ∧ v.toInt ≤ (ss 2).toInt) → 0 ≤ (f_X6_levelBy_L13 k0 up down ss n k v).toInt ∧ (f_X6_levelBy_L13 k0 up down ss n k v).toInt ≤ (ss 2).toInt := by
  intro n
  induction n with
  | zero => intro k v _; exact ⟨Int.le_refl _, hh⟩
  | succ n ih =>
    intro k v hv
    rw [f_X6_levelBy_L13_s]
    split
    · exact hv
    · exact ih _ _ (held_rng hh)
theorem mixed_rng {k0 up down : Int32} {ss : Nat → Int32} (hh : 0 ≤ (ss 2).toInt) : ∀ (n k : Nat) (v u : Int32), (0 ≤ v.toInt ∧ v.toInt ≤ (ss 2).toInt) → 0 ≤ (f_X6_mixed_L16 k0 up down ss n k v u).toInt ∧ (f_X6_mixed_L16 k0 up down ss n k v u).toInt ≤ (ss 2).toInt := by
  intro n
  induction n with
  | zero => intro k v u _; exact ⟨Int.le_refl _, hh⟩
  | succ n ih =>
    intro k v u hv
    rw [f_X6_mixed_L16_s]
    split
    · exact hv
    · exact ih _ _ _ (held_rng hh)
theorem learnt_rng {k0 up down : Int32} {ss : Nat → Int32} (hh : 0 ≤ (ss 2).toInt) : ∀ (n k : Nat) (v : Int32), ((0 ≤ v.toInt ∧ v.toInt ≤ (ss 2).toInt) ∨ k = 0) → 0 ≤ (f_X6_learnt_L34 k0 up down ss n k v).toInt ∧ (f_X6_learnt_L34 k0 up down ss n k v).toInt ≤ (ss 2).toInt := by
  intro n
  induction n with
  | zero => intro k v _; exact ⟨Int.le_refl _, hh⟩
  | succ n ih =>
    intro k v hv
    rw [f_X6_learnt_L34_s]
    split
    · exact ih _ _ (Or.inl (held_rng hh))
    · split
      · exact ih _ _ (Or.inl (held_rng hh))
      · next h =>
        rcases hv with hv | hv
        · exact hv
        · exact absurd (by rw [hv]; rfl) h
theorem holdsBy_rng {p up down : Int32} {ss : Nat → Int32} (hh : 0 ≤ (ss 2).toInt) : 0 ≤ (f_X6_holdsBy p up down ss).toInt ∧ (f_X6_holdsBy p up down ss).toInt ≤ (ss 2).toInt := by
  unfold f_X6_holdsBy
  split
  · exact level_rng hh _ _ _ (half_rng hh)
  · split
    · exact mixed_rng hh _ _ _ _ (half_rng hh)
    · split
      · split
        · exact ⟨hh, Int.le_refl _⟩
        · exact ⟨Int.le_refl _, hh⟩
      · split
        · exact ⟨hh, Int.le_refl _⟩
        · split
          · unfold f_X6_learnt
            split
            · exact level_rng hh _ _ _ (half_rng hh)
            · exact learnt_rng hh _ _ _ (Or.inr rfl)
          · exact half_rng hh
theorem upd_self (f : Nat → Int32) (i : Nat) : upd f i (f i) = f := by
  funext j
  unfold upd
  split
  · next h => rw [h]
  · rfl
theorem upd_at (f : Nat → Int32) (i : Nat) (v : Int32) : upd f i v i = v := if_pos rfl
theorem upd_ne (f : Nat → Int32) {i j : Nat} (v : Int32) (h : j ≠ i) : upd f i v j = f j := if_neg h
theorem draw_eq {n : Int32} {ss : Nat → Int32} (hn : 1 ≤ n.toInt) : f_X6_draw n ss = ((f_X0_drawBelow n (ss 4)).1, upd ss 4 (f_X0_drawBelow n (ss 4)).2) := by
  unfold f_X6_draw f_X0_drawBelow
  rw [if_pos (by rw [xle, x1]; exact hn), upd_at]
theorem draw_rng {n z : Int32} (hn : 1 ≤ n.toInt) : 0 ≤ (f_X0_drawBelow n z).1.toInt ∧ (f_X0_drawBelow n z).1.toInt < n.toInt := by
  unfold f_X0_drawBelow
  rw [if_pos (by rw [xle, x1]; exact hn)]
  refine remI ?_ (by omega)
  rw [divI (and_nn _) (by decide)]
  exact Int.ediv_nonneg (and_nn _) (by decide)
theorem drawn_eq {i : Nat} {ss : Nat → Int32} (hi : i < 12) : f_X6_isDrawn (nI i) ss = f_X1_holdsByDraw (ss (7 + 4 * i)) := by
  unfold f_X6_isDrawn f_X1_holdsByDraw
  rw [get0 hi]
theorem lastSum_upd {ss : Nat → Int32} {z : Int32} (h0 : 0 ≤ (ss 5).toInt ∧ (ss 5).toInt ≤ 12) : f_X6_lastSum (upd ss 4 z) = f_X6_lastSum ss := by
  rw [lastSum6 h0, lastSum6 (ss := upd ss 4 z) h0]
  exact sumN_congr _ (fun i _ => upd_ne _ _ (by omega))
theorem cardOf_eq {i : Nat} {ls : Int32} {ss : Nat → Int32} (hi : i < 12) (hh : 0 ≤ (ss 2).toInt ∧ (ss 2).toInt ≤ 1000) (hd : ¬ ss 1 = 0) (hk0 : 0 ≤ (ss (8 + 4 * i)).toInt ∧ (ss (8 + 4 * i)).toInt ≤ 1000) (hs : 0 ≤ (ss (9 + 4 * i)).toInt ∧ (ss (9 + 4 * i)).toInt ≤ 20) (h5 : ¬ ss 6 = 0 → ¬ ss 5 = 0) (hls : ¬ ss 6 = 0 → ls = f_X6_lastSum ss) :
    f_X6_cardOf (nI i) ss = ((f_X0_cardOf (ss 0) (ss 1) (ss 2) (ss 4) (ss 6) (ss 5) ls (ss (7 + 4 * i)) (ss (8 + 4 * i)) (ss (9 + 4 * i))).1, upd ss 4 (f_X0_cardOf (ss 0) (ss 1) (ss 2) (ss 4) (ss 6) (ss 5) ls (ss (7 + 4 * i)) (ss (8 + 4 * i)) (ss (9 + 4 * i))).2) ∧ 0 ≤ (f_X6_cardOf (nI i) ss).1.toInt ∧ (f_X6_cardOf (nI i) ss).1.toInt ≤ (ss 2).toInt := by
  have hh1 : ((ss 2) + 1).toInt = (ss 2).toInt + 1 := by rw [addI (by rw [x1]; omega), x1]
  have h2s : ((2 * ss (9 + 4 * i)) + 1).toInt = 2 * (ss (9 + 4 * i)).toInt + 1 := by
    have e : (2 * ss (9 + 4 * i)).toInt = 2 * (ss (9 + 4 * i)).toInt := by rw [mulI (by rw [x2]; omega), x2]
    rw [addI (by rw [e, x1]; omega), e, x1]
  unfold f_X6_cardOf f_X0_cardOf
  rw [drawn_eq hi]
  by_cases c1 : ss (7 + 4 * i) = 1
  · rw [if_neg (by unfold f_X1_holdsByDraw; rw [if_pos c1]; decide), draw_eq (by omega), bnd_eq]
    dsimp only
    rw [get0 hi, get2 hi, upd_ne _ _ (by omega), upd_ne _ _ (by omega), if_pos c1]
    have e0 : f_X0_heldBy (ss 0) (ss 1) (ss 2) (ss 4) (ss 6) (ss 5) ls (ss (7 + 4 * i)) (ss (8 + 4 * i)) = ((f_X0_drawBelow (ss 2 + 1) (ss 4)).1, (f_X0_drawBelow (ss 2 + 1) (ss 4)).2) := by unfold f_X0_heldBy; rw [if_pos c1]; rfl
    have hr := draw_rng (n := ss 2 + 1) (z := ss 4) (by omega)
    rw [e0]
    rw [bnd_eq ((f_X0_drawBelow (ss 2 + 1) (ss 4)).1, (f_X0_drawBelow (ss 2 + 1) (ss 4)).2)]
    dsimp only
    have hid : f_X6_held (f_X0_drawBelow (ss 2 + 1) (ss 4)).1 (upd ss 4 (f_X0_drawBelow (ss 2 + 1) (ss 4)).2) = (f_X0_drawBelow (ss 2 + 1) (ss 4)).1 := held_id ⟨hr.1, by rw [upd_ne _ _ (by omega)]; omega⟩
    by_cases c : ss (9 + 4 * i) = 0
    · rw [if_pos c, if_pos c, hid]
      exact ⟨rfl, hr.1, by show (f_X0_drawBelow (ss 2 + 1) (ss 4)).1.toInt ≤ _; omega⟩
    · rw [if_neg c, if_neg c, draw_eq (by omega), bnd_eq, bnd_eq]
      dsimp only
      rw [upd_at, upd_upd]
      have e1 := held_eq (v := (f_X0_drawBelow (ss 2 + 1) (ss 4)).1 + (f_X0_drawBelow (2 * ss (9 + 4 * i) + 1) (f_X0_drawBelow (ss 2 + 1) (ss 4)).2).1 - ss (9 + 4 * i)) (ss := upd ss 4 (f_X0_drawBelow (2 * ss (9 + 4 * i) + 1) (f_X0_drawBelow (ss 2 + 1) (ss 4)).2).2) hh.1
      rw [upd_ne _ _ (by omega)] at e1
      have e2 := held_rng (v := (f_X0_drawBelow (ss 2 + 1) (ss 4)).1 + (f_X0_drawBelow (2 * ss (9 + 4 * i) + 1) (f_X0_drawBelow (ss 2 + 1) (ss 4)).2).1 - ss (9 + 4 * i)) (ss := upd ss 4 (f_X0_drawBelow (2 * ss (9 + 4 * i) + 1) (f_X0_drawBelow (ss 2 + 1) (ss 4)).2).2) hh.1
      rw [upd_ne _ _ (by omega)] at e2
      rw [e1]
      exact ⟨rfl, e2⟩
  · by_cases c7 : ss (7 + 4 * i) = 7
    · rw [if_neg (by unfold f_X1_holdsByDraw; rw [if_neg c1, if_pos c7]; decide), draw_eq (by omega), bnd_eq]
      dsimp only
      rw [get0 hi, get2 hi, upd_ne _ _ (by omega), upd_ne _ _ (by omega), if_neg c1]
      have hr := draw_rng (n := ss 2 + 1) (z := ss 4) (by omega)
      have hf := divI (a := ss 2) (b := 2) hh.1 (by decide)
      have hdv := divI (a := (f_X0_drawBelow (ss 2 + 1) (ss 4)).1) (b := 2) hr.1 (by decide)
      rw [x2] at hf hdv
      have eS : ((f_X0_drawBelow (ss 2 + 1) (ss 4)).1 / 2 + ss 2 / 2).toInt = (f_X0_drawBelow (ss 2 + 1) (ss 4)).1.toInt / 2 + (ss 2).toInt / 2 := by
        rw [addI (by rw [hf, hdv]; omega), hf, hdv]
      have hX : f_X0_heldToCards ((f_X0_drawBelow (ss 2 + 1) (ss 4)).1 / 2 + ss 2 / 2) (ss 2) = (f_X0_drawBelow (ss 2 + 1) (ss 4)).1 / 2 + ss 2 / 2 := by
        rw [held_eq hh.1]
        exact held_id ⟨by rw [eS]; omega, by rw [eS]; omega⟩
      have e0 : f_X0_heldBy (ss 0) (ss 1) (ss 2) (ss 4) (ss 6) (ss 5) ls (ss (7 + 4 * i)) (ss (8 + 4 * i)) = ((f_X0_drawBelow (ss 2 + 1) (ss 4)).1 / 2 + ss 2 / 2, (f_X0_drawBelow (ss 2 + 1) (ss 4)).2) := by
        unfold f_X0_heldBy
        rw [c7, if_neg (by decide), if_neg (by decide), if_neg (by decide), if_neg (by decide), if_neg (by decide), if_neg (by decide), if_pos rfl, bnd_eq]
        exact Prod.ext hX rfl
      have e9 : f_X6_holdsBy (nI i) (ss 0) (ss 1) ss = ss 2 / 2 := by
        unfold f_X6_holdsBy
        rw [get0 hi, c7, if_neg (by decide), if_neg (by decide), if_neg (by decide), if_neg (by decide), if_neg (by decide)]
      rw [e0, e9]
      rw [bnd_eq ((f_X0_drawBelow (ss 2 + 1) (ss 4)).1 / 2 + ss 2 / 2, (f_X0_drawBelow (ss 2 + 1) (ss 4)).2)]
      dsimp only
      by_cases c : ss (9 + 4 * i) = 0
      · have hid : f_X6_held ((f_X0_drawBelow (ss 2 + 1) (ss 4)).1 / 2 + ss 2 / 2) (upd ss 4 (f_X0_drawBelow (ss 2 + 1) (ss 4)).2) = (f_X0_drawBelow (ss 2 + 1) (ss 4)).1 / 2 + ss 2 / 2 := held_id ⟨by rw [eS]; omega, by rw [eS, upd_ne _ _ (by omega)]; omega⟩
        rw [if_pos c, if_pos c, hid]
        exact ⟨rfl, by show 0 ≤ ((f_X0_drawBelow (ss 2 + 1) (ss 4)).1 / 2 + ss 2 / 2).toInt; rw [eS]; omega, by show ((f_X0_drawBelow (ss 2 + 1) (ss 4)).1 / 2 + ss 2 / 2).toInt ≤ _; rw [eS]; omega⟩
      · rw [if_neg c, if_neg c, draw_eq (by omega), bnd_eq, bnd_eq]
        dsimp only
        rw [upd_at, upd_upd]
        have e1 := held_eq (v := (f_X0_drawBelow (ss 2 + 1) (ss 4)).1 / 2 + ss 2 / 2 + (f_X0_drawBelow (2 * ss (9 + 4 * i) + 1) (f_X0_drawBelow (ss 2 + 1) (ss 4)).2).1 - ss (9 + 4 * i)) (ss := upd ss 4 (f_X0_drawBelow (2 * ss (9 + 4 * i) + 1) (f_X0_drawBelow (ss 2 + 1) (ss 4)).2).2) hh.1
        rw [upd_ne _ _ (by omega)] at e1
        have e2 := held_rng (v := (f_X0_drawBelow (ss 2 + 1) (ss 4)).1 / 2 + ss 2 / 2 + (f_X0_drawBelow (2 * ss (9 + 4 * i) + 1) (f_X0_drawBelow (ss 2 + 1) (ss 4)).2).1 - ss (9 + 4 * i)) (ss := upd ss 4 (f_X0_drawBelow (2 * ss (9 + 4 * i) + 1) (f_X0_drawBelow (ss 2 + 1) (ss 4)).2).2) hh.1
        rw [upd_ne _ _ (by omega)] at e2
        rw [e1]
        exact ⟨rfl, e2⟩
    · rw [if_pos (by unfold f_X1_holdsByDraw; rw [if_neg c1, if_neg c7])]
      rw [get2 hi, holdsBy_eq hi hh.1 hd hk0 h5 hls c1 c7]
      rw [bnd_eq (f_X6_holdsBy (nI i) (ss 0) (ss 1) ss, ss 4)]
      dsimp only
      have hb := holdsBy_rng (p := nI i) (up := ss 0) (down := ss 1) hh.1
      by_cases c : ss (9 + 4 * i) = 0
      · rw [if_pos c, if_pos c, held_id hb, upd_self]
        exact ⟨rfl, hb⟩
      · rw [if_neg c, if_neg c, draw_eq (by omega), bnd_eq, bnd_eq]
        dsimp only
        have e1 := held_eq (v := f_X6_holdsBy (nI i) (ss 0) (ss 1) ss + (f_X0_drawBelow (2 * ss (9 + 4 * i) + 1) (ss 4)).1 - ss (9 + 4 * i)) (ss := upd ss 4 (f_X0_drawBelow (2 * ss (9 + 4 * i) + 1) (ss 4)).2) hh.1
        rw [upd_ne _ _ (by omega)] at e1
        have e2 := held_rng (v := f_X6_holdsBy (nI i) (ss 0) (ss 1) ss + (f_X0_drawBelow (2 * ss (9 + 4 * i) + 1) (ss 4)).1 - ss (9 + 4 * i)) (ss := upd ss 4 (f_X0_drawBelow (2 * ss (9 + 4 * i) + 1) (ss 4)).2) hh.1
        rw [upd_ne _ _ (by omega)] at e2
        rw [e1]
        exact ⟨rfl, e2⟩
