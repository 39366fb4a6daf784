/-! SAME ANSWERS: a round; what goes with what -/
theorem goes31 {ca : Nat → Int32} : ∀ (n k : Nat) (u : Nat → Int32), 0 ≤ (u 5).toInt ∧ (u 5).toInt ≤ 12 → k ≤ (u 5).toNatClampNeg → (u 5).toNatClampNeg - k < n →
    (f_X6_goesRound_L31 ca n k u).2 = ca ∧ (f_X6_goesRound_L31 ca n k u).1 6 = u 6 + 1 ∧ (∀ i, k ≤ i → i < (u 5).toNatClampNeg → (f_X6_goesRound_L31 ca n k u).1 (10 + 4 * i) = ca i) ∧ (∀ j, j ≠ 6 → (∀ i, k ≤ i → i < (u 5).toNatClampNeg → j ≠ 10 + 4 * i) → (f_X6_goesRound_L31 ca n k u).1 j = u j) := by
  intro n
  induction n with
  | zero => intro k u _ _ h; exact absurd h (Nat.not_lt_zero _)
  | succ n ih =>
    intro k u h5 hk hm
    have hb := cl_nat (u 5)
    rw [f_X6_goesRound_L31_s]
    by_cases c : u 5 ≤ nI k
    · rw [if_pos c]
      rw [leB h5.1 (by omega)] at c
      refine ⟨rfl, by show upd u 6 (u 6 + 1) 6 = _; exact upd_at _ _ _, fun i h1 h2 => absurd h2 (by omega), fun j h1 _ => upd_ne _ _ h1⟩
    · rw [if_neg c]
      rw [leB h5.1 (by omega)] at c
      have e5 : upd u (10 + 4 * k) (ca k) 5 = u 5 := upd_ne _ _ (by omega)
      obtain ⟨a1, a2, a3, a4⟩ := ih (k + 1) (upd u (10 + 4 * k) (ca k)) (by rw [e5]; exact h5) (by rw [e5]; omega) (by rw [e5]; omega)
      rw [e5] at a3 a4
      refine ⟨a1, by rw [a2, upd_ne _ _ (by omega)], fun i h1 h2 => ?_, fun j h1 h2 => ?_⟩
      · by_cases hik : i = k
        · subst hik
          rw [a4 (10 + 4 * i) (by omega) (fun i2 _ _ => by omega), upd_at]
        · exact a3 i (by omega) h2
      · rw [a4 j h1 (fun i q1 q2 => h2 i (by omega) q2), upd_ne _ _ (h2 k (Nat.le_refl _) (by omega))]
/-- what a round leaves: the class's z, cards; the reference's row -/
def RDp (ss : Nat → Int32) (so : Int32) (y : Int32 × Int32 × Int32 × Int32 × Int32 × (Nat → Int32)) (m : (Nat → Int32) × (Nat → Int32)) : Prop :=
  ∃ (z : Int32) (c : Nat → Int32), y = (z, ss 6 + 1, f_X3_sum (ss 5) c, so, ss 5, c) ∧ m.1 4 = z ∧ m.1 6 = ss 6 + 1 ∧ (∀ i, i < (ss 5).toNatClampNeg → m.1 (10 + 4 * i) = c i ∧ 0 ≤ (c i).toInt ∧ (c i).toInt ≤ (ss 2).toInt) ∧
    (∀ j, j ≠ 4 → j ≠ 6 → (∀ i, i < (ss 5).toNatClampNeg → j ≠ 10 + 4 * i) → m.1 j = ss j)
theorem round_loop {ss : Nat → Int32} {ls : Int32} {ki st sl : Nat → Int32} (h5 : 0 ≤ (ss 5).toInt ∧ (ss 5).toInt ≤ 12) (hh : 0 ≤ (ss 2).toInt ∧ (ss 2).toInt ≤ 1000) (hd : ¬ ss 1 = 0) (hr5 : ¬ ss 6 = 0 → ¬ ss 5 = 0) (hls : ¬ ss 6 = 0 → ls = f_X6_lastSum ss)
    (hp : ∀ i, i < (ss 5).toNatClampNeg → ki i = ss (7 + 4 * i) ∧ st i = ss (8 + 4 * i) ∧ sl i = ss (9 + 4 * i) ∧ (0 ≤ (ss (8 + 4 * i)).toInt ∧ (ss (8 + 4 * i)).toInt ≤ 1000) ∧ (0 ≤ (ss (9 + 4 * i)).toInt ∧ (ss (9 + 4 * i)).toInt ≤ 20)) {x9f : Nat → Int32} :
    ∀ (n k : Nat) (z : Int32) (cf ca : Nat → Int32), k ≤ (ss 5).toNatClampNeg → (ss 5).toNatClampNeg - k < n → (∀ i, i < k → cf i = ca i ∧ 0 ≤ (cf i).toInt ∧ (cf i).toInt ≤ (ss 2).toInt) →
      RDp ss 2 (f_X0_play_L14 (ss 0) (ss 1) (ss 2) (ss 6) (ss 5) ls ki st sl (2, ss 5, x9f) n k z cf) (f_X6_goesRound_L2 ss n k (upd ss 4 z) ca) := by
  intro n
  induction n with
  | zero => intro k z cf ca _ h; exact absurd h (Nat.not_lt_zero _)
  | succ n ih =>
    intro k z cf ca hk hm hc
    have hb := cl_nat (ss 5)
    rw [f_X0_play_L14_s, f_X6_goesRound_L2_s]
    have e5 : upd ss 4 z 5 = ss 5 := upd_ne _ _ (by omega)
    rw [e5]
    by_cases c : ss 5 ≤ nI k
    · rw [if_pos c, if_pos c]
      rw [leB h5.1 (by omega)] at c
      obtain ⟨a1, a2, a3, a4⟩ := goes31 (ca := ca) ((ss 5).toNatClampNeg + 1) 0 (upd ss 4 z) (by rw [e5]; exact h5) (Nat.zero_le _) (by rw [e5]; omega)
      rw [e5] at a3 a4
      refine ⟨z, cf, rfl, ?_, ?_, fun i hi => ?_, fun j h1 h2 h3 => ?_⟩
      · rw [a4 4 (by omega) (fun i _ _ => by omega), upd_at]
      · rw [a2, upd_ne _ _ (by omega)]
      · obtain ⟨q1, q2⟩ := hc i (by omega)
        exact ⟨(a3 i (Nat.zero_le _) hi).trans q1.symm, q2⟩
      · rw [a4 j h2 (fun i _ hi => h3 i hi), upd_ne _ _ h1]
    · rw [if_neg c, if_neg c]
      rw [leB h5.1 (by omega)] at c
      rw [if_neg (show ¬ (12 : Int32) ≤ nI k by rw [show (12 : Int32) = nI 12 from rfl, nI_leI (by decide) (by omega)]; omega)]
      obtain ⟨p1, p2, p3, p4, p5⟩ := hp k (by omega)
      have n0 : upd ss 4 z 0 = ss 0 := upd_ne _ _ (by omega)
      have n1 : upd ss 4 z 1 = ss 1 := upd_ne _ _ (by omega)
      have n2 : upd ss 4 z 2 = ss 2 := upd_ne _ _ (by omega)
      have n6 : upd ss 4 z 6 = ss 6 := upd_ne _ _ (by omega)
      have n7 : upd ss 4 z (7 + 4 * k) = ss (7 + 4 * k) := upd_ne _ _ (by omega)
      have n8 : upd ss 4 z (8 + 4 * k) = ss (8 + 4 * k) := upd_ne _ _ (by omega)
      have n9 : upd ss 4 z (9 + 4 * k) = ss (9 + 4 * k) := upd_ne _ _ (by omega)
      have n4 : upd ss 4 z 4 = z := upd_at _ _ _
      obtain ⟨e, r1, r2⟩ := cardOf_eq (i := k) (ls := ls) (ss := upd ss 4 z) (by omega) (by rw [n2]; exact hh) (by rw [n1]; exact hd) (by rw [n8]; exact p4) (by rw [n9]; exact p5) (by rw [n6, e5]; exact hr5) (by rw [n6, lastSum_upd h5]; exact hls)
      rw [n0, n1, n2, n4, n6, e5, n7, n8, n9, upd_upd] at e
      rw [n2] at r2
      rw [e] at r1 r2
      rw [p1, p2, p3, bnd_eq, bnd_eq, e]
      have hw : ∀ v : Int32, f_X3_write (nI k) v 2 (ss 5) cf = upd cf k v := by
        intro v
        have hP : f_X3_hasPlace (nI k) (ss 5) = 1 := by
          unfold f_X3_hasPlace
          rw [if_neg (nI_neg (by omega)), if_neg (fun q => c ((leB h5.1 (by omega)).mp q))]
        unfold f_X3_write f_X3_lowestBits
        rw [hP, if_neg o0, if_neg (by decide), if_neg (by decide), nI_clamp (by omega)]
      generalize f_X0_cardOf (ss 0) (ss 1) (ss 2) z (ss 6) (ss 5) ls (ss (7 + 4 * k)) (ss (8 + 4 * k)) (ss (9 + 4 * k)) = x at r1 r2
      show RDp ss 2 (f_X0_play_L14 (ss 0) (ss 1) (ss 2) (ss 6) (ss 5) ls ki st sl (2, ss 5, x9f) n (k + 1) x.2 (f_X3_write (nI k) x.1 2 (ss 5) cf)) (f_X6_goesRound_L2 ss n (k + 1) (upd ss 4 x.2) (upd ca k x.1))
      rw [hw]
      refine ih (k + 1) x.2 _ _ (by omega) (by omega) (fun i hi => ?_)
      by_cases hik : i = k
      · subst hik
        rw [upd_at, upd_at]
        exact ⟨rfl, r1, r2⟩
      · rw [upd_ne _ _ hik, upd_ne _ _ hik]
        exact hc i (by omega)
theorem begin_so {so sz : Int32} {n : Nat} {f : Nat → Int32} : (f_X3_begin so sz n f).1 = so := by
  unfold f_X3_begin
  split <;> rfl
theorem begin_sz {so sz : Int32} {n : Nat} {f : Nat → Int32} (h0 : 0 ≤ sz.toInt) (h : sz.toInt ≤ n) (hn : n < 2147483648) : (f_X3_begin so sz n f).2.1 = sz := by
  unfold f_X3_begin
  rw [if_pos (by rw [xle, x0]; exact h0)]
  show (if Int32.ofNat n < sz then Int32.ofNat n else sz) = sz
  have e : (Int32.ofNat n).toInt = n := nI_toInt (n := n) (by omega)
  rw [if_neg (by rw [xlt]; omega)]
/-- bounds that the reference's row keeps -/
def RB (ss : Nat → Int32) : Prop := (0 ≤ (ss 0).toInt ∧ (ss 0).toInt ≤ 20) ∧ (1 ≤ (ss 1).toInt ∧ (ss 1).toInt ≤ 20) ∧ (1 ≤ (ss 2).toInt ∧ (ss 2).toInt ≤ 1000) ∧ (ss 3 = 0 ∨ ss 3 = 1) ∧ (0 ≤ (ss 5).toInt ∧ (ss 5).toInt ≤ 12) ∧ (0 ≤ (ss 6).toInt ∧ (ss 6).toInt ≤ 99) ∧ (¬ ss 6 = 0 → ¬ ss 5 = 0) ∧ (∀ i, i < 12 → 0 ≤ (ss (8 + 4 * i)).toInt ∧ (ss (8 + 4 * i)).toInt ≤ 9)
/-- people of a game and the reference's -/
def RP (ss nu ki st sl : Nat → Int32) : Prop := (∀ i, i < (ss 5).toNatClampNeg → nu i = nI i ∧ ki i = ss (7 + 4 * i) ∧ st i = ss (8 + 4 * i) ∧ sl i = ss (9 + 4 * i) ∧ (0 ≤ (ss (7 + 4 * i)).toInt ∧ (ss (7 + 4 * i)).toInt ≤ 7) ∧ (0 ≤ (ss (9 + 4 * i)).toInt ∧ (ss (9 + 4 * i)).toInt ≤ 20)) ∧ (∀ i, i < 12 → (st i).toInt ≤ 9)
/-- cards of a game and the reference's -/
def RC (ss : Nat → Int32) (ls sz : Int32) (cf : Nat → Int32) : Prop := sz.toInt ≤ 12 ∧ (ss 6 = 0 → ∀ i, i < (ss 5).toNatClampNeg → ss (10 + 4 * i) = -1) ∧ (¬ ss 6 = 0 → sz = ss 5 ∧ ls = sumN cf (ss 5).toNatClampNeg ∧ ∀ i, i < (ss 5).toNatClampNeg → ss (10 + 4 * i) = cf i ∧ 0 ≤ (cf i).toInt ∧ (cf i).toInt ≤ (ss 2).toInt)
def RG (ss : Nat → Int32) (ls sz : Int32) (cf nu ki st sl : Nat → Int32) : Prop := RB ss ∧ RP ss nu ki st sl ∧ RC ss ls sz cf
theorem RC.ls {ss : Nat → Int32} {ls sz : Int32} {cf : Nat → Int32} (hB : RB ss) (h : RC ss ls sz cf) : ¬ ss 6 = 0 → ls = f_X6_lastSum ss := by
  intro c
  obtain ⟨_, h1, h2⟩ := h.2.2 c
  rw [h1, lastSum6 hB.2.2.2.2.1]
  exact sumN_congr _ (fun i hi => (h2 i hi).1.symm)
theorem play_rel {ss : Nat → Int32} {ls sz : Int32} {cf nu ki st sl ca : Nat → Int32} (h : RG ss ls sz cf nu ki st sl) : RDp ss 2 (f_X0_play (ss 0) (ss 1) (ss 2) (ss 4) (ss 6) (ss 5) ls 12 cf ki st sl) (f_X6_goesRound ss ca) := by
  obtain ⟨hB, hP, hC⟩ := h
  have hls := hC.ls hB
  obtain ⟨b0, b1, b2, b3, b5, b6, b65, b8⟩ := hB
  have hb := cl_nat (ss 5)
  unfold f_X0_play f_X6_goesRound
  rw [bnd_eq]
  have e : f_X3_begin 2 (ss 5) 12 cf = (2, ss 5, (f_X3_begin 2 (ss 5) 12 cf).2.2) := Prod.ext begin_so (Prod.ext (begin_sz b5.1 b5.2 (by decide)) rfl)
  rw [e]
  have := round_loop (ss := ss) (ls := ls) (ki := ki) (st := st) (sl := sl) b5 ⟨by omega, b2.2⟩ (fun q => by rw [q, x0] at b1; omega) b65 hls (fun i hi => by
    obtain ⟨_, a1, a2, a3, _, a4⟩ := hP.1 i hi
    have q8 := b8 i (by omega)
    exact ⟨a1, a2, a3, ⟨q8.1, by omega⟩, a4⟩) (x9f := (f_X3_begin 2 (ss 5) 12 cf).2.2) ((ss 5).toNatClampNeg + 1) 0 (ss 4) (f_X3_begin 2 (ss 5) 12 cf).2.2 ca (Nat.zero_le _) (by omega) (fun i hi => absurd hi (Nat.not_lt_zero _))
  rw [upd_self] at this
  exact this
/-- behind a round, all goes together again -/
theorem RDp.rel {ss : Nat → Int32} {ls sz : Int32} {cf nu ki st sl : Nat → Int32} {y : Int32 × Int32 × Int32 × Int32 × Int32 × (Nat → Int32)} {m : (Nat → Int32) × (Nat → Int32)} (h : RG ss ls sz cf nu ki st sl) (hr : RDp ss 2 y m) (h99 : (ss 6).toInt < 99 ∨ True) (h5 : ¬ ss 5 = 0) (hlt : (ss 6).toInt ≤ 98) :
    y.1 = m.1 4 ∧ y.2.1 = m.1 6 ∧ y.2.2.2.2.1 = m.1 5 ∧ (∀ j, j ≠ 4 → j ≠ 6 → (∀ i, i < (ss 5).toNatClampNeg → j ≠ 10 + 4 * i) → m.1 j = ss j) ∧ m.1 6 = ss 6 + 1 ∧ RG m.1 y.2.2.1 y.2.2.2.2.1 y.2.2.2.2.2 nu ki st sl := by
  obtain ⟨hB, hP, hC⟩ := h
  obtain ⟨b0, b1, b2, b3, b5, b6, b65, b8⟩ := hB
  obtain ⟨z, c, rfl, m4, m6, mc, mk⟩ := hr
  have hb := cl_nat (ss 5)
  have e0 : m.1 0 = ss 0 := mk 0 (by omega) (by omega) (fun i _ => by omega)
  have e1 : m.1 1 = ss 1 := mk 1 (by omega) (by omega) (fun i _ => by omega)
  have e2 : m.1 2 = ss 2 := mk 2 (by omega) (by omega) (fun i _ => by omega)
  have e3 : m.1 3 = ss 3 := mk 3 (by omega) (by omega) (fun i _ => by omega)
  have e5 : m.1 5 = ss 5 := mk 5 (by omega) (by omega) (fun i _ => by omega)
  have e7 : ∀ i, m.1 (7 + 4 * i) = ss (7 + 4 * i) := fun i => mk _ (by omega) (by omega) (fun j _ => by omega)
  have e8 : ∀ i, m.1 (8 + 4 * i) = ss (8 + 4 * i) := fun i => mk _ (by omega) (by omega) (fun j _ => by omega)
  have e9 : ∀ i, m.1 (9 + 4 * i) = ss (9 + 4 * i) := fun i => mk _ (by omega) (by omega) (fun j _ => by omega)
  have e6 : (m.1 6).toInt = (ss 6).toInt + 1 := by rw [m6, addI (by rw [x1]; omega), x1]
  have n6 : ¬ m.1 6 = 0 := fun q => by rw [q, x0] at e6; omega
  refine ⟨m4.symm, m6.symm, e5.symm, mk, m6, ?_, ?_, ?_⟩
  · exact ⟨by rw [e0]; exact b0, by rw [e1]; exact b1, by rw [e2]; exact b2, by rw [e3]; exact b3, by rw [e5]; exact b5, by omega, fun _ => by rw [e5]; exact h5, fun i hi => by rw [e8]; exact b8 i hi⟩
  · refine ⟨fun i hi => ?_, hP.2⟩
    rw [e5] at hi
    rw [e7, e8, e9]
    exact hP.1 i hi
  · refine ⟨by show (ss 5).toInt ≤ 12; exact b5.2, fun q => absurd q n6, fun _ => ⟨e5.symm, ?_, fun i hi => ?_⟩⟩
    · rw [e5]
      show f_X3_sum (ss 5) c = _
      rw [sum3 b5.1]
    · rw [e5] at hi
      rw [e2]
      exact mc i hi
theorem round_eq {ss : Nat → Int32} {ls so sz : Int32} {cf nu ki st sl ca : Nat → Int32} (h : RG ss ls sz cf nu ki st sl) :
    (f_X5_round (ss 0) (ss 1) (ss 2) (ss 4) (ss 6) (ss 5) ls so sz cf ki st sl).1 = (f_X6_round ss ca).1 ∧
    (∀ j, j = 0 ∨ j = 1 ∨ j = 2 ∨ j = 3 ∨ j = 5 → (f_X6_round ss ca).2.1 j = ss j) ∧
    (f_X5_round (ss 0) (ss 1) (ss 2) (ss 4) (ss 6) (ss 5) ls so sz cf ki st sl).2.1 = (f_X6_round ss ca).2.1 4 ∧
    (f_X5_round (ss 0) (ss 1) (ss 2) (ss 4) (ss 6) (ss 5) ls so sz cf ki st sl).2.2.1 = (f_X6_round ss ca).2.1 6 ∧
    RG (f_X6_round ss ca).2.1 (f_X5_round (ss 0) (ss 1) (ss 2) (ss 4) (ss 6) (ss 5) ls so sz cf ki st sl).2.2.2.1 (f_X5_round (ss 0) (ss 1) (ss 2) (ss 4) (ss 6) (ss 5) ls so sz cf ki st sl).2.2.2.2.2.1 (f_X5_round (ss 0) (ss 1) (ss 2) (ss 4) (ss 6) (ss 5) ls so sz cf ki st sl).2.2.2.2.2.2 nu ki st sl := by
  have b6 := h.1.2.2.2.2.2.1
  have h99 : (99 : Int32).toInt = 99 := rfl
  unfold f_X5_round f_X6_round
  by_cases c : ss 6 = 99
  · rw [if_neg (by rw [c]; decide), if_pos c]
    exact ⟨rfl, fun _ _ => rfl, rfl, rfl, h⟩
  · have hc := xne c
    rw [if_pos (by rw [xlt, h99]; omega), if_neg c]
    by_cases d : ss 5 = 0
    · rw [if_pos d, if_pos d]
      exact ⟨rfl, fun _ _ => rfl, rfl, rfl, h⟩
    · rw [if_neg d, if_neg d, bnd_eq, bnd_eq]
      obtain ⟨a1, a2, a3, a4, a5, a6⟩ := (play_rel (ca := ca) h).rel h (Or.inr trivial) d (by omega)
      exact ⟨a2, fun j hj => a4 j (by omega) (by omega) (fun i _ => by omega), a1, a2, a6⟩
