/-! SAME ANSWERS: rounds in mind -/
/-- bounds without the number of rounds -/
def RBw (ss : Nat → Int32) : Prop := (0 ≤ (ss 0).toInt ∧ (ss 0).toInt ≤ 20) ∧ (1 ≤ (ss 1).toInt ∧ (ss 1).toInt ≤ 20) ∧ (1 ≤ (ss 2).toInt ∧ (ss 2).toInt ≤ 1000) ∧ (ss 3 = 0 ∨ ss 3 = 1) ∧ (0 ≤ (ss 5).toInt ∧ (ss 5).toInt ≤ 12) ∧ (¬ ss 6 = 0 → ¬ ss 5 = 0) ∧ (∀ i, i < 12 → 0 ≤ (ss (8 + 4 * i)).toInt ∧ (ss (8 + 4 * i)).toInt ≤ 9)
theorem RB.w {ss : Nat → Int32} (h : RB ss) : RBw ss := ⟨h.1, h.2.1, h.2.2.1, h.2.2.2.1, h.2.2.2.2.1, h.2.2.2.2.2.2.1, h.2.2.2.2.2.2.2⟩
theorem play_w {ss : Nat → Int32} {ls sz : Int32} {cf nu ki st sl ca : Nat → Int32} (hB : RBw ss) (hP : RP ss nu ki st sl) (hC : RC ss ls sz cf) : RDp ss 2 (f_X0_play (ss 0) (ss 1) (ss 2) (ss 4) (ss 6) (ss 5) ls 12 cf ki st sl) (f_X6_goesRound ss ca) := by
  obtain ⟨b0, b1, b2, b3, b5, b65, b8⟩ := hB
  have hb := cl_nat (ss 5)
  have hls : ¬ ss 6 = 0 → ls = f_X6_lastSum ss := by
    intro c
    obtain ⟨_, h1, h2⟩ := hC.2.2 c
    rw [h1, lastSum6 b5]
    exact sumN_congr _ (fun i hi => (h2 i hi).1.symm)
  unfold f_X0_play f_X6_goesRound
  rw [bnd_eq]
  have e : f_X3_begin 2 (ss 5) 12 cf = (2, ss 5, (f_X3_begin 2 (ss 5) 12 cf).2.2) := Prod.ext begin_so (Prod.ext (begin_sz b5.1 b5.2 (by decide)) rfl)
  rw [e]
  have := round_loop (ss := ss) (ls := ls) (ki := ki) (st := st) (sl := sl) b5 ⟨by omega, b2.2⟩ (fun q => by rw [q, x0] at b1; omega) b65 hls (fun i hi => by
    obtain ⟨_, a1, a2, a3, _, a4⟩ := hP.1 i hi
    have q8 := b8 i (by omega)
    exact ⟨a1, a2, a3, ⟨q8.1, by omega⟩, a4⟩) (x9f := (f_X3_begin 2 (ss 5) 12 cf).2.2) ((ss 5).toNatClampNeg + 1) 0 (ss 4) (f_X3_begin 2 (ss 5) 12 cf).2.2 ca (Nat.zero_le _) (by omega) (fun i hi => absurd hi (Nat.not_lt_zero _))
  rw [upd_self] at this
  exact this
theorem RDp.relw {ss : Nat → Int32} {nu ki st sl : Nat → Int32} {y : Int32 × Int32 × Int32 × Int32 × Int32 × (Nat → Int32)} {m : (Nat → Int32) × (Nat → Int32)} (hB : RBw ss) (hP : RP ss nu ki st sl) (hr : RDp ss 2 y m) (h5 : ¬ ss 5 = 0) (h6 : 0 ≤ (ss 6).toInt ∧ (ss 6).toInt ≤ 1000) :
    y.1 = m.1 4 ∧ y.2.1 = m.1 6 ∧ (m.1 0 = ss 0 ∧ m.1 1 = ss 1 ∧ m.1 2 = ss 2 ∧ m.1 3 = ss 3 ∧ m.1 5 = ss 5) ∧ (m.1 6).toInt = (ss 6).toInt + 1 ∧ RBw m.1 ∧ RP m.1 nu ki st sl ∧ RC m.1 y.2.2.1 y.2.2.2.2.1 y.2.2.2.2.2 := by
  obtain ⟨b0, b1, b2, b3, b5, b65, b8⟩ := hB
  obtain ⟨z, c, rfl, m4, m6, mc, mk⟩ := hr
  have hb := cl_nat (ss 5)
  have e0 : m.1 0 = ss 0 := mk 0 (by omega) (by omega) (fun i _ => by omega)
  have e1 : m.1 1 = ss 1 := mk 1 (by omega) (by omega) (fun i _ => by omega)
  have e2 : m.1 2 = ss 2 := mk 2 (by omega) (by omega) (fun i _ => by omega)
  have e3 : m.1 3 = ss 3 := mk 3 (by omega) (by omega) (fun i _ => by omega)
  have e5 : m.1 5 = ss 5 := mk 5 (by omega) (by omega) (fun i _ => by omega)
  have e7 : ∀ i, m.1 (7 + 4 * i) = ss (7 + 4 * i) := fun i => mk _ (by omega) (by omega) (fun j _ => by omega)
  have e8 : ∀ i, m.1 (8 + 4 * i) = ss (8 + 4 * i) := fun i => mk _ (by omega) (by omega) (fun j _ => by omega)
  have e9 : ∀ i, m.1 (9 + 4 * i) = ss (9 + 4 * i) := fun i => mk _ (by omega) (by omega) (fun j _ => by omega)
  have e6 : (m.1 6).toInt = (ss 6).toInt + 1 := by rw [m6, addI (by rw [x1]; omega), x1]
  have n6 : ¬ m.1 6 = 0 := fun q => by rw [q, x0] at e6; omega
  refine ⟨m4.symm, m6.symm, ⟨e0, e1, e2, e3, e5⟩, e6, ?_, ?_, ?_⟩
  · exact ⟨by rw [e0]; exact b0, by rw [e1]; exact b1, by rw [e2]; exact b2, by rw [e3]; exact b3, by rw [e5]; exact b5, fun _ => by rw [e5]; exact h5, fun i hi => by rw [e8]; exact b8 i hi⟩
  · refine ⟨fun i hi => ?_, hP.2⟩
    rw [e5] at hi
    rw [e7, e8, e9]
    exact hP.1 i hi
  · refine ⟨by show (ss 5).toInt ≤ 12; exact b5.2, fun q => absurd q n6, fun _ => ⟨e5.symm, ?_, fun i hi => ?_⟩⟩
    · rw [e5]
      show f_X3_sum (ss 5) c = _
      rw [sum3 b5.1]
    · rw [e5] at hi
      rw [e2]
      exact mc i hi
/-- who wins doesn't hang on how many rounds there were -/
theorem far_6 {card s n c : Int32} {x : Nat → Int32} : f_X6_farOf card s n (upd x 6 c) = f_X6_farOf card s n x := by
  unfold f_X6_farOf
  rw [upd_ne x c (show (1 : Nat) ≠ 6 by decide), upd_ne x c (show (0 : Nat) ≠ 6 by decide)]
theorem best_6 {s hs c : Int32} {x ha : Nat → Int32} : ∀ (n k : Nat) (v : Int32), f_X6_bestOf_L4 s hs (upd x 6 c) ha n k v = f_X6_bestOf_L4 s hs x ha n k v := by
  intro n
  induction n with
  | zero => intro k v; rfl
  | succ n ih =>
    intro k v
    rw [f_X6_bestOf_L4_s, f_X6_bestOf_L4_s, upd_ne x c (show (3 : Nat) ≠ 6 by decide)]
    simp only [far_6, ih]
theorem Wn_6 {sz v c : Int32} {x ha : Nat → Int32} : Wn (upd x 6 c) ha sz v = Wn x ha sz v := by
  unfold Wn f_X6_wins f_X6_bestOf
  rw [upd_ne x c (show (3 : Nat) ≠ 6 by decide), best_6, far_6]
theorem RBw.b {ss : Nat → Int32} (h : RBw ss) (h5 : ¬ ss 5 = 0) : RB (upd ss 6 1) := by
  obtain ⟨b0, b1, b2, b3, b5, b65, b8⟩ := h
  refine ⟨?_, ?_, ?_, ?_, ?_, ?_, ?_, ?_⟩
  · rw [upd_ne _ _ (by decide)]; exact b0
  · rw [upd_ne _ _ (by decide)]; exact b1
  · rw [upd_ne _ _ (by decide)]; exact b2
  · rw [upd_ne _ _ (by decide)]; exact b3
  · rw [upd_ne _ _ (by decide)]; exact b5
  · rw [upd_at]; decide
  · exact fun _ => by rw [upd_ne _ _ (by decide)]; exact h5
  · intro i hi
    rw [upd_ne _ _ (by omega)]; exact b8 i hi
theorem w111 {sa ca ha : Nat → Int32} {v hs : Int32} : ∀ (n k : Nat) (u : Nat → Int32), k ≤ 55 → 55 - k < n → (∀ j, j < k → u j = sa j) →
    (f_X6_wins__L111 sa v ca ha hs n k u).1 = v ∧ (∀ j, j < 55 → (f_X6_wins__L111 sa v ca ha hs n k u).2.1 j = sa j) ∧ (f_X6_wins__L111 sa v ca ha hs n k u).2.2.2.2.2 = hs := by
  intro n
  induction n with
  | zero => intro k u _ h; exact absurd h (Nat.not_lt_zero _)
  | succ n ih =>
    intro k u hk hm hu
    rw [f_X6_wins__L111_s]
    by_cases c : (55 : Int32) ≤ nI k
    · rw [if_pos c]
      rw [show (55 : Int32) = nI 55 from rfl, nI_leI (by decide) (by omega)] at c
      exact ⟨rfl, fun j hj => hu j (by omega), rfl⟩
    · rw [if_neg c]
      rw [show (55 : Int32) = nI 55 from rfl, nI_leI (by decide) (by omega)] at c
      refine ih (k + 1) _ (by omega) (by omega) (fun j hj => ?_)
      by_cases hjk : j = k
      · subst hjk; exact upd_at _ _ _
      · rw [upd_ne _ _ hjk]; exact hu j (by omega)
theorem wins_loop {p : Nat} {n0 : Int32} {ss sa nu ki st sl : Nat → Int32} {x32 : Int32 × Int32 × Int32 × Int32 × Int32 × Int32 × Int32 × Int32 × Int32 × Int32 × (Nat → Int32) × (Nat → Int32) × (Nat → Int32) × (Nat → Int32) × (Nat → Int32)} (e0 : x32.1 = ss 0) (e1 : x32.2.1 = ss 1) (e2 : x32.2.2.1 = ss 2) (e3 : x32.2.2.2.1 = ss 3) (e5 : x32.2.2.2.2.2.2.1 = ss 5) (eK : x32.2.2.2.2.2.2.2.2.2.2.2.2.1 = ki) (eT : x32.2.2.2.2.2.2.2.2.2.2.2.2.2.1 = st) (eL : x32.2.2.2.2.2.2.2.2.2.2.2.2.2.2 = sl) (hp : p < (ss 5).toNatClampNeg) (hn : 1 ≤ n0.toInt ∧ n0.toInt ≤ 20) :
    ∀ (n k : Nat) (v : Int32) (u cf ca ha : Nat → Int32) (ls so sz hs : Int32), k ≤ n0.toNatClampNeg → n0.toNatClampNeg - k < n → (u 0 = ss 0 ∧ u 1 = ss 1 ∧ u 2 = ss 2 ∧ u 3 = ss 3 ∧ u 5 = ss 5) → (0 ≤ (u 6).toInt ∧ (u 6).toInt ≤ 99 + k) → RBw u → RP u nu ki st sl → RC u ls sz cf → hs.toInt ≤ 100 →
    (f_X5_wins_L40 (nI p) n0 x32 n k v (u 4) (u 6) ls so sz cf).1 = (f_X6_wins__L53 (nI p) n0 sa n k v u ca ha hs).1 ∧ (∀ j, j < 55 → (f_X6_wins__L53 (nI p) n0 sa n k v u ca ha hs).2.1 j = sa j) ∧ (f_X6_wins__L53 (nI p) n0 sa n k v u ca ha hs).2.2.2.2.2.toInt ≤ 100 := by
  have hz := cl_nat n0
  intro n
  induction n with
  | zero => intro k _ _ _ _ _ _ _ _ _ _ h; exact absurd h (Nat.not_lt_zero _)
  | succ n ih =>
    intro k v u cf ca ha ls so sz hs hk hm hu h6 hB hP hC hhs
    rw [f_X5_wins_L40_s, f_X6_wins__L53_s]
    by_cases c : n0 ≤ nI k
    · rw [if_pos c, if_pos c]
      obtain ⟨w1, w2, w3⟩ := w111 (sa := sa) (ca := ca) (ha := ha) (v := v) (hs := hs) (55 + 1) 0 u (Nat.zero_le _) (by omega) (fun j hj => absurd hj (Nat.not_lt_zero _))
      exact ⟨w1.symm, w2, by rw [w3]; exact hhs⟩
    · rw [if_neg c, if_neg c, bnd_eq, bnd_eq, bnd_eq]
      rw [leB (by omega) (by omega)] at c
      obtain ⟨a0, a1, a2, a3, a5⟩ := hu
      have b5 := hB.2.2.2.2.1
      have h5 : ¬ u 5 = 0 := by rw [a5]; intro q; rw [q] at hp; exact absurd hp (Nat.not_lt_zero _)
      have hr := play_w (ca := ca) hB hP hC
      rw [a0, a1, a2, a5] at hr
      rw [e0, e1, e2, e3, e5, eK, eT, eL]
      generalize f_X0_play (ss 0) (ss 1) (ss 2) (u 4) (u 6) (ss 5) ls 12 cf ki st sl = y at hr ⊢
      generalize f_X6_goesRound u ca = m at hr ⊢
      obtain ⟨q4, q6, ⟨m0, m1, m2, m3, m5⟩, m6, hB', hP', hC'⟩ := RDp.relw hB hP hr h5 ⟨h6.1, by omega⟩
      have m0 := m0.trans a0
      have m1 := m1.trans a1
      have m2 := m2.trans a2
      have m3 := m3.trans a3
      have m5 := m5.trans a5
      have n6 : ¬ m.1 6 = 0 := fun q => by rw [q, x0] at m6; omega
      obtain ⟨z1, z2, z3⟩ := hC'.2.2 n6
      have b5' := hB'.2.2.2.2.1
      obtain ⟨t1, t2⟩ := tl_ok (ss := m.1) (ha := ha) b5'
      generalize f_X6_takesLast m.1 ha = t at t1 t2 ⊢
      have m5n : ¬ m.1 5 = 0 := by rw [m5, ← a5]; exact h5
      have p5 := w_pos b5'.1 m5n
      have hcd : CD (upd m.1 6 1) (m.1 5) y.2.2.2.2.2 := ⟨hB'.b m5n, p5, by omega, fun j hj => by rw [upd_ne _ _ (by decide)]; exact (z3 j hj).2⟩
      have hw := isW_eq (ss := upd m.1 6 1) (ha := t.1) (p := p) hcd (fun j hj => (t2 j hj).trans (z3 j hj).1) (by rw [m5]; exact hp)
      rw [Wn_6, upd_ne _ _ (by decide), upd_ne _ _ (by decide), upd_ne _ _ (by decide), m0, m1, m3] at hw
      unfold Wn at hw
      have hpc : p < 2147483648 := by have := w_clamp_lt (ss 5); omega
      rw [nI_clamp hpc, t1, z1]
      by_cases g : f_X0_isWinner (nI p) (ss 0) (ss 1) (ss 3) (m.1 5) y.2.2.2.2.2 = 0
      · rw [if_pos g, if_pos (hw.mp g), Int32.add_zero, q4, q6]
        rw [z1] at hC'
        exact ih (k + 1) v m.1 _ m.2 t.1 _ _ _ _ (by omega) (by omega) ⟨m0, m1, m2, m3, m5⟩ (by omega) hB' hP' hC' (by omega)
      · rw [if_neg g, if_neg (fun q => g (hw.mpr q)), q4, q6]
        rw [z1] at hC'
        exact ih (k + 1) _ m.1 _ m.2 t.1 _ _ _ _ (by omega) (by omega) ⟨m0, m1, m2, m3, m5⟩ (by omega) hB' hP' hC' (by omega)
theorem w24 {p0 n0 hs : Int32} {ss ca ha : Nat → Int32} : ∀ (n k : Nat) (u : Nat → Int32), k ≤ 55 → 55 - k < n → (∀ j, j < k → u j = ss j) →
    ∃ sa : Nat → Int32, (∀ j, j < 55 → sa j = ss j) ∧ f_X6_wins__L24 p0 n0 hs ss ca ha n k u = f_X6_wins__L53 p0 n0 sa (n0.toNatClampNeg + 1) 0 0 ss ca ha hs := by
  intro n
  induction n with
  | zero => intro k u _ h; exact absurd h (Nat.not_lt_zero _)
  | succ n ih =>
    intro k u hk hm hu
    rw [f_X6_wins__L24_s]
    by_cases c : (55 : Int32) ≤ nI k
    · rw [if_pos c]
      rw [show (55 : Int32) = nI 55 from rfl, nI_leI (by decide) (by omega)] at c
      exact ⟨u, fun j hj => hu j (by omega), rfl⟩
    · rw [if_neg c]
      rw [show (55 : Int32) = nI 55 from rfl, nI_leI (by decide) (by omega)] at c
      refine ih (k + 1) _ (by omega) (by omega) (fun j hj => ?_)
      by_cases hjk : j = k
      · subst hjk; exact upd_at _ _ _
      · rw [upd_ne _ _ hjk]; exact hu j (by omega)
theorem wins_m {p n0 hs ls so sz mup mdn mhi mpz mz mrr mpp mls mso msz : Int32} {ss sa ca ha cf mcf nu ki st sl qnu qki qst qsl : Nat → Int32} (h : RG ss ls sz cf nu ki st sl) (hhs : hs.toInt ≤ 100) :
    (f_X5_wins p n0 (ss 0) (ss 1) (ss 2) (ss 3) (ss 4) (ss 6) (ss 5) ls so sz cf mup mdn mhi mpz mz mrr mpp mls mso msz mcf nu ki st sl qnu qki qst qsl).1 = (f_X6_wins_ p n0 hs ss sa ca ha).1 ∧ (∀ j, j < 55 → (f_X6_wins_ p n0 hs ss sa ca ha).2.1 j = ss j) ∧ (f_X6_wins_ p n0 hs ss sa ca ha).2.2.2.2.2.toInt ≤ 100 := by
  have b5 := h.1.2.2.2.2.1
  have b6 := h.1.2.2.2.2.2.1
  unfold f_X5_wins f_X6_wins_
  rw [person_eq b5, ge_le (x := n0) (A := 1) (B := 20) (a := 1) (b := 20) rfl rfl]
  by_cases c : ¬ p < 0 ∧ ¬ ss 5 ≤ p
  · rw [if_pos c, if_pos c, if_neg o0]
    have h20 : (20 : Int32).toInt = 20 := rfl
    by_cases w0 : n0 < 1
    · rw [if_pos w0, if_pos w0, if_pos rfl]; exact ⟨rfl, fun _ _ => rfl, hhs⟩
    · rw [if_neg w0, if_neg w0]
      by_cases w2 : (20 : Int32) < n0
      · rw [if_neg (show ¬ n0 ≤ 20 by rw [xle]; rw [xlt] at w2; omega), if_pos w2, if_pos rfl]; exact ⟨rfl, fun _ _ => rfl, hhs⟩
      · rw [if_pos (show n0 ≤ 20 by rw [xle]; rw [xlt] at w2; omega), if_neg w2, if_neg o0, bnd_eq]
        obtain ⟨ep, hp, hp12⟩ := pers_ok b5 c
        obtain ⟨sa', hsa, e⟩ := w24 (p0 := p) (n0 := n0) (hs := hs) (ss := ss) (ca := ca) (ha := ha) (55 + 1) 0 sa (Nat.zero_le _) (by omega) (fun j hj => absurd hj (Nat.not_lt_zero _))
        rw [e, tf_eq]
        generalize p.toNatClampNeg = i at ep hp hp12
        subst ep
        rw [xlt, x1] at w0
        rw [xlt, h20] at w2
        obtain ⟨r1, r2, r3⟩ := wins_loop (p := i) (n0 := n0) (ss := ss) (sa := sa') (nu := cp 12 qnu nu) (ki := cp 12 qki ki) (st := cp 12 qst st) (sl := cp 12 qsl sl) (x32 := (ss 0, ss 1, ss 2, ss 3, ss 4, ss 6, ss 5, ls, (f_X3_takeFrom 12 mcf so sz cf).1, (f_X3_takeFrom 12 mcf so sz cf).2.1, (f_X3_takeFrom 12 mcf so sz cf).2.2, cp 12 qnu nu, cp 12 qki ki, cp 12 qst st, cp 12 qsl sl)) rfl rfl rfl rfl rfl rfl rfl rfl hp ⟨by omega, by omega⟩ (n0.toNatClampNeg + 1) 0 0 ss (f_X3_takeFrom 12 mcf so sz cf).2.2 ca ha ls (f_X3_takeFrom 12 mcf so sz cf).1 (f_X3_takeFrom 12 mcf so sz cf).2.1 hs (Nat.zero_le _) (by omega) ⟨rfl, rfl, rfl, rfl, rfl⟩ (by omega) h.1.w (RG.copy (f := mcf) (so := so) (a := qnu) (b := qki) (c := qst) (d := qsl) h (fun _ _ => rfl)).2.1 (RG.copy (f := mcf) (so := so) (a := qnu) (b := qki) (c := qst) (d := qsl) h (fun _ _ => rfl)).2.2 hhs
        exact ⟨r1, fun j hj => (r2 j hj).trans (hsa j hj), r3⟩
  · rw [if_neg c, if_neg c, if_pos rfl]
    exact ⟨rfl, fun _ _ => rfl, hhs⟩
/-! SAME ANSWERS: the game that parts two people most -/
theorem hbd {x : Int32} (h : f_X1_holdsByDraw x = 0) : ¬ x = 1 ∧ ¬ x = 7 := by
  unfold f_X1_holdsByDraw at h
  refine ⟨fun q => ?_, fun q => ?_⟩
  · rw [if_pos q] at h; exact absurd h (by decide)
  · rw [q] at h; exact absurd h (by decide)
theorem parts_loop {i j : Nat} {what ls : Int32} {ss ki st : Nat → Int32} {x71 : Int32 × Int32 × Int32 × Int32 × Int32 × Int32 × Int32 × Int32 × Int32 × Int32 × (Nat → Int32) × (Nat → Int32) × (Nat → Int32) × (Nat → Int32) × (Nat → Int32)} (e1 : x71.2.1 = ss 1) (e2 : x71.2.2.1 = ss 2) (e6 : x71.2.2.2.2.2.1 = ss 6) (e5 : x71.2.2.2.2.2.2.1 = ss 5) (el : x71.2.2.2.2.2.2.2.1 = ls) (hB : RB ss) (hi : i < 12) (hj : j < 12) (ki1 : ki i = ss (7 + 4 * i)) (kj1 : ki j = ss (7 + 4 * j)) (si1 : st i = ss (8 + 4 * i)) (sj1 : st j = ss (8 + 4 * j)) (hls : ¬ ss 6 = 0 → ls = f_X6_lastSum ss) (gi : f_X1_holdsByDraw (ss (7 + 4 * i)) = 0) (gj : f_X1_holdsByDraw (ss (7 + 4 * j)) = 0) :
    ∀ (n k : Nat) (v6 v7 up z : Int32), (f_X5_parts_L83 (nI i) (nI j) what ki st x71 n k v6 v7 up z).1 = f_X6_parts_L61 (nI i) (nI j) what ss n k v7 v6 := by
  have hdn := dn_ne hB
  obtain ⟨b0, b1, b2, b3, b5, b6, b65, b8⟩ := hB
  intro n
  induction n with
  | zero => intro k v6 v7 up z; rfl
  | succ n ih =>
    intro k v6 v7 up z
    rw [f_X5_parts_L83_s, f_X6_parts_L61_s]
    by_cases c : (20 : Int32) < nI k
    · rw [if_pos c, if_pos c]
      by_cases w : what = 0
      · simp only [if_pos w]
      · simp only [if_neg w]
    · rw [if_neg c, if_neg c, bnd_eq, bnd_eq, nI_clamp (by omega), nI_clamp (by omega), e1, e2, e6, e5, el, ki1, kj1, si1, sj1]
      have q8i := b8 i hi
      have q8j := b8 j hj
      rw [holdsBy_eq (i := i) (up := nI k) (down := ss 1) (ls := ls) hi (by omega) hdn ⟨q8i.1, by omega⟩ b65 hls (hbd gi).1 (hbd gi).2]
      rw [holdsBy_eq (i := j) (up := nI k) (down := ss 1) (ls := ls) hj (by omega) hdn ⟨q8j.1, by omega⟩ b65 hls (hbd gj).1 (hbd gj).2]
      dsimp only
      rw [abs_amt2]
      by_cases g : f_X6_amount (f_X6_holdsBy (nI i) (nI k) (ss 1) ss - f_X6_holdsBy (nI j) (nI k) (ss 1) ss) ≤ v6
      · rw [if_pos g, if_neg (Int32.not_lt.mpr g)]
        exact ih _ _ _ _ _
      · rw [if_neg g, if_pos (Int32.not_le.mp g)]
        exact ih _ _ _ _ _
theorem parts_m {a b what ls so sz mup mdn mhi mpz mz mrr mpp mls mso msz : Int32} {ss cf mcf nu ki st sl qnu qki qst qsl : Nat → Int32} (h : RG ss ls sz cf nu ki st sl) :
    (f_X5_parts a b what (ss 0) (ss 1) (ss 2) (ss 3) (ss 4) (ss 6) (ss 5) ls so sz cf mup mdn mhi mpz mz mrr mpp mls mso msz mcf nu ki st sl qnu qki qst qsl).1 = f_X6_parts a b what ss := by
  obtain ⟨hB, hP, hC⟩ := h
  have b5 := hB.2.2.2.2.1
  unfold f_X5_parts f_X6_parts
  rw [person_eq b5, person_eq b5, one2_eq]
  by_cases c : ¬ a < 0 ∧ ¬ ss 5 ≤ a
  · rw [if_pos c, if_pos c, if_neg o0]
    by_cases c2 : ¬ b < 0 ∧ ¬ ss 5 ≤ b
    · rw [if_pos c2, if_pos c2, if_neg o0]
      by_cases e : a = b
      · simp only [if_pos e]
      · rw [if_neg e, if_neg e]
        by_cases w : f_X6_isIn what.toInt64 0 1 = 0
        · simp only [if_pos w]
        · rw [if_neg w, if_neg w]
          obtain ⟨ea, ha, ha12⟩ := pers_ok b5 c
          obtain ⟨eb, hb, hb12⟩ := pers_ok b5 c2
          generalize a.toNatClampNeg = i at ea ha ha12
          subst ea
          generalize b.toNatClampNeg = j at eb hb hb12
          subst eb
          obtain ⟨_, ki1, si1, _⟩ := hP.1 i ha
          obtain ⟨_, kj1, sj1, _⟩ := hP.1 j hb
          rw [drawn_eq ha12, drawn_eq hb12, ki1, kj1]
          by_cases g : f_X1_holdsByDraw (ss (7 + 4 * i)) = 0
          · rw [if_pos g, if_pos g]
            by_cases g2 : f_X1_holdsByDraw (ss (7 + 4 * j)) = 0
            · rw [if_pos g2, if_pos g2, bnd_eq, tf_eq]
              exact parts_loop rfl rfl rfl rfl rfl hB ha12 hb12 ki1 kj1 si1 sj1 (hC.ls hB) g g2 _ _ _ _ _ _
            · simp only [if_neg g2]
          · simp only [if_neg g]
    · rw [if_neg c2, if_neg c2]
      exact (if_pos rfl).symm
  · rw [if_neg c, if_neg c, if_pos rfl]
    split <;> rfl
/-! SAME ANSWERS: what a statement does -/
theorem RG.set4 {ss s2 cf nu ki st sl : Nat → Int32} {ls sz : Int32} (h : RG ss ls sz cf nu ki st sl) (r6 : ss 6 = 0) (he : ∀ j, 4 ≤ j → s2 j = ss j) (q0 : 0 ≤ (s2 0).toInt ∧ (s2 0).toInt ≤ 20) (q1 : 1 ≤ (s2 1).toInt ∧ (s2 1).toInt ≤ 20) (q2 : 1 ≤ (s2 2).toInt ∧ (s2 2).toInt ≤ 1000) (q3 : s2 3 = 0 ∨ s2 3 = 1) : RG s2 ls sz cf nu ki st sl := by
  obtain ⟨hB, hP, hC⟩ := h
  obtain ⟨b0, b1, b2, b3, b5, b6, b65, b8⟩ := hB
  refine ⟨⟨q0, q1, q2, q3, by rw [he 5 (by omega)]; exact b5, by rw [he 6 (by omega)]; exact b6, by rw [he 6 (by omega), he 5 (by omega)]; exact b65, fun i hi => by rw [he _ (by omega)]; exact b8 i hi⟩, ⟨fun i hi => ?_, hP.2⟩, hC.1, fun q i hi => ?_, fun q => ?_⟩
  · rw [he 5 (by omega)] at hi
    rw [he _ (by omega), he _ (by omega), he _ (by omega)]
    exact hP.1 i hi
  · rw [he 5 (by omega)] at hi
    rw [he _ (by omega)]
    exact hC.2.1 r6 i hi
  · rw [he 6 (by omega)] at q
    exact absurd r6 q
theorem RG.add {ss s2 cf nu ki st sl : Nat → Int32} {ls sz k0 t0 l0 : Int32} {P : Nat} (h : RG ss ls sz cf nu ki st sl) (r6 : ss 6 = 0) (hP0 : P = (ss 5).toNatClampNeg) (hP12 : P < 12) (e7 : s2 (7 + 4 * P) = k0) (e8 : s2 (8 + 4 * P) = t0) (e9 : s2 (9 + 4 * P) = l0) (e10 : s2 (10 + 4 * P) = -1) (e5 : s2 5 = ss 5 + 1) (he : ∀ j, j ≠ 5 → j ≠ 7 + 4 * P → j ≠ 8 + 4 * P → j ≠ 9 + 4 * P → j ≠ 10 + 4 * P → s2 j = ss j) (k7 : 0 ≤ k0.toInt ∧ k0.toInt ≤ 7) (t9 : 0 ≤ t0.toInt ∧ t0.toInt ≤ 9) (l20 : 0 ≤ l0.toInt ∧ l0.toInt ≤ 20) : RG s2 ls sz cf (upd nu P (ss 5)) (upd ki P k0) (upd st P t0) (upd sl P l0) := by
  obtain ⟨hB, hP, hC⟩ := h
  obtain ⟨b0, b1, b2, b3, b5, b6, b65, b8⟩ := hB
  have hz := cl_nat (ss 5)
  have i5 : (s2 5).toInt = (ss 5).toInt + 1 := by rw [e5, addI (by rw [x1]; omega), x1]
  have c5 := cl_nat (s2 5)
  have h0 := he 0 (by omega) (by omega) (by omega) (by omega) (by omega)
  have h1 := he 1 (by omega) (by omega) (by omega) (by omega) (by omega)
  have h2 := he 2 (by omega) (by omega) (by omega) (by omega) (by omega)
  have h3 := he 3 (by omega) (by omega) (by omega) (by omega) (by omega)
  have h6 := he 6 (by omega) (by omega) (by omega) (by omega) (by omega)
  refine ⟨⟨by rw [h0]; exact b0, by rw [h1]; exact b1, by rw [h2]; exact b2, by rw [h3]; exact b3, by omega, by rw [h6]; exact b6, by rw [h6]; exact fun q => absurd r6 q, fun i hi => ?_⟩, ⟨fun i hi => ?_, fun i hi => ?_⟩, hC.1, fun _ i hi => ?_, fun q => ?_⟩
  · by_cases hi2 : i = P
    · subst hi2; rw [e8]; exact t9
    · rw [he _ (by omega) (by omega) (by omega) (by omega) (by omega)]; exact b8 i hi
  · by_cases hi2 : i = P
    · subst hi2
      rw [e7, e8, e9, upd_at, upd_at, upd_at, upd_at]
      exact ⟨by rw [hP0]; exact asN b5.1, rfl, rfl, rfl, k7, l20⟩
    · rw [upd_ne _ _ hi2, upd_ne _ _ hi2, upd_ne _ _ hi2, upd_ne _ _ hi2, he (7 + 4 * i) (by omega) (by omega) (by omega) (by omega) (by omega), he (8 + 4 * i) (by omega) (by omega) (by omega) (by omega) (by omega), he (9 + 4 * i) (by omega) (by omega) (by omega) (by omega) (by omega)]
      exact hP.1 i (by omega)
  · by_cases hi2 : i = P
    · subst hi2; rw [upd_at]; omega
    · rw [upd_ne _ _ hi2]; exact hP.2 i hi
  · by_cases hi2 : i = P
    · subst hi2; exact e10
    · rw [he _ (by omega) (by omega) (by omega) (by omega) (by omega)]
      exact hC.2.1 r6 i (by omega)
  · rw [h6] at q
    exact absurd r6 q
/-- a statement done, on both sides -/
def FC (y : Int32 × Int32 × Int32 × Int32 × Int32 × Int32 × Int32 × (Nat → Int32) × (Nat → Int32) × (Nat → Int32) × (Nat → Int32)) (m : Int32 × (Nat → Int32)) (ls sz r : Int32) (cf : Nat → Int32) : Prop := (y.1 = 0 ∧ m.1 = 0) ∨ (¬ y.1 = 0 ∧ ¬ m.1 = 0 ∧ y.2.1 = m.2 0 ∧ y.2.2.1 = m.2 1 ∧ y.2.2.2.1 = m.2 2 ∧ y.2.2.2.2.1 = m.2 3 ∧ y.2.2.2.2.2.1 = m.2 4 ∧ y.2.2.2.2.2.2.1 = m.2 5 ∧ m.2 6 = r ∧ RG m.2 ls sz cf y.2.2.2.2.2.2.2.1 y.2.2.2.2.2.2.2.2.1 y.2.2.2.2.2.2.2.2.2.1 y.2.2.2.2.2.2.2.2.2.2)
section
variable {re cf qnu qki qst qsl nu' : Nat → Int32} {ls sz c0 fi se th : Int32}
theorem fc_98 (h : RG re ls sz cf qnu qki qst qsl) (hc : c0 = 98) : FC (f_X0_follows (re 0) (re 1) (re 2) (re 3) (re 4) (re 6) (re 5) c0 fi se th qnu qki qst qsl) (f_X6_comes c0 re nu') ls sz (re 6) cf := by
  subst hc
  have hB := h.1
  have b6 := hB.2.2.2.2.2.1
  unfold f_X0_follows f_X6_comes
  by_cases c : re 6 ≤ 0
  · rw [if_pos c, if_pos c, if_pos rfl, if_neg (by decide), if_neg (by decide), if_neg (by decide), if_pos rfl, bnd_eq]
    have r6 : re 6 = 0 := by rw [xle, x0] at c; exact xin (by rw [x0]; omega)
    have e : f_X0_changeIfCanBe 3 1 (re 0) (re 1) (re 2) (re 3) (re 4) = (1, re 0, re 1, re 2, 1, re 4) := rfl
    rw [e]
    refine Or.inr ⟨o0, o0, (upd_ne re 1 (show (0 : Nat) ≠ 3 by decide)).symm, (upd_ne re 1 (show (1 : Nat) ≠ 3 by decide)).symm, (upd_ne re 1 (show (2 : Nat) ≠ 3 by decide)).symm, (upd_at re 3 1).symm, (upd_ne re 1 (show (4 : Nat) ≠ 3 by decide)).symm, (upd_ne re 1 (show (5 : Nat) ≠ 3 by decide)).symm, upd_ne re 1 (show (6 : Nat) ≠ 3 by decide), ?_⟩
    exact RG.set4 (s2 := upd re 3 1) h r6 (fun j hj => upd_ne _ _ (by omega)) (by rw [show (upd re 3 1) 0 = re 0 from upd_ne _ _ (by decide)]; exact hB.1) (by rw [show (upd re 3 1) 1 = re 1 from upd_ne _ _ (by decide)]; exact hB.2.1) (by rw [show (upd re 3 1) 2 = re 2 from upd_ne _ _ (by decide)]; exact hB.2.2.1) (Or.inr (upd_at _ _ _))
  · rw [if_neg c, if_neg c]
    exact Or.inl ⟨rfl, rfl⟩
theorem fc_110 (h : RG re ls sz cf qnu qki qst qsl) (hc : c0 = 110) : FC (f_X0_follows (re 0) (re 1) (re 2) (re 3) (re 4) (re 6) (re 5) c0 fi se th qnu qki qst qsl) (f_X6_comes c0 re nu') ls sz (re 6) cf := by
  subst hc
  have hB := h.1
  have b6 := hB.2.2.2.2.2.1
  unfold f_X0_follows f_X6_comes
  by_cases c : re 6 ≤ 0
  · rw [if_pos c, if_pos c, if_neg (by decide), if_neg (by decide), if_neg (by decide), if_neg (by decide), if_neg (by decide), if_neg (by decide), if_neg (by decide), if_neg (by decide), bnd_eq]
    have r6 : re 6 = 0 := by rw [xle, x0] at c; exact xin (by rw [x0]; omega)
    have e : f_X0_changeIfCanBe 3 0 (re 0) (re 1) (re 2) (re 3) (re 4) = (1, re 0, re 1, re 2, 0, re 4) := rfl
    rw [e]
    refine Or.inr ⟨o0, o0, (upd_ne re 0 (show (0 : Nat) ≠ 3 by decide)).symm, (upd_ne re 0 (show (1 : Nat) ≠ 3 by decide)).symm, (upd_ne re 0 (show (2 : Nat) ≠ 3 by decide)).symm, (upd_at re 3 0).symm, (upd_ne re 0 (show (4 : Nat) ≠ 3 by decide)).symm, (upd_ne re 0 (show (5 : Nat) ≠ 3 by decide)).symm, upd_ne re 0 (show (6 : Nat) ≠ 3 by decide), ?_⟩
    exact RG.set4 (s2 := upd re 3 0) h r6 (fun j hj => upd_ne _ _ (by omega)) (by rw [show (upd re 3 0) 0 = re 0 from upd_ne _ _ (by decide)]; exact hB.1) (by rw [show (upd re 3 0) 1 = re 1 from upd_ne _ _ (by decide)]; exact hB.2.1) (by rw [show (upd re 3 0) 2 = re 2 from upd_ne _ _ (by decide)]; exact hB.2.2.1) (Or.inl (upd_at _ _ _))
  · rw [if_neg c, if_neg c]
    exact Or.inl ⟨rfl, rfl⟩
theorem can2 (n : Int32) : f_X0_canBe 2 n = f_X6_isIn n.toInt64 1 1000 := by
  unfold f_X0_canBe
  rw [if_neg (by decide), if_neg (by decide), if_pos rfl]
  exact (ge_le (x := n) (A := 1) (B := 1000) (a := 1) (b := 1000) rfl rfl).symm
theorem fc_104 (h : RG re ls sz cf qnu qki qst qsl) (hc : c0 = 104) (e0 : fi = nu' 0) : FC (f_X0_follows (re 0) (re 1) (re 2) (re 3) (re 4) (re 6) (re 5) c0 fi se th qnu qki qst qsl) (f_X6_comes c0 re nu') ls sz (re 6) cf := by
  subst hc e0
  have hB := h.1
  have b6 := hB.2.2.2.2.2.1
  unfold f_X0_follows f_X6_comes
  by_cases c : re 6 ≤ 0
  · rw [if_pos c, if_pos c, if_neg (by decide), if_neg (by decide), if_pos rfl, if_neg (by decide), if_pos rfl, bnd_eq]
    have r6 : re 6 = 0 := by rw [xle, x0] at c; exact xin (by rw [x0]; omega)
    unfold f_X0_changeIfCanBe
    rw [can2]
    by_cases w : f_X6_isIn (nu' 0).toInt64 1 1000 = 0
    · rw [if_pos w]
      exact Or.inl ⟨rfl, w⟩
    · rw [if_neg w, bnd_eq]
      have hr := isIn_ok w
      rw [i64, L1, show (1000 : Int64).toInt = 1000 from rfl] at hr
      have e : f_X0_change 2 (nu' 0) (re 0) (re 1) (re 2) (re 3) (re 4) = (re 0, re 1, nu' 0, re 3, re 4) := rfl
      rw [e]
      refine Or.inr ⟨o0, w, (upd_ne re (nu' 0) (show (0 : Nat) ≠ 2 by decide)).symm, (upd_ne re (nu' 0) (show (1 : Nat) ≠ 2 by decide)).symm, (upd_at re 2 (nu' 0)).symm, (upd_ne re (nu' 0) (show (3 : Nat) ≠ 2 by decide)).symm, (upd_ne re (nu' 0) (show (4 : Nat) ≠ 2 by decide)).symm, (upd_ne re (nu' 0) (show (5 : Nat) ≠ 2 by decide)).symm, upd_ne re (nu' 0) (show (6 : Nat) ≠ 2 by decide), ?_⟩
      exact RG.set4 (s2 := upd re 2 (nu' 0)) h r6 (fun j hj => upd_ne _ _ (by omega)) (by rw [show (upd re 2 (nu' 0)) 0 = re 0 from upd_ne _ _ (by decide)]; exact hB.1) (by rw [show (upd re 2 (nu' 0)) 1 = re 1 from upd_ne _ _ (by decide)]; exact hB.2.1) (by rw [show (upd re 2 (nu' 0)) 2 = nu' 0 from upd_at _ _ _]; exact hr) (by rw [show (upd re 2 (nu' 0)) 3 = re 3 from upd_ne _ _ (by decide)]; exact hB.2.2.2.1)
  · rw [if_neg c, if_neg c]
    exact Or.inl ⟨rfl, rfl⟩
theorem fc_103 (h : RG re ls sz cf qnu qki qst qsl) (hc : c0 = 103) (e0 : fi = nu' 0) (e1 : se = nu' 1) : FC (f_X0_follows (re 0) (re 1) (re 2) (re 3) (re 4) (re 6) (re 5) c0 fi se th qnu qki qst qsl) (f_X6_comes c0 re nu') ls sz (re 6) cf := by
  subst hc e0 e1
  have hB := h.1
  have b6 := hB.2.2.2.2.2.1
  unfold f_X0_follows f_X6_comes
  by_cases c : re 6 ≤ 0
  · rw [if_pos c, if_pos c, if_neg (by decide), if_pos rfl, if_pos rfl, bnd_eq]
    have r6 : re 6 = 0 := by rw [xle, x0] at c; exact xin (by rw [x0]; omega)
    unfold f_X6_isShare f_X0_changeIfCanBe
    rw [can0]
    by_cases w : f_X6_isIn (nu' 0).toInt64 0 20 = 0
    · rw [if_pos w, if_pos w, if_pos rfl]
      exact Or.inl ⟨rfl, rfl⟩
    · rw [if_neg w, if_neg w, bnd_eq]
      have hr := isIn_ok w
      rw [i64, L0, show (20 : Int64).toInt = 20 from rfl] at hr
      have e : f_X0_change 0 (nu' 0) (re 0) (re 1) (re 2) (re 3) (re 4) = (nu' 0, re 1, re 2, re 3, re 4) := rfl
      rw [e]
      dsimp only
      rw [if_neg o0, bnd_eq, can1]
      by_cases w2 : f_X6_isIn (nu' 1).toInt64 1 20 = 0
      · rw [if_pos w2, if_pos w2, if_pos rfl]
        exact Or.inl ⟨rfl, rfl⟩
      · rw [if_neg w2, if_neg w2, bnd_eq]
        have hr2 := isIn_ok w2
        rw [i64, L1, show (20 : Int64).toInt = 20 from rfl] at hr2
        have e : f_X0_change 1 (nu' 1) (nu' 0) (re 1) (re 2) (re 3) (re 4) = (nu' 0, nu' 1, re 2, re 3, re 4) := rfl
        dsimp only
        rw [e, if_neg o0]
        have u0 : (upd (upd re 0 (nu' 0)) 1 (nu' 1)) 0 = nu' 0 := (upd_ne _ _ (by decide)).trans (upd_at _ _ _)
        have u1 : (upd (upd re 0 (nu' 0)) 1 (nu' 1)) 1 = nu' 1 := upd_at _ _ _
        have uj : ∀ j, 2 ≤ j → (upd (upd re 0 (nu' 0)) 1 (nu' 1)) j = re j := fun j hj => (upd_ne _ _ (by omega)).trans (upd_ne _ _ (by omega))
        refine Or.inr ⟨o0, o0, u0.symm, u1.symm, (uj 2 (by omega)).symm, (uj 3 (by omega)).symm, (uj 4 (by omega)).symm, (uj 5 (by omega)).symm, uj 6 (by omega), ?_⟩
        exact RG.set4 (s2 := upd (upd re 0 (nu' 0)) 1 (nu' 1)) h r6 (fun j hj => uj j (by omega)) (by rw [u0]; exact hr) (by rw [u1]; exact hr2) (by rw [uj 2 (by omega)]; exact hB.2.2.1) (by rw [uj 3 (by omega)]; exact hB.2.2.2.1)
  · rw [if_neg c, if_neg c]
    exact Or.inl ⟨rfl, rfl⟩
theorem comes97 (re nu' : Nat → Int32) : f_X6_comes_L97 re nu' (3 + 1) 0 re = (1, upd (upd (upd (upd (upd re (7 + 4 * (re 5).toNatClampNeg + 0) (nu' 0)) (7 + 4 * (re 5).toNatClampNeg + (0 + 1)) (nu' (0 + 1))) (7 + 4 * (re 5).toNatClampNeg + (0 + 1 + 1)) (nu' (0 + 1 + 1))) (7 + 4 * (re 5).toNatClampNeg + 3) (-1)) 5 (upd (upd (upd (upd re (7 + 4 * (re 5).toNatClampNeg + 0) (nu' 0)) (7 + 4 * (re 5).toNatClampNeg + (0 + 1)) (nu' (0 + 1))) (7 + 4 * (re 5).toNatClampNeg + (0 + 1 + 1)) (nu' (0 + 1 + 1))) (7 + 4 * (re 5).toNatClampNeg + 3) (-1) 5 + 1)) := by
  show f_X6_comes_L97 re nu' (0 + 1 + 1 + 1 + 1) 0 re = _
  rw [f_X6_comes_L97_s, if_neg (show ¬ (3 : Int32) ≤ nI 0 by decide), f_X6_comes_L97_s, if_neg (show ¬ (3 : Int32) ≤ nI (0 + 1) by decide), f_X6_comes_L97_s, if_neg (show ¬ (3 : Int32) ≤ nI (0 + 1 + 1) by decide), f_X6_comes_L97_s, if_pos (show (3 : Int32) ≤ nI (0 + 1 + 1 + 1) by decide)]
theorem fc_112 (h : RG re ls sz cf qnu qki qst qsl) (hc : c0 = 112) (e0 : fi = nu' 0) (e1 : se = nu' 1) (e2 : th = nu' 2) (d0 : 0 ≤ (nu' 0).toInt ∧ (nu' 0).toInt ≤ 9) (d1 : 0 ≤ (nu' 1).toInt ∧ (nu' 1).toInt ≤ 9) (d2 : 0 ≤ (nu' 2).toInt) : FC (f_X0_follows (re 0) (re 1) (re 2) (re 3) (re 4) (re 6) (re 5) c0 fi se th qnu qki qst qsl) (f_X6_comes c0 re nu') ls sz (re 6) cf := by
  subst hc e0 e1 e2
  have hB := h.1
  have b5 := hB.2.2.2.2.1
  have b6 := hB.2.2.2.2.2.1
  have i7 : (7 : Int32).toInt = 7 := rfl
  have i12 : (12 : Int32).toInt = 12 := rfl
  have i20 : (20 : Int32).toInt = 20 := rfl
  have i9 : (9 : Int64).toInt = 9 := rfl
  unfold f_X0_follows f_X6_comes
  by_cases c : re 6 ≤ 0
  · rw [if_pos c, if_pos c, if_neg (by decide), if_neg (by decide), if_neg (by decide), if_pos rfl, if_neg (by decide), if_neg (by decide), if_pos rfl, bnd_eq]
    have r6 : re 6 = 0 := by rw [xle, x0] at c; exact xin (by rw [x0]; omega)
    unfold f_X0_addPerson
    rw [if_neg (show ¬ nu' 0 < 0 by rw [xlt, x0]; omega), step_eq]
    by_cases k7 : (7 : Int32) < nu' 0
    · rw [if_pos k7, if_pos k7]; exact Or.inl ⟨rfl, rfl⟩
    · rw [if_neg k7, if_neg k7]
      have es : f_X6_isIn (nu' 1).toInt64 0 9 = 1 := by
        rw [isIn_iff, i64, L0, i9, if_pos d1]
      rw [es, if_neg o0]
      by_cases l20 : (20 : Int32) < nu' 2
      · rw [if_pos l20, if_pos l20]; exact Or.inl ⟨rfl, rfl⟩
      · rw [if_neg l20, if_neg l20]
        by_cases f : re 5 = 12
        · rw [if_neg (show ¬ re 5 < 12 by rw [f]; decide), if_pos f]; exact Or.inl ⟨rfl, rfl⟩
        · have fn := xne f
          rw [i12] at fn
          rw [if_pos (show re 5 < 12 by rw [xlt, i12]; omega), if_neg f, bnd_eq, comes97]
          have hz := cl_nat (re 5)
          rw [xlt, i7] at k7
          rw [xlt, i20] at l20
          generalize hP : (re 5).toNatClampNeg = P at hz ⊢
          have n5 : (5 : Nat) < 7 + 4 * P := by omega
          have uj : ∀ j, j ≠ 5 → j ≠ 7 + 4 * P → j ≠ 8 + 4 * P → j ≠ 9 + 4 * P → j ≠ 10 + 4 * P → (upd (upd (upd (upd (upd re (7 + 4 * P + 0) (nu' 0)) (7 + 4 * P + (0 + 1)) (nu' (0 + 1))) (7 + 4 * P + (0 + 1 + 1)) (nu' (0 + 1 + 1))) (7 + 4 * P + 3) (-1)) 5 (upd (upd (upd (upd re (7 + 4 * P + 0) (nu' 0)) (7 + 4 * P + (0 + 1)) (nu' (0 + 1))) (7 + 4 * P + (0 + 1 + 1)) (nu' (0 + 1 + 1))) (7 + 4 * P + 3) (-1) 5 + 1)) j = re j := by
            intro j h5 h7 h8 h9 h10
            rw [upd_ne _ _ h5, upd_ne _ _ (by omega), upd_ne _ _ (by omega), upd_ne _ _ (by omega), upd_ne _ _ (by omega)]
          have u5 : (upd (upd (upd (upd (upd re (7 + 4 * P + 0) (nu' 0)) (7 + 4 * P + (0 + 1)) (nu' (0 + 1))) (7 + 4 * P + (0 + 1 + 1)) (nu' (0 + 1 + 1))) (7 + 4 * P + 3) (-1)) 5 (upd (upd (upd (upd re (7 + 4 * P + 0) (nu' 0)) (7 + 4 * P + (0 + 1)) (nu' (0 + 1))) (7 + 4 * P + (0 + 1 + 1)) (nu' (0 + 1 + 1))) (7 + 4 * P + 3) (-1) 5 + 1)) 5 = re 5 + 1 := by
            rw [upd_at, upd_ne _ _ (by omega), upd_ne _ _ (by omega), upd_ne _ _ (by omega), upd_ne _ _ (by omega)]
          have u7 : (upd (upd (upd (upd (upd re (7 + 4 * P + 0) (nu' 0)) (7 + 4 * P + (0 + 1)) (nu' (0 + 1))) (7 + 4 * P + (0 + 1 + 1)) (nu' (0 + 1 + 1))) (7 + 4 * P + 3) (-1)) 5 (upd (upd (upd (upd re (7 + 4 * P + 0) (nu' 0)) (7 + 4 * P + (0 + 1)) (nu' (0 + 1))) (7 + 4 * P + (0 + 1 + 1)) (nu' (0 + 1 + 1))) (7 + 4 * P + 3) (-1) 5 + 1)) (7 + 4 * P) = nu' 0 := by
            rw [upd_ne _ _ (by omega), upd_ne _ _ (by omega), upd_ne _ _ (by omega), upd_ne _ _ (by omega)]
            exact upd_at _ _ _
          have u8 : (upd (upd (upd (upd (upd re (7 + 4 * P + 0) (nu' 0)) (7 + 4 * P + (0 + 1)) (nu' (0 + 1))) (7 + 4 * P + (0 + 1 + 1)) (nu' (0 + 1 + 1))) (7 + 4 * P + 3) (-1)) 5 (upd (upd (upd (upd re (7 + 4 * P + 0) (nu' 0)) (7 + 4 * P + (0 + 1)) (nu' (0 + 1))) (7 + 4 * P + (0 + 1 + 1)) (nu' (0 + 1 + 1))) (7 + 4 * P + 3) (-1) 5 + 1)) (8 + 4 * P) = nu' 1 := by
            rw [upd_ne _ _ (by omega), upd_ne _ _ (by omega), upd_ne _ _ (by omega), show 8 + 4 * P = 7 + 4 * P + (0 + 1) by omega]
            exact upd_at _ _ _
          have u9 : (upd (upd (upd (upd (upd re (7 + 4 * P + 0) (nu' 0)) (7 + 4 * P + (0 + 1)) (nu' (0 + 1))) (7 + 4 * P + (0 + 1 + 1)) (nu' (0 + 1 + 1))) (7 + 4 * P + 3) (-1)) 5 (upd (upd (upd (upd re (7 + 4 * P + 0) (nu' 0)) (7 + 4 * P + (0 + 1)) (nu' (0 + 1))) (7 + 4 * P + (0 + 1 + 1)) (nu' (0 + 1 + 1))) (7 + 4 * P + 3) (-1) 5 + 1)) (9 + 4 * P) = nu' 2 := by
            rw [upd_ne _ _ (by omega), upd_ne _ _ (by omega), show 9 + 4 * P = 7 + 4 * P + (0 + 1 + 1) by omega]
            exact upd_at _ _ _
          have u10 : (upd (upd (upd (upd (upd re (7 + 4 * P + 0) (nu' 0)) (7 + 4 * P + (0 + 1)) (nu' (0 + 1))) (7 + 4 * P + (0 + 1 + 1)) (nu' (0 + 1 + 1))) (7 + 4 * P + 3) (-1)) 5 (upd (upd (upd (upd re (7 + 4 * P + 0) (nu' 0)) (7 + 4 * P + (0 + 1)) (nu' (0 + 1))) (7 + 4 * P + (0 + 1 + 1)) (nu' (0 + 1 + 1))) (7 + 4 * P + 3) (-1) 5 + 1)) (10 + 4 * P) = -1 := by
            rw [upd_ne _ _ (by omega), show 10 + 4 * P = 7 + 4 * P + 3 by omega]
            exact upd_at _ _ _
          generalize (upd (upd (upd (upd (upd re (7 + 4 * P + 0) (nu' 0)) (7 + 4 * P + (0 + 1)) (nu' (0 + 1))) (7 + 4 * P + (0 + 1 + 1)) (nu' (0 + 1 + 1))) (7 + 4 * P + 3) (-1)) 5 (upd (upd (upd (upd re (7 + 4 * P + 0) (nu' 0)) (7 + 4 * P + (0 + 1)) (nu' (0 + 1))) (7 + 4 * P + (0 + 1 + 1)) (nu' (0 + 1 + 1))) (7 + 4 * P + 3) (-1) 5 + 1)) = U at uj u5 u7 u8 u9 u10 ⊢
          refine Or.inr ⟨o0, o0, (uj 0 (by omega) (by omega) (by omega) (by omega) (by omega)).symm, (uj 1 (by omega) (by omega) (by omega) (by omega) (by omega)).symm, (uj 2 (by omega) (by omega) (by omega) (by omega) (by omega)).symm, (uj 3 (by omega) (by omega) (by omega) (by omega) (by omega)).symm, (uj 4 (by omega) (by omega) (by omega) (by omega) (by omega)).symm, u5.symm, uj 6 (by omega) (by omega) (by omega) (by omega) (by omega), ?_⟩
          exact RG.add (k0 := nu' 0) (t0 := nu' 1) (l0 := nu' 2) h r6 hP.symm (by omega) u7 u8 u9 u10 u5 uj ⟨d0.1, by omega⟩ d1 ⟨d2, by omega⟩
  · rw [if_neg c, if_neg c]
    exact Or.inl ⟨rfl, rfl⟩
end
/-! SAME ANSWERS: crowds -/
def okS (T : Nat → Int32) (n p : Nat) : Int32 := (f_X2_readStatement (nI p) 0 0 0 0 (nI n) T).1
def nxS (T : Nat → Int32) (n p : Nat) : Nat := (f_X2_readStatement (nI p) 0 0 0 0 (nI n) T).2.1.toNatClampNeg
/-- what both readers say of a statement -/
def RDs (T : Nat → Int32) (n p : Nat) (a : Int32 × Int32 × Int32 × Int32 × Int32 × Int32 × Int32) (b : Int32 × Int32 × Int32 × (Nat → Int32)) : Prop := a.1 = okS T n p ∧ b.1 = okS T n p ∧ a.2.1 = nI (nxS T n p) ∧ b.2.1 = nI (nxS T n p) ∧ nxS T n p ≤ 100 ∧ (okS T n p = 0 ∨ (okS T n p = 1 ∧ p + 2 ≤ nxS T n p ∧ nxS T n p ≤ n ∧ a.2.2.1 = T p ∧ ((T p = 112 ∧ a.2.2.2.1 = b.2.2.2 0 ∧ a.2.2.2.2.1 = b.2.2.2 1 ∧ a.2.2.2.2.2.1 = b.2.2.2 2 ∧ (0 ≤ (b.2.2.2 0).toInt ∧ (b.2.2.2 0).toInt ≤ 9) ∧ (0 ≤ (b.2.2.2 1).toInt ∧ (b.2.2.2 1).toInt ≤ 9) ∧ 0 ≤ (b.2.2.2 2).toInt) ∨ (T p = 103 ∧ a.2.2.2.1 = b.2.2.2 0 ∧ a.2.2.2.2.1 = b.2.2.2 1) ∨ (T p = 104 ∧ a.2.2.2.1 = b.2.2.2 0) ∨ T p = 98 ∨ T p = 110)))
theorem rds {T el nu : Nat → Int32} {n p : Nat} {ba fi se th nuc : Int32} (hn : n ≤ 100) (hp : p ≤ 100) (hT : ∀ q, q < n → el ((ba + nI q).toNatClampNeg) = T q) : RDs T n p (f_X2_readStatement (nI p) fi se th nuc (nI n) T) (f_X6_readsStatement (nI p) ba (nI n) el nu) := by
  have h1 := rs_rel (T := T) (el := el) (nu := nu) (ba := ba) (fi := fi) (se := se) (th := th) (nuc := nuc) hn hp hT
  have h2 := rs_rel (T := T) (el := el) (nu := nu) (ba := ba) (fi := 0) (se := 0) (th := 0) (nuc := 0) hn hp hT
  obtain ⟨q, A, B, C, D⟩ := h1
  obtain ⟨q0, A0, B0, C0, D0⟩ := h2
  have e : q0 = q := nI_inj' (by omega) (by omega) (B0.symm.trans B)
  subst e
  have hnx : nxS T n p = q0 := by unfold nxS; rw [A0, nI_clamp (by omega)]
  unfold RDs
  rw [hnx]
  rcases D with ⟨d1, d2⟩ | ⟨d1, d2, d3, d4, d5, d6⟩
  · rcases D0 with ⟨c1, c2⟩ | ⟨c1, c2, _⟩
    · exact ⟨d1.trans c1.symm, d2.trans c1.symm, A, B, C, Or.inl c1⟩
    · exact absurd (d2.symm.trans c2) (by decide)
  · rcases D0 with ⟨c1, c2⟩ | ⟨c1, c2, _⟩
    · exact absurd (d2.symm.trans c2) (by decide)
    · exact ⟨d1.trans c1.symm, d2.trans c1.symm, A, B, C, Or.inr ⟨c1, d3, d4, d5, d6⟩⟩
def chS (T : Nat → Int32) (n : Nat) : Nat → Nat → Prop
  | 0, p => n ≤ p
  | c + 1, p => p < n ∧ okS T n p = 1 ∧ chS T n c (nxS T n p)
/-- the statements counted -/
theorem pass1 {d : Int32} {T ss si el re : Nat → Int32} {n : Nat} (hn : n ≤ 100) (es : si (d.toNatClampNeg) = nI n) (hT : ∀ q, q < n → el ((100 * d + nI q).toNatClampNeg) = T q) :
    ∀ (N k p k2 : Nat) (le fi se th nuc tl : Int32) (nu : Nat → Int32), 2 * k ≤ p → p ≤ 100 → 101 ≤ N + k →
    ((f_X2_countStatements_L4 (nI n) T N k (nI k) (nI p) le fi se th nuc).1 = 0 ∧ (f_X6_crowd_L38 d ss si el re N k2 (nI k) (nI p) tl nu).1 = -1000 - (f_X2_countStatements_L4 (nI n) T N k (nI k) (nI p) le fi se th nuc).2.1 ∧ (f_X6_crowd_L38 d ss si el re N k2 (nI k) (nI p) tl nu).2.1 = ss) ∨
    (∃ c x39, 1 ≤ c ∧ k + c ≤ 51 ∧ chS T n c p ∧ (f_X2_countStatements_L4 (nI n) T N k (nI k) (nI p) le fi se th nuc).1 = nI (k + c) ∧ f_X6_crowd_L38 d ss si el re N k2 (nI k) (nI p) tl nu = f_X6_crowd_L71 d ss si el (nI (k + c - 1)) x39 (55 + 1) 0 re) := by
  intro N
  induction N with
  | zero => intro k p _ _ _ _ _ _ _ _ h1 h2 h3; omega
  | succ N ih =>
    intro k p k2 le fi se th nuc tl nu h1 h2 h3
    have hr := rds (el := el) (nu := nu) (fi := fi) (se := se) (th := th) (nuc := nuc) hn h2 hT
    rw [f_X2_countStatements_L4_s, f_X6_crowd_L38_s, es, if_neg (show ¬ (100 : Int32) ≤ nI k by rw [show (100 : Int32) = nI 100 from rfl, nI_leI (by decide) (by omega)]; omega), bnd_eq, bnd_eq]
    generalize f_X2_readStatement (nI p) fi se th nuc (nI n) T = a at hr ⊢
    generalize f_X6_readsStatement (nI p) (100 * d) (nI n) el nu = b at hr ⊢
    obtain ⟨r1, r2, r3, r4, r5, z | ⟨z, z1, z2, _⟩⟩ := hr
    · rw [if_pos (r1.trans z), if_pos (r2.trans z)]
      exact Or.inl ⟨rfl, by show -1000 - b.2.1 = -1000 - a.2.1; rw [r3, r4], rfl⟩
    · rw [if_neg (show ¬ a.1 = 0 by rw [r1, z]; decide), if_neg (show ¬ b.1 = 0 by rw [r2, z]; decide), r3, r4]
      by_cases g : nI (nxS T n p) < nI n
      · rw [if_pos g, if_pos g, nI_1]
        rcases ih (k + 1) (nxS T n p) 0 a.2.2.1 a.2.2.2.1 a.2.2.2.2.1 a.2.2.2.2.2.1 a.2.2.2.2.2.2 b.2.2.1 b.2.2.2 (by omega) r5 (by omega) with ⟨g1, g2, g3⟩ | ⟨c, x39, g1, g2, g3, g4, g5⟩
        · exact Or.inl ⟨g1, g2, g3⟩
        · have ee : k + 1 + c = k + (c + 1) := by omega
          rw [ee] at g4 g5
          exact Or.inr ⟨c + 1, x39, by omega, by omega, ⟨by omega, z, g3⟩, g4, g5⟩
      · rw [if_neg g, if_neg g, nI_1]
        rw [nI_ltI (by omega) (by omega)] at g
        exact Or.inr ⟨1, b, Nat.le_refl _, by omega, ⟨by omega, z, by show n ≤ _; omega⟩, rfl, rfl⟩
theorem p71 {d v3 : Int32} {ss si el : Nat → Int32} {x39 : Int32 × Int32 × Int32 × (Nat → Int32)} : ∀ (n k : Nat) (u : Nat → Int32), k ≤ 55 → 55 - k < n → (∀ j, j < k → u j = ss j) →
    ∃ re' : Nat → Int32, (∀ j, j < 55 → re' j = ss j) ∧ f_X6_crowd_L71 d ss si el v3 x39 n k u = f_X6_crowd_L103 d ss si el v3 101 0 0 x39.2.2.1 x39.2.2.2 re' := by
  intro n
  induction n with
  | zero => intro k u _ h; exact absurd h (Nat.not_lt_zero _)
  | succ n ih =>
    intro k u hk hm hu
    rw [f_X6_crowd_L71_s]
    by_cases c : (55 : Int32) ≤ nI k
    · rw [if_pos c]
      rw [show (55 : Int32) = nI 55 from rfl, nI_leI (by decide) (by omega)] at c
      exact ⟨u, fun j hj => hu j (by omega), rfl⟩
    · rw [if_neg c]
      rw [show (55 : Int32) = nI 55 from rfl, nI_leI (by decide) (by omega)] at c
      refine ih (k + 1) _ (by omega) (by omega) (fun j hj => ?_)
      by_cases hjk : j = k
      · subst hjk; exact upd_at _ _ _
      · rw [upd_ne _ _ hjk]; exact hu j (by omega)
theorem p154 {d v3 po tl : Int32} {si nu re : Nat → Int32} : ∀ (n k : Nat) (u : Nat → Int32), k ≤ 55 → 55 - k < n → (∀ j, j < k → u j = re j) →
    (f_X6_crowd_L154 d si v3 po tl nu re n k u).1 = v3 + 1 ∧ ∀ j, j < 55 → (f_X6_crowd_L154 d si v3 po tl nu re n k u).2.1 j = re j := by
  intro n
  induction n with
  | zero => intro k u _ h; exact absurd h (Nat.not_lt_zero _)
  | succ n ih =>
    intro k u hk hm hu
    rw [f_X6_crowd_L154_s]
    by_cases c : (55 : Int32) ≤ nI k
    · rw [if_pos c]
      rw [show (55 : Int32) = nI 55 from rfl, nI_leI (by decide) (by omega)] at c
      exact ⟨rfl, fun j hj => hu j (by omega)⟩
    · rw [if_neg c]
      rw [show (55 : Int32) = nI 55 from rfl, nI_leI (by decide) (by omega)] at c
      refine ih (k + 1) _ (by omega) (by omega) (fun j hj => ?_)
      by_cases hjk : j = k
      · subst hjk; exact upd_at _ _ _
      · rw [upd_ne _ _ hjk]; exact hu j (by omega)
/-- the answers are one, and what is now goes with the reference's row -/
def CW (y : Int32 × Int32 × Int32 × Int32 × Int32 × Int32 × Int32 × Int32 × Int32 × Int32 × Int32 × (Nat → Int32) × (Nat → Int32) × (Nat → Int32) × (Nat → Int32) × (Nat → Int32) × Int32 × Int32 × Int32 × Int32 × Int32 × Int32 × Int32 × Int32 × Int32 × Int32 × (Nat → Int32) × (Nat → Int32) × (Nat → Int32) × (Nat → Int32) × (Nat → Int32)) (m : Int32 × (Nat → Int32) × (Nat → Int32) × Int32 × Int32 × Int32 × Int32 × (Nat → Int32)) : Prop := y.1 = m.1 ∧ y.2.1 = m.2.1 0 ∧ y.2.2.1 = m.2.1 1 ∧ y.2.2.2.1 = m.2.1 2 ∧ y.2.2.2.2.1 = m.2.1 3 ∧ y.2.2.2.2.2.1 = m.2.1 4 ∧ y.2.2.2.2.2.2.1 = m.2.1 6 ∧ y.2.2.2.2.2.2.2.1 = m.2.1 5 ∧ RG m.2.1 y.2.2.2.2.2.2.2.2.1 y.2.2.2.2.2.2.2.2.2.2.1 y.2.2.2.2.2.2.2.2.2.2.2.1 y.2.2.2.2.2.2.2.2.2.2.2.2.1 y.2.2.2.2.2.2.2.2.2.2.2.2.2.1 y.2.2.2.2.2.2.2.2.2.2.2.2.2.2.1 y.2.2.2.2.2.2.2.2.2.2.2.2.2.2.2.1
theorem pass2 {d v3 ls so sz : Int32} {T ss si el cf nu ki st sl rsz : Nat → Int32} {rel : Nat → Nat → Int32} {n C : Nat} {x45 : Int32 × Int32 × Int32 × Int32 × Int32 × Int32 × Int32} {x74 : Int32 × Int32 × Int32 × Int32 × Int32 × Int32 × Int32 × Int32 × Int32 × Int32 × (Nat → Int32) × (Nat → Int32) × (Nat → Int32) × (Nat → Int32) × (Nat → Int32)} (hn : n ≤ 100) (es : si (d.toNatClampNeg) = nI n) (er : rsz (d.toNatClampNeg) = nI n) (eT : rel (d.toNatClampNeg) = T) (hT : ∀ q, q < n → el ((100 * d + nI q).toNatClampNeg) = T q) (e45 : x45.1 = nI C) (hC : 1 ≤ C ∧ C ≤ 51) (ev : v3 = nI (C - 1)) (hss : RG ss ls sz cf nu ki st sl) :
    ∀ (c N N6 k k6 p : Nat) (re qnu qki qst qsl nu' : Nat → Int32) (le fi se th nuc tl : Int32), k + c = C → c < N → c < N6 → p ≤ 100 → chS T n c p → RG re x74.2.2.2.2.2.2.2.1 x74.2.2.2.2.2.2.2.2.2.1 x74.2.2.2.2.2.2.2.2.2.2.1 qnu qki qst qsl → x74.2.2.2.2.2.1 = re 6 →
    CW (f_X5_crowd_L86 d (ss 0) (ss 1) (ss 2) (ss 3) (ss 4) (ss 6) (ss 5) ls so sz cf nu ki st sl rsz rel x45 x74 N k (re 0) (re 1) (re 2) (re 3) (re 4) (re 5) qnu qki qst qsl (nI p) le fi se th nuc) (f_X6_crowd_L103 d ss si el v3 N6 k6 (nI p) tl nu' re) := by
  intro c
  induction c with
  | zero =>
    intro N N6 k k6 p re qnu qki qst qsl nu' le fi se th nuc tl hk hN hN6 hp hch hR e6
    obtain ⟨N, rfl⟩ : ∃ m, N = m + 1 := ⟨N - 1, by omega⟩
    obtain ⟨N6, rfl⟩ : ∃ m, N6 = m + 1 := ⟨N6 - 1, by omega⟩
    have hch : n ≤ p := hch
    have hk : k = C := hk
    rw [f_X5_crowd_L86_s, f_X6_crowd_L103_s, e45, if_pos (show nI C ≤ nI k by rw [hk, nI_leI (by omega) (by omega)]; exact Nat.le_refl _), es, if_pos (show nI n ≤ nI p by rw [nI_leI (by omega) (by omega)]; exact hch), bnd_eq, tf_eq]
    obtain ⟨w1, w2⟩ := p154 (d := d) (v3 := v3) (po := nI p) (tl := tl) (si := si) (nu := nu') (re := re) (55 + 1) 0 ss (Nat.zero_le _) (by omega) (fun j hj => absurd hj (Nat.not_lt_zero _))
    refine ⟨?_, (w2 0 (by omega)).symm, (w2 1 (by omega)).symm, (w2 2 (by omega)).symm, (w2 3 (by omega)).symm, (w2 4 (by omega)).symm, e6.trans (w2 6 (by omega)).symm, (w2 5 (by omega)).symm, RG.copy (f := cf) (so := x74.2.2.2.2.2.2.2.2.1) (a := nu) (b := ki) (c := st) (d := sl) hR w2⟩
    show nI C = (f_X6_crowd_L154 d si v3 (nI p) tl nu' re (55 + 1) 0 ss).1
    rw [w1, ev, nI_1, show C - 1 + 1 = C by omega]
  | succ c ih =>
    intro N N6 k k6 p re qnu qki qst qsl nu' le fi se th nuc tl hk hN hN6 hp hch hR e6
    obtain ⟨N, rfl⟩ : ∃ m, N = m + 1 := ⟨N - 1, by omega⟩
    obtain ⟨N6, rfl⟩ : ∃ m, N6 = m + 1 := ⟨N6 - 1, by omega⟩
    obtain ⟨h1, h2, h3⟩ := hch
    have hr := rds (el := el) (nu := nu') (fi := fi) (se := se) (th := th) (nuc := nuc) hn hp hT
    rw [f_X5_crowd_L86_s, f_X6_crowd_L103_s, e45, if_neg (show ¬ nI C ≤ nI k by rw [nI_leI (by omega) (by omega)]; omega), es, er, eT, if_neg (show ¬ nI n ≤ nI p by rw [nI_leI (by omega) (by omega)]; omega), bnd_eq, bnd_eq, bnd_eq, bnd_eq, r6_here hn hp hT, if_pos h1]
    generalize f_X2_readStatement (nI p) fi se th nuc (nI n) T = a at hr ⊢
    generalize f_X6_readsStatement (nI p) (100 * d) (nI n) el nu' = b at hr ⊢
    obtain ⟨r1, r2, r3, r4, r5, z | ⟨z, z1, z2, z3, z4⟩⟩ := hr
    · exact absurd (h2.symm.trans z) (by decide)
    rw [if_neg (show ¬ a.1 = 0 by rw [r1, z]; decide), e6]
    have hf : FC (f_X0_follows (re 0) (re 1) (re 2) (re 3) (re 4) (re 6) (re 5) a.2.2.1 a.2.2.2.1 a.2.2.2.2.1 a.2.2.2.2.2.1 qnu qki qst qsl) (f_X6_comes (T p) re b.2.2.2) x74.2.2.2.2.2.2.2.1 x74.2.2.2.2.2.2.2.2.2.1 (re 6) x74.2.2.2.2.2.2.2.2.2.2.1 := by
      rw [z3]
      rcases z4 with ⟨t, v0, v1, v2, w0, w1, w2⟩ | ⟨t, v0, v1⟩ | ⟨t, v0⟩ | t | t
      · exact fc_112 hR t v0 v1 v2 w0 w1 w2
      · exact fc_103 hR t v0 v1
      · exact fc_104 hR t v0
      · exact fc_98 hR t
      · exact fc_110 hR t
    generalize f_X0_follows (re 0) (re 1) (re 2) (re 3) (re 4) (re 6) (re 5) a.2.2.1 a.2.2.2.1 a.2.2.2.2.1 a.2.2.2.2.2.1 qnu qki qst qsl = f at hf ⊢
    generalize f_X6_comes (T p) re b.2.2.2 = m at hf ⊢
    rcases hf with ⟨f0, m0⟩ | ⟨f1, m1, g0, g1, g2, g3, g4, g5, g6, g7⟩
    · rw [if_pos f0, if_pos m0]
      exact ⟨rfl, rfl, rfl, rfl, rfl, rfl, rfl, rfl, hss⟩
    · rw [if_neg f1, if_neg m1, g0, g1, g2, g3, g4, g5, r3, r4]
      exact ih N N6 (k + 1) 0 (nxS T n p) m.2 _ _ _ _ _ _ _ _ _ _ _ (by omega) (by omega) (by omega) r5 h3 g7 (e6.trans g6.symm)
section
variable {ke so si el kd kt ho rso rsz snu ski sst ssl : Nat → Int32} {rel : Nat → Nat → Int32}
theorem crowd_m {d ls so0 sz po ba en tl mup mdn mhi mpz mz mrr mpp mls mso msz : Int32} {ss re nu' cf mcf nu ki st sl qnu qki qst qsl : Nat → Int32} (hS : RS ke so si el kd kt ho rso rsz rel snu ski sst ssl) (h : RG ss ls sz cf nu ki st sl) :
    CW (f_X5_crowd d (ss 0) (ss 1) (ss 2) (ss 3) (ss 4) (ss 6) (ss 5) ls so0 sz cf mup mdn mhi mpz mz mrr mpp mls mso msz mcf nu ki st sl qnu qki qst qsl ho rso rsz rel) (f_X6_crowd d po ba en tl ss ke so si el re nu') := by
  unfold f_X5_crowd f_X6_crowd
  by_cases c : ¬ d < 0 ∧ ¬ (8 : Int32) ≤ d
  · rw [if_pos c]
    obtain ⟨ed, hd⟩ := sh_ok c
    obtain ⟨a1, a2, a3, a4, a5, a6, a7⟩ := hS _ hd
    have hi := ed
    generalize hdi : d.toNatClampNeg = i at ed hd a1 a2 a3 a4 a5 a6 a7
    have hw : f_X6_wrongRow d 0 ke so = if f_X5_rowRefusal (ho i) = 0 then (if rso i = 0 then 0 else -12) else f_X5_rowRefusal (ho i) := by
      unfold f_X6_wrongRow f_X5_rowRefusal f_X5_refusalUnless
      rw [ed, shelf_i hd, if_neg o0, nI_clamp (by omega), a1, a3, if_neg (show ¬ (0 : Int32) < 0 by decide)]
      by_cases g0 : ho i = 0
      · rw [if_pos g0, if_pos g0, if_neg (by decide)]
      · rw [if_neg g0, if_neg g0]
        by_cases g2 : ho i = 2
        · rw [if_pos g2, if_pos g2, if_pos rfl]
        · rw [if_neg g2, if_neg g2, if_neg (by decide)]
    rw [hw]
    by_cases r : f_X5_rowRefusal (ho i) = 0
    · rw [if_pos r, if_pos r]
      by_cases s0 : rso i = 0
      · rw [if_pos s0, if_pos s0, if_pos rfl, bnd_eq]
        have hz := cl_nat (rsz i)
        have en : rsz i = nI (rsz i).toNatClampNeg := asN a5.1
        generalize hnn : (rsz i).toNatClampNeg = n at en hz
        have hn : n ≤ 100 := by omega
        have hT : ∀ q, q < n → el ((100 * d + nI q).toNatClampNeg) = rel i q := by
          intro q hq
          have e1 := hundred (i := i) (x := nI q) hd (by rw [nI_toInt (by omega)]; omega)
          rw [nI_toInt (by omega), ← ed] at e1
          rw [cl_nat, e1, ← a6 q (by omega)]
          congr 1 <;> omega
        have es : si (d.toNatClampNeg) = nI n := by rw [hdi, a4, en]
        have h1 : ((f_X2_countStatements 0 0 0 0 0 0 (nI n) (rel i)).1 = 0 ∧ (f_X6_crowd_L38 d ss si el re 101 0 0 0 tl nu').1 = -1000 - (f_X2_countStatements 0 0 0 0 0 0 (nI n) (rel i)).2.1 ∧ (f_X6_crowd_L38 d ss si el re 101 0 0 0 tl nu').2.1 = ss) ∨
            (∃ c x39, 1 ≤ c ∧ 0 + c ≤ 51 ∧ chS (rel i) n c 0 ∧ (f_X2_countStatements 0 0 0 0 0 0 (nI n) (rel i)).1 = nI (0 + c) ∧ f_X6_crowd_L38 d ss si el re 101 0 0 0 tl nu' = f_X6_crowd_L71 d ss si el (nI (0 + c - 1)) x39 (55 + 1) 0 re) :=
          pass1 (d := d) (ss := ss) (re := re) hn es hT 101 0 0 0 0 0 0 0 0 tl nu' (by omega) (by omega) (by omega)
        rw [en]
        generalize f_X2_countStatements 0 0 0 0 0 0 (nI n) (rel i) = x at h1 ⊢
        rcases h1 with ⟨q1, q2, q3⟩ | ⟨c, x39, q1, q2, q3, q4, q5⟩
        · rw [if_neg (show ¬ (1 : Int32) ≤ x.1 by rw [q1]; decide)]
          generalize f_X6_crowd_L38 d ss si el re 101 0 0 0 tl nu' = m at q2 q3 ⊢
          refine ⟨q2.symm, ?_⟩
          rw [q3]
          exact ⟨rfl, rfl, rfl, rfl, rfl, rfl, rfl, h⟩
        · rw [Nat.zero_add] at q2 q4 q5
          rw [if_pos (show (1 : Int32) ≤ x.1 by rw [q4, show (1 : Int32) = nI 1 from rfl, nI_leI (by decide) (by omega)]; exact q1), bnd_eq, q5]
          obtain ⟨re', e1, e2⟩ := p71 (d := d) (v3 := nI (c - 1)) (ss := ss) (si := si) (el := el) (x39 := x39) (55 + 1) 0 re (Nat.zero_le _) (by omega) (fun j hj => absurd hj (Nat.not_lt_zero _))
          rw [e2, tf_eq]
          have hc : x.1.toNatClampNeg = c := by rw [q4, nI_clamp (by omega)]
          have hRc := RG.copy (f := mcf) (so := so0) (a := qnu) (b := qki) (c := qst) (d := qsl) h e1
          have h0 := e1 0 (by omega)
          have h1 := e1 1 (by omega)
          have h2 := e1 2 (by omega)
          have h3 := e1 3 (by omega)
          have h4 := e1 4 (by omega)
          have h5 := e1 5 (by omega)
          have h6 := e1 6 (by omega)
          have fin := pass2 (d := d) (v3 := nI (c - 1)) (ls := ls) (so := so0) (sz := sz) (T := rel i) (ss := ss) (si := si) (el := el) (cf := cf) (nu := nu) (ki := ki) (st := st) (sl := sl) (rsz := rsz) (rel := rel) (n := n) (C := c) (x45 := x) (x74 := (ss 0, ss 1, ss 2, ss 3, ss 4, ss 6, ss 5, ls, (f_X3_takeFrom 12 mcf so0 sz cf).1, (f_X3_takeFrom 12 mcf so0 sz cf).2.1, (f_X3_takeFrom 12 mcf so0 sz cf).2.2, cp 12 qnu nu, cp 12 qki ki, cp 12 qst st, cp 12 qsl sl)) hn es (by rw [hdi, en]) (by rw [hdi]) hT q4 ⟨q1, q2⟩ rfl h c (c + 1) 101 0 0 0 re' (cp 12 qnu nu) (cp 12 qki ki) (cp 12 qst st) (cp 12 qsl sl) x39.2.2.2 x.2.2.1 x.2.2.2.1 x.2.2.2.2.1 x.2.2.2.2.2.1 x.2.2.2.2.2.2 x39.2.2.1 (by omega) (by omega) (by omega) (by omega) q3 hRc h6.symm
          rw [h0, h1, h2, h3, h4, h5] at fin
          rw [hc]
          exact fin
      · rw [if_neg s0, if_neg s0, if_neg (by decide)]
        exact ⟨rfl, rfl, rfl, rfl, rfl, rfl, rfl, rfl, h⟩
    · rw [if_neg r, if_neg r, if_neg r]
      exact ⟨rfl, rfl, rfl, rfl, rfl, rfl, rfl, rfl, h⟩
  · rw [if_neg c, wrow_no c, if_neg (by decide)]
    exact ⟨rfl, rfl, rfl, rfl, rfl, rfl, rfl, rfl, h⟩
end
