/-! SAME ANSWERS: shelves -/
def tossV (nu ki st sl : Int32) : Int32 := if f_X1_fail ki st = 0 then -15 else if f_X1_fail ki st = 3 then 200 + f_X1_depthOfKind ki st sl else if f_X1_fail ki st = 1 then 100 + nu else nu
/-- the class's shelves and the reference's -/
def RS (ke so si el kd kt ho rso rsz : Nat → Int32) (rel : Nat → Nat → Int32) (snu ski sst ssl : Nat → Int32) : Prop := ∀ i, i < 8 → ke i = ho i ∧ (ho i = 0 ∨ ho i = 1 ∨ ho i = 2) ∧ so i = rso i ∧ si i = rsz i ∧ (0 ≤ (rsz i).toInt ∧ (rsz i).toInt ≤ 100) ∧ (∀ j, j < 100 → el (100 * i + j) = rel i j) ∧ (ho i = 1 → kd i = f_X1_depthOfKind (ski i) (sst i) (ssl i) ∧ kt i = tossV (snu i) (ski i) (sst i) (ssl i))
theorem sh_ok {d : Int32} (c : ¬ d < 0 ∧ ¬ (8 : Int32) ≤ d) : d = nI d.toNatClampNeg ∧ d.toNatClampNeg < 8 := by
  rw [xlt, xle, x0] at c
  have a := cl_nat d
  have b : (8 : Int32).toInt = 8 := rfl
  exact ⟨asN (by omega), by omega⟩
theorem shelf_i {i : Nat} (h : i < 8) : f_X6_isShelf (nI i) = 1 := by
  rw [shelf_eq, if_pos]
  rw [xlt, xle, x0, nI_toInt (by omega)]
  have b : (8 : Int32).toInt = 8 := rfl
  omega
theorem shelf_no {d : Int32} (c : ¬ (¬ d < 0 ∧ ¬ (8 : Int32) ≤ d)) : f_X6_isShelf d = 0 := by rw [shelf_eq, if_neg c]
theorem wrow_i {i : Nat} {ke so ho : Nat → Int32} (h : i < 8) (e : ke i = ho i) : f_X6_wrongRow (nI i) (-1) ke so = f_X5_rowRefusal (ho i) := by
  unfold f_X6_wrongRow f_X5_rowRefusal f_X5_refusalUnless
  rw [shelf_i h, if_neg o0, nI_clamp (by omega), e, if_pos (show (-1 : Int32) < 0 by decide)]
theorem wrow_no {d of0 : Int32} {ke so : Nat → Int32} (c : ¬ (¬ d < 0 ∧ ¬ (8 : Int32) ≤ d)) : f_X6_wrongRow d of0 ke so = -1 := by
  unfold f_X6_wrongRow
  rw [shelf_no c, if_pos rfl]
theorem depthOf_eq {i : Nat} {ss : Nat → Int32} (hi : i < 12) : f_X6_depthOf (nI i) ss = f_X1_depthOfKind (ss (7 + 4 * i)) (ss (8 + 4 * i)) (ss (9 + 4 * i)) := by
  unfold f_X6_depthOf f_X1_depthOfKind
  rw [get0 hi, get1 hi, get2 hi]
  have e : (6 : Int32) + 10 * ss (8 + 4 * i) = 1 + 10 * ss (8 + 4 * i) + 5 := by
    rw [Int32.add_assoc, Int32.add_comm (10 * ss (8 + 4 * i)) 5, ← Int32.add_assoc]; rfl
  rw [e]
  rfl
section
variable {ke so si el kd kt ho rso rsz snu ski sst ssl : Nat → Int32} {rel : Nat → Nat → Int32}
theorem keep_m {d what p ls sz : Int32} {ss cf nu ki st sl : Nat → Int32} (hS : RS ke so si el kd kt ho rso rsz rel snu ski sst ssl) (h : RG ss ls sz cf nu ki st sl) :
    (f_X5_keep d what p (ss 5) nu ki st sl ho snu ski sst ssl).1 = (f_X6_keep d what p ss ke kd kt).1 ∧
    RS (f_X6_keep d what p ss ke kd kt).2.1 so si el (f_X6_keep d what p ss ke kd kt).2.2.1 (f_X6_keep d what p ss ke kd kt).2.2.2 (f_X5_keep d what p (ss 5) nu ki st sl ho snu ski sst ssl).2.1 rso rsz rel (f_X5_keep d what p (ss 5) nu ki st sl ho snu ski sst ssl).2.2.1 (f_X5_keep d what p (ss 5) nu ki st sl ho snu ski sst ssl).2.2.2.1 (f_X5_keep d what p (ss 5) nu ki st sl ho snu ski sst ssl).2.2.2.2.1 (f_X5_keep d what p (ss 5) nu ki st sl ho snu ski sst ssl).2.2.2.2.2 := by
  have h5 := h.1.2.2.2.2.1
  unfold f_X5_keep f_X6_keep
  by_cases c : ¬ d < 0 ∧ ¬ (8 : Int32) ≤ d
  · rw [if_pos c, shelf_eq, if_pos c, if_neg o0, one2_eq]
    by_cases w : f_X6_isIn what.toInt64 0 1 = 0
    · rw [if_pos w, if_pos w]
      exact ⟨rfl, hS⟩
    · rw [if_neg w, if_neg w]
      obtain ⟨_, hd⟩ := sh_ok c
      generalize d.toNatClampNeg = i at hd
      by_cases w0 : what = 0
      · rw [if_pos w0, w0, if_neg (by decide), if_pos rfl]
        refine ⟨rfl, fun j hj => ?_⟩
        obtain ⟨a1, a2, a3, a4, a5, a6, a7⟩ := hS j hj
        by_cases hji : j = i
        · subst hji
          refine ⟨(upd_at _ _ _).trans (upd_at _ _ _).symm, Or.inl (upd_at _ _ _), a3, a4, a5, a6, fun q => ?_⟩
          have q : upd ho j 0 j = 1 := q
          rw [upd_at] at q
          exact absurd q (by decide)
        · show upd ke i 0 j = upd ho i 0 j ∧ (upd ho i 0 j = 0 ∨ upd ho i 0 j = 1 ∨ upd ho i 0 j = 2) ∧ _ ∧ _ ∧ _ ∧ _ ∧ (upd ho i 0 j = 1 → _)
          rw [upd_ne _ _ hji, upd_ne _ _ hji]
          exact ⟨a1, a2, a3, a4, a5, a6, a7⟩
      · have w1 : what = 1 := by
          by_cases q : what = 1
          · exact q
          · exfalso
            apply w
            rw [← one2_eq]
            unfold f_X5_isOneOfTwo
            rw [if_neg w0, if_neg q]
        rw [if_neg w0, if_pos w1, person_eq h5]
        by_cases cp0 : ¬ p < 0 ∧ ¬ ss 5 ≤ p
        · rw [if_pos cp0, if_pos cp0, if_neg o0, if_neg w0, bnd_eq]
          obtain ⟨ep, l1, l2⟩ := pers_ok h5 cp0
          generalize p.toNatClampNeg = k at ep l1 l2
          subst ep
          obtain ⟨q0, q1, q2, q3, _⟩ := h.2.1.1 k l1
          rw [get0 l2, get1 l2, depthOf_eq l2, w1]
          have e1 : f_X1_takeFrom (nu k) (ki k) (st k) (sl k) = (nI k, ss (7 + 4 * k), ss (8 + 4 * k), ss (9 + 4 * k)) := by rw [q0, q1, q2, q3]; rfl
          rw [e1]
          have hkt : (if ss (7 + 4 * k) = 4 then ((0 : Int32), upd ke i 1, upd kd i (f_X1_depthOfKind (ss (7 + 4 * k)) (ss (8 + 4 * k)) (ss (9 + 4 * k))), upd kt i (-15)) else (if ss (7 + 4 * k) = 5 then (0, upd ke i 1, upd kd i (f_X1_depthOfKind (ss (7 + 4 * k)) (ss (8 + 4 * k)) (ss (9 + 4 * k))), upd kt i (-15)) else (if ss (8 + 4 * k) = 0 then (0, upd ke i 1, upd kd i (f_X1_depthOfKind (ss (7 + 4 * k)) (ss (8 + 4 * k)) (ss (9 + 4 * k))), upd kt i (-15)) else (if ss (7 + 4 * k) = 3 then (0, upd ke i 1, upd kd i (f_X1_depthOfKind (ss (7 + 4 * k)) (ss (8 + 4 * k)) (ss (9 + 4 * k))), upd kt i (100 + nI k)) else (if ss (7 + 4 * k) = 6 then (0, upd ke i 1, upd kd i (f_X1_depthOfKind (ss (7 + 4 * k)) (ss (8 + 4 * k)) (ss (9 + 4 * k))), upd kt i (200 + f_X1_depthOfKind (ss (7 + 4 * k)) (ss (8 + 4 * k)) (ss (9 + 4 * k)))) else (0, upd ke i 1, upd kd i (f_X1_depthOfKind (ss (7 + 4 * k)) (ss (8 + 4 * k)) (ss (9 + 4 * k))), upd kt i (nI k)))))))
              = (0, upd ke i 1, upd kd i (f_X1_depthOfKind (ss (7 + 4 * k)) (ss (8 + 4 * k)) (ss (9 + 4 * k))), upd kt i (tossV (nI k) (ss (7 + 4 * k)) (ss (8 + 4 * k)) (ss (9 + 4 * k)))) := by
            unfold tossV f_X1_fail
            by_cases k4 : ss (7 + 4 * k) = 4
            · rw [if_pos k4, if_pos k4, if_pos rfl]
            · rw [if_neg k4, if_neg k4]
              by_cases k5 : ss (7 + 4 * k) = 5
              · rw [if_pos k5, if_pos k5, if_pos rfl]
              · rw [if_neg k5, if_neg k5]
                by_cases s0 : ss (8 + 4 * k) = 0
                · rw [if_pos s0, if_pos s0, if_pos rfl]
                · rw [if_neg s0, if_neg s0]
                  by_cases k3 : ss (7 + 4 * k) = 3
                  · rw [if_pos k3, if_neg (show ¬ ss (7 + 4 * k) = 6 by rw [k3]; decide), if_pos k3, if_neg (by decide), if_neg (by decide), if_pos rfl]
                  · rw [if_neg k3]
                    by_cases k6 : ss (7 + 4 * k) = 6
                    · rw [if_pos k6, if_pos k6, if_neg (by decide), if_pos rfl]
                    · rw [if_neg k6, if_neg k6, if_neg k3, if_neg (by decide), if_neg (by decide), if_neg (by decide)]
          rw [hkt]
          refine ⟨rfl, fun j hj => ?_⟩
          obtain ⟨a1, a2, a3, a4, a5, a6, a7⟩ := hS j hj
          dsimp only
          by_cases hji : j = i
          · subst hji
            exact ⟨(upd_at _ _ _).trans (upd_at _ _ _).symm, Or.inr (Or.inl (upd_at _ _ _)), a3, a4, a5, a6, fun _ => ⟨by rw [upd_at, upd_at, upd_at, upd_at], by rw [upd_at, upd_at, upd_at, upd_at, upd_at]⟩⟩
          · simp only [upd_ne _ _ hji]
            exact ⟨a1, a2, a3, a4, a5, a6, a7⟩
        · rw [if_neg cp0, if_neg cp0, if_pos rfl]
          exact ⟨rfl, hS⟩
  · rw [if_neg c, shelf_no c, if_pos rfl]
    exact ⟨rfl, hS⟩
theorem fill_loop {v : Int32} {N : Nat} (hN : N < 100000) : ∀ (n k : Nat) (f : Nat → Int32), k ≤ N → N - k < n → (∀ i, i < k → f i = v) → ∀ i, i < N → f_J7_fill_53178_L5 v N n k f i = v := by
  intro n
  induction n with
  | zero => intro k f _ h; exact absurd h (Nat.not_lt_zero _)
  | succ n ih =>
    intro k f hk hm hf
    rw [f_J7_fill_53178_L5_s]
    by_cases c : Int32.ofNat N ≤ nI k
    · rw [if_pos c]
      rw [show Int32.ofNat N = nI N from rfl, nI_leI (by omega) (by omega)] at c
      exact fun i hi => hf i (by omega)
    · rw [if_neg c]
      rw [show Int32.ofNat N = nI N from rfl, nI_leI (by omega) (by omega)] at c
      refine ih (k + 1) _ (by omega) (by omega) (fun i hi => ?_)
      by_cases hik : i = k
      · subst hik; exact upd_at _ _ _
      · rw [upd_ne _ _ hik]; exact hf i (by omega)
theorem begin_z {so sz : Int32} {N : Nat} {f : Nat → Int32} (hN : N < 100000) : ∀ i, i < N → (f_X3_begin so sz N f).2.2 i = 0 := by
  intro i hi
  unfold f_X3_begin
  split
  · exact fill_loop hN _ 0 _ (Nat.zero_le _) (by omega) (fun i hi => absurd hi (Nat.not_lt_zero _)) i hi
  · exact fill_loop hN _ 0 _ (Nat.zero_le _) (by omega) (fun i hi => absurd hi (Nat.not_lt_zero _)) i hi
theorem row_loop {i : Nat} {of0 n0 : Int32} (hi : i < 8) : ∀ (n k : Nat) (u : Nat → Int32), k ≤ 100 → 100 - k < n → (∀ j, j < k → u (100 * i + j) = 0) → (∀ q j, q ≠ i → j < 100 → u (100 * q + j) = el (100 * q + j)) →
    ∃ z, f_X6_row_L58 (nI i) of0 n0 ke so si n k u = (0, upd ke i 2, upd so i of0, upd si i n0, z) ∧ (∀ j, j < 100 → z (100 * i + j) = 0) ∧ (∀ q j, q ≠ i → j < 100 → z (100 * q + j) = el (100 * q + j)) := by
  intro n
  induction n with
  | zero => intro k u _ h; exact absurd h (Nat.not_lt_zero _)
  | succ n ih =>
    intro k u hk hm hu hv
    rw [f_X6_row_L58_s, nI_clamp (by omega)]
    by_cases c : (100 : Int32) ≤ nI k
    · rw [if_pos c]
      rw [show (100 : Int32) = nI 100 from rfl, nI_leI (by decide) (by omega)] at c
      exact ⟨u, rfl, fun j hj => hu j (by omega), hv⟩
    · rw [if_neg c]
      rw [show (100 : Int32) = nI 100 from rfl, nI_leI (by decide) (by omega)] at c
      refine ih (k + 1) _ (by omega) (by omega) (fun j hj => ?_) (fun q j hq hj => ?_)
      · by_cases hjk : j = k
        · subst hjk; exact upd_at _ _ _
        · rw [upd_ne _ _ (by omega)]; exact hu j (by omega)
      · rw [upd_ne _ _ (by omega)]; exact hv q j hq hj
theorem row_m {d of0 n0 : Int32} (hS : RS ke so si el kd kt ho rso rsz rel snu ski sst ssl) :
    (f_X5_row d of0 n0 ho rso rsz rel).1 = (f_X6_row d of0 n0 ke so si el).1 ∧
    RS (f_X6_row d of0 n0 ke so si el).2.1 (f_X6_row d of0 n0 ke so si el).2.2.1 (f_X6_row d of0 n0 ke so si el).2.2.2.1 (f_X6_row d of0 n0 ke so si el).2.2.2.2 kd kt (f_X5_row d of0 n0 ho rso rsz rel).2.1 (f_X5_row d of0 n0 ho rso rsz rel).2.2.1 (f_X5_row d of0 n0 ho rso rsz rel).2.2.2.1 (f_X5_row d of0 n0 ho rso rsz rel).2.2.2.2 snu ski sst ssl := by
  unfold f_X5_row f_X6_row
  by_cases c : ¬ d < 0 ∧ ¬ (8 : Int32) ≤ d
  · rw [if_pos c, shelf_eq, if_pos c, if_neg o0, ge_le (x := of0) (A := 0) (B := 2) (a := 0) (b := 2) rfl rfl]
    by_cases s0 : of0 < 0
    · rw [if_pos s0, if_pos s0, if_pos rfl]; exact ⟨rfl, hS⟩
    · rw [if_neg s0, if_neg s0]
      by_cases s2 : (2 : Int32) < of0
      · rw [if_pos s2, if_pos s2, if_pos rfl]; exact ⟨rfl, hS⟩
      · rw [if_neg s2, if_neg s2, if_neg o0]
        by_cases n1 : n0 ≤ 100
        · rw [if_pos n1, if_pos n1]
          by_cases n2 : 0 ≤ n0
          · rw [if_pos n2, if_pos n2, bnd_eq]
            obtain ⟨ed, hd⟩ := sh_ok c
            generalize d.toNatClampNeg = i at ed hd
            subst ed
            have hn : 0 ≤ n0.toInt ∧ n0.toInt ≤ 100 := by rw [xle] at n1 n2; exact ⟨n2, n1⟩
            obtain ⟨z, ez, z1, z2⟩ := row_loop (ke := ke) (so := so) (si := si) (el := el) (of0 := of0) (n0 := n0) hd (100 + 1) 0 el (by omega) (by omega) (fun j hj => absurd hj (Nat.not_lt_zero _)) (fun _ _ _ _ => rfl)
            rw [ez]
            dsimp only
            rw [begin_so, begin_sz hn.1 hn.2 (by decide)]
            refine ⟨rfl, fun j hj => ?_⟩
            obtain ⟨a1, a2, a3, a4, a5, a6, a7⟩ := hS j hj
            by_cases hji : j = i
            · subst hji
              refine ⟨(upd_at _ _ _).trans (upd_at _ _ _).symm, Or.inr (Or.inr (upd_at _ _ _)), (upd_at _ _ _).trans (upd_at _ _ _).symm, (upd_at _ _ _).trans (upd_at _ _ _).symm, by rw [upd_at]; exact hn, fun k hk => ?_, fun q => by rw [upd_at] at q; exact absurd q (by decide)⟩
              rw [z1 k hk]
              show 0 = va_up rel j _ j k
              rw [show va_up rel j (f_X3_begin of0 n0 100 (rel j)).2.2 j = (f_X3_begin of0 n0 100 (rel j)).2.2 from if_pos rfl]
              exact (begin_z (by decide) k hk).symm
            · simp only [upd_ne _ _ hji]
              refine ⟨a1, a2, a3, a4, a5, fun k hk => ?_, a7⟩
              rw [z2 j k hji hk, a6 k hk]
              show rel j k = va_up rel i _ j k
              rw [show va_up rel i (f_X3_begin of0 n0 100 (rel i)).2.2 j = rel j from if_neg hji]
          · rw [if_neg n2, if_neg n2]; exact ⟨rfl, hS⟩
        · rw [if_neg n1, if_neg n1]; exact ⟨rfl, hS⟩
  · rw [if_neg c, shelf_no c, if_pos rfl]; exact ⟨rfl, hS⟩
theorem RS.write {i : Nat} {z : Nat → Int32} {zi : Nat → Int32} (hS : RS ke so si el kd kt ho rso rsz rel snu ski sst ssl) (h1 : ∀ j, j < 100 → z (100 * i + j) = zi j) (h2 : ∀ q j, q ≠ i → j < 100 → z (100 * q + j) = el (100 * q + j)) : RS ke so si z kd kt ho rso rsz (va_up rel i zi) snu ski sst ssl := by
  intro j hj
  obtain ⟨a1, a2, a3, a4, a5, a6, a7⟩ := hS j hj
  refine ⟨a1, a2, a3, a4, a5, fun k hk => ?_, a7⟩
  by_cases hji : j = i
  · subst hji
    rw [h1 k hk, show va_up rel j zi j = zi from if_pos rfl]
  · rw [h2 j k hji hk, a6 k hk, show va_up rel i zi j = rel j from if_neg hji]
theorem put_m {d i0 v : Int32} (hS : RS ke so si el kd kt ho rso rsz rel snu ski sst ssl) :
    (f_X5_put d i0 v ho rso rsz rel).1 = (f_X6_put d i0 v ke so si el).1 ∧ RS ke so si (f_X6_put d i0 v ke so si el).2 kd kt ho rso rsz (f_X5_put d i0 v ho rso rsz rel).2 snu ski sst ssl := by
  unfold f_X5_put f_X6_put
  by_cases c : ¬ d < 0 ∧ ¬ (8 : Int32) ≤ d
  · rw [if_pos c]
    obtain ⟨ed, hd⟩ := sh_ok c
    generalize d.toNatClampNeg = i at ed hd
    subst ed
    obtain ⟨a1, a2, a3, a4, a5, a6, a7⟩ := hS i hd
    rw [wrow_i (so := so) hd a1]
    by_cases r : f_X5_rowRefusal (ho i) = 0
    · rw [if_pos r, if_pos r, a4, place_eq a5]
      by_cases q : f_X6_isIn i0.toInt64 0 (rsz i - 1).toInt64 = 0
      · rw [if_pos q, if_pos q]; exact ⟨rfl, hS⟩
      · rw [if_neg q, if_neg q, bnd_eq, a3]
        have hi0 := put_ok a5.2 a5.1 q
        have hpl : f_X3_hasPlace i0 (rsz i) = f_X6_isIn i0.toInt64 0 (rsz i - 1).toInt64 := place_eq a5
        have ei : i0 = nI i0.toNatClampNeg := asN hi0.1
        have hlt : i0.toNatClampNeg < 100 := by have := cl_nat i0; omega
        have ix : ((100 * nI i) + i0).toNatClampNeg = 100 * i + i0.toNatClampNeg := by
          have e : (100 * nI i + i0) = 100 * nI i + nI i0.toNatClampNeg := by rw [← ei]
          rw [e, elix_n (d := nI i) (by rw [nI_toInt (by omega)]; omega) hlt, nI_clamp (by omega)]
        rw [ix]
        have fin : ∀ w : Int32, f_X3_lowestBits v (rso i) = w → (0 : Int32) = 0 ∧ RS ke so si (upd el (100 * i + i0.toNatClampNeg) w) kd kt ho rso rsz (va_up rel i (f_X3_write i0 v (rso i) (rsz i) (rel i))) snu ski sst ssl := by
          intro w hw
          refine ⟨rfl, hS.write (fun j hj => ?_) (fun q j hq hj => upd_ne _ _ (by omega))⟩
          unfold f_X3_write
          rw [hpl, if_neg q, hw]
          by_cases hj2 : j = i0.toNatClampNeg
          · subst hj2; rw [upd_at, upd_at]
          · rw [upd_ne _ _ (by omega), upd_ne _ _ hj2]; exact a6 j hj
        by_cases t0 : rso i = 0
        · rw [if_pos t0]
          exact fin _ (by unfold f_X3_lowestBits; rw [if_pos t0])
        · rw [if_neg t0]
          by_cases t1 : rso i = 1
          · rw [if_pos t1]
            exact fin _ (by unfold f_X3_lowestBits; rw [if_neg t0, if_pos t1])
          · rw [if_neg t1]
            exact fin _ (by unfold f_X3_lowestBits; rw [if_neg t0, if_neg t1])
    · rw [if_neg r, if_neg r]; exact ⟨rfl, hS⟩
  · rw [if_neg c, wrow_no c, if_neg (by decide)]; exact ⟨rfl, hS⟩
theorem element_m {d i0 : Int32} (hS : RS ke so si el kd kt ho rso rsz rel snu ski sst ssl) :
    (f_X6_element d i0 ke si el).2 = (f_X5_element d i0 ho rsz rel).1 ∧ ((f_X5_element d i0 ho rsz rel).1 = 0 → (f_X6_element d i0 ke si el).1 = (f_X5_element d i0 ho rsz rel).2) := by
  unfold f_X5_element f_X6_element
  by_cases c : ¬ d < 0 ∧ ¬ (8 : Int32) ≤ d
  · rw [if_pos c]
    obtain ⟨ed, hd⟩ := sh_ok c
    generalize d.toNatClampNeg = i at ed hd
    subst ed
    obtain ⟨a1, a2, a3, a4, a5, a6, a7⟩ := hS i hd
    rw [shelf_i hd, if_neg o0, a1]
    by_cases h2 : ho i = 2
    · rw [if_pos h2, if_pos h2, a4, place_eq a5]
      by_cases q : f_X6_isIn i0.toInt64 0 (rsz i - 1).toInt64 = 0
      · rw [if_pos q, if_pos q]; exact ⟨rfl, fun q => absurd q (by decide)⟩
      · rw [if_neg q, if_neg q]
        have hi0 := put_ok a5.2 a5.1 q
        have hpl : f_X3_hasPlace i0 (rsz i) = f_X6_isIn i0.toInt64 0 (rsz i - 1).toInt64 := place_eq a5
        have ei : i0 = nI i0.toNatClampNeg := asN hi0.1
        have hlt : i0.toNatClampNeg < 100 := by have := cl_nat i0; omega
        have ix : ((100 * nI i) + i0).toNatClampNeg = 100 * i + i0.toNatClampNeg := by
          have e : (100 * nI i + i0) = 100 * nI i + nI i0.toNatClampNeg := by rw [← ei]
          rw [e, elix_n (d := nI i) (by rw [nI_toInt (by omega)]; omega) hlt, nI_clamp (by omega)]
        refine ⟨rfl, fun _ => ?_⟩
        show (el ((100 * nI i) + i0).toNatClampNeg).toInt64 = (f_X3_at i0 (rsz i) (rel i)).toInt64
        rw [at_place, hpl, if_neg q, ix, a6 _ hlt]
    · rw [if_neg h2, if_neg h2]; exact ⟨rfl, fun q => absurd q (by decide)⟩
  · rw [if_neg c, shelf_no c, if_pos rfl]; exact ⟨rfl, fun q => absurd q (by decide)⟩
theorem wkept_i {i : Nat} (h : i < 8) (e : ke i = ho i) : f_X6_wrongKept (nI i) ke = f_X5_personRefusal (ho i) := by
  unfold f_X6_wrongKept f_X5_personRefusal f_X5_refusalUnless
  rw [shelf_i h, if_neg o0, nI_clamp (by omega), e]
theorem pref1 {x : Int32} (h : f_X5_personRefusal x = 0) : x = 1 := by
  unfold f_X5_personRefusal f_X5_refusalUnless at h
  by_cases c : x = 0
  · rw [if_pos c] at h; exact absurd h (by decide)
  · rw [if_neg c] at h
    by_cases d : x = 1
    · exact d
    · rw [if_neg d] at h; exact absurd h (by decide)
theorem depth_m {d : Int32} (hS : RS ke so si el kd kt ho rso rsz rel snu ski sst ssl) : f_X5_depth d ho ski sst ssl = f_X6_depth d ke kd := by
  unfold f_X5_depth f_X6_depth
  by_cases c : ¬ d < 0 ∧ ¬ (8 : Int32) ≤ d
  · rw [if_pos c]
    obtain ⟨ed, hd⟩ := sh_ok c
    generalize d.toNatClampNeg = i at ed hd
    subst ed
    obtain ⟨a1, a2, a3, a4, a5, a6, a7⟩ := hS i hd
    rw [wkept_i hd a1]
    by_cases r : f_X5_personRefusal (ho i) = 0
    · rw [if_pos r, if_pos r, (a7 (pref1 r)).1]
    · rw [if_neg r, if_neg r]
  · rw [if_neg c]
    have e : f_X6_wrongKept d ke = -1 := by unfold f_X6_wrongKept; rw [shelf_no c, if_pos rfl]
    rw [e, if_neg (by decide)]
theorem toss_m {d : Int32} (hS : RS ke so si el kd kt ho rso rsz rel snu ski sst ssl) : f_X5_toss d ho snu ski sst ssl = f_X6_toss d ke kt := by
  unfold f_X5_toss f_X6_toss
  by_cases c : ¬ d < 0 ∧ ¬ (8 : Int32) ≤ d
  · rw [if_pos c]
    obtain ⟨ed, hd⟩ := sh_ok c
    generalize d.toNatClampNeg = i at ed hd
    subst ed
    obtain ⟨a1, a2, a3, a4, a5, a6, a7⟩ := hS i hd
    rw [wkept_i hd a1]
    by_cases r : f_X5_personRefusal (ho i) = 0
    · rw [if_pos r, if_pos r, (a7 (pref1 r)).2]
      rfl
    · rw [if_neg r, if_neg r]
  · rw [if_neg c]
    have e : f_X6_wrongKept d ke = -1 := by unfold f_X6_wrongKept; rw [shelf_no c, if_pos rfl]
    rw [e, if_neg (by decide)]
theorem judge_loop {i : Nat} {sz9 ls : Int32} {ss cf nu ki st sl : Nat → Int32} (hS : RS ke so si el kd kt ho rso rsz rel snu ski sst ssl) (h : RG ss ls sz9 cf nu ki st sl) (hd : i < 8) (r6 : ¬ ss 6 = 0) :
    ∀ (n k : Nat), k ≤ (ss 5).toNatClampNeg → k ≤ (rsz i).toNatClampNeg → f_X5_judge_L48 (nI i) (ss 5) sz9 cf rso rsz rel n k = f_X6_judge_L37 (nI i) ss so si el n k := by
  have h5 := h.1.2.2.2.2.1
  obtain ⟨a1, a2, a3, a4, a5, a6, a7⟩ := hS i hd
  obtain ⟨z1, _, z3⟩ := h.2.2.2.2 r6
  intro n
  induction n with
  | zero => intro k _ _; rfl
  | succ n ih =>
    intro k hk hk2
    have hb := cl_nat (ss 5)
    have hz := cl_nat (rsz i)
    rw [f_X5_judge_L48_s, f_X6_judge_L37_s, nI_clamp (by omega), a4]
    by_cases c : rsz i ≤ nI k
    · rw [if_pos c, if_pos c]
      rw [leB a5.1 (by omega)] at c
      rw [if_pos (by rw [xle]; omega)]
    · rw [if_neg c, if_neg c]
      rw [leB a5.1 (by omega)] at c
      by_cases c5 : ss 5 ≤ nI k
      · rw [if_pos c5]
        rw [leB h5.1 (by omega)] at c5
        have e : ss 5 = nI k := by rw [asN h5.1]; congr 1; omega
        rw [if_neg (by rw [xle]; omega), if_pos e.symm, e]
      · rw [if_neg c5]
        rw [leB h5.1 (by omega)] at c5
        have hne : ¬ nI k = ss 5 := fun q => by have := congrArg Int32.toInt q; rw [nI_toInt (by omega)] at this; omega
        rw [if_neg hne, at_i (by omega), a6 k (by omega), at_i (by rw [z1]; omega), get3 (by omega), (z3 k (by omega)).1]
        have el9 : f_X6_leastOf (nI i) so = f_X3_leastNumber (rso i) := by unfold f_X6_leastOf f_X3_leastNumber; rw [nI_clamp (by omega), a3]
        rw [el9]
        rw [ih (k + 1) (by omega) (by omega)]
theorem judge_m {d sz9 ls : Int32} {ss cf nu ki st sl : Nat → Int32} (hS : RS ke so si el kd kt ho rso rsz rel snu ski sst ssl) (h : RG ss ls sz9 cf nu ki st sl) : f_X5_judge d (ss 6) (ss 5) sz9 cf ho rso rsz rel = f_X6_judge d ss ke so si el := by
  unfold f_X5_judge f_X6_judge
  by_cases c : ¬ d < 0 ∧ ¬ (8 : Int32) ≤ d
  · rw [if_pos c]
    obtain ⟨ed, hd⟩ := sh_ok c
    generalize d.toNatClampNeg = i at ed hd
    subst ed
    obtain ⟨a1, a2, a3, a4, a5, a6, a7⟩ := hS i hd
    rw [shelf_i hd, if_neg o0, wrow_i (so := so) hd a1]
    by_cases r6 : ss 6 = 0
    · rw [if_pos r6, if_pos r6]
    · rw [if_neg r6, if_neg r6, judge_loop hS h hd r6 _ _ (Nat.zero_le _) (Nat.zero_le _), a4]
  · rw [if_neg c, shelf_no c, if_pos rfl]
end
