theorem bnd_eq {α β : Type} (a : α) (f : α → β) : bnd a f = f a := rfl
theorem nI_inj' {a b : Nat} (ha : a < 2147483648) (hb : b < 2147483648) (h : nI a = nI b) : a = b := by
  have := congrArg Int32.toInt h
  rw [nI_toInt ha, nI_toInt hb] at this
  omega
/-- the text at place p -/
abbrev tks (T : Nat → Int32) (n p : Nat) (c : Int32) : Prop := p < n ∧ T p = c
abbrev dgt (T : Nat → Int32) (n p : Nat) : Prop := p < n ∧ 48 ≤ (T p).toInt ∧ (T p).toInt ≤ 57
theorem o0 : ¬ (1 : Int32) = 0 := by decide
theorem nI_neg {a : Nat} (ha : a < 2147483648) : ¬ nI a < 0 := by
  rw [Int32.lt_iff_toInt_lt, nI_toInt ha, Int32.toInt_zero]; omega
theorem r2_place {n p : Nat} (hn : n ≤ 100) (hp : p ≤ 100) : f_X3_hasPlace (nI p) (nI n) = if p < n then 1 else 0 := by
  unfold f_X3_hasPlace
  rw [if_neg (nI_neg (by omega))]
  by_cases h : p < n
  · rw [if_neg (by rw [nI_leI (by omega) (by omega)]; omega), if_pos h]
  · rw [if_pos (by rw [nI_leI (by omega) (by omega)]; omega), if_neg h]
theorem at_place {i sz : Int32} {f : Nat → Int32} : f_X3_at i sz f = if f_X3_hasPlace i sz = 0 then 0 else f i.toNatClampNeg := by
  unfold f_X3_at f_X3_hasPlace
  by_cases a : i < 0
  · rw [if_pos a, if_pos a, if_pos rfl]
  · rw [if_neg a, if_neg a]
    by_cases b : sz ≤ i
    · rw [if_pos b, if_pos b, if_pos rfl]
    · rw [if_neg b, if_neg b, if_neg o0]
theorem r2_at {n p : Nat} {T : Nat → Int32} (hn : n ≤ 100) (hp : p ≤ 100) : f_X3_at (nI p) (nI n) T = if p < n then T p else 0 := by
  rw [at_place, r2_place hn hp]
  by_cases h : p < n
  · rw [if_neg (by rw [if_pos h]; decide), if_pos h, nI_clamp (by omega)]
  · rw [if_pos (by rw [if_neg h]), if_neg h]
theorem r6_here {n p : Nat} {T el : Nat → Int32} {ba : Int32} (hn : n ≤ 100) (hp : p ≤ 100) (hT : ∀ q, q < n → el ((ba + nI q).toNatClampNeg) = T q) : f_X6_here (nI p) ba (nI n) el = if p < n then T p else -1000 := by
  unfold f_X6_here
  by_cases h : p < n
  · rw [if_neg (by rw [nI_leI (by omega) (by omega)]; omega), if_pos h, hT p h]
  · rw [if_pos (by rw [nI_leI (by omega) (by omega)]; omega), if_neg h]
theorem r2_takes {n p : Nat} {T : Nat → Int32} (c : Int32) (hn : n ≤ 100) (hp : p ≤ 100) : f_X2_takes c (nI p) (nI n) T = if tks T n p c then (1, nI (p + 1)) else (0, nI p) := by
  unfold f_X2_takes
  rw [r2_place hn hp, r2_at hn hp, nI_1]
  by_cases h : p < n
  · rw [if_neg (by rw [if_pos h]; decide), if_pos h]
    by_cases h2 : T p = c
    · rw [if_pos h2, if_pos ⟨h, h2⟩]
    · rw [if_neg h2, if_neg (fun q => h2 q.2)]
  · rw [if_pos (by rw [if_neg h]), if_neg (fun q => h q.1)]
theorem r6_takes {n p : Nat} {T el : Nat → Int32} {ba : Int32} (c : Int32) (hc : ¬ -1000 = c) (hn : n ≤ 100) (hp : p ≤ 100) (hT : ∀ q, q < n → el ((ba + nI q).toNatClampNeg) = T q) : f_X6_takes c (nI p) ba (nI n) el = if tks T n p c then (1, nI (p + 1)) else (0, nI p) := by
  unfold f_X6_takes
  rw [r6_here hn hp hT, nI_1]
  by_cases h : p < n
  · rw [if_pos h]
    by_cases h2 : T p = c
    · rw [if_pos h2, if_pos ⟨h, h2⟩]
    · rw [if_neg h2, if_neg (fun q => h2 q.2)]
  · rw [if_neg h, if_neg hc, if_neg (fun q => h q.1)]
theorem r6_dig {n p : Nat} {T el : Nat → Int32} {ba : Int32} (hn : n ≤ 100) (hp : p ≤ 100) (hT : ∀ q, q < n → el ((ba + nI q).toNatClampNeg) = T q) : f_X6_isDigit (nI p) ba (nI n) el = if dgt T n p then 1 else 0 := by
  unfold f_X6_isDigit
  rw [isIn_iff, i64, r6_here hn hp hT]
  have a : (48 : Int64).toInt = 48 := rfl
  have b : (57 : Int64).toInt = 57 := rfl
  have d : (-1000 : Int32).toInt = -1000 := rfl
  rw [a, b]
  by_cases h : p < n
  · rw [if_pos h]
    by_cases h2 : 48 ≤ (T p).toInt ∧ (T p).toInt ≤ 57
    · rw [if_pos h2, if_pos ⟨h, h2⟩]
    · rw [if_neg h2, if_neg (fun q => h2 q.2)]
  · rw [if_neg h, d, if_neg (by omega), if_neg (fun q => h q.1)]
theorem r2_tdig {n p : Nat} {T : Nat → Int32} {nu : Int32} (hn : n ≤ 100) (hp : p ≤ 100) : f_X2_takesDigit (nI p) nu (nI n) T = if dgt T n p then (1, nI (p + 1), T p - 48) else (0, nI p, nu) := by
  unfold f_X2_takesDigit
  rw [r2_at hn hp, nI_1]
  have a : (48 : Int32).toInt = 48 := rfl
  have b : (57 : Int32).toInt = 57 := rfl
  by_cases h : p < n
  · rw [if_pos h]
    by_cases h2 : T p < 48
    · rw [if_pos h2, if_neg (fun q => by rw [Int32.lt_iff_toInt_lt] at h2; have := q.2; omega)]
    · rw [if_neg h2]
      rw [Int32.lt_iff_toInt_lt] at h2
      by_cases h3 : T p ≤ 57
      · rw [if_pos h3, if_pos ⟨h, by rw [Int32.le_iff_toInt_le] at h3; omega⟩]
      · rw [if_neg h3, if_neg (fun q => by rw [Int32.le_iff_toInt_le] at h3; have := q.2; omega)]
  · rw [if_neg h, if_pos (by decide), if_neg (fun q => h q.1)]
theorem r6_tdig {n p : Nat} {T el nu : Nat → Int32} {ba tl : Int32} (hn : n ≤ 100) (hp : p ≤ 100) (hT : ∀ q, q < n → el ((ba + nI q).toNatClampNeg) = T q) : f_X6_readsDigit (nI p) ba (nI n) tl el nu = if dgt T n p then (1, nI (p + 1), tl + 1, upd nu tl.toNatClampNeg (T p - 48)) else (0, nI p, tl, nu) := by
  unfold f_X6_readsDigit
  rw [r6_dig hn hp hT, r6_here hn hp hT, nI_1]
  by_cases h : dgt T n p
  · rw [if_neg (by rw [if_pos h]; decide), if_pos h, if_pos h.1]
  · rw [if_pos (by rw [if_neg h]), if_neg h]
/-- a number from its second digit on: where it ends, what it is -/
def nmb (T : Nat → Int32) (n : Nat) : Nat → Int32 → Nat → Nat × Int32
  | 0, v, p => (p, v)
  | k + 1, v, p => if v = 0 then (p, v) else if dgt T n p then nmb T n k (v * 10 + (T p - 48)) (p + 1) else (p, v)
theorem nmb_le {T : Nat → Int32} {n : Nat} : ∀ (k : Nat) (v : Int32) (p : Nat), p ≤ n → p ≤ (nmb T n k v p).1 ∧ (nmb T n k v p).1 ≤ n := by
  intro k
  induction k with
  | zero => intro v p h; exact ⟨Nat.le_refl _, h⟩
  | succ k ih =>
    intro v p h
    unfold nmb
    split
    · exact ⟨Nat.le_refl _, h⟩
    · split
      · next hd => have := ih (v * 10 + (T p - 48)) (p + 1) hd.1; exact ⟨by omega, this.2⟩
      · exact ⟨Nat.le_refl _, h⟩
theorem dig_rng {T : Nat → Int32} {n p : Nat} (h : dgt T n p) : 0 ≤ (T p - 48).toInt ∧ (T p - 48).toInt ≤ 9 := by
  have a : (48 : Int32).toInt = 48 := rfl
  have := h.2
  rw [subI (by rw [a]; omega), a]
  omega
theorem nmb_step {T : Nat → Int32} {n p : Nat} {v : Int32} {b : Int} (h : dgt T n p) (hv : 0 ≤ v.toInt ∧ v.toInt ≤ b) (hb : b ≤ 100000) : 0 ≤ (v * 10 + (T p - 48)).toInt ∧ (v * 10 + (T p - 48)).toInt ≤ 10 * b + 9 := by
  have a : (10 : Int32).toInt = 10 := rfl
  have hd := dig_rng h
  have e : (v * 10).toInt = v.toInt * 10 := by rw [mulI (by rw [a]; omega), a]
  rw [addI (by rw [e]; omega), e]
  omega
theorem r2_num_loop {T : Nat → Int32} {n : Nat} (hn : n ≤ 100) : ∀ (j k m : Nat) (v u : Int32) (p : Nat), p ≤ n → k + j = 4 → j < m → f_X2_takesNumber_L16 (nI n) T m k v (nI p) u = (1, nI (nmb T n j v p).1, (nmb T n j v p).2) := by
  intro j
  induction j with
  | zero =>
    intro k m v u p hp hk hm
    obtain ⟨m, rfl⟩ : ∃ m', m = m' + 1 := ⟨m - 1, by omega⟩
    rw [f_X2_takesNumber_L16_s, if_pos (show (4 : Int32) ≤ nI k by rw [show k = 4 by omega]; decide)]
    rfl
  | succ j ih =>
    intro k m v u p hp hk hm
    obtain ⟨m, rfl⟩ : ∃ m', m = m' + 1 := ⟨m - 1, by omega⟩
    have hk4 : ¬ (4 : Int32) ≤ nI k := by
      rw [show (4 : Int32) = nI 4 from rfl, nI_leI (by decide) (by omega)]; omega
    rw [f_X2_takesNumber_L16_s, if_neg hk4]
    unfold nmb
    by_cases hv : v = 0
    · rw [if_pos hv, if_pos hv]
    · rw [if_neg hv, if_neg hv, r2_tdig hn (by omega), bnd_eq]
      by_cases hd : dgt T n p
      · rw [if_pos hd, if_pos hd, if_neg o0]
        exact ih _ _ _ _ _ hd.1 (by omega) (by omega)
      · rw [if_neg hd, if_neg hd, if_pos rfl]
theorem r6_num_loop {T el : Nat → Int32} {n : Nat} {ba : Int32} {x1 : Int32 × Int32 × Int32 × (Nat → Int32)} (hn : n ≤ 100) (hT : ∀ q, q < n → el ((ba + nI q).toNatClampNeg) = T q) : ∀ (j k m : Nat) (v : Int32) (p : Nat), p ≤ n → k + j = 4 → j < m → 0 ≤ v.toInt → v.toInt < 10 ^ k → f_X6_readsNumber_L23 ba (nI n) el x1 m k v (nI p) = (1, nI (nmb T n j v p).1, x1.2.2.1, upd x1.2.2.2 ((x1.2.2.1 - 1).toNatClampNeg) (nmb T n j v p).2) := by
  intro j
  induction j with
  | zero =>
    intro k m v p hp hk hm _ _
    obtain ⟨m, rfl⟩ : ∃ m', m = m' + 1 := ⟨m - 1, by omega⟩
    rw [f_X6_readsNumber_L23_s, if_pos (show (4 : Int32) ≤ nI k by rw [show k = 4 by omega]; decide)]
    rfl
  | succ j ih =>
    intro k m v p hp hk hm h0 h1
    obtain ⟨m, rfl⟩ : ∃ m', m = m' + 1 := ⟨m - 1, by omega⟩
    have hk4 : ¬ (4 : Int32) ≤ nI k := by
      rw [show (4 : Int32) = nI 4 from rfl, nI_leI (by decide) (by omega)]; omega
    rw [f_X6_readsNumber_L23_s, if_neg hk4]
    unfold nmb
    by_cases hv : v = 0
    · rw [if_pos hv, if_pos (by rw [hv]; decide)]
    · have hv2 : ¬ v ≤ 0 := by
        rw [Int32.le_iff_toInt_le, Int32.toInt_zero]
        have := w_pos h0 hv
        omega
      rw [if_neg hv, if_neg hv2, r6_dig hn (by omega) hT]
      by_cases hd : dgt T n p
      · rw [if_neg (by rw [if_pos hd]; decide), if_pos hd, r6_here hn (by omega) hT, if_pos hd.1, nI_1]
        have e : 10 * v + T p - 48 = v * 10 + (T p - 48) := by
          rw [Int32.mul_comm, Int32.sub_eq_add_neg, Int32.sub_eq_add_neg, Int32.add_assoc]
        rw [e]
        have hp10 : (10 : Int) ^ k ≤ 10 ^ 3 := by
          have hk3 : k ≤ 3 := by omega
          rcases k with _ | _ | _ | _ | k
          · decide
          · decide
          · decide
          · decide
          · omega
        have hs := nmb_step hd (v := v) (b := 10 ^ k - 1) ⟨h0, by omega⟩ (by omega)
        have e2 : (10 : Int) ^ (k + 1) = 10 ^ k * 10 := Int.pow_succ 10 k
        exact ih _ _ _ _ hd.1 (by omega) (by omega) hs.1 (by rw [e2]; omega)
      · rw [if_pos (by rw [if_neg hd]), if_neg hd]
def nm1 (T : Nat → Int32) (n p : Nat) : Nat × Int32 := nmb T n 3 (T p - 48) (p + 1)
theorem nm1_le {T : Nat → Int32} {n p : Nat} (h : dgt T n p) : p < (nm1 T n p).1 ∧ (nm1 T n p).1 ≤ n := nmb_le 3 _ _ h.1
theorem r2_num {T : Nat → Int32} {n p : Nat} {nu : Int32} (hn : n ≤ 100) (hp : p ≤ 100) : f_X2_takesNumber (nI p) nu (nI n) T = if dgt T n p then (1, nI (nm1 T n p).1, (nm1 T n p).2) else (0, nI p, nu) := by
  unfold f_X2_takesNumber
  rw [r2_tdig hn hp, bnd_eq]
  by_cases hd : dgt T n p
  · rw [if_pos hd, if_pos hd, if_neg o0]
    exact r2_num_loop hn 3 1 5 _ _ _ hd.1 rfl (by decide)
  · rw [if_neg hd, if_neg hd, if_pos rfl]
theorem upd_upd (f : Nat → Int32) (i : Nat) (a b : Int32) : upd (upd f i a) i b = upd f i b := by
  funext j
  unfold upd
  split <;> rfl
theorem r6_num {T el nu : Nat → Int32} {n p : Nat} {ba tl : Int32} (hn : n ≤ 100) (hp : p ≤ 100) (hT : ∀ q, q < n → el ((ba + nI q).toNatClampNeg) = T q) : f_X6_readsNumber (nI p) ba (nI n) tl el nu = if dgt T n p then (1, nI (nm1 T n p).1, tl + 1, upd nu tl.toNatClampNeg (nm1 T n p).2) else (0, nI p, tl, nu) := by
  unfold f_X6_readsNumber
  rw [r6_tdig hn hp hT, bnd_eq]
  by_cases hd : dgt T n p
  · rw [if_pos hd, if_pos hd, if_neg o0]
    have e2 : tl + 1 - 1 = tl := by rw [Int32.add_sub_cancel]
    have hdr := dig_rng hd
    have := r6_num_loop (x1 := (1, nI (p + 1), tl + 1, upd nu tl.toNatClampNeg (T p - 48))) hn hT 3 1 5 (T p - 48) (p + 1) hd.1 rfl (by decide) hdr.1 (by have := hdr.2; omega)
    rw [e2] at *
    have e3 : upd nu tl.toNatClampNeg (T p - 48) tl.toNatClampNeg = T p - 48 := if_pos rfl
    show f_X6_readsNumber_L23 ba (nI n) el (1, nI (p + 1), tl + 1, upd nu tl.toNatClampNeg (T p - 48)) 5 1 (upd nu tl.toNatClampNeg (T p - 48) tl.toNatClampNeg) (nI (p + 1)) = _
    rw [e3, this]
    show (1, nI (nm1 T n p).1, tl + 1, upd (upd nu tl.toNatClampNeg (T p - 48)) tl.toNatClampNeg (nm1 T n p).2) = _
    rw [upd_upd]
  · rw [if_neg hd, if_neg hd, if_pos rfl]
theorem nmb_rng {T : Nat → Int32} {n : Nat} : ∀ (j k : Nat) (v : Int32) (p : Nat), k + j = 4 → 0 ≤ v.toInt → v.toInt < 10 ^ k → 0 ≤ (nmb T n j v p).2.toInt ∧ (nmb T n j v p).2.toInt < 10 ^ 4 := by
  intro j
  induction j with
  | zero => intro k v p hk h0 h1; rw [show k = 4 by omega] at h1; exact ⟨h0, h1⟩
  | succ j ih =>
    intro k v p hk h0 h1
    have hp10 : (10 : Int) ^ k ≤ 10 ^ 3 := by
      have hk3 : k ≤ 3 := by omega
      rcases k with _ | _ | _ | _ | k
      · decide
      · decide
      · decide
      · decide
      · omega
    unfold nmb
    split
    · exact ⟨h0, by show v.toInt < _; omega⟩
    · split
      · next hd =>
        have hs := nmb_step hd (v := v) (b := 10 ^ k - 1) ⟨h0, by omega⟩ (by omega)
        have e2 : (10 : Int) ^ (k + 1) = 10 ^ k * 10 := Int.pow_succ 10 k
        exact ih (k + 1) _ _ (by omega) hs.1 (by rw [e2]; omega)
      · exact ⟨h0, by show v.toInt < _; omega⟩
theorem nm1_rng {T : Nat → Int32} {n p : Nat} (h : dgt T n p) : 0 ≤ (nm1 T n p).2.toInt := by
  have hd := dig_rng h
  exact (nmb_rng 3 1 _ _ rfl hd.1 (by have := hd.2; omega)).1
def RSrel (T : Nat → Int32) (n p : Nat) (a : Int32 × Int32 × Int32 × Int32 × Int32 × Int32 × Int32) (b : Int32 × Int32 × Int32 × (Nat → Int32)) : Prop :=
  ∃ q : Nat, a.2.1 = nI q ∧ b.2.1 = nI q ∧ q ≤ 100 ∧ ((a.1 = 0 ∧ b.1 = 0) ∨ (a.1 = 1 ∧ b.1 = 1 ∧ p + 2 ≤ q ∧ q ≤ n ∧ a.2.2.1 = T p ∧
    ((T p = 112 ∧ a.2.2.2.1 = b.2.2.2 0 ∧ a.2.2.2.2.1 = b.2.2.2 1 ∧ a.2.2.2.2.2.1 = b.2.2.2 2 ∧ (0 ≤ (b.2.2.2 0).toInt ∧ (b.2.2.2 0).toInt ≤ 9) ∧ (0 ≤ (b.2.2.2 1).toInt ∧ (b.2.2.2 1).toInt ≤ 9) ∧ 0 ≤ (b.2.2.2 2).toInt)
     ∨ (T p = 103 ∧ a.2.2.2.1 = b.2.2.2 0 ∧ a.2.2.2.2.1 = b.2.2.2 1) ∨ (T p = 104 ∧ a.2.2.2.1 = b.2.2.2 0) ∨ T p = 98 ∨ T p = 110)))
theorem neq_of {x c d : Int32} (h : x = c) (hd : ¬ c = d) : ¬ x = d := fun q => hd (h.symm.trans q)

theorem bstep {α β : Type} {a v : α} {K : α → β} {X : β} (h : a = v) (hC : bnd a K = X) : K v = X := by subst h; exact hC

theorem rs_112 {T el nu : Nat → Int32} {n p : Nat} {ba fi se th nuc : Int32} (hn : n ≤ 100) (hp : p ≤ 100) (hT : ∀ q, q < n → el ((ba + nI q).toNatClampNeg) = T q) (h : p < n) (c112 : T p = 112) : RSrel T n p (f_X2_readStatement (nI p) fi se th nuc (nI n) T) (f_X6_readsStatement (nI p) ba (nI n) el nu) := by
  generalize hA : f_X2_readStatement (nI p) fi se th nuc (nI n) T = A
  generalize hB : f_X6_readsStatement (nI p) ba (nI n) el nu = B
  unfold f_X2_readStatement at hA
  unfold f_X6_readsStatement at hB
  generalize hx : f_X3_at (nI p) (nI n) T = x at hA
  generalize hy : f_X6_here (nI p) ba (nI n) el = y at hB
  rw [r2_at hn hp, if_pos h] at hx
  rw [r6_here hn hp hT, if_pos h] at hy
  subst hx hy
  rw [nI_1] at hB
  have hA := (if_neg (neq_of (d := 98) c112 (by decide))).symm.trans hA
  have hA := (if_neg (neq_of (d := 99) c112 (by decide))).symm.trans hA
  have hA := (if_neg (neq_of (d := 100) c112 (by decide))).symm.trans hA
  have hA := (if_neg (neq_of (d := 101) c112 (by decide))).symm.trans hA
  have hA := (if_neg (neq_of (d := 102) c112 (by decide))).symm.trans hA
  have hA := (if_neg (neq_of (d := 103) c112 (by decide))).symm.trans hA
  have hA := (if_neg (neq_of (d := 104) c112 (by decide))).symm.trans hA
  have hA := (if_neg (neq_of (d := 105) c112 (by decide))).symm.trans hA
  have hA := (if_neg (neq_of (d := 106) c112 (by decide))).symm.trans hA
  have hA := (if_neg (neq_of (d := 107) c112 (by decide))).symm.trans hA
  have hA := (if_neg (neq_of (d := 108) c112 (by decide))).symm.trans hA
  have hA := (if_neg (neq_of (d := 109) c112 (by decide))).symm.trans hA
  have hA := (if_neg (neq_of (d := 110) c112 (by decide))).symm.trans hA
  have hA := (if_neg (neq_of (d := 111) c112 (by decide))).symm.trans hA
  have hA := (if_pos c112).symm.trans hA
  have hB := (if_pos c112).symm.trans hB
  have hA := bstep ((r2_takes 112 hn hp).trans (if_pos ⟨h, c112⟩)) hA
  dsimp only at hA
  have hA := (if_neg o0).symm.trans hA
  generalize hC : f_X2_readPerson (nI (p + 1)) fi se th nuc (nI n) T = X at hA
  unfold f_X2_readPerson at hC
  by_cases k1 : dgt T n (p + 1)
  rotate_left
  · skip
    have hC := bstep ((r2_tdig hn (by omega)).trans (if_neg k1)) hC
    dsimp only at hC
    have hC := (if_pos rfl).symm.trans hC
    have hB := bstep ((r6_tdig hn (by omega) hT).trans (if_neg k1)) hB
    dsimp only at hB
    have hB := (if_pos rfl).symm.trans hB
    have hA := bstep hC.symm hA
    dsimp only at hA
    have hA := (if_pos rfl).symm.trans hA
    subst hA hB
    exact ⟨(p + 1), rfl, rfl, by omega, Or.inl ⟨rfl, rfl⟩⟩
  have hC := bstep ((r2_tdig hn (by omega)).trans (if_pos k1)) hC
  dsimp only at hC
  have hC := (if_neg o0).symm.trans hC
  have hB := bstep ((r6_tdig hn (by omega) hT).trans (if_pos k1)) hB
  dsimp only at hB
  have hB := (if_neg o0).symm.trans hB
  have l1 := k1.1
  by_cases k2 : tks T n ((p + 1) + 1) 32
  rotate_left
  · skip
    have hC := bstep ((r2_takes 32 hn (by omega)).trans (if_neg k2)) hC
    dsimp only at hC
    have hC := (if_pos rfl).symm.trans hC
    have hB := bstep ((r6_takes 32 (by decide) hn (by omega) hT).trans (if_neg k2)) hB
    dsimp only at hB
    have hB := (if_pos rfl).symm.trans hB
    have hA := bstep hC.symm hA
    dsimp only at hA
    have hA := (if_pos rfl).symm.trans hA
    subst hA hB
    exact ⟨((p + 1) + 1), rfl, rfl, by omega, Or.inl ⟨rfl, rfl⟩⟩
  have hC := bstep ((r2_takes 32 hn (by omega)).trans (if_pos k2)) hC
  dsimp only at hC
  have hC := (if_neg o0).symm.trans hC
  have hB := bstep ((r6_takes 32 (by decide) hn (by omega) hT).trans (if_pos k2)) hB
  dsimp only at hB
  have hB := (if_neg o0).symm.trans hB
  have l2 := k2.1
  by_cases k3 : dgt T n (((p + 1) + 1) + 1)
  rotate_left
  · skip
    have hC := bstep ((r2_tdig hn (by omega)).trans (if_neg k3)) hC
    dsimp only at hC
    have hC := (if_pos rfl).symm.trans hC
    have hB := bstep ((r6_tdig hn (by omega) hT).trans (if_neg k3)) hB
    dsimp only at hB
    have hB := (if_pos rfl).symm.trans hB
    have hA := bstep hC.symm hA
    dsimp only at hA
    have hA := (if_pos rfl).symm.trans hA
    subst hA hB
    exact ⟨(((p + 1) + 1) + 1), rfl, rfl, by omega, Or.inl ⟨rfl, rfl⟩⟩
  have hC := bstep ((r2_tdig hn (by omega)).trans (if_pos k3)) hC
  dsimp only at hC
  have hC := (if_neg o0).symm.trans hC
  have hB := bstep ((r6_tdig hn (by omega) hT).trans (if_pos k3)) hB
  dsimp only at hB
  have hB := (if_neg o0).symm.trans hB
  have l3 := k3.1
  by_cases k4 : tks T n ((((p + 1) + 1) + 1) + 1) 32
  rotate_left
  · skip
    have hC := bstep ((r2_takes 32 hn (by omega)).trans (if_neg k4)) hC
    dsimp only at hC
    have hC := (if_pos rfl).symm.trans hC
    have hB := bstep ((r6_takes 32 (by decide) hn (by omega) hT).trans (if_neg k4)) hB
    dsimp only at hB
    have hB := (if_pos rfl).symm.trans hB
    have hA := bstep hC.symm hA
    dsimp only at hA
    have hA := (if_pos rfl).symm.trans hA
    subst hA hB
    exact ⟨((((p + 1) + 1) + 1) + 1), rfl, rfl, by omega, Or.inl ⟨rfl, rfl⟩⟩
  have hC := bstep ((r2_takes 32 hn (by omega)).trans (if_pos k4)) hC
  dsimp only at hC
  have hC := (if_neg o0).symm.trans hC
  have hB := bstep ((r6_takes 32 (by decide) hn (by omega) hT).trans (if_pos k4)) hB
  dsimp only at hB
  have hB := (if_neg o0).symm.trans hB
  have l4 := k4.1
  by_cases k5 : dgt T n (((((p + 1) + 1) + 1) + 1) + 1)
  rotate_left
  · skip
    have hC := bstep ((r2_num hn (by omega)).trans (if_neg k5)) hC
    dsimp only at hC
    have hC := (if_pos rfl).symm.trans hC
    have hB := bstep ((r6_num hn (by omega) hT).trans (if_neg k5)) hB
    dsimp only at hB
    have hB := (if_pos rfl).symm.trans hB
    have hA := bstep hC.symm hA
    dsimp only at hA
    have hA := (if_pos rfl).symm.trans hA
    subst hA hB
    exact ⟨(((((p + 1) + 1) + 1) + 1) + 1), rfl, rfl, by omega, Or.inl ⟨rfl, rfl⟩⟩
  have hC := bstep ((r2_num hn (by omega)).trans (if_pos k5)) hC
  dsimp only at hC
  have hC := (if_neg o0).symm.trans hC
  have hB := bstep ((r6_num hn (by omega) hT).trans (if_pos k5)) hB
  dsimp only at hB
  have hB := (if_neg o0).symm.trans hB
  have l5 := nm1_le k5
  have hA := bstep hC.symm hA
  dsimp only at hA
  have hA := (if_neg o0).symm.trans hA
  by_cases kz : tks T n (nm1 T n (((((p + 1) + 1) + 1) + 1) + 1)).1 59
  rotate_left
  · skip
    have hA := bstep ((r2_takes 59 hn (by omega)).trans (if_neg kz)) hA
    dsimp only at hA
    have hA := (if_pos rfl).symm.trans hA
    have hB := bstep ((r6_takes 59 (by decide) hn (by omega) hT).trans (if_neg kz)) hB
    dsimp only at hB
    subst hA hB
    exact ⟨(nm1 T n (((((p + 1) + 1) + 1) + 1) + 1)).1, rfl, rfl, by omega, Or.inl ⟨rfl, rfl⟩⟩
  have hA := bstep ((r2_takes 59 hn (by omega)).trans (if_pos kz)) hA
  dsimp only at hA
  have hA := (if_neg o0).symm.trans hA
  have hB := bstep ((r6_takes 59 (by decide) hn (by omega) hT).trans (if_pos kz)) hB
  dsimp only at hB
  have lz := kz.1
  subst hA hB
  exact ⟨(nm1 T n (((((p + 1) + 1) + 1) + 1) + 1)).1 + 1, rfl, rfl, by omega, Or.inr ⟨rfl, rfl, by omega, by omega, rfl, Or.inl ⟨c112, rfl, rfl, rfl, dig_rng k1, dig_rng k3, nm1_rng k5⟩⟩⟩
theorem rs_103 {T el nu : Nat → Int32} {n p : Nat} {ba fi se th nuc : Int32} (hn : n ≤ 100) (hp : p ≤ 100) (hT : ∀ q, q < n → el ((ba + nI q).toNatClampNeg) = T q) (h : p < n) (c103 : T p = 103) : RSrel T n p (f_X2_readStatement (nI p) fi se th nuc (nI n) T) (f_X6_readsStatement (nI p) ba (nI n) el nu) := by
  generalize hA : f_X2_readStatement (nI p) fi se th nuc (nI n) T = A
  generalize hB : f_X6_readsStatement (nI p) ba (nI n) el nu = B
  unfold f_X2_readStatement at hA
  unfold f_X6_readsStatement at hB
  generalize hx : f_X3_at (nI p) (nI n) T = x at hA
  generalize hy : f_X6_here (nI p) ba (nI n) el = y at hB
  rw [r2_at hn hp, if_pos h] at hx
  rw [r6_here hn hp hT, if_pos h] at hy
  subst hx hy
  rw [nI_1] at hB
  have hA := (if_neg (neq_of (d := 98) c103 (by decide))).symm.trans hA
  have hA := (if_neg (neq_of (d := 99) c103 (by decide))).symm.trans hA
  have hA := (if_neg (neq_of (d := 100) c103 (by decide))).symm.trans hA
  have hA := (if_neg (neq_of (d := 101) c103 (by decide))).symm.trans hA
  have hA := (if_neg (neq_of (d := 102) c103 (by decide))).symm.trans hA
  have hA := (if_pos c103).symm.trans hA
  have hB := (if_neg (neq_of (d := 112) c103 (by decide))).symm.trans hB
  have hB := (if_pos c103).symm.trans hB
  have hA := bstep ((r2_takes 103 hn hp).trans (if_pos ⟨h, c103⟩)) hA
  dsimp only at hA
  have hA := (if_neg o0).symm.trans hA
  generalize hC : f_X2_readShare (nI (p + 1)) fi se nuc (nI n) T = X at hA
  unfold f_X2_readShare at hC
  by_cases k1 : dgt T n (p + 1)
  rotate_left
  · skip
    have hC := bstep ((r2_num hn (by omega)).trans (if_neg k1)) hC
    dsimp only at hC
    have hC := (if_pos rfl).symm.trans hC
    have hB := bstep ((r6_num hn (by omega) hT).trans (if_neg k1)) hB
    dsimp only at hB
    have hB := (if_pos rfl).symm.trans hB
    have hA := bstep hC.symm hA
    dsimp only at hA
    have hA := (if_pos rfl).symm.trans hA
    subst hA hB
    exact ⟨(p + 1), rfl, rfl, by omega, Or.inl ⟨rfl, rfl⟩⟩
  have hC := bstep ((r2_num hn (by omega)).trans (if_pos k1)) hC
  dsimp only at hC
  have hC := (if_neg o0).symm.trans hC
  have hB := bstep ((r6_num hn (by omega) hT).trans (if_pos k1)) hB
  dsimp only at hB
  have hB := (if_neg o0).symm.trans hB
  have l1 := nm1_le k1
  by_cases k2 : tks T n (nm1 T n (p + 1)).1 47
  rotate_left
  · skip
    have hC := bstep ((r2_takes 47 hn (by omega)).trans (if_neg k2)) hC
    dsimp only at hC
    have hC := (if_pos rfl).symm.trans hC
    have hB := bstep ((r6_takes 47 (by decide) hn (by omega) hT).trans (if_neg k2)) hB
    dsimp only at hB
    have hB := (if_pos rfl).symm.trans hB
    have hA := bstep hC.symm hA
    dsimp only at hA
    have hA := (if_pos rfl).symm.trans hA
    subst hA hB
    exact ⟨(nm1 T n (p + 1)).1, rfl, rfl, by omega, Or.inl ⟨rfl, rfl⟩⟩
  have hC := bstep ((r2_takes 47 hn (by omega)).trans (if_pos k2)) hC
  dsimp only at hC
  have hC := (if_neg o0).symm.trans hC
  have hB := bstep ((r6_takes 47 (by decide) hn (by omega) hT).trans (if_pos k2)) hB
  dsimp only at hB
  have hB := (if_neg o0).symm.trans hB
  have l2 := k2.1
  by_cases k3 : dgt T n ((nm1 T n (p + 1)).1 + 1)
  rotate_left
  · skip
    have hC := bstep ((r2_num hn (by omega)).trans (if_neg k3)) hC
    dsimp only at hC
    have hC := (if_pos rfl).symm.trans hC
    have hB := bstep ((r6_num hn (by omega) hT).trans (if_neg k3)) hB
    dsimp only at hB
    have hB := (if_pos rfl).symm.trans hB
    have hA := bstep hC.symm hA
    dsimp only at hA
    have hA := (if_pos rfl).symm.trans hA
    subst hA hB
    exact ⟨((nm1 T n (p + 1)).1 + 1), rfl, rfl, by omega, Or.inl ⟨rfl, rfl⟩⟩
  have hC := bstep ((r2_num hn (by omega)).trans (if_pos k3)) hC
  dsimp only at hC
  have hC := (if_neg o0).symm.trans hC
  have hB := bstep ((r6_num hn (by omega) hT).trans (if_pos k3)) hB
  dsimp only at hB
  have hB := (if_neg o0).symm.trans hB
  have l3 := nm1_le k3
  have hA := bstep hC.symm hA
  dsimp only at hA
  have hA := (if_neg o0).symm.trans hA
  by_cases kz : tks T n (nm1 T n ((nm1 T n (p + 1)).1 + 1)).1 59
  rotate_left
  · skip
    have hA := bstep ((r2_takes 59 hn (by omega)).trans (if_neg kz)) hA
    dsimp only at hA
    have hA := (if_pos rfl).symm.trans hA
    have hB := bstep ((r6_takes 59 (by decide) hn (by omega) hT).trans (if_neg kz)) hB
    dsimp only at hB
    subst hA hB
    exact ⟨(nm1 T n ((nm1 T n (p + 1)).1 + 1)).1, rfl, rfl, by omega, Or.inl ⟨rfl, rfl⟩⟩
  have hA := bstep ((r2_takes 59 hn (by omega)).trans (if_pos kz)) hA
  dsimp only at hA
  have hA := (if_neg o0).symm.trans hA
  have hB := bstep ((r6_takes 59 (by decide) hn (by omega) hT).trans (if_pos kz)) hB
  dsimp only at hB
  have lz := kz.1
  subst hA hB
  exact ⟨(nm1 T n ((nm1 T n (p + 1)).1 + 1)).1 + 1, rfl, rfl, by omega, Or.inr ⟨rfl, rfl, by omega, by omega, rfl, Or.inr (Or.inl ⟨c103, rfl, rfl⟩)⟩⟩
theorem rs_104 {T el nu : Nat → Int32} {n p : Nat} {ba fi se th nuc : Int32} (hn : n ≤ 100) (hp : p ≤ 100) (hT : ∀ q, q < n → el ((ba + nI q).toNatClampNeg) = T q) (h : p < n) (c104 : T p = 104) : RSrel T n p (f_X2_readStatement (nI p) fi se th nuc (nI n) T) (f_X6_readsStatement (nI p) ba (nI n) el nu) := by
  generalize hA : f_X2_readStatement (nI p) fi se th nuc (nI n) T = A
  generalize hB : f_X6_readsStatement (nI p) ba (nI n) el nu = B
  unfold f_X2_readStatement at hA
  unfold f_X6_readsStatement at hB
  generalize hx : f_X3_at (nI p) (nI n) T = x at hA
  generalize hy : f_X6_here (nI p) ba (nI n) el = y at hB
  rw [r2_at hn hp, if_pos h] at hx
  rw [r6_here hn hp hT, if_pos h] at hy
  subst hx hy
  rw [nI_1] at hB
  have hA := (if_neg (neq_of (d := 98) c104 (by decide))).symm.trans hA
  have hA := (if_neg (neq_of (d := 99) c104 (by decide))).symm.trans hA
  have hA := (if_neg (neq_of (d := 100) c104 (by decide))).symm.trans hA
  have hA := (if_neg (neq_of (d := 101) c104 (by decide))).symm.trans hA
  have hA := (if_neg (neq_of (d := 102) c104 (by decide))).symm.trans hA
  have hA := (if_neg (neq_of (d := 103) c104 (by decide))).symm.trans hA
  have hA := (if_pos c104).symm.trans hA
  have hB := (if_neg (neq_of (d := 112) c104 (by decide))).symm.trans hB
  have hB := (if_neg (neq_of (d := 103) c104 (by decide))).symm.trans hB
  have hB := (if_pos c104).symm.trans hB
  have hA := bstep ((r2_takes 104 hn hp).trans (if_pos ⟨h, c104⟩)) hA
  dsimp only at hA
  have hA := (if_neg o0).symm.trans hA
  generalize hC : f_X2_readHigh (nI (p + 1)) fi nuc (nI n) T = X at hA
  unfold f_X2_readHigh at hC
  by_cases k1 : dgt T n (p + 1)
  rotate_left
  · skip
    have hC := bstep ((r2_num hn (by omega)).trans (if_neg k1)) hC
    dsimp only at hC
    have hC := (if_pos rfl).symm.trans hC
    have hB := bstep ((r6_num hn (by omega) hT).trans (if_neg k1)) hB
    dsimp only at hB
    have hB := (if_pos rfl).symm.trans hB
    have hA := bstep hC.symm hA
    dsimp only at hA
    have hA := (if_pos rfl).symm.trans hA
    subst hA hB
    exact ⟨(p + 1), rfl, rfl, by omega, Or.inl ⟨rfl, rfl⟩⟩
  have hC := bstep ((r2_num hn (by omega)).trans (if_pos k1)) hC
  dsimp only at hC
  have hC := (if_neg o0).symm.trans hC
  have hB := bstep ((r6_num hn (by omega) hT).trans (if_pos k1)) hB
  dsimp only at hB
  have hB := (if_neg o0).symm.trans hB
  have l1 := nm1_le k1
  have hA := bstep hC.symm hA
  dsimp only at hA
  have hA := (if_neg o0).symm.trans hA
  by_cases kz : tks T n (nm1 T n (p + 1)).1 59
  rotate_left
  · skip
    have hA := bstep ((r2_takes 59 hn (by omega)).trans (if_neg kz)) hA
    dsimp only at hA
    have hA := (if_pos rfl).symm.trans hA
    have hB := bstep ((r6_takes 59 (by decide) hn (by omega) hT).trans (if_neg kz)) hB
    dsimp only at hB
    subst hA hB
    exact ⟨(nm1 T n (p + 1)).1, rfl, rfl, by omega, Or.inl ⟨rfl, rfl⟩⟩
  have hA := bstep ((r2_takes 59 hn (by omega)).trans (if_pos kz)) hA
  dsimp only at hA
  have hA := (if_neg o0).symm.trans hA
  have hB := bstep ((r6_takes 59 (by decide) hn (by omega) hT).trans (if_pos kz)) hB
  dsimp only at hB
  have lz := kz.1
  subst hA hB
  exact ⟨(nm1 T n (p + 1)).1 + 1, rfl, rfl, by omega, Or.inr ⟨rfl, rfl, by omega, by omega, rfl, Or.inr (Or.inr (Or.inl ⟨c104, rfl⟩))⟩⟩
theorem rs_98 {T el nu : Nat → Int32} {n p : Nat} {ba fi se th nuc : Int32} (hn : n ≤ 100) (hp : p ≤ 100) (hT : ∀ q, q < n → el ((ba + nI q).toNatClampNeg) = T q) (h : p < n) (c98 : T p = 98) : RSrel T n p (f_X2_readStatement (nI p) fi se th nuc (nI n) T) (f_X6_readsStatement (nI p) ba (nI n) el nu) := by
  generalize hA : f_X2_readStatement (nI p) fi se th nuc (nI n) T = A
  generalize hB : f_X6_readsStatement (nI p) ba (nI n) el nu = B
  unfold f_X2_readStatement at hA
  unfold f_X6_readsStatement at hB
  generalize hx : f_X3_at (nI p) (nI n) T = x at hA
  generalize hy : f_X6_here (nI p) ba (nI n) el = y at hB
  rw [r2_at hn hp, if_pos h] at hx
  rw [r6_here hn hp hT, if_pos h] at hy
  subst hx hy
  rw [nI_1] at hB
  have hA := (if_pos c98).symm.trans hA
  have hB := (if_neg (neq_of (d := 112) c98 (by decide))).symm.trans hB
  have hB := (if_neg (neq_of (d := 103) c98 (by decide))).symm.trans hB
  have hB := (if_neg (neq_of (d := 104) c98 (by decide))).symm.trans hB
  have hB := (if_pos c98).symm.trans hB
  have hA := bstep ((r2_takes _ hn hp).trans (if_pos ⟨h, rfl⟩)) hA
  dsimp only at hA
  have hA := (if_neg o0).symm.trans hA
  by_cases kz : tks T n (p + 1) 59
  rotate_left
  · skip
    have hA := bstep ((r2_takes 59 hn (by omega)).trans (if_neg kz)) hA
    dsimp only at hA
    have hA := (if_pos rfl).symm.trans hA
    have hB := bstep ((r6_takes 59 (by decide) hn (by omega) hT).trans (if_neg kz)) hB
    dsimp only at hB
    subst hA hB
    exact ⟨(p + 1), rfl, rfl, by omega, Or.inl ⟨rfl, rfl⟩⟩
  have hA := bstep ((r2_takes 59 hn (by omega)).trans (if_pos kz)) hA
  dsimp only at hA
  have hA := (if_neg o0).symm.trans hA
  have hB := bstep ((r6_takes 59 (by decide) hn (by omega) hT).trans (if_pos kz)) hB
  dsimp only at hB
  have lz := kz.1
  subst hA hB
  exact ⟨(p + 1) + 1, rfl, rfl, by omega, Or.inr ⟨rfl, rfl, by omega, by omega, rfl, Or.inr (Or.inr (Or.inr (Or.inl c98)))⟩⟩
theorem rs_110 {T el nu : Nat → Int32} {n p : Nat} {ba fi se th nuc : Int32} (hn : n ≤ 100) (hp : p ≤ 100) (hT : ∀ q, q < n → el ((ba + nI q).toNatClampNeg) = T q) (h : p < n) (c110 : T p = 110) : RSrel T n p (f_X2_readStatement (nI p) fi se th nuc (nI n) T) (f_X6_readsStatement (nI p) ba (nI n) el nu) := by
  generalize hA : f_X2_readStatement (nI p) fi se th nuc (nI n) T = A
  generalize hB : f_X6_readsStatement (nI p) ba (nI n) el nu = B
  unfold f_X2_readStatement at hA
  unfold f_X6_readsStatement at hB
  generalize hx : f_X3_at (nI p) (nI n) T = x at hA
  generalize hy : f_X6_here (nI p) ba (nI n) el = y at hB
  rw [r2_at hn hp, if_pos h] at hx
  rw [r6_here hn hp hT, if_pos h] at hy
  subst hx hy
  rw [nI_1] at hB
  have hA := (if_neg (neq_of (d := 98) c110 (by decide))).symm.trans hA
  have hA := (if_neg (neq_of (d := 99) c110 (by decide))).symm.trans hA
  have hA := (if_neg (neq_of (d := 100) c110 (by decide))).symm.trans hA
  have hA := (if_neg (neq_of (d := 101) c110 (by decide))).symm.trans hA
  have hA := (if_neg (neq_of (d := 102) c110 (by decide))).symm.trans hA
  have hA := (if_neg (neq_of (d := 103) c110 (by decide))).symm.trans hA
  have hA := (if_neg (neq_of (d := 104) c110 (by decide))).symm.trans hA
  have hA := (if_neg (neq_of (d := 105) c110 (by decide))).symm.trans hA
  have hA := (if_neg (neq_of (d := 106) c110 (by decide))).symm.trans hA
  have hA := (if_neg (neq_of (d := 107) c110 (by decide))).symm.trans hA
  have hA := (if_neg (neq_of (d := 108) c110 (by decide))).symm.trans hA
  have hA := (if_neg (neq_of (d := 109) c110 (by decide))).symm.trans hA
  have hA := (if_pos c110).symm.trans hA
  have hB := (if_neg (neq_of (d := 112) c110 (by decide))).symm.trans hB
  have hB := (if_neg (neq_of (d := 103) c110 (by decide))).symm.trans hB
  have hB := (if_neg (neq_of (d := 104) c110 (by decide))).symm.trans hB
  have hB := (if_neg (neq_of (d := 98) c110 (by decide))).symm.trans hB
  have hB := (if_pos c110).symm.trans hB
  have hA := bstep ((r2_takes _ hn hp).trans (if_pos ⟨h, rfl⟩)) hA
  dsimp only at hA
  have hA := (if_neg o0).symm.trans hA
  by_cases kz : tks T n (p + 1) 59
  rotate_left
  · skip
    have hA := bstep ((r2_takes 59 hn (by omega)).trans (if_neg kz)) hA
    dsimp only at hA
    have hA := (if_pos rfl).symm.trans hA
    have hB := bstep ((r6_takes 59 (by decide) hn (by omega) hT).trans (if_neg kz)) hB
    dsimp only at hB
    subst hA hB
    exact ⟨(p + 1), rfl, rfl, by omega, Or.inl ⟨rfl, rfl⟩⟩
  have hA := bstep ((r2_takes 59 hn (by omega)).trans (if_pos kz)) hA
  dsimp only at hA
  have hA := (if_neg o0).symm.trans hA
  have hB := bstep ((r6_takes 59 (by decide) hn (by omega) hT).trans (if_pos kz)) hB
  dsimp only at hB
  have lz := kz.1
  subst hA hB
  exact ⟨(p + 1) + 1, rfl, rfl, by omega, Or.inr ⟨rfl, rfl, by omega, by omega, rfl, Or.inr (Or.inr (Or.inr (Or.inr c110)))⟩⟩
theorem rs_not {T el nu : Nat → Int32} {n p : Nat} {ba fi se th nuc : Int32} (hn : n ≤ 100) (hp : p ≤ 100) (hT : ∀ q, q < n → el ((ba + nI q).toNatClampNeg) = T q) (h : p < n) (c112 : ¬ T p = 112) (c103 : ¬ T p = 103) (c104 : ¬ T p = 104) (c98 : ¬ T p = 98) (c110 : ¬ T p = 110) : RSrel T n p (f_X2_readStatement (nI p) fi se th nuc (nI n) T) (f_X6_readsStatement (nI p) ba (nI n) el nu) := by
  generalize hA : f_X2_readStatement (nI p) fi se th nuc (nI n) T = A
  generalize hB : f_X6_readsStatement (nI p) ba (nI n) el nu = B
  unfold f_X2_readStatement at hA
  unfold f_X6_readsStatement at hB
  generalize hx : f_X3_at (nI p) (nI n) T = x at hA
  generalize hy : f_X6_here (nI p) ba (nI n) el = y at hB
  rw [r2_at hn hp, if_pos h] at hx
  rw [r6_here hn hp hT, if_pos h] at hy
  subst hx hy
  rw [nI_1] at hB
  have hB := (if_neg c112).symm.trans hB
  have hB := (if_neg c103).symm.trans hB
  have hB := (if_neg c104).symm.trans hB
  have hB := (if_neg c98).symm.trans hB
  have hB := (if_neg c110).symm.trans hB
  have hZ : A = (0, nI p, T p, fi, se, th, nuc) := by
    have hA := (if_neg c98).symm.trans hA
    by_cases d99 : T p = 99
    · exact ((if_pos d99).symm.trans hA).symm
    have hA := (if_neg d99).symm.trans hA
    by_cases d100 : T p = 100
    · exact ((if_pos d100).symm.trans hA).symm
    have hA := (if_neg d100).symm.trans hA
    by_cases d101 : T p = 101
    · exact ((if_pos d101).symm.trans hA).symm
    have hA := (if_neg d101).symm.trans hA
    by_cases d102 : T p = 102
    · exact ((if_pos d102).symm.trans hA).symm
    have hA := (if_neg d102).symm.trans hA
    have hA := (if_neg c103).symm.trans hA
    have hA := (if_neg c104).symm.trans hA
    by_cases d105 : T p = 105
    · exact ((if_pos d105).symm.trans hA).symm
    have hA := (if_neg d105).symm.trans hA
    by_cases d106 : T p = 106
    · exact ((if_pos d106).symm.trans hA).symm
    have hA := (if_neg d106).symm.trans hA
    by_cases d107 : T p = 107
    · exact ((if_pos d107).symm.trans hA).symm
    have hA := (if_neg d107).symm.trans hA
    by_cases d108 : T p = 108
    · exact ((if_pos d108).symm.trans hA).symm
    have hA := (if_neg d108).symm.trans hA
    by_cases d109 : T p = 109
    · exact ((if_pos d109).symm.trans hA).symm
    have hA := (if_neg d109).symm.trans hA
    have hA := (if_neg c110).symm.trans hA
    by_cases d111 : T p = 111
    · exact ((if_pos d111).symm.trans hA).symm
    have hA := (if_neg d111).symm.trans hA
    have hA := (if_neg c112).symm.trans hA
    exact hA.symm
  subst hZ hB
  exact ⟨p, rfl, rfl, hp, Or.inl ⟨rfl, rfl⟩⟩
theorem rs_rel {T el nu : Nat → Int32} {n p : Nat} {ba fi se th nuc : Int32} (hn : n ≤ 100) (hp : p ≤ 100) (hT : ∀ q, q < n → el ((ba + nI q).toNatClampNeg) = T q) : RSrel T n p (f_X2_readStatement (nI p) fi se th nuc (nI n) T) (f_X6_readsStatement (nI p) ba (nI n) el nu) := by
  by_cases h : p < n
  · by_cases c112 : T p = 112
    · exact rs_112 hn hp hT h c112
    by_cases c103 : T p = 103
    · exact rs_103 hn hp hT h c103
    by_cases c104 : T p = 104
    · exact rs_104 hn hp hT h c104
    by_cases c98 : T p = 98
    · exact rs_98 hn hp hT h c98
    by_cases c110 : T p = 110
    · exact rs_110 hn hp hT h c110
    exact rs_not hn hp hT h c112 c103 c104 c98 c110
  · generalize hA : f_X2_readStatement (nI p) fi se th nuc (nI n) T = A
    generalize hB : f_X6_readsStatement (nI p) ba (nI n) el nu = B
    unfold f_X2_readStatement at hA
    unfold f_X6_readsStatement at hB
    generalize hx : f_X3_at (nI p) (nI n) T = x at hA
    generalize hy : f_X6_here (nI p) ba (nI n) el = y at hB
    rw [r2_at hn hp, if_neg h] at hx
    rw [r6_here hn hp hT, if_neg h] at hy
    subst hx hy
    have hA := (if_neg (show ¬ (0 : Int32) = 98 by decide)).symm.trans hA
    have hA := (if_neg (show ¬ (0 : Int32) = 99 by decide)).symm.trans hA
    have hA := (if_neg (show ¬ (0 : Int32) = 100 by decide)).symm.trans hA
    have hA := (if_neg (show ¬ (0 : Int32) = 101 by decide)).symm.trans hA
    have hA := (if_neg (show ¬ (0 : Int32) = 102 by decide)).symm.trans hA
    have hA := (if_neg (show ¬ (0 : Int32) = 103 by decide)).symm.trans hA
    have hA := (if_neg (show ¬ (0 : Int32) = 104 by decide)).symm.trans hA
    have hA := (if_neg (show ¬ (0 : Int32) = 105 by decide)).symm.trans hA
    have hA := (if_neg (show ¬ (0 : Int32) = 106 by decide)).symm.trans hA
    have hA := (if_neg (show ¬ (0 : Int32) = 107 by decide)).symm.trans hA
    have hA := (if_neg (show ¬ (0 : Int32) = 108 by decide)).symm.trans hA
    have hA := (if_neg (show ¬ (0 : Int32) = 109 by decide)).symm.trans hA
    have hA := (if_neg (show ¬ (0 : Int32) = 110 by decide)).symm.trans hA
    have hA := (if_neg (show ¬ (0 : Int32) = 111 by decide)).symm.trans hA
    have hA := (if_neg (show ¬ (0 : Int32) = 112 by decide)).symm.trans hA
    have hB := (if_neg (show ¬ (-1000 : Int32) = 112 by decide)).symm.trans hB
    have hB := (if_neg (show ¬ (-1000 : Int32) = 103 by decide)).symm.trans hB
    have hB := (if_neg (show ¬ (-1000 : Int32) = 104 by decide)).symm.trans hB
    have hB := (if_neg (show ¬ (-1000 : Int32) = 98 by decide)).symm.trans hB
    have hB := (if_neg (show ¬ (-1000 : Int32) = 110 by decide)).symm.trans hB
    subst hA hB
    exact ⟨p, rfl, rfl, hp, Or.inl ⟨rfl, rfl⟩⟩
