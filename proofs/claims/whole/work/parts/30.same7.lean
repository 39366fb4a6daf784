/-! SAME ANSWERS: copy; told cards -/
theorem copy_loop {el : Nat → Int32} {x y i0 j0 n0 : Int32} {A B N : Nat} (hN : N ≤ 100) (en : n0 = nI N) (hA : 0 ≤ (100 * y + j0).toInt ∧ (100 * y + j0).toNatClampNeg = A ∧ A + N ≤ 800) (hB : 0 ≤ (100 * x + i0).toInt ∧ (100 * x + i0).toNatClampNeg = B ∧ B + N ≤ 800)
    (hdis : (i0 ≤ j0 → B ≤ A ∨ A + N ≤ B) ∧ (¬ i0 ≤ j0 → A ≤ B ∨ B + N ≤ A)) :
    ∀ (n k : Nat) (u : Nat → Int32), k ≤ N → N - k < n → (∀ q, u q = if ((if i0 ≤ j0 then A + (N - k) else A) ≤ q ∧ q < (if i0 ≤ j0 then A + N else A + k)) then el (B + (q - A)) else el q) →
    (f_X6_copy_L122 x i0 y j0 n0 n k u).1 = n0 ∧ ∀ q, (f_X6_copy_L122 x i0 y j0 n0 n k u).2 q = if A ≤ q ∧ q < A + N then el (B + (q - A)) else el q := by
  intro n
  induction n with
  | zero => intro k u _ h; exact absurd h (Nat.not_lt_zero _)
  | succ n ih =>
    intro k u hk hm hu
    obtain ⟨hA0, hA1, hA2⟩ := hA
    obtain ⟨hB0, hB1, hB2⟩ := hB
    have ca := cl_nat (100 * y + j0)
    have cb := cl_nat (100 * x + i0)
    rw [f_X6_copy_L122_s, en]
    by_cases c : nI N ≤ nI k
    · rw [if_pos c]
      rw [nI_leI (by omega) (by omega)] at c
      refine ⟨rfl, fun q => ?_⟩
      show u q = _
      rw [hu q]
      by_cases d : i0 ≤ j0
      · rw [if_pos d, if_pos d, show A + (N - k) = A by omega]
      · rw [if_neg d, if_neg d, show A + k = A + N by omega]
    · rw [if_neg c]
      rw [nI_leI (by omega) (by omega)] at c
      have key : ∀ (t : Nat), t < N → (∀ (w : Int32), w.toInt = t → ((100 * y + j0) + w).toNatClampNeg = A + t ∧ ((100 * x + i0) + w).toNatClampNeg = B + t) := by
        intro t ht w hw
        constructor
        · rw [cl_nat, addI (by omega)]; omega
        · rw [cl_nat, addI (by omega)]; omega
      by_cases d : i0 ≤ j0
      · rw [if_pos d]
        have e1 : (nI N - 1).toInt = N - 1 := by rw [subI (by rw [nI_toInt (by omega), x1]; omega), nI_toInt (by omega), x1]
        have e2 : ((nI N - 1) - nI k).toInt = ((N - 1 - k : Nat) : Int) := by rw [subI (by rw [e1, nI_toInt (by omega)]; omega), e1, nI_toInt (by omega)]; omega
        obtain ⟨q1, q2⟩ := key (N - 1 - k) (by omega) _ e2
        rw [q1, q2, ← en]
        have hz := hdis.1 d
        have hread : u (B + (N - 1 - k)) = el (B + (N - 1 - k)) := by
          rw [hu, if_pos d, if_pos d, if_neg (by omega)]
        rw [hread]
        refine ih (k + 1) _ (by omega) (by omega) (fun q => ?_)
        rw [if_pos d, if_pos d]
        by_cases hq : q = A + (N - 1 - k)
        · subst hq
          rw [upd_at, if_pos (by omega)]
          congr 1; omega
        · rw [upd_ne _ _ hq, hu q, if_pos d, if_pos d]
          by_cases h1 : A + (N - k) ≤ q ∧ q < A + N
          · rw [if_pos h1, if_pos (by omega)]
          · rw [if_neg h1, if_neg (by omega)]
      · rw [if_neg d]
        obtain ⟨q1, q2⟩ := key k (by omega) (nI k) (nI_toInt (by omega))
        rw [q1, q2, ← en]
        have hz := hdis.2 d
        have hread : u (B + k) = el (B + k) := by
          rw [hu, if_neg d, if_neg d, if_neg (by omega)]
        rw [hread]
        refine ih (k + 1) _ (by omega) (by omega) (fun q => ?_)
        rw [if_neg d, if_neg d]
        by_cases hq : q = A + k
        · subst hq
          rw [upd_at, if_pos (by omega)]
          congr 1; omega
        · rw [upd_ne _ _ hq, hu q, if_neg d, if_neg d]
          by_cases h1 : A ≤ q ∧ q < A + k
          · rw [if_pos h1, if_pos (by omega)]
          · rw [if_neg h1, if_neg (by omega)]
section
variable {ke so si el kd kt ho rso rsz snu ski sst ssl : Nat → Int32} {rel : Nat → Nat → Int32}
theorem two_eq {i j : Nat} (hS : RS ke so si el kd kt ho rso rsz rel snu ski sst ssl) (hi : i < 8) (hj : j < 8) {α : Type} (a : α) (F : Int32 → α) :
    (if ke i = 0 then F (-11) else (if ke j = 0 then F (-11) else (if ke i = 2 then (if ke j = 2 then a else F (-12)) else F (-12)))) = (if f_X5_twoRowsRefusal (ho i) (ho j) = 0 then a else F (f_X5_twoRowsRefusal (ho i) (ho j))) := by
  obtain ⟨a1, a2, _⟩ := hS i hi
  obtain ⟨b1, b2, _⟩ := hS j hj
  rw [a1, b1]
  unfold f_X5_twoRowsRefusal
  by_cases c0 : ho i = 0
  · rw [if_pos c0, if_pos c0, if_neg (by decide)]
  · rw [if_neg c0, if_neg c0]
    by_cases c1 : ho j = 0
    · rw [if_pos c1, if_pos c1, if_neg (by decide)]
    · rw [if_neg c1, if_neg c1]
      by_cases c2 : ho i = 2
      · rw [if_pos c2, if_pos c2]
        by_cases c3 : ho j = 2
        · rw [if_pos c3, if_pos c3, if_pos rfl]
        · rw [if_neg c3, if_neg c3, if_neg (by decide)]
      · rw [if_neg c2, if_neg c2, if_neg (by decide)]
theorem hundred {i : Nat} {x : Int32} (hi : i < 8) (hx : 0 ≤ x.toInt ∧ x.toInt ≤ 100) : (100 * nI i + x).toInt = 100 * i + x.toInt := by
  have h4 : (100 : Int32).toInt = 100 := rfl
  have e : (nI i).toInt = i := nI_toInt (by omega)
  have e1 : (100 * nI i).toInt = 100 * i := by rw [mulI (by rw [h4, e]; omega), h4, e]
  rw [addI (by rw [e1]; omega), e1]
theorem copy_m {d i0 e0 j0 n0 : Int32} (hS : RS ke so si el kd kt ho rso rsz rel snu ski sst ssl) :
    (f_X5_copy d i0 e0 j0 n0 ho rso rsz rel).1 = (f_X6_copy d i0 e0 j0 n0 ke so si el).1 ∧ RS ke so si (f_X6_copy d i0 e0 j0 n0 ke so si el).2 kd kt ho rso rsz (f_X5_copy d i0 e0 j0 n0 ho rso rsz rel).2 snu ski sst ssl := by
  unfold f_X5_copy f_X6_copy
  by_cases c : ¬ d < 0 ∧ ¬ (8 : Int32) ≤ d
  · rw [if_pos c]
    obtain ⟨ed, hd⟩ := sh_ok c
    generalize d.toNatClampNeg = i at ed hd
    subst ed
    rw [shelf_i hd, if_neg o0]
    by_cases c2 : ¬ e0 < 0 ∧ ¬ (8 : Int32) ≤ e0
    · rw [if_pos c2]
      obtain ⟨ee, he⟩ := sh_ok c2
      generalize e0.toNatClampNeg = j at ee he
      subst ee
      rw [shelf_i he, if_neg o0, two_eq hS hd he _ (fun x => (x, el))]
      by_cases r : f_X5_twoRowsRefusal (ho i) (ho j) = 0
      · rw [if_pos r, if_pos r]
        obtain ⟨a1, a2, a3, a4, a5, a6, a7⟩ := hS i hd
        obtain ⟨b1, b2, b3, b4, b5, b6, b7⟩ := hS j he
        rw [a3, b3, a4, b4]
        by_cases t : rso i = rso j
        · rw [if_pos t, if_pos t]
          have hP : ∀ (w z : Int32), (0 ≤ z.toInt ∧ z.toInt ≤ 100) → (f_X3_hasPlaces w n0 z = 0 ↔ ¬ (¬ w < 0 ∧ ¬ n0 < 0 ∧ ¬ (z - w) < n0)) := by
            intro w z hz
            unfold f_X3_hasPlaces
            by_cases q0 : w < 0
            · rw [if_pos q0]; exact ⟨fun _ q => q.1 q0, fun _ => rfl⟩
            · rw [if_neg q0]
              by_cases q1 : n0 < 0
              · rw [if_pos q1]; exact ⟨fun _ q => q.2.1 q1, fun _ => rfl⟩
              · rw [if_neg q1]
                by_cases q2 : z < w
                · rw [if_pos q2]
                  refine ⟨fun _ q => q.2.2 ?_, fun _ => rfl⟩
                  rw [xlt, x0] at q0 q1
                  rw [xlt] at q2 ⊢
                  rw [subI (by have := Int32.toInt_lt w; omega)]; omega
                · rw [if_neg q2]
                  by_cases q3 : z - w < n0
                  · rw [if_pos q3]; exact ⟨fun _ q => q.2.2 q3, fun _ => rfl⟩
                  · rw [if_neg q3]; exact ⟨fun q => absurd q (by decide), fun q => absurd ⟨q0, q1, q3⟩ q⟩
          by_cases n1 : n0 < 0
          · rw [if_pos n1, if_pos ((hP i0 _ a5).mpr (fun q => q.2.1 n1))]; exact ⟨rfl, hS⟩
          · rw [if_neg n1]
            by_cases n2 : i0 < 0
            · rw [if_pos n2, if_pos ((hP i0 _ a5).mpr (fun q => q.1 n2))]; exact ⟨rfl, hS⟩
            · rw [if_neg n2]
              by_cases n3 : rsz i - i0 < n0
              · rw [if_pos ((hP i0 _ a5).mpr (fun q => q.2.2 n3))]
                by_cases n4 : j0 < 0
                · rw [if_pos n4]; exact ⟨rfl, hS⟩
                · rw [if_neg n4, if_pos n3]; exact ⟨rfl, hS⟩
              · rw [if_neg (fun q => (hP i0 _ a5).mp q ⟨n2, n1, n3⟩)]
                by_cases n4 : j0 < 0
                · rw [if_pos n4, if_pos ((hP j0 _ b5).mpr (fun q => q.1 n4))]; exact ⟨rfl, hS⟩
                · rw [if_neg n4, if_neg n3]
                  by_cases n5 : n0 ≤ rsz j - j0
                  · rw [if_pos n5, if_neg (fun q => (hP j0 _ b5).mp q ⟨n4, n1, Int32.not_lt.mpr n5⟩)]
                    have g1 := cp_ok n2 n1 a5.1 a5.2 n3
                    have g2 := cp_ok n4 n1 b5.1 b5.2 (Int32.not_lt.mpr n5)
                    have en : n0 = nI n0.toNatClampNeg := asN g1.2.1
                    have cn := cl_nat n0
                    have ci := cl_nat i0
                    have cj := cl_nat j0
                    have eA := hundred he (x := j0) ⟨g2.1, by omega⟩
                    have eB := hundred hd (x := i0) ⟨g1.1, by omega⟩
                    obtain ⟨l1, l2⟩ := copy_loop (el := el) (x := nI i) (y := nI j) (i0 := i0) (j0 := j0) (n0 := n0) (A := 100 * j + j0.toNatClampNeg) (B := 100 * i + i0.toNatClampNeg) (N := n0.toNatClampNeg) (by omega) en ⟨by omega, by rw [cl_nat, eA]; omega, by omega⟩ ⟨by omega, by rw [cl_nat, eB]; omega, by omega⟩
                      ⟨fun q => by rw [xle] at q; by_cases hij : i = j; (left; omega); by_cases hlt : i < j; (left; omega); right; omega, fun q => by rw [xle] at q; by_cases hij : i = j; (left; omega); by_cases hlt : i < j; (right; omega); left; omega⟩ (n0.toNatClampNeg + 1) 0 el (Nat.zero_le _) (by omega) (fun q => by
                        by_cases hq : i0 ≤ j0
                        · rw [if_pos hq, if_pos hq, if_neg (by omega)]
                        · rw [if_neg hq, if_neg hq, if_neg (by omega)])
                    refine ⟨l1.symm, hS.write (fun k hk => ?_) (fun q k hq hk => ?_)⟩
                    · rw [l2]
                      unfold va_cpy
                      by_cases hin : j0.toNatClampNeg ≤ k ∧ k < j0.toNatClampNeg + n0.toNatClampNeg
                      · rw [if_pos hin, if_pos (by omega), show 100 * i + i0.toNatClampNeg + (100 * j + k - (100 * j + j0.toNatClampNeg)) = 100 * i + (i0.toNatClampNeg + (k - j0.toNatClampNeg)) by omega]
                        exact a6 _ (by omega)
                      · rw [if_neg hin, if_neg (by omega)]
                        exact b6 _ hk
                    · rw [l2, if_neg (by omega)]
                  · rw [if_neg n5, if_pos ((hP j0 _ b5).mpr (fun q => n5 (Int32.not_lt.mp q.2.2)))]; exact ⟨rfl, hS⟩
        · rw [if_neg t, if_neg t]; exact ⟨rfl, hS⟩
      · rw [if_neg r, if_neg r]; exact ⟨rfl, hS⟩
    · rw [if_neg c2, shelf_no c2, if_pos rfl]; exact ⟨rfl, hS⟩
  · rw [if_neg c, shelf_no c, if_pos rfl]
    split <;> exact ⟨rfl, hS⟩
end
