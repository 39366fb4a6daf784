theorem gr.upm {L0 L1 : List Nat} {F0 F1 : Nat → va_E} {P : Nat → Prop} {b : Nat} {e2 e3 : va_E} (h : gr L0 F0 P L1 F1) (_ : wi L1 (va_up F1 b e2) b e3) (hb : ∀ q, q ∈ L0 → P q → q ≠ b) : gr L0 F0 P L1 (va_up F1 b e2) :=
  fun a ha => ⟨(h a ha).1, fun hp => (va_up_ne F1 e2 (hb a ha hp)).trans ((h a ha).2 hp)⟩
theorem gr.callm {L0 L1 : List Nat} {F0 F1 F2 : Nat → va_E} {P P2 : Nat → Prop} (h : gr L0 F0 P L1 F1) (h2 : wk P2 F2 F1) (hp : ∀ q, q ∈ L0 → P q → P2 q) : gr L0 F0 P L1 F2 :=
  fun a ha => ⟨(h a ha).1, fun q => (h2 a (hp a ha q)).trans ((h a ha).2 q)⟩
theorem add_people {kind sc slip people : Int32} {nu ki st sl : Nat → Int32} (h : 0 ≤ people.toInt) : 0 ≤ (f_X0_addPerson kind sc slip people nu ki st sl).2.1.toInt := by
  unfold f_X0_addPerson
  split
  · exact h
  · split
    · exact h
    · split
      · exact h
      · split
        · exact h
        · split
          · next c =>
            rw [Int32.lt_iff_toInt_lt] at c
            have h12 : (12 : Int32).toInt = 12 := rfl
            have h1 : (1 : Int32).toInt = 1 := rfl
            show 0 ≤ (people + 1).toInt
            rw [addI (by rw [h1]; omega), h1]
            omega
          · exact h
theorem follows_people {up down high prize z rounds people le fi se th : Int32} {nu ki st sl : Nat → Int32} (h : 0 ≤ people.toInt) : 0 ≤ (f_X0_follows up down high prize z rounds people le fi se th nu ki st sl).2.2.2.2.2.2.1.toInt := by
  unfold f_X0_follows
  split
  · split
    · exact h
    · split
      · generalize f_X0_changeIfCanBe 0 fi up down high prize z = x
        show 0 ≤ ((if x.1 = 0 then _ else _ : Int32 × Int32 × Int32 × Int32 × Int32 × Int32 × Int32 × (Nat → Int32) × (Nat → Int32) × (Nat → Int32) × (Nat → Int32)).2.2.2.2.2.2.1).toInt
        split
        · exact h
        · generalize f_X0_changeIfCanBe 1 se x.2.1 x.2.2.1 x.2.2.2.1 x.2.2.2.2.1 x.2.2.2.2.2 = y
          show 0 ≤ ((if y.1 = 0 then _ else _ : Int32 × Int32 × Int32 × Int32 × Int32 × Int32 × Int32 × (Nat → Int32) × (Nat → Int32) × (Nat → Int32) × (Nat → Int32)).2.2.2.2.2.2.1).toInt
          split <;> exact h
      · split
        · exact h
        · split
          · exact add_people h
          · exact h
  · exact h
theorem rtf_le_loop (sz : Int32) (fo : Nat → Int32) (x9 : Int32 × Int32 × (Nat → Int32)) {N : Nat} (h : x9.2.1.toInt ≤ N) : ∀ (n k : Nat) (f : Nat → Int32), (f_X3_takeFrom_L14 sz fo x9 n k f).2.1.toInt ≤ N := by
  intro n
  induction n with
  | zero => intro k f; show (0 : Int32).toInt ≤ (N : Int); rw [Int32.toInt_zero]; omega
  | succ n ih =>
    intro k f
    rw [f_X3_takeFrom_L14_s]
    split
    · exact h
    · exact ih _ _
theorem rtf_le {N : Nat} {f fo : Nat → Int32} {so sz : Int32} (hN : N < 2147483648) : (f_X3_takeFrom N f so sz fo).2.1.toInt ≤ N := by
  unfold f_X3_takeFrom
  exact rtf_le_loop _ _ _ (begin_le hN) _ _ _
def f_X5_crowd_L86 (d : Int32) (x_no_up : Int32) (x_no_down : Int32) (x_no_high : Int32) (x_no_prize : Int32) (x_no_z : Int32) (x_no_rounds : Int32) (x_no_people : Int32) (x_no_ls : Int32) (x_no_cr_so : Int32) (x_no_cr_sz : Int32) (x_no_cr_e_f : Nat → Int32) (pr_nu : Nat → Int32) (pr_ki : Nat → Int32) (pr_st : Nat → Int32) (pr_sl : Nat → Int32) (rw_sz : Nat → Int32) (el_f : Nat → Nat → Int32) (x45 : Int32 × Int32 × Int32 × Int32 × Int32 × Int32 × Int32) (x74 : Int32 × Int32 × Int32 × Int32 × Int32 × Int32 × Int32 × Int32 × Int32 × Int32 × (Nat → Int32) × (Nat → Int32) × (Nat → Int32) × (Nat → Int32) × (Nat → Int32)) : Nat → Nat → (Int32) → (Int32) → (Int32) → (Int32) → (Int32) → (Int32) → (Nat → Int32) → (Nat → Int32) → (Nat → Int32) → (Nat → Int32) → (Int32) → (Int32) → (Int32) → (Int32) → (Int32) → (Int32) → Int32 × Int32 × Int32 × Int32 × Int32 × Int32 × Int32 × Int32 × Int32 × Int32 × Int32 × (Nat → Int32) × (Nat → Int32) × (Nat → Int32) × (Nat → Int32) × (Nat → Int32) × Int32 × Int32 × Int32 × Int32 × Int32 × Int32 × Int32 × Int32 × Int32 × Int32 × (Nat → Int32) × (Nat → Int32) × (Nat → Int32) × (Nat → Int32) × (Nat → Int32)
  | 0, _, _, _, _, _, _, _, _, _, _, _, _, _, _, _, _, _ => (0, 0, 0, 0, 0, 0, 0, 0, 0, 0, 0, (fun _ => 0), (fun _ => 0), (fun _ => 0), (fun _ => 0), (fun _ => 0), 0, 0, 0, 0, 0, 0, 0, 0, 0, 0, (fun _ => 0), (fun _ => 0), (fun _ => 0), (fun _ => 0), (fun _ => 0))
  | n + 1, k, u_x_mi_up, u_x_mi_down, u_x_mi_high, u_x_mi_prize, u_x_mi_z, u_x_mi_people, u_qm_nu, u_qm_ki, u_qm_st, u_qm_sl, u_q9_pl, u_q9_le, u_q9_fi, u_q9_se, u_q9_th, u_q9_nu => if x45.1 ≤ (nI k) then (bnd (f_X0_takeFrom 12 x_no_cr_e_f u_x_mi_up u_x_mi_down u_x_mi_high u_x_mi_prize u_x_mi_z x74.2.2.2.2.2.1 u_x_mi_people x74.2.2.2.2.2.2.2.1 x74.2.2.2.2.2.2.2.2.1 x74.2.2.2.2.2.2.2.2.2.1 x74.2.2.2.2.2.2.2.2.2.2.1 pr_nu pr_ki pr_st pr_sl u_qm_nu u_qm_ki u_qm_st u_qm_sl) (fun x141 : Int32 × Int32 × Int32 × Int32 × Int32 × Int32 × Int32 × Int32 × Int32 × Int32 × (Nat → Int32) × (Nat → Int32) × (Nat → Int32) × (Nat → Int32) × (Nat → Int32) => (x45.1, x141.1, x141.2.1, x141.2.2.1, x141.2.2.2.1, x141.2.2.2.2.1, x141.2.2.2.2.2.1, x141.2.2.2.2.2.2.1, x141.2.2.2.2.2.2.2.1, x141.2.2.2.2.2.2.2.2.1, x141.2.2.2.2.2.2.2.2.2.1, x141.2.2.2.2.2.2.2.2.2.2.1, x141.2.2.2.2.2.2.2.2.2.2.2.1, x141.2.2.2.2.2.2.2.2.2.2.2.2.1, x141.2.2.2.2.2.2.2.2.2.2.2.2.2.1, x141.2.2.2.2.2.2.2.2.2.2.2.2.2.2, u_x_mi_up, u_x_mi_down, u_x_mi_high, u_x_mi_prize, u_x_mi_z, x74.2.2.2.2.2.1, u_x_mi_people, x74.2.2.2.2.2.2.2.1, x74.2.2.2.2.2.2.2.2.1, x74.2.2.2.2.2.2.2.2.2.1, x74.2.2.2.2.2.2.2.2.2.2.1, u_qm_nu, u_qm_ki, u_qm_st, u_qm_sl))) else (bnd (f_X2_readStatement u_q9_pl u_q9_fi u_q9_se u_q9_th u_q9_nu (rw_sz (d.toNatClampNeg)) (el_f (d.toNatClampNeg))) (fun x102 : Int32 × Int32 × Int32 × Int32 × Int32 × Int32 × Int32 => if x102.1 = (0 : Int32) then (((-2000) - u_q9_pl), x_no_up, x_no_down, x_no_high, x_no_prize, x_no_z, x_no_rounds, x_no_people, x_no_ls, x_no_cr_so, x_no_cr_sz, x_no_cr_e_f, pr_nu, pr_ki, pr_st, pr_sl, u_x_mi_up, u_x_mi_down, u_x_mi_high, u_x_mi_prize, u_x_mi_z, x74.2.2.2.2.2.1, u_x_mi_people, x74.2.2.2.2.2.2.2.1, x74.2.2.2.2.2.2.2.2.1, x74.2.2.2.2.2.2.2.2.2.1, x74.2.2.2.2.2.2.2.2.2.2.1, u_qm_nu, u_qm_ki, u_qm_st, u_qm_sl) else (bnd (f_X0_follows u_x_mi_up u_x_mi_down u_x_mi_high u_x_mi_prize u_x_mi_z x74.2.2.2.2.2.1 u_x_mi_people x102.2.2.1 x102.2.2.2.1 x102.2.2.2.2.1 x102.2.2.2.2.2.1 u_qm_nu u_qm_ki u_qm_st u_qm_sl) (fun x114 : Int32 × Int32 × Int32 × Int32 × Int32 × Int32 × Int32 × (Nat → Int32) × (Nat → Int32) × (Nat → Int32) × (Nat → Int32) => if x114.1 = (0 : Int32) then (((-2000) - u_q9_pl), x_no_up, x_no_down, x_no_high, x_no_prize, x_no_z, x_no_rounds, x_no_people, x_no_ls, x_no_cr_so, x_no_cr_sz, x_no_cr_e_f, pr_nu, pr_ki, pr_st, pr_sl, x114.2.1, x114.2.2.1, x114.2.2.2.1, x114.2.2.2.2.1, x114.2.2.2.2.2.1, x74.2.2.2.2.2.1, x114.2.2.2.2.2.2.1, x74.2.2.2.2.2.2.2.1, x74.2.2.2.2.2.2.2.2.1, x74.2.2.2.2.2.2.2.2.2.1, x74.2.2.2.2.2.2.2.2.2.2.1, x114.2.2.2.2.2.2.2.1, x114.2.2.2.2.2.2.2.2.1, x114.2.2.2.2.2.2.2.2.2.1, x114.2.2.2.2.2.2.2.2.2.2) else (f_X5_crowd_L86 d x_no_up x_no_down x_no_high x_no_prize x_no_z x_no_rounds x_no_people x_no_ls x_no_cr_so x_no_cr_sz x_no_cr_e_f pr_nu pr_ki pr_st pr_sl rw_sz el_f x45 x74 n ((k + 1)) x114.2.1 x114.2.2.1 x114.2.2.2.1 x114.2.2.2.2.1 x114.2.2.2.2.2.1 x114.2.2.2.2.2.2.1 x114.2.2.2.2.2.2.2.1 x114.2.2.2.2.2.2.2.2.1 x114.2.2.2.2.2.2.2.2.2.1 x114.2.2.2.2.2.2.2.2.2.2 x102.2.1 x102.2.2.1 x102.2.2.2.1 x102.2.2.2.2.1 x102.2.2.2.2.2.1 x102.2.2.2.2.2.2)))))
theorem f_X5_crowd_L86_s (d : Int32) (x_no_up : Int32) (x_no_down : Int32) (x_no_high : Int32) (x_no_prize : Int32) (x_no_z : Int32) (x_no_rounds : Int32) (x_no_people : Int32) (x_no_ls : Int32) (x_no_cr_so : Int32) (x_no_cr_sz : Int32) (x_no_cr_e_f : Nat → Int32) (pr_nu : Nat → Int32) (pr_ki : Nat → Int32) (pr_st : Nat → Int32) (pr_sl : Nat → Int32) (rw_sz : Nat → Int32) (el_f : Nat → Nat → Int32) (x45 : Int32 × Int32 × Int32 × Int32 × Int32 × Int32 × Int32) (x74 : Int32 × Int32 × Int32 × Int32 × Int32 × Int32 × Int32 × Int32 × Int32 × Int32 × (Nat → Int32) × (Nat → Int32) × (Nat → Int32) × (Nat → Int32) × (Nat → Int32)) (n k : Nat) (u_x_mi_up : Int32) (u_x_mi_down : Int32) (u_x_mi_high : Int32) (u_x_mi_prize : Int32) (u_x_mi_z : Int32) (u_x_mi_people : Int32) (u_qm_nu : Nat → Int32) (u_qm_ki : Nat → Int32) (u_qm_st : Nat → Int32) (u_qm_sl : Nat → Int32) (u_q9_pl : Int32) (u_q9_le : Int32) (u_q9_fi : Int32) (u_q9_se : Int32) (u_q9_th : Int32) (u_q9_nu : Int32) : f_X5_crowd_L86 d x_no_up x_no_down x_no_high x_no_prize x_no_z x_no_rounds x_no_people x_no_ls x_no_cr_so x_no_cr_sz x_no_cr_e_f pr_nu pr_ki pr_st pr_sl rw_sz el_f x45 x74 (n + 1) k u_x_mi_up u_x_mi_down u_x_mi_high u_x_mi_prize u_x_mi_z u_x_mi_people u_qm_nu u_qm_ki u_qm_st u_qm_sl u_q9_pl u_q9_le u_q9_fi u_q9_se u_q9_th u_q9_nu = (if x45.1 ≤ (nI k) then (bnd (f_X0_takeFrom 12 x_no_cr_e_f u_x_mi_up u_x_mi_down u_x_mi_high u_x_mi_prize u_x_mi_z x74.2.2.2.2.2.1 u_x_mi_people x74.2.2.2.2.2.2.2.1 x74.2.2.2.2.2.2.2.2.1 x74.2.2.2.2.2.2.2.2.2.1 x74.2.2.2.2.2.2.2.2.2.2.1 pr_nu pr_ki pr_st pr_sl u_qm_nu u_qm_ki u_qm_st u_qm_sl) (fun x141 : Int32 × Int32 × Int32 × Int32 × Int32 × Int32 × Int32 × Int32 × Int32 × Int32 × (Nat → Int32) × (Nat → Int32) × (Nat → Int32) × (Nat → Int32) × (Nat → Int32) => (x45.1, x141.1, x141.2.1, x141.2.2.1, x141.2.2.2.1, x141.2.2.2.2.1, x141.2.2.2.2.2.1, x141.2.2.2.2.2.2.1, x141.2.2.2.2.2.2.2.1, x141.2.2.2.2.2.2.2.2.1, x141.2.2.2.2.2.2.2.2.2.1, x141.2.2.2.2.2.2.2.2.2.2.1, x141.2.2.2.2.2.2.2.2.2.2.2.1, x141.2.2.2.2.2.2.2.2.2.2.2.2.1, x141.2.2.2.2.2.2.2.2.2.2.2.2.2.1, x141.2.2.2.2.2.2.2.2.2.2.2.2.2.2, u_x_mi_up, u_x_mi_down, u_x_mi_high, u_x_mi_prize, u_x_mi_z, x74.2.2.2.2.2.1, u_x_mi_people, x74.2.2.2.2.2.2.2.1, x74.2.2.2.2.2.2.2.2.1, x74.2.2.2.2.2.2.2.2.2.1, x74.2.2.2.2.2.2.2.2.2.2.1, u_qm_nu, u_qm_ki, u_qm_st, u_qm_sl))) else (bnd (f_X2_readStatement u_q9_pl u_q9_fi u_q9_se u_q9_th u_q9_nu (rw_sz (d.toNatClampNeg)) (el_f (d.toNatClampNeg))) (fun x102 : Int32 × Int32 × Int32 × Int32 × Int32 × Int32 × Int32 => if x102.1 = (0 : Int32) then (((-2000) - u_q9_pl), x_no_up, x_no_down, x_no_high, x_no_prize, x_no_z, x_no_rounds, x_no_people, x_no_ls, x_no_cr_so, x_no_cr_sz, x_no_cr_e_f, pr_nu, pr_ki, pr_st, pr_sl, u_x_mi_up, u_x_mi_down, u_x_mi_high, u_x_mi_prize, u_x_mi_z, x74.2.2.2.2.2.1, u_x_mi_people, x74.2.2.2.2.2.2.2.1, x74.2.2.2.2.2.2.2.2.1, x74.2.2.2.2.2.2.2.2.2.1, x74.2.2.2.2.2.2.2.2.2.2.1, u_qm_nu, u_qm_ki, u_qm_st, u_qm_sl) else (bnd (f_X0_follows u_x_mi_up u_x_mi_down u_x_mi_high u_x_mi_prize u_x_mi_z x74.2.2.2.2.2.1 u_x_mi_people x102.2.2.1 x102.2.2.2.1 x102.2.2.2.2.1 x102.2.2.2.2.2.1 u_qm_nu u_qm_ki u_qm_st u_qm_sl) (fun x114 : Int32 × Int32 × Int32 × Int32 × Int32 × Int32 × Int32 × (Nat → Int32) × (Nat → Int32) × (Nat → Int32) × (Nat → Int32) => if x114.1 = (0 : Int32) then (((-2000) - u_q9_pl), x_no_up, x_no_down, x_no_high, x_no_prize, x_no_z, x_no_rounds, x_no_people, x_no_ls, x_no_cr_so, x_no_cr_sz, x_no_cr_e_f, pr_nu, pr_ki, pr_st, pr_sl, x114.2.1, x114.2.2.1, x114.2.2.2.1, x114.2.2.2.2.1, x114.2.2.2.2.2.1, x74.2.2.2.2.2.1, x114.2.2.2.2.2.2.1, x74.2.2.2.2.2.2.2.1, x74.2.2.2.2.2.2.2.2.1, x74.2.2.2.2.2.2.2.2.2.1, x74.2.2.2.2.2.2.2.2.2.2.1, x114.2.2.2.2.2.2.2.1, x114.2.2.2.2.2.2.2.2.1, x114.2.2.2.2.2.2.2.2.2.1, x114.2.2.2.2.2.2.2.2.2.2) else (f_X5_crowd_L86 d x_no_up x_no_down x_no_high x_no_prize x_no_z x_no_rounds x_no_people x_no_ls x_no_cr_so x_no_cr_sz x_no_cr_e_f pr_nu pr_ki pr_st pr_sl rw_sz el_f x45 x74 n ((k + 1)) x114.2.1 x114.2.2.1 x114.2.2.2.1 x114.2.2.2.2.1 x114.2.2.2.2.2.1 x114.2.2.2.2.2.2.1 x114.2.2.2.2.2.2.2.1 x114.2.2.2.2.2.2.2.2.1 x114.2.2.2.2.2.2.2.2.2.1 x114.2.2.2.2.2.2.2.2.2.2 x102.2.1 x102.2.2.1 x102.2.2.2.1 x102.2.2.2.2.1 x102.2.2.2.2.2.1 x102.2.2.2.2.2.2)))))) := rfl
def f_X5_crowd (d : Int32) (x_no_up : Int32) (x_no_down : Int32) (x_no_high : Int32) (x_no_prize : Int32) (x_no_z : Int32) (x_no_rounds : Int32) (x_no_people : Int32) (x_no_ls : Int32) (x_no_cr_so : Int32) (x_no_cr_sz : Int32) (x_no_cr_e_f : Nat → Int32) (x_mi_up : Int32) (x_mi_down : Int32) (x_mi_high : Int32) (x_mi_prize : Int32) (x_mi_z : Int32) (x_mi_rounds : Int32) (x_mi_people : Int32) (x_mi_ls : Int32) (x_mi_cr_so : Int32) (x_mi_cr_sz : Int32) (x_mi_cr_e_f : Nat → Int32) (pr_nu : Nat → Int32) (pr_ki : Nat → Int32) (pr_st : Nat → Int32) (pr_sl : Nat → Int32) (qm_nu : Nat → Int32) (qm_ki : Nat → Int32) (qm_st : Nat → Int32) (qm_sl : Nat → Int32) (sh_ho : Nat → Int32) (rw_so : Nat → Int32) (rw_sz : Nat → Int32) (el_f : Nat → Nat → Int32) : Int32 × Int32 × Int32 × Int32 × Int32 × Int32 × Int32 × Int32 × Int32 × Int32 × Int32 × (Nat → Int32) × (Nat → Int32) × (Nat → Int32) × (Nat → Int32) × (Nat → Int32) × Int32 × Int32 × Int32 × Int32 × Int32 × Int32 × Int32 × Int32 × Int32 × Int32 × (Nat → Int32) × (Nat → Int32) × (Nat → Int32) × (Nat → Int32) × (Nat → Int32) := if (¬ d < 0 ∧ ¬ (8 : Int32) ≤ d) then (if (f_X5_rowRefusal (sh_ho (d.toNatClampNeg))) = (0 : Int32) then (if (rw_so (d.toNatClampNeg)) = (0 : Int32) then (bnd (f_X2_countStatements 0 0 0 0 0 0 (rw_sz (d.toNatClampNeg)) (el_f (d.toNatClampNeg))) (fun x45 : Int32 × Int32 × Int32 × Int32 × Int32 × Int32 × Int32 => if (1 : Int32) ≤ x45.1 then (bnd (f_X0_takeFrom 12 x_mi_cr_e_f x_no_up x_no_down x_no_high x_no_prize x_no_z x_no_rounds x_no_people x_no_ls x_no_cr_so x_no_cr_sz x_no_cr_e_f qm_nu qm_ki qm_st qm_sl pr_nu pr_ki pr_st pr_sl) (fun x74 : Int32 × Int32 × Int32 × Int32 × Int32 × Int32 × Int32 × Int32 × Int32 × Int32 × (Nat → Int32) × (Nat → Int32) × (Nat → Int32) × (Nat → Int32) × (Nat → Int32) => f_X5_crowd_L86 d x_no_up x_no_down x_no_high x_no_prize x_no_z x_no_rounds x_no_people x_no_ls x_no_cr_so x_no_cr_sz x_no_cr_e_f pr_nu pr_ki pr_st pr_sl rw_sz el_f x45 x74 (x45.1.toNatClampNeg + 1) 0 x74.1 x74.2.1 x74.2.2.1 x74.2.2.2.1 x74.2.2.2.2.1 x74.2.2.2.2.2.2.1 x74.2.2.2.2.2.2.2.2.2.2.2.1 x74.2.2.2.2.2.2.2.2.2.2.2.2.1 x74.2.2.2.2.2.2.2.2.2.2.2.2.2.1 x74.2.2.2.2.2.2.2.2.2.2.2.2.2.2 0 x45.2.2.1 x45.2.2.2.1 x45.2.2.2.2.1 x45.2.2.2.2.2.1 x45.2.2.2.2.2.2)) else (((-1000) - x45.2.1), x_no_up, x_no_down, x_no_high, x_no_prize, x_no_z, x_no_rounds, x_no_people, x_no_ls, x_no_cr_so, x_no_cr_sz, x_no_cr_e_f, pr_nu, pr_ki, pr_st, pr_sl, x_mi_up, x_mi_down, x_mi_high, x_mi_prize, x_mi_z, x_mi_rounds, x_mi_people, x_mi_ls, x_mi_cr_so, x_mi_cr_sz, x_mi_cr_e_f, qm_nu, qm_ki, qm_st, qm_sl))) else ((-12), x_no_up, x_no_down, x_no_high, x_no_prize, x_no_z, x_no_rounds, x_no_people, x_no_ls, x_no_cr_so, x_no_cr_sz, x_no_cr_e_f, pr_nu, pr_ki, pr_st, pr_sl, x_mi_up, x_mi_down, x_mi_high, x_mi_prize, x_mi_z, x_mi_rounds, x_mi_people, x_mi_ls, x_mi_cr_so, x_mi_cr_sz, x_mi_cr_e_f, qm_nu, qm_ki, qm_st, qm_sl)) else ((f_X5_rowRefusal (sh_ho (d.toNatClampNeg))), x_no_up, x_no_down, x_no_high, x_no_prize, x_no_z, x_no_rounds, x_no_people, x_no_ls, x_no_cr_so, x_no_cr_sz, x_no_cr_e_f, pr_nu, pr_ki, pr_st, pr_sl, x_mi_up, x_mi_down, x_mi_high, x_mi_prize, x_mi_z, x_mi_rounds, x_mi_people, x_mi_ls, x_mi_cr_so, x_mi_cr_sz, x_mi_cr_e_f, qm_nu, qm_ki, qm_st, qm_sl)) else ((-1), x_no_up, x_no_down, x_no_high, x_no_prize, x_no_z, x_no_rounds, x_no_people, x_no_ls, x_no_cr_so, x_no_cr_sz, x_no_cr_e_f, pr_nu, pr_ki, pr_st, pr_sl, x_mi_up, x_mi_down, x_mi_high, x_mi_prize, x_mi_z, x_mi_rounds, x_mi_people, x_mi_ls, x_mi_cr_so, x_mi_cr_sz, x_mi_cr_e_f, qm_nu, qm_ki, qm_st, qm_sl)
set_option maxHeartbeats 400000 in
set_option maxRecDepth 100000 in
theorem c_X5_crowd (l : Launch) (D : va_G) (cI cP cS cL : ClassId) (L : List Nat) (F : Nat → va_E) (x : Nat) (d : Int32) (x_no : Nat) (x_ke : Nat) (x_mi : Nat) (x_im : Int32) (x_sh : Nat) (x_co : Nat) (x_ot : Nat) (x_no_up : Int32) (x_no_down : Int32) (x_no_high : Int32) (x_no_prize : Int32) (x_no_z : Int32) (x_no_rounds : Int32) (x_no_people : Int32) (x_no_pa : Nat) (x_no_cr : Nat) (x_no_ls : Int32) (x_no_cr_e : Nat) (x_no_cr_so : Int32) (x_no_cr_sz : Int32) (x_no_cr_e_f : Nat → Int32) (x_mi_up : Int32) (x_mi_down : Int32) (x_mi_high : Int32) (x_mi_prize : Int32) (x_mi_z : Int32) (x_mi_rounds : Int32) (x_mi_people : Int32) (x_mi_pa : Nat) (x_mi_cr : Nat) (x_mi_ls : Int32) (x_mi_cr_e : Nat) (x_mi_cr_so : Int32) (x_mi_cr_sz : Int32) (x_mi_cr_e_f : Nat → Int32) (pr : Nat → Nat) (pr_nu : Nat → Int32) (pr_ki : Nat → Int32) (pr_st : Nat → Int32) (pr_sl : Nat → Int32) (qm : Nat → Nat) (qm_nu : Nat → Int32) (qm_ki : Nat → Int32) (qm_st : Nat → Int32) (qm_sl : Nat → Int32) (sh : Nat → Nat) (sh_ho : Nat → Int32) (rw : Nat → Nat) (sp : Nat → Nat) (el : Nat → Nat) (rw_so : Nat → Int32) (rw_sz : Nat → Int32) (el_f : Nat → Nat → Int32) (h_x : wi L F x (eX x_no x_ke x_mi x_im x_sh x_co x_ot)) (h_x_no : wi L F x_no (eG x_no_up x_no_down x_no_high x_no_prize x_no_z x_no_rounds x_no_people x_no_pa x_no_cr x_no_ls)) (h_x_no_pa : wi L F x_no_pa (eQ cP 12 (fun i => some (pr i)))) (h_x_no_cr : wi L F x_no_cr (eR x_no_cr_e x_no_cr_so x_no_cr_sz)) (h_x_no_cr_e : wi L F x_no_cr_e (eI cI 12 x_no_cr_e_f)) (h_x_mi : wi L F x_mi (eG x_mi_up x_mi_down x_mi_high x_mi_prize x_mi_z x_mi_rounds x_mi_people x_mi_pa x_mi_cr x_mi_ls)) (h_x_mi_pa : wi L F x_mi_pa (eQ cP 12 (fun i => some (qm i)))) (h_x_mi_cr : wi L F x_mi_cr (eR x_mi_cr_e x_mi_cr_so x_mi_cr_sz)) (h_x_mi_cr_e : wi L F x_mi_cr_e (eI cI 12 x_mi_cr_e_f)) (h_x_sh : wi L F x_sh (eQ cS 8 (fun i => some (sh i)))) (h_pr : ∀ i, i < 12 → wi L F (pr i) (eP (pr_nu i) (pr_ki i) (pr_st i) (pr_sl i))) (h_qm : ∀ i, i < 12 → wi L F (qm i) (eP (qm_nu i) (qm_ki i) (qm_st i) (qm_sl i))) (h_sh : ∀ i, i < 8 → wi L F (sh i) (eS (sh_ho i) (rw i) (sp i))) (h_rw : ∀ i, i < 8 → wi L F (rw i) (eR (el i) (rw_so i) (rw_sz i))) (h_el : ∀ i, i < 8 → wi L F (el i) (eI cI 100 (el_f i))) (hzs : ∀ i, i < 8 → (rw_sz i).toInt ≤ 100) (hzc : x_no_cr_sz.toInt ≤ 12) (hp0 : 0 ≤ x_no_people.toInt) (ne_x_no_x_mi : x_no ≠ x_mi) (ne_pr_qm : ∀ i j, i < 12 → j < 12 → pr i ≠ qm j) (ne_x_no_cr_x_mi_cr : x_no_cr ≠ x_mi_cr) (ne_x_no_cr_e_x_mi_cr_e : x_no_cr_e ≠ x_mi_cr_e) (hinj_qm : ∀ i k, i < 12 → k < 12 → qm i = qm k → i = k) (ne_rw_x_mi_cr : ∀ i, i < 8 → rw i ≠ x_mi_cr) (ne_el_x_mi_cr_e : ∀ i, i < 8 → el i ≠ x_mi_cr_e) (ne_x_mi_x_no : x_mi ≠ x_no) (ne_qm_pr : ∀ i j, i < 12 → j < 12 → qm i ≠ pr j) (ne_x_mi_cr_x_no_cr : x_mi_cr ≠ x_no_cr) (ne_x_mi_cr_e_x_no_cr_e : x_mi_cr_e ≠ x_no_cr_e) (hinj_pr : ∀ i k, i < 12 → k < 12 → pr i = pr k → i = k) (ne_rw_x_no_cr : ∀ i, i < 8 → rw i ≠ x_no_cr) (ne_el_x_no_cr_e : ∀ i, i < 8 → el i ≠ x_no_cr_e) : wMi l D cI cP cS cL yX5_crowd wsX5_crowd ({ frames := 6, cells := 1, slots := 7, locals := 126 } : Room) [.ref x, .int d] L F (fun r1 L1 F1 => ∃ y9 : Int32 × Int32 × Int32 × Int32 × Int32 × Int32 × Int32 × Int32 × Int32 × Int32 × Int32 × (Nat → Int32) × (Nat → Int32) × (Nat → Int32) × (Nat → Int32) × (Nat → Int32) × Int32 × Int32 × Int32 × Int32 × Int32 × Int32 × Int32 × Int32 × Int32 × Int32 × (Nat → Int32) × (Nat → Int32) × (Nat → Int32) × (Nat → Int32) × (Nat → Int32), y9 = (f_X5_crowd d x_no_up x_no_down x_no_high x_no_prize x_no_z x_no_rounds x_no_people x_no_ls x_no_cr_so x_no_cr_sz x_no_cr_e_f x_mi_up x_mi_down x_mi_high x_mi_prize x_mi_z x_mi_rounds x_mi_people x_mi_ls x_mi_cr_so x_mi_cr_sz x_mi_cr_e_f pr_nu pr_ki pr_st pr_sl qm_nu qm_ki qm_st qm_sl sh_ho rw_so rw_sz el_f) ∧ r1 = y9.1 ∧ F1 x_no = (eG y9.2.1 y9.2.2.1 y9.2.2.2.1 y9.2.2.2.2.1 y9.2.2.2.2.2.1 y9.2.2.2.2.2.2.1 y9.2.2.2.2.2.2.2.1 x_no_pa x_no_cr y9.2.2.2.2.2.2.2.2.1) ∧ F1 x_no_cr = (eR x_no_cr_e y9.2.2.2.2.2.2.2.2.2.1 y9.2.2.2.2.2.2.2.2.2.2.1) ∧ F1 x_no_cr_e = (eI cI 12 y9.2.2.2.2.2.2.2.2.2.2.2.1) ∧ F1 x_mi = (eG y9.2.2.2.2.2.2.2.2.2.2.2.2.2.2.2.2.1 y9.2.2.2.2.2.2.2.2.2.2.2.2.2.2.2.2.2.1 y9.2.2.2.2.2.2.2.2.2.2.2.2.2.2.2.2.2.2.1 y9.2.2.2.2.2.2.2.2.2.2.2.2.2.2.2.2.2.2.2.1 y9.2.2.2.2.2.2.2.2.2.2.2.2.2.2.2.2.2.2.2.2.1 y9.2.2.2.2.2.2.2.2.2.2.2.2.2.2.2.2.2.2.2.2.2.1 y9.2.2.2.2.2.2.2.2.2.2.2.2.2.2.2.2.2.2.2.2.2.2.1 x_mi_pa x_mi_cr y9.2.2.2.2.2.2.2.2.2.2.2.2.2.2.2.2.2.2.2.2.2.2.2.1) ∧ F1 x_mi_cr = (eR x_mi_cr_e y9.2.2.2.2.2.2.2.2.2.2.2.2.2.2.2.2.2.2.2.2.2.2.2.2.1 y9.2.2.2.2.2.2.2.2.2.2.2.2.2.2.2.2.2.2.2.2.2.2.2.2.2.1) ∧ F1 x_mi_cr_e = (eI cI 12 y9.2.2.2.2.2.2.2.2.2.2.2.2.2.2.2.2.2.2.2.2.2.2.2.2.2.2.1) ∧ (∀ i, i < 12 → F1 (pr i) = (eP (y9.2.2.2.2.2.2.2.2.2.2.2.2.1 i) (y9.2.2.2.2.2.2.2.2.2.2.2.2.2.1 i) (y9.2.2.2.2.2.2.2.2.2.2.2.2.2.2.1 i) (y9.2.2.2.2.2.2.2.2.2.2.2.2.2.2.2.1 i))) ∧ (∀ i, i < 12 → F1 (qm i) = (eP (y9.2.2.2.2.2.2.2.2.2.2.2.2.2.2.2.2.2.2.2.2.2.2.2.2.2.2.2.1 i) (y9.2.2.2.2.2.2.2.2.2.2.2.2.2.2.2.2.2.2.2.2.2.2.2.2.2.2.2.2.1 i) (y9.2.2.2.2.2.2.2.2.2.2.2.2.2.2.2.2.2.2.2.2.2.2.2.2.2.2.2.2.2.1 i) (y9.2.2.2.2.2.2.2.2.2.2.2.2.2.2.2.2.2.2.2.2.2.2.2.2.2.2.2.2.2.2 i))) ∧ gr L F (fun q : Nat => q ≠ x_no ∧ q ≠ x_no_cr ∧ q ≠ x_no_cr_e ∧ q ≠ x_mi ∧ q ≠ x_mi_cr ∧ q ≠ x_mi_cr_e ∧ (∀ i, i < 12 → q ≠ pr i) ∧ (∀ i, i < 12 → q ≠ qm i) ∧ True) L1 F1) 1 7 := by
  refine wM.of (cc := cX5_crowd) (maxL := 8) (ret := (some .int)) (by decide) rfl (Nat.le_of_ble_eq_true rfl) ?_
  intro pZ eZ sZ mZ below meth cZ A ls C hl w
  obtain ⟨hx, hb, hr, hml, hts, hown, hlocks, hK, hA, hin⟩ := C
  have hown : sZ.vm.findClass RX5 = some mZ.cls := hown
  have hl : lv_has ls 8 [(0, .ref x), (1, .int d)] := hl
  have m_0 : ((.fieldLink RX5 44 "TwoThirds$Shelf" "row" "LTwoThirds$Row;") : Cond) ∈ wsX5_crowd := by decide +kernel
  have i_X4 : ∀ w ∈ wsX40, w ∈ wsX5_crowd := by decide +kernel
  have m_2 : ((.fieldLink RX5 48 "TwoThirds$Row" "sort" "I") : Cond) ∈ wsX5_crowd := by decide +kernel
  have i_X3 : ∀ w ∈ wsX30, w ∈ wsX5_crowd := by decide +kernel
  have i_X2 : ∀ w ∈ wsX20, w ∈ wsX5_crowd := by decide +kernel
  have m_5 : ((.classLink RX5 54 RX2) : Cond) ∈ wsX5_crowd := by decide +kernel
  have m_6 : ((.instantiable RX2 7) : Cond) ∈ wsX5_crowd := by decide +kernel
  have m_7 : ((.initialized RX2) : Cond) ∈ wsX5_crowd := by decide +kernel
  have m_8 : ((.methodLink RX5 56 yX2_init) : Cond) ∈ wsX5_crowd := by decide +kernel
  have m_9 : ((.instanceMethod yX2_init) : Cond) ∈ wsX5_crowd := by decide +kernel
  have m_10 : ((.fieldLink RX5 19 "TwoThirds" "mind" "LTwoThirds$Game;") : Cond) ∈ wsX5_crowd := by decide +kernel
  have i_X5 : ∀ w ∈ wsX50, w ∈ wsX5_crowd := by decide +kernel
  have m_12 : ((.fieldLink RX5 10 "TwoThirds" "now" "LTwoThirds$Game;") : Cond) ∈ wsX5_crowd := by decide +kernel
  have m_13 : ((.fieldLink RX5 63 "TwoThirds$Reader" "place" "I") : Cond) ∈ wsX5_crowd := by decide +kernel
  have hk : gr L F (fun q : Nat => q ≠ x_no ∧ q ≠ x_no_cr ∧ q ≠ x_no_cr_e ∧ q ≠ x_mi ∧ q ≠ x_mi_cr ∧ q ≠ x_mi_cr_e ∧ (∀ i, i < 12 → q ≠ pr i) ∧ (∀ i, i < 12 → q ≠ qm i) ∧ True) L F := gr.rf
  have hq : f_X5_crowd d x_no_up x_no_down x_no_high x_no_prize x_no_z x_no_rounds x_no_people x_no_ls x_no_cr_so x_no_cr_sz x_no_cr_e_f x_mi_up x_mi_down x_mi_high x_mi_prize x_mi_z x_mi_rounds x_mi_people x_mi_ls x_mi_cr_so x_mi_cr_sz x_mi_cr_e_f pr_nu pr_ki pr_st pr_sl qm_nu qm_ki qm_st qm_sl sh_ho rw_so rw_sz el_f = f_X5_crowd d x_no_up x_no_down x_no_high x_no_prize x_no_z x_no_rounds x_no_people x_no_ls x_no_cr_so x_no_cr_sz x_no_cr_e_f x_mi_up x_mi_down x_mi_high x_mi_prize x_mi_z x_mi_rounds x_mi_people x_mi_ls x_mi_cr_so x_mi_cr_sz x_mi_cr_e_f pr_nu pr_ki pr_st pr_sl qm_nu qm_ki qm_st qm_sl sh_ho rw_so rw_sz el_f := rfl
  refine lv_aload_n hx hb dX5_crowd_0 rfl (lv_at hl 0 rfl) ?_
  refine lv_iload_n hx hb dX5_crowd_1 rfl (lv_at hl 1 rfl) ?_
  by_cases c1 : (¬ d < 0 ∧ ¬ (8 : Int32) ≤ d)
  · skip
    have hq := hq.trans (if_pos c1)
    have hlt_C : d.toNatClampNeg < 8 := w_okP (n := 8) c1 (by decide)
    refine w_finQ (v := .ref (sh (d.toNatClampNeg))) rfl (w_runV (rm := ({ frames := 0, cells := 0, slots := 0, locals := 0 } : Room)) (As := [.int d]) (rest := []) (n := 1) hx hb hml hts hown hK w (c_X5_shelfAt_some l D cI cP cS cL L _ x d x_no x_ke x_mi x_im x_sh x_co x_ot sh sh_ho rw sp h_x h_x_sh h_sh c1) gX5_crowd_X5_shelfAt rfl rfl rfl (by decide +kernel) ⟨(Nat.le_of_ble_eq_true rfl), (Nat.le_of_ble_eq_true rfl)⟩ h_x rfl rfl hl.1 rfl (Nat.le_of_ble_eq_true rfl) dX5_crowd_2 ⟨(Nat.le_of_ble_eq_true rfl), (Nat.le_of_ble_eq_true rfl)⟩) w hA (fun H locs w => ?_)
    refine lv_astore_n (lv' := [(2, .ref (sh (d.toNatClampNeg))), (0, .ref x), (1, .int d)]) hx hb dX5_crowd_5 rfl hl (by decide) rfl (fun ls hl => ?_)
    refine lv_aload_n hx hb dX5_crowd_6 rfl (lv_at hl 0 rfl) ?_
    refine w_finI (w_runS (rm := ({ frames := 1, cells := 0, slots := 0, locals := 21 } : Room)) (As := [.ref (sh (d.toNatClampNeg))]) (rest := []) (n := 1) hx hb hml hts hown hK w (c_X5_rowRefusal l D cI cP cS cL L _ (sh (d.toNatClampNeg)) (sh_ho (d.toNatClampNeg)) (rw (d.toNatClampNeg)) (sp (d.toNatClampNeg)) (h_sh (d.toNatClampNeg) (by omega))) gX5_crowd_X5_rowRefusal rfl rfl rfl (by decide +kernel) ⟨(Nat.le_of_ble_eq_true rfl), (Nat.le_of_ble_eq_true rfl)⟩ rfl hl.1 rfl (Nat.le_of_ble_eq_true rfl) dX5_crowd_7 ⟨(Nat.le_of_ble_eq_true rfl), (Nat.le_of_ble_eq_true rfl)⟩) w hA (fun H locs w => ?_)
    refine lv_istore_n (lv' := [(3, .int (f_X5_rowRefusal (sh_ho (d.toNatClampNeg)))), (2, .ref (sh (d.toNatClampNeg))), (0, .ref x), (1, .int d)]) hx hb dX5_crowd_10 rfl hl (by decide) rfl (fun ls hl => ?_)
    refine lv_iload_n hx hb dX5_crowd_11 rfl (lv_at hl 0 rfl) ?_
    refine lv_if_eq (tgt := 17) hx hb dX5_crowd_12 (by decide) (fun c2 => ?_) (fun c2 => ?_)
    · skip
      have hq := hq.trans (if_pos c2)
      refine lv_aload_n hx hb dX5_crowd_17 rfl (lv_at hl 1 rfl) ?_
      refine w_get (v := .ref (rw (d.toNatClampNeg))) hx hb hts i_X4 hown hK w (h_sh (d.toNatClampNeg) (by omega)) rfl 1 (by decide) (hts _ m_0) rfl dX5_crowd_18 ?_
      refine w_get (v := .int (rw_so (d.toNatClampNeg))) hx hb hts i_X3 hown hK w (h_rw (d.toNatClampNeg) (by omega)) rfl 1 (by decide) (hts _ m_2) rfl dX5_crowd_21 ?_
      refine lv_if_eq (tgt := 30) hx hb dX5_crowd_24 (by decide) (fun c3 => ?_) (fun c3 => ?_)
      · skip
        have hq := hq.trans (if_pos c3)
        refine w_newO (ci := 2) (fs := [.null, .int 0, .int 0, .int 0, .int 0, .int 0, .int 0]) (C := RX2) (T := TX2) (N := 7) hx hb hts i_X2 tyX2 tyX2_ok hown m_5 m_6 m_7 hK w hA rfl (fun j hj => by rcases (show j = 0 ∨ j = 1 ∨ j = 2 ∨ j = 3 ∨ j = 4 ∨ j = 5 ∨ j = 6 by omega) with rfl | rfl | rfl | rfl | rfl | rfl | rfl <;> rfl) (Nat.le_of_ble_eq_true rfl) (Nat.le_of_ble_eq_true rfl) dX5_crowd_30 (fun q9 H hq9 w h_q9 => ?_)
        have h_x := h_x.pushw h_q9 hq9
        have h_x_no := h_x_no.pushw h_q9 hq9
        have h_x_no_pa := h_x_no_pa.pushw h_q9 hq9
        have h_x_no_cr := h_x_no_cr.pushw h_q9 hq9
        have h_x_no_cr_e := h_x_no_cr_e.pushw h_q9 hq9
        have h_x_mi := h_x_mi.pushw h_q9 hq9
        have h_x_mi_pa := h_x_mi_pa.pushw h_q9 hq9
        have h_x_mi_cr := h_x_mi_cr.pushw h_q9 hq9
        have h_x_mi_cr_e := h_x_mi_cr_e.pushw h_q9 hq9
        have h_x_sh := h_x_sh.pushw h_q9 hq9
        have h_pr := fun i (hi : i < 12) => (h_pr i hi).pushw h_q9 hq9
        have h_qm := fun i (hi : i < 12) => (h_qm i hi).pushw h_q9 hq9
        have h_sh := fun i (hi : i < 8) => (h_sh i hi).pushw h_q9 hq9
        have h_rw := fun i (hi : i < 8) => (h_rw i hi).pushw h_q9 hq9
        have h_el := fun i (hi : i < 8) => (h_el i hi).pushw h_q9 hq9
        have hk := hk.push h_q9 hq9
        refine lv_dup hx hb dX5_crowd_33 rfl ?_
        refine lv_aload_n hx hb dX5_crowd_34 rfl (lv_at hl 1 rfl) ?_
        refine w_get (v := .ref (rw (d.toNatClampNeg))) hx hb hts i_X4 hown hK w (h_sh (d.toNatClampNeg) (by omega)) rfl 1 (by decide) (hts _ m_0) rfl dX5_crowd_35 ?_
        refine w_finv (w_runI (rm := ({ frames := 1, cells := 0, slots := 0, locals := 12 } : Room)) (As := [.ref (rw (d.toNatClampNeg))]) (rest := [.ref q9]) (n := 1) hx hb hml hts hown hK w (c_X2_init l D cI cP cS cL _ _ q9 (rw (d.toNatClampNeg)) h_q9) gX5_crowd_X2_init rfl rfl rfl m_7 m_8 m_9 rfl (by decide +kernel) ⟨(Nat.le_of_ble_eq_true rfl), (Nat.le_of_ble_eq_true rfl)⟩ rfl hl.1 rfl (Nat.le_of_ble_eq_true rfl) dX5_crowd_38 ⟨(Nat.le_of_ble_eq_true rfl), (Nat.le_of_ble_eq_true rfl)⟩) w hA (fun L1 F1 H locs hp w => ?_)
        obtain ⟨hL1, h1_q9, hg4⟩ := hp
        subst hL1
        have h_x := h_x.grow hg4 (wi.ne h_x h_q9 (by intro h; cases h))
        have h_x_no := h_x_no.grow hg4 (wi.ne h_x_no h_q9 (by intro h; cases h))
        have h_x_no_pa := h_x_no_pa.grow hg4 (wi.ne h_x_no_pa h_q9 (by intro h; cases h))
        have h_x_no_cr := h_x_no_cr.grow hg4 (wi.ne h_x_no_cr h_q9 (by intro h; cases h))
        have h_x_no_cr_e := h_x_no_cr_e.grow hg4 (wi.ne h_x_no_cr_e h_q9 (by intro h; cases h))
        have h_x_mi := h_x_mi.grow hg4 (wi.ne h_x_mi h_q9 (by intro h; cases h))
        have h_x_mi_pa := h_x_mi_pa.grow hg4 (wi.ne h_x_mi_pa h_q9 (by intro h; cases h))
        have h_x_mi_cr := h_x_mi_cr.grow hg4 (wi.ne h_x_mi_cr h_q9 (by intro h; cases h))
        have h_x_mi_cr_e := h_x_mi_cr_e.grow hg4 (wi.ne h_x_mi_cr_e h_q9 (by intro h; cases h))
        have h_x_sh := h_x_sh.grow hg4 (wi.ne h_x_sh h_q9 (by intro h; cases h))
        have h_pr := fun i (hi : i < 12) => (h_pr i hi).grow hg4 (wi.ne (h_pr i hi) h_q9 (by intro h; cases h))
        have h_qm := fun i (hi : i < 12) => (h_qm i hi).grow hg4 (wi.ne (h_qm i hi) h_q9 (by intro h; cases h))
        have h_sh := fun i (hi : i < 8) => (h_sh i hi).grow hg4 (wi.ne (h_sh i hi) h_q9 (by intro h; cases h))
        have h_rw := fun i (hi : i < 8) => (h_rw i hi).grow hg4 (wi.ne (h_rw i hi) h_q9 (by intro h; cases h))
        have h_el := fun i (hi : i < 8) => (h_el i hi).grow hg4 (wi.ne (h_el i hi) h_q9 (by intro h; cases h))
        have hk := gr.call hk hg4 (fun a ha _ z => hq9 (by rw [← z]; exact ha))
        have h_q9 : wi _ _ q9 (eD (rw (d.toNatClampNeg)) 0 0 0 0 0 0) := ⟨(hg4 _ h_q9.1).1, h1_q9⟩
        refine lv_astore (lv' := [(4, .ref q9), (3, .int (f_X5_rowRefusal (sh_ho (d.toNatClampNeg)))), (2, .ref (sh (d.toNatClampNeg))), (0, .ref x), (1, .int d)]) hx hb dX5_crowd_41 hl (by decide) rfl (fun ls hl => ?_)
        refine lv_aload hx hb dX5_crowd_43 (lv_at hl 0 rfl) ?_
        refine w_finj (w_runV (rm := ({ frames := 5, cells := 0, slots := 0, locals := 104 } : Room)) (As := []) (rest := []) (n := 0) hx hb hml hts hown hK w (c_X2_countStatements l D cI cP cS cL (L ++ [q9]) _ q9 (rw (d.toNatClampNeg)) 0 0 0 0 0 0 (el (d.toNatClampNeg)) (rw_so (d.toNatClampNeg)) (rw_sz (d.toNatClampNeg)) 100 (el_f (d.toNatClampNeg)) h_q9 (h_rw (d.toNatClampNeg) (by omega)) (h_el (d.toNatClampNeg) (by omega)) (hzs (d.toNatClampNeg) (by omega))) gX5_crowd_X2_countStatements rfl rfl rfl (by decide +kernel) ⟨(Nat.le_of_ble_eq_true rfl), (Nat.le_of_ble_eq_true rfl)⟩ h_q9 rfl rfl hl.1 rfl (Nat.le_of_ble_eq_true rfl) dX5_crowd_45 ⟨(Nat.le_of_ble_eq_true rfl), (Nat.le_of_ble_eq_true rfl)⟩) w hA (fun r9 F1 H locs hp w => ?_)
        obtain ⟨x45, hx45, hr9, hw0, hk9⟩ := hp
        subst hr9
        have hq := hq.trans (w_bnd hx45)
        have h_x := h_x.keep hk9 ⟨(wi.ne h_x h_q9 (by intro h; cases h)), trivial⟩
        have h_x_no := h_x_no.keep hk9 ⟨(wi.ne h_x_no h_q9 (by intro h; cases h)), trivial⟩
        have h_x_no_pa := h_x_no_pa.keep hk9 ⟨(wi.ne h_x_no_pa h_q9 (by intro h; cases h)), trivial⟩
        have h_x_no_cr := h_x_no_cr.keep hk9 ⟨(wi.ne h_x_no_cr h_q9 (by intro h; cases h)), trivial⟩
        have h_x_no_cr_e := h_x_no_cr_e.keep hk9 ⟨(wi.ne h_x_no_cr_e h_q9 (by intro h; cases h)), trivial⟩
        have h_x_mi := h_x_mi.keep hk9 ⟨(wi.ne h_x_mi h_q9 (by intro h; cases h)), trivial⟩
        have h_x_mi_pa := h_x_mi_pa.keep hk9 ⟨(wi.ne h_x_mi_pa h_q9 (by intro h; cases h)), trivial⟩
        have h_x_mi_cr := h_x_mi_cr.keep hk9 ⟨(wi.ne h_x_mi_cr h_q9 (by intro h; cases h)), trivial⟩
        have h_x_mi_cr_e := h_x_mi_cr_e.keep hk9 ⟨(wi.ne h_x_mi_cr_e h_q9 (by intro h; cases h)), trivial⟩
        have h_x_sh := h_x_sh.keep hk9 ⟨(wi.ne h_x_sh h_q9 (by intro h; cases h)), trivial⟩
        have h_pr := fun i (hi : i < 12) => (h_pr i hi).keep hk9 ⟨(wi.ne (h_pr i hi) h_q9 (by intro h; cases h)), trivial⟩
        have h_qm := fun i (hi : i < 12) => (h_qm i hi).keep hk9 ⟨(wi.ne (h_qm i hi) h_q9 (by intro h; cases h)), trivial⟩
        have h_sh := fun i (hi : i < 8) => (h_sh i hi).keep hk9 ⟨(wi.ne (h_sh i hi) h_q9 (by intro h; cases h)), trivial⟩
        have h_rw := fun i (hi : i < 8) => (h_rw i hi).keep hk9 ⟨(wi.ne (h_rw i hi) h_q9 (by intro h; cases h)), trivial⟩
        have h_el := fun i (hi : i < 8) => (h_el i hi).keep hk9 ⟨(wi.ne (h_el i hi) h_q9 (by intro h; cases h)), trivial⟩
        have h_q9 := h_q9.new hw0
        have hk := hk.callm hk9 (fun q hm h => ⟨(fun z => hq9 (by rw [← z]; exact hm)), trivial⟩)
        refine lv_istore (lv' := [(5, .int x45.1), (4, .ref q9), (3, .int (f_X5_rowRefusal (sh_ho (d.toNatClampNeg)))), (2, .ref (sh (d.toNatClampNeg))), (0, .ref x), (1, .int d)]) hx hb dX5_crowd_48 hl (by decide) rfl (fun ls hl => ?_)
        refine lv_iload hx hb dX5_crowd_50 (lv_at hl 0 rfl) ?_
        refine lv_iconst (v := 1) hx hb dX5_crowd_52 (by decide) ?_
        refine lv_icmp_ge (tgt := 66) hx hb dX5_crowd_53 (by decide) (fun c4 => ?_) (fun c4 => ?_)
        · skip
          have hq := hq.trans (if_pos c4)
          refine lv_aload_n hx hb dX5_crowd_66 rfl (lv_at hl 4 rfl) ?_
          refine w_get (v := .ref x_mi) hx hb hts i_X5 hown hK w h_x rfl 2 (by decide) (hts _ m_10) rfl dX5_crowd_67 ?_
          refine lv_aload_n hx hb dX5_crowd_70 rfl (lv_at hl 4 rfl) ?_
          refine w_get (v := .ref x_no) hx hb hts i_X5 hown hK w h_x rfl 0 (by decide) (hts _ m_12) rfl dX5_crowd_71 ?_
          refine w_finw (w_runV (rm := ({ frames := 3, cells := 0, slots := 0, locals := 67 } : Room)) (As := [.ref x_no]) (rest := []) (n := 1) hx hb hml hts hown hK w (c_X0_takeFrom l D cI cP cS cL (L ++ [q9]) _ x_mi x_no x_mi_up x_mi_down x_mi_high x_mi_prize x_mi_z x_mi_rounds x_mi_people x_mi_pa x_mi_cr x_mi_ls x_mi_cr_e x_mi_cr_so x_mi_cr_sz 12 x_mi_cr_e_f x_no_up x_no_down x_no_high x_no_prize x_no_z x_no_rounds x_no_people x_no_pa x_no_cr x_no_ls x_no_cr_e x_no_cr_so x_no_cr_sz 12 x_no_cr_e_f qm qm_nu qm_ki qm_st qm_sl pr pr_nu pr_ki pr_st pr_sl h_x_mi h_x_mi_pa h_x_mi_cr h_x_mi_cr_e h_x_no h_x_no_pa h_x_no_cr h_x_no_cr_e h_qm h_pr (by decide) hzc ne_x_no_x_mi ne_pr_qm ne_x_no_cr_x_mi_cr ne_x_no_cr_e_x_mi_cr_e hinj_qm) gX5_crowd_X0_takeFrom rfl rfl rfl (by decide +kernel) ⟨(Nat.le_of_ble_eq_true rfl), (Nat.le_of_ble_eq_true rfl)⟩ h_x_mi rfl rfl hl.1 rfl (Nat.le_of_ble_eq_true rfl) dX5_crowd_74 ⟨(Nat.le_of_ble_eq_true rfl), (Nat.le_of_ble_eq_true rfl)⟩) w hA (fun F1 H locs hp w => ?_)
          obtain ⟨x74, hx74, hw0, hw1, hw2, hw3, hk9⟩ := hp
          have hq := hq.trans (w_bnd hx74)
          have h_x := h_x.keep hk9 ⟨(wi.ne h_x h_x_mi (by intro h; cases h)), (wi.ne h_x h_x_mi_cr (by intro h; cases h)), (wi.ne h_x h_x_mi_cr_e (by intro h; cases h)), (fun j hj => (wi.ne h_x (h_qm j hj) (by intro h; cases h))), trivial⟩
          have h_x_no := h_x_no.keep hk9 ⟨ne_x_no_x_mi, (wi.ne h_x_no h_x_mi_cr (by intro h; cases h)), (wi.ne h_x_no h_x_mi_cr_e (by intro h; cases h)), (fun j hj => (wi.ne h_x_no (h_qm j hj) (by intro h; cases h))), trivial⟩
          have h_x_no_pa := h_x_no_pa.keep hk9 ⟨(wi.ne h_x_no_pa h_x_mi (by intro h; cases h)), (wi.ne h_x_no_pa h_x_mi_cr (by intro h; cases h)), (wi.ne h_x_no_pa h_x_mi_cr_e (by intro h; cases h)), (fun j hj => (wi.ne h_x_no_pa (h_qm j hj) (by intro h; cases h))), trivial⟩
          have h_x_no_cr := h_x_no_cr.keep hk9 ⟨(wi.ne h_x_no_cr h_x_mi (by intro h; cases h)), ne_x_no_cr_x_mi_cr, (wi.ne h_x_no_cr h_x_mi_cr_e (by intro h; cases h)), (fun j hj => (wi.ne h_x_no_cr (h_qm j hj) (by intro h; cases h))), trivial⟩
          have h_x_no_cr_e := h_x_no_cr_e.keep hk9 ⟨(wi.ne h_x_no_cr_e h_x_mi (by intro h; cases h)), (wi.ne h_x_no_cr_e h_x_mi_cr (by intro h; cases h)), ne_x_no_cr_e_x_mi_cr_e, (fun j hj => (wi.ne h_x_no_cr_e (h_qm j hj) (by intro h; cases h))), trivial⟩
          have h_x_mi_pa := h_x_mi_pa.keep hk9 ⟨(wi.ne h_x_mi_pa h_x_mi (by intro h; cases h)), (wi.ne h_x_mi_pa h_x_mi_cr (by intro h; cases h)), (wi.ne h_x_mi_pa h_x_mi_cr_e (by intro h; cases h)), (fun j hj => (wi.ne h_x_mi_pa (h_qm j hj) (by intro h; cases h))), trivial⟩
          have h_x_sh := h_x_sh.keep hk9 ⟨(wi.ne h_x_sh h_x_mi (by intro h; cases h)), (wi.ne h_x_sh h_x_mi_cr (by intro h; cases h)), (wi.ne h_x_sh h_x_mi_cr_e (by intro h; cases h)), (fun j hj => (wi.ne h_x_sh (h_qm j hj) (by intro h; cases h))), trivial⟩
          have h_q9 := h_q9.keep hk9 ⟨(wi.ne h_q9 h_x_mi (by intro h; cases h)), (wi.ne h_q9 h_x_mi_cr (by intro h; cases h)), (wi.ne h_q9 h_x_mi_cr_e (by intro h; cases h)), (fun j hj => (wi.ne h_q9 (h_qm j hj) (by intro h; cases h))), trivial⟩
          have h_pr := fun i (hi : i < 12) => (h_pr i hi).keep hk9 ⟨(wi.ne (h_pr i hi) h_x_mi (by intro h; cases h)), (wi.ne (h_pr i hi) h_x_mi_cr (by intro h; cases h)), (wi.ne (h_pr i hi) h_x_mi_cr_e (by intro h; cases h)), (fun j hj => (ne_pr_qm i j hi hj)), trivial⟩
          have h_sh := fun i (hi : i < 8) => (h_sh i hi).keep hk9 ⟨(wi.ne (h_sh i hi) h_x_mi (by intro h; cases h)), (wi.ne (h_sh i hi) h_x_mi_cr (by intro h; cases h)), (wi.ne (h_sh i hi) h_x_mi_cr_e (by intro h; cases h)), (fun j hj => (wi.ne (h_sh i hi) (h_qm j hj) (by intro h; cases h))), trivial⟩
          have h_rw := fun i (hi : i < 8) => (h_rw i hi).keep hk9 ⟨(wi.ne (h_rw i hi) h_x_mi (by intro h; cases h)), (ne_rw_x_mi_cr i hi), (wi.ne (h_rw i hi) h_x_mi_cr_e (by intro h; cases h)), (fun j hj => (wi.ne (h_rw i hi) (h_qm j hj) (by intro h; cases h))), trivial⟩
          have h_el := fun i (hi : i < 8) => (h_el i hi).keep hk9 ⟨(wi.ne (h_el i hi) h_x_mi (by intro h; cases h)), (wi.ne (h_el i hi) h_x_mi_cr (by intro h; cases h)), (ne_el_x_mi_cr_e i hi), (fun j hj => (wi.ne (h_el i hi) (h_qm j hj) (by intro h; cases h))), trivial⟩
          have h_x_mi := h_x_mi.new hw0
          have h_x_mi_cr := h_x_mi_cr.new hw1
          have h_x_mi_cr_e := h_x_mi_cr_e.new hw2
          have h_qm := fun i (hi : i < 12) => (h_qm i hi).new (hw3 i hi)
          have hk := hk.callm hk9 (fun q hm h => ⟨h.2.2.2.1, h.2.2.2.2.1, h.2.2.2.2.2.1, h.2.2.2.2.2.2.2.1, trivial⟩)
          have hz74 : x74.2.2.2.2.2.2.2.2.2.1.toInt ≤ 12 := by rw [hx74, tf_eq]; exact rtf_le (by decide)
          have hp74 : 0 ≤ x74.2.2.2.2.2.2.1.toInt := by rw [hx74, tf_eq]; exact hp0
          refine lv_aload hx hb dX5_crowd_77 (lv_at hl 1 rfl) ?_
          refine lv_iconst (v := 0) hx hb dX5_crowd_79 (by decide) ?_
          have ho5 := h_q9
          refine w_put (fs2 := [.ref (rw (d.toNatClampNeg)), .int 0, .int x45.2.2.1, .int x45.2.2.2.1, .int x45.2.2.2.2.1, .int x45.2.2.2.2.2.1, .int x45.2.2.2.2.2.2]) hx hb hts i_X2 tyX2 tyX2_ok nmX2 hown hK w h_q9 rfl 1 (by decide) (hts _ m_13) rfl rfl rfl (Nat.le_of_ble_eq_true rfl) rfl dX5_crowd_80 (fun H locs w h_q9 => ?_)
          have h_x := h_x.upw h_q9 (wi.ne h_x ho5 (by intro h; cases h))
          have h_x_no := h_x_no.upw h_q9 (wi.ne h_x_no ho5 (by intro h; cases h))
          have h_x_no_pa := h_x_no_pa.upw h_q9 (wi.ne h_x_no_pa ho5 (by intro h; cases h))
          have h_x_no_cr := h_x_no_cr.upw h_q9 (wi.ne h_x_no_cr ho5 (by intro h; cases h))
          have h_x_no_cr_e := h_x_no_cr_e.upw h_q9 (wi.ne h_x_no_cr_e ho5 (by intro h; cases h))
          have h_x_mi := h_x_mi.upw h_q9 (wi.ne h_x_mi ho5 (by intro h; cases h))
          have h_x_mi_pa := h_x_mi_pa.upw h_q9 (wi.ne h_x_mi_pa ho5 (by intro h; cases h))
          have h_x_mi_cr := h_x_mi_cr.upw h_q9 (wi.ne h_x_mi_cr ho5 (by intro h; cases h))
          have h_x_mi_cr_e := h_x_mi_cr_e.upw h_q9 (wi.ne h_x_mi_cr_e ho5 (by intro h; cases h))
          have h_x_sh := h_x_sh.upw h_q9 (wi.ne h_x_sh ho5 (by intro h; cases h))
          have h_pr := fun i (hi : i < 12) => (h_pr i hi).upw h_q9 (wi.ne (h_pr i hi) ho5 (by intro h; cases h))
          have h_qm := fun i (hi : i < 12) => (h_qm i hi).upw h_q9 (wi.ne (h_qm i hi) ho5 (by intro h; cases h))
          have h_sh := fun i (hi : i < 8) => (h_sh i hi).upw h_q9 (wi.ne (h_sh i hi) ho5 (by intro h; cases h))
          have h_rw := fun i (hi : i < 8) => (h_rw i hi).upw h_q9 (wi.ne (h_rw i hi) ho5 (by intro h; cases h))
          have h_el := fun i (hi : i < 8) => (h_el i hi).upw h_q9 (wi.ne (h_el i hi) ho5 (by intro h; cases h))
          have hk := hk.upm h_q9 (fun q hm h => (fun z => hq9 (by rw [← z]; exact hm)))
          refine lv_iconst (v := 0) hx hb dX5_crowd_83 (by decide) ?_
          refine lv_istore (lv' := [(6, .int 0), (5, .int x45.1), (4, .ref q9), (3, .int (f_X5_rowRefusal (sh_ho (d.toNatClampNeg)))), (2, .ref (sh (d.toNatClampNeg))), (0, .ref x), (1, .int d)]) hx hb dX5_crowd_84 hl (by decide) rfl (fun ls hl => ?_)
          have hL86 : ∀ (n k : Nat) (u_x_mi_up : Int32) (u_x_mi_down : Int32) (u_x_mi_high : Int32) (u_x_mi_prize : Int32) (u_x_mi_z : Int32) (u_x_mi_people : Int32) (u_qm_nu : Nat → Int32) (u_qm_ki : Nat → Int32) (u_qm_st : Nat → Int32) (u_qm_sl : Nat → Int32) (u_q9_pl : Int32) (u_q9_le : Int32) (u_q9_fi : Int32) (u_q9_se : Int32) (u_q9_th : Int32) (u_q9_nu : Int32) (F1 : Nat → va_E) (H : Heap) (locs : List Loc) (ls : Array Slot), (0 ≤ u_x_mi_people.toInt) → k ≤ x45.1.toNatClampNeg → x45.1.toNatClampNeg - k < n → f_X5_crowd d x_no_up x_no_down x_no_high x_no_prize x_no_z x_no_rounds x_no_people x_no_ls x_no_cr_so x_no_cr_sz x_no_cr_e_f x_mi_up x_mi_down x_mi_high x_mi_prize x_mi_z x_mi_rounds x_mi_people x_mi_ls x_mi_cr_so x_mi_cr_sz x_mi_cr_e_f pr_nu pr_ki pr_st pr_sl qm_nu qm_ki qm_st qm_sl sh_ho rw_so rw_sz el_f = f_X5_crowd_L86 d x_no_up x_no_down x_no_high x_no_prize x_no_z x_no_rounds x_no_people x_no_ls x_no_cr_so x_no_cr_sz x_no_cr_e_f pr_nu pr_ki pr_st pr_sl rw_sz el_f x45 x74 n k u_x_mi_up u_x_mi_down u_x_mi_high u_x_mi_prize u_x_mi_z u_x_mi_people u_qm_nu u_qm_ki u_qm_st u_qm_sl u_q9_pl u_q9_le u_q9_fi u_q9_se u_q9_th u_q9_nu → lv_has ls 8 [(0, .ref x), (1, .int d), (2, .ref (sh (d.toNatClampNeg))), (3, .int (f_X5_rowRefusal (sh_ho (d.toNatClampNeg)))), (4, .ref q9), (5, .int x45.1), (6, .int (nI k))] → ww D A sZ.heap (L ++ [q9]) F1 H locs → (wi (L ++ [q9]) F1 x (eX x_no x_ke x_mi x_im x_sh x_co x_ot)) → (wi (L ++ [q9]) F1 x_no (eG x_no_up x_no_down x_no_high x_no_prize x_no_z x_no_rounds x_no_people x_no_pa x_no_cr x_no_ls)) → (wi (L ++ [q9]) F1 x_no_pa (eQ cP 12 (fun i => some (pr i)))) → (wi (L ++ [q9]) F1 x_no_cr (eR x_no_cr_e x_no_cr_so x_no_cr_sz)) → (wi (L ++ [q9]) F1 x_no_cr_e (eI cI 12 x_no_cr_e_f)) → (wi (L ++ [q9]) F1 x_mi (eG u_x_mi_up u_x_mi_down u_x_mi_high u_x_mi_prize u_x_mi_z x74.2.2.2.2.2.1 u_x_mi_people x_mi_pa x_mi_cr x74.2.2.2.2.2.2.2.1)) → (wi (L ++ [q9]) F1 x_mi_pa (eQ cP 12 (fun i => some (qm i)))) → (wi (L ++ [q9]) F1 x_mi_cr (eR x_mi_cr_e x74.2.2.2.2.2.2.2.2.1 x74.2.2.2.2.2.2.2.2.2.1)) → (wi (L ++ [q9]) F1 x_mi_cr_e (eI cI 12 x74.2.2.2.2.2.2.2.2.2.2.1)) → (wi (L ++ [q9]) F1 x_sh (eQ cS 8 (fun i => some (sh i)))) → (wi (L ++ [q9]) F1 q9 (eD (rw (d.toNatClampNeg)) u_q9_pl u_q9_le u_q9_fi u_q9_se u_q9_th u_q9_nu)) → (∀ i, i < 12 → wi (L ++ [q9]) F1 (pr i) (eP (pr_nu i) (pr_ki i) (pr_st i) (pr_sl i))) → (∀ i, i < 12 → wi (L ++ [q9]) F1 (qm i) (eP (u_qm_nu i) (u_qm_ki i) (u_qm_st i) (u_qm_sl i))) → (∀ i, i < 8 → wi (L ++ [q9]) F1 (sh i) (eS (sh_ho i) (rw i) (sp i))) → (∀ i, i < 8 → wi (L ++ [q9]) F1 (rw i) (eR (el i) (rw_so i) (rw_sz i))) → (∀ i, i < 8 → wi (L ++ [q9]) F1 (el i) (eI cI 100 (el_f i))) → gr L F (fun q : Nat => q ≠ x_no ∧ q ≠ x_no_cr ∧ q ≠ x_no_cr_e ∧ q ≠ x_mi ∧ q ≠ x_mi_cr ∧ q ≠ x_mi_cr_e ∧ (∀ i, i < 12 → q ≠ pr i) ∧ (∀ i, i < 12 → q ≠ qm i) ∧ True) (L ++ [q9]) F1 → W pZ l eZ ({ frames := 6, cells := 1, slots := 7, locals := 126 } : Room) sZ mZ [.ref x, .int d].toArray below meth cZ H locs 1 7 (MQ below (wQi D A (fun r1 L1 F1 => ∃ y9 : Int32 × Int32 × Int32 × Int32 × Int32 × Int32 × Int32 × Int32 × Int32 × Int32 × Int32 × (Nat → Int32) × (Nat → Int32) × (Nat → Int32) × (Nat → Int32) × (Nat → Int32) × Int32 × Int32 × Int32 × Int32 × Int32 × Int32 × Int32 × Int32 × Int32 × Int32 × (Nat → Int32) × (Nat → Int32) × (Nat → Int32) × (Nat → Int32) × (Nat → Int32), y9 = (f_X5_crowd d x_no_up x_no_down x_no_high x_no_prize x_no_z x_no_rounds x_no_people x_no_ls x_no_cr_so x_no_cr_sz x_no_cr_e_f x_mi_up x_mi_down x_mi_high x_mi_prize x_mi_z x_mi_rounds x_mi_people x_mi_ls x_mi_cr_so x_mi_cr_sz x_mi_cr_e_f pr_nu pr_ki pr_st pr_sl qm_nu qm_ki qm_st qm_sl sh_ho rw_so rw_sz el_f) ∧ r1 = y9.1 ∧ F1 x_no = (eG y9.2.1 y9.2.2.1 y9.2.2.2.1 y9.2.2.2.2.1 y9.2.2.2.2.2.1 y9.2.2.2.2.2.2.1 y9.2.2.2.2.2.2.2.1 x_no_pa x_no_cr y9.2.2.2.2.2.2.2.2.1) ∧ F1 x_no_cr = (eR x_no_cr_e y9.2.2.2.2.2.2.2.2.2.1 y9.2.2.2.2.2.2.2.2.2.2.1) ∧ F1 x_no_cr_e = (eI cI 12 y9.2.2.2.2.2.2.2.2.2.2.2.1) ∧ F1 x_mi = (eG y9.2.2.2.2.2.2.2.2.2.2.2.2.2.2.2.2.1 y9.2.2.2.2.2.2.2.2.2.2.2.2.2.2.2.2.2.1 y9.2.2.2.2.2.2.2.2.2.2.2.2.2.2.2.2.2.2.1 y9.2.2.2.2.2.2.2.2.2.2.2.2.2.2.2.2.2.2.2.1 y9.2.2.2.2.2.2.2.2.2.2.2.2.2.2.2.2.2.2.2.2.1 y9.2.2.2.2.2.2.2.2.2.2.2.2.2.2.2.2.2.2.2.2.2.1 y9.2.2.2.2.2.2.2.2.2.2.2.2.2.2.2.2.2.2.2.2.2.2.1 x_mi_pa x_mi_cr y9.2.2.2.2.2.2.2.2.2.2.2.2.2.2.2.2.2.2.2.2.2.2.2.1) ∧ F1 x_mi_cr = (eR x_mi_cr_e y9.2.2.2.2.2.2.2.2.2.2.2.2.2.2.2.2.2.2.2.2.2.2.2.2.1 y9.2.2.2.2.2.2.2.2.2.2.2.2.2.2.2.2.2.2.2.2.2.2.2.2.2.1) ∧ F1 x_mi_cr_e = (eI cI 12 y9.2.2.2.2.2.2.2.2.2.2.2.2.2.2.2.2.2.2.2.2.2.2.2.2.2.2.1) ∧ (∀ i, i < 12 → F1 (pr i) = (eP (y9.2.2.2.2.2.2.2.2.2.2.2.2.1 i) (y9.2.2.2.2.2.2.2.2.2.2.2.2.2.1 i) (y9.2.2.2.2.2.2.2.2.2.2.2.2.2.2.1 i) (y9.2.2.2.2.2.2.2.2.2.2.2.2.2.2.2.1 i))) ∧ (∀ i, i < 12 → F1 (qm i) = (eP (y9.2.2.2.2.2.2.2.2.2.2.2.2.2.2.2.2.2.2.2.2.2.2.2.2.2.2.2.1 i) (y9.2.2.2.2.2.2.2.2.2.2.2.2.2.2.2.2.2.2.2.2.2.2.2.2.2.2.2.2.1 i) (y9.2.2.2.2.2.2.2.2.2.2.2.2.2.2.2.2.2.2.2.2.2.2.2.2.2.2.2.2.2.1 i) (y9.2.2.2.2.2.2.2.2.2.2.2.2.2.2.2.2.2.2.2.2.2.2.2.2.2.2.2.2.2.2 i))) ∧ gr L F (fun q : Nat => q ≠ x_no ∧ q ≠ x_no_cr ∧ q ≠ x_no_cr_e ∧ q ≠ x_mi ∧ q ≠ x_mi_cr ∧ q ≠ x_mi_cr_e ∧ (∀ i, i < 12 → q ≠ pr i) ∧ (∀ i, i < 12 → q ≠ qm i) ∧ True) L1 F1)) [.ref x, .int d].toArray sZ 1 7 A) (F0 mZ 86 ls []) := by
            intro n; induction n with
            | zero => intro k u_x_mi_up u_x_mi_down u_x_mi_high u_x_mi_prize u_x_mi_z u_x_mi_people u_qm_nu u_qm_ki u_qm_st u_qm_sl u_q9_pl u_q9_le u_q9_fi u_q9_se u_q9_th u_q9_nu F1 H locs ls _ hkT hmeas; exact absurd hmeas (Nat.not_lt_zero _)
            | succ n ih =>
              intro k u_x_mi_up u_x_mi_down u_x_mi_high u_x_mi_prize u_x_mi_z u_x_mi_people u_qm_nu u_qm_ki u_qm_st u_qm_sl u_q9_pl u_q9_le u_q9_fi u_q9_se u_q9_th u_q9_nu F1 H locs ls hi0 hkT hmeas hq hl w h_x h_x_no h_x_no_pa h_x_no_cr h_x_no_cr_e h_x_mi h_x_mi_pa h_x_mi_cr h_x_mi_cr_e h_x_sh h_q9 h_pr h_qm h_sh h_rw h_el hk
              have hk31 : k < 2147483648 := Nat.lt_of_le_of_lt hkT (w_clamp_lt _)
              have hpu : 0 ≤ u_x_mi_people.toInt := hi0
              have hq := hq.trans (f_X5_crowd_L86_s d x_no_up x_no_down x_no_high x_no_prize x_no_z x_no_rounds x_no_people x_no_ls x_no_cr_so x_no_cr_sz x_no_cr_e_f pr_nu pr_ki pr_st pr_sl rw_sz el_f x45 x74 n k u_x_mi_up u_x_mi_down u_x_mi_high u_x_mi_prize u_x_mi_z u_x_mi_people u_qm_nu u_qm_ki u_qm_st u_qm_sl u_q9_pl u_q9_le u_q9_fi u_q9_se u_q9_th u_q9_nu)
              refine lv_iload hx hb dX5_crowd_86 (lv_at hl 6 rfl) ?_
              refine lv_iload hx hb dX5_crowd_88 (lv_at hl 5 rfl) ?_
              refine lv_icmp_ge (tgt := 133) hx hb dX5_crowd_90 (by decide) (fun c6 => ?_) (fun c6 => ?_)
              · skip
                have hq := hq.trans (if_pos c6)
                refine lv_aload_n hx hb dX5_crowd_133 rfl (lv_at hl 0 rfl) ?_
                refine w_get (v := .ref x_no) hx hb hts i_X5 hown hK w h_x rfl 0 (by decide) (hts _ m_12) rfl dX5_crowd_134 ?_
                refine lv_aload_n hx hb dX5_crowd_137 rfl (lv_at hl 0 rfl) ?_
                refine w_get (v := .ref x_mi) hx hb hts i_X5 hown hK w h_x rfl 2 (by decide) (hts _ m_10) rfl dX5_crowd_138 ?_
                refine w_finw (w_runV (rm := ({ frames := 3, cells := 0, slots := 0, locals := 67 } : Room)) (As := [.ref x_mi]) (rest := []) (n := 1) hx hb hml hts hown hK w (c_X0_takeFrom l D cI cP cS cL (L ++ [q9]) _ x_no x_mi x_no_up x_no_down x_no_high x_no_prize x_no_z x_no_rounds x_no_people x_no_pa x_no_cr x_no_ls x_no_cr_e x_no_cr_so x_no_cr_sz 12 x_no_cr_e_f u_x_mi_up u_x_mi_down u_x_mi_high u_x_mi_prize u_x_mi_z x74.2.2.2.2.2.1 u_x_mi_people x_mi_pa x_mi_cr x74.2.2.2.2.2.2.2.1 x_mi_cr_e x74.2.2.2.2.2.2.2.2.1 x74.2.2.2.2.2.2.2.2.2.1 12 x74.2.2.2.2.2.2.2.2.2.2.1 pr pr_nu pr_ki pr_st pr_sl qm u_qm_nu u_qm_ki u_qm_st u_qm_sl h_x_no h_x_no_pa h_x_no_cr h_x_no_cr_e h_x_mi h_x_mi_pa h_x_mi_cr h_x_mi_cr_e h_pr h_qm (by decide) hz74 ne_x_mi_x_no ne_qm_pr ne_x_mi_cr_x_no_cr ne_x_mi_cr_e_x_no_cr_e hinj_pr) gX5_crowd_X0_takeFrom rfl rfl rfl (by decide +kernel) ⟨(Nat.le_of_ble_eq_true rfl), (Nat.le_of_ble_eq_true rfl)⟩ h_x_no rfl rfl hl.1 rfl (Nat.le_of_ble_eq_true rfl) dX5_crowd_141 ⟨(Nat.le_of_ble_eq_true rfl), (Nat.le_of_ble_eq_true rfl)⟩) w hA (fun F1 H locs hp w => ?_)
                obtain ⟨x141, hx141, hw0, hw1, hw2, hw3, hk9⟩ := hp
                have hq := hq.trans (w_bnd hx141)
                have h_x := h_x.keep hk9 ⟨(wi.ne h_x h_x_no (by intro h; cases h)), (wi.ne h_x h_x_no_cr (by intro h; cases h)), (wi.ne h_x h_x_no_cr_e (by intro h; cases h)), (fun j hj => (wi.ne h_x (h_pr j hj) (by intro h; cases h))), trivial⟩
                have h_x_no_pa := h_x_no_pa.keep hk9 ⟨(wi.ne h_x_no_pa h_x_no (by intro h; cases h)), (wi.ne h_x_no_pa h_x_no_cr (by intro h; cases h)), (wi.ne h_x_no_pa h_x_no_cr_e (by intro h; cases h)), (fun j hj => (wi.ne h_x_no_pa (h_pr j hj) (by intro h; cases h))), trivial⟩
                have h_x_mi := h_x_mi.keep hk9 ⟨ne_x_mi_x_no, (wi.ne h_x_mi h_x_no_cr (by intro h; cases h)), (wi.ne h_x_mi h_x_no_cr_e (by intro h; cases h)), (fun j hj => (wi.ne h_x_mi (h_pr j hj) (by intro h; cases h))), trivial⟩
                have h_x_mi_pa := h_x_mi_pa.keep hk9 ⟨(wi.ne h_x_mi_pa h_x_no (by intro h; cases h)), (wi.ne h_x_mi_pa h_x_no_cr (by intro h; cases h)), (wi.ne h_x_mi_pa h_x_no_cr_e (by intro h; cases h)), (fun j hj => (wi.ne h_x_mi_pa (h_pr j hj) (by intro h; cases h))), trivial⟩
                have h_x_mi_cr := h_x_mi_cr.keep hk9 ⟨(wi.ne h_x_mi_cr h_x_no (by intro h; cases h)), ne_x_mi_cr_x_no_cr, (wi.ne h_x_mi_cr h_x_no_cr_e (by intro h; cases h)), (fun j hj => (wi.ne h_x_mi_cr (h_pr j hj) (by intro h; cases h))), trivial⟩
                have h_x_mi_cr_e := h_x_mi_cr_e.keep hk9 ⟨(wi.ne h_x_mi_cr_e h_x_no (by intro h; cases h)), (wi.ne h_x_mi_cr_e h_x_no_cr (by intro h; cases h)), ne_x_mi_cr_e_x_no_cr_e, (fun j hj => (wi.ne h_x_mi_cr_e (h_pr j hj) (by intro h; cases h))), trivial⟩
                have h_x_sh := h_x_sh.keep hk9 ⟨(wi.ne h_x_sh h_x_no (by intro h; cases h)), (wi.ne h_x_sh h_x_no_cr (by intro h; cases h)), (wi.ne h_x_sh h_x_no_cr_e (by intro h; cases h)), (fun j hj => (wi.ne h_x_sh (h_pr j hj) (by intro h; cases h))), trivial⟩
                have h_q9 := h_q9.keep hk9 ⟨(wi.ne h_q9 h_x_no (by intro h; cases h)), (wi.ne h_q9 h_x_no_cr (by intro h; cases h)), (wi.ne h_q9 h_x_no_cr_e (by intro h; cases h)), (fun j hj => (wi.ne h_q9 (h_pr j hj) (by intro h; cases h))), trivial⟩
                have h_qm := fun i (hi : i < 12) => (h_qm i hi).keep hk9 ⟨(wi.ne (h_qm i hi) h_x_no (by intro h; cases h)), (wi.ne (h_qm i hi) h_x_no_cr (by intro h; cases h)), (wi.ne (h_qm i hi) h_x_no_cr_e (by intro h; cases h)), (fun j hj => (ne_qm_pr i j hi hj)), trivial⟩
                have h_sh := fun i (hi : i < 8) => (h_sh i hi).keep hk9 ⟨(wi.ne (h_sh i hi) h_x_no (by intro h; cases h)), (wi.ne (h_sh i hi) h_x_no_cr (by intro h; cases h)), (wi.ne (h_sh i hi) h_x_no_cr_e (by intro h; cases h)), (fun j hj => (wi.ne (h_sh i hi) (h_pr j hj) (by intro h; cases h))), trivial⟩
                have h_rw := fun i (hi : i < 8) => (h_rw i hi).keep hk9 ⟨(wi.ne (h_rw i hi) h_x_no (by intro h; cases h)), (ne_rw_x_no_cr i hi), (wi.ne (h_rw i hi) h_x_no_cr_e (by intro h; cases h)), (fun j hj => (wi.ne (h_rw i hi) (h_pr j hj) (by intro h; cases h))), trivial⟩
                have h_el := fun i (hi : i < 8) => (h_el i hi).keep hk9 ⟨(wi.ne (h_el i hi) h_x_no (by intro h; cases h)), (wi.ne (h_el i hi) h_x_no_cr (by intro h; cases h)), (ne_el_x_no_cr_e i hi), (fun j hj => (wi.ne (h_el i hi) (h_pr j hj) (by intro h; cases h))), trivial⟩
                have h_x_no := h_x_no.new hw0
                have h_x_no_cr := h_x_no_cr.new hw1
                have h_x_no_cr_e := h_x_no_cr_e.new hw2
                have h_pr := fun i (hi : i < 12) => (h_pr i hi).new (hw3 i hi)
                have hk := hk.callm hk9 (fun q hm h => ⟨h.1, h.2.1, h.2.2.1, h.2.2.2.2.2.2.1, trivial⟩)
                refine lv_iload hx hb dX5_crowd_144 (lv_at hl 5 rfl) ?_
                exact w_iret hx hb hr hlocks w ⟨_, hq.symm, rfl, h_x_no.2, h_x_no_cr.2, h_x_no_cr_e.2, h_x_mi.2, h_x_mi_cr.2, h_x_mi_cr_e.2, (fun i hi => (h_pr i hi).2), (fun i hi => (h_qm i hi).2), hk⟩ (Nat.le_of_ble_eq_true rfl) (Nat.le_of_ble_eq_true rfl) dX5_crowd_146
              · skip
                have hq := hq.trans (if_neg c6)
                have hlt90 : k < x45.1.toNatClampNeg := w_ltk hk31 c6
                refine lv_aload hx hb dX5_crowd_93 (lv_at hl 4 rfl) ?_
                refine w_get (v := .int u_q9_pl) hx hb hts i_X2 hown hK w h_q9 rfl 1 (by decide) (hts _ m_13) rfl dX5_crowd_95 ?_
                refine lv_istore (lv' := [(7, .int u_q9_pl), (0, .ref x), (1, .int d), (2, .ref (sh (d.toNatClampNeg))), (3, .int (f_X5_rowRefusal (sh_ho (d.toNatClampNeg)))), (4, .ref q9), (5, .int x45.1), (6, .int (nI k))]) hx hb dX5_crowd_98 hl (by decide) rfl (fun ls hl => ?_)
                refine lv_aload hx hb dX5_crowd_100 (lv_at hl 5 rfl) ?_
                refine w_finj (w_runV (rm := ({ frames := 4, cells := 0, slots := 0, locals := 84 } : Room)) (As := []) (rest := []) (n := 0) hx hb hml hts hown hK w (c_X2_readStatement l D cI cP cS cL (L ++ [q9]) _ q9 (rw (d.toNatClampNeg)) u_q9_pl u_q9_le u_q9_fi u_q9_se u_q9_th u_q9_nu (el (d.toNatClampNeg)) (rw_so (d.toNatClampNeg)) (rw_sz (d.toNatClampNeg)) 100 (el_f (d.toNatClampNeg)) h_q9 (h_rw (d.toNatClampNeg) (by omega)) (h_el (d.toNatClampNeg) (by omega)) (hzs (d.toNatClampNeg) (by omega))) gX5_crowd_X2_readStatement rfl rfl rfl (by decide +kernel) ⟨(Nat.le_of_ble_eq_true rfl), (Nat.le_of_ble_eq_true rfl)⟩ h_q9 rfl rfl hl.1 rfl (Nat.le_of_ble_eq_true rfl) dX5_crowd_102 ⟨(Nat.le_of_ble_eq_true rfl), (Nat.le_of_ble_eq_true rfl)⟩) w hA (fun r9 F1 H locs hp w => ?_)
                obtain ⟨x102, hx102, hr9, hw0, hk9⟩ := hp
                subst hr9
                have hq := hq.trans (w_bnd hx102)
                have h_x := h_x.keep hk9 ⟨(wi.ne h_x h_q9 (by intro h; cases h)), trivial⟩
                have h_x_no := h_x_no.keep hk9 ⟨(wi.ne h_x_no h_q9 (by intro h; cases h)), trivial⟩
                have h_x_no_pa := h_x_no_pa.keep hk9 ⟨(wi.ne h_x_no_pa h_q9 (by intro h; cases h)), trivial⟩
                have h_x_no_cr := h_x_no_cr.keep hk9 ⟨(wi.ne h_x_no_cr h_q9 (by intro h; cases h)), trivial⟩
                have h_x_no_cr_e := h_x_no_cr_e.keep hk9 ⟨(wi.ne h_x_no_cr_e h_q9 (by intro h; cases h)), trivial⟩
                have h_x_mi := h_x_mi.keep hk9 ⟨(wi.ne h_x_mi h_q9 (by intro h; cases h)), trivial⟩
                have h_x_mi_pa := h_x_mi_pa.keep hk9 ⟨(wi.ne h_x_mi_pa h_q9 (by intro h; cases h)), trivial⟩
                have h_x_mi_cr := h_x_mi_cr.keep hk9 ⟨(wi.ne h_x_mi_cr h_q9 (by intro h; cases h)), trivial⟩
                have h_x_mi_cr_e := h_x_mi_cr_e.keep hk9 ⟨(wi.ne h_x_mi_cr_e h_q9 (by intro h; cases h)), trivial⟩
                have h_x_sh := h_x_sh.keep hk9 ⟨(wi.ne h_x_sh h_q9 (by intro h; cases h)), trivial⟩
                have h_pr := fun i (hi : i < 12) => (h_pr i hi).keep hk9 ⟨(wi.ne (h_pr i hi) h_q9 (by intro h; cases h)), trivial⟩
                have h_qm := fun i (hi : i < 12) => (h_qm i hi).keep hk9 ⟨(wi.ne (h_qm i hi) h_q9 (by intro h; cases h)), trivial⟩
                have h_sh := fun i (hi : i < 8) => (h_sh i hi).keep hk9 ⟨(wi.ne (h_sh i hi) h_q9 (by intro h; cases h)), trivial⟩
                have h_rw := fun i (hi : i < 8) => (h_rw i hi).keep hk9 ⟨(wi.ne (h_rw i hi) h_q9 (by intro h; cases h)), trivial⟩
                have h_el := fun i (hi : i < 8) => (h_el i hi).keep hk9 ⟨(wi.ne (h_el i hi) h_q9 (by intro h; cases h)), trivial⟩
                have h_q9 := h_q9.new hw0
                have hk := hk.callm hk9 (fun q hm h => ⟨(fun z => hq9 (by rw [← z]; exact hm)), trivial⟩)
                refine lv_if_eq (tgt := 120) hx hb dX5_crowd_105 (by decide) (fun c7 => ?_) (fun c7 => ?_)
                · skip
                  have hq := hq.trans (if_pos c7)
                  refine lv_sipush (v := (-2000)) hx hb dX5_crowd_120 (by decide) ?_
                  refine lv_iload hx hb dX5_crowd_123 (lv_at hl 0 rfl) ?_
                  refine lv_isub hx hb dX5_crowd_125 ?_
                  exact w_iret hx hb hr hlocks w ⟨_, hq.symm, rfl, h_x_no.2, h_x_no_cr.2, h_x_no_cr_e.2, h_x_mi.2, h_x_mi_cr.2, h_x_mi_cr_e.2, (fun i hi => (h_pr i hi).2), (fun i hi => (h_qm i hi).2), hk⟩ (Nat.le_of_ble_eq_true rfl) (Nat.le_of_ble_eq_true rfl) dX5_crowd_126
                · skip
                  have hq := hq.trans (if_neg c7)
                  refine lv_aload_n hx hb dX5_crowd_108 rfl (lv_at hl 1 rfl) ?_
                  refine w_get (v := .ref x_mi) hx hb hts i_X5 hown hK w h_x rfl 2 (by decide) (hts _ m_10) rfl dX5_crowd_109 ?_
                  refine lv_aload hx hb dX5_crowd_112 (lv_at hl 5 rfl) ?_
                  refine w_finj (w_runV (rm := ({ frames := 3, cells := 0, slots := 0, locals := 63 } : Room)) (As := [.ref q9]) (rest := []) (n := 1) hx hb hml hts hown hK w (c_X0_follows l D cI cP cS cL (L ++ [q9]) _ x_mi q9 u_x_mi_up u_x_mi_down u_x_mi_high u_x_mi_prize u_x_mi_z x74.2.2.2.2.2.1 u_x_mi_people x_mi_pa x_mi_cr x74.2.2.2.2.2.2.2.1 (rw (d.toNatClampNeg)) x102.2.1 x102.2.2.1 x102.2.2.2.1 x102.2.2.2.2.1 x102.2.2.2.2.2.1 x102.2.2.2.2.2.2 qm u_qm_nu u_qm_ki u_qm_st u_qm_sl h_x_mi h_x_mi_pa h_q9 h_qm hpu hinj_qm) gX5_crowd_X0_follows rfl rfl rfl (by decide +kernel) ⟨(Nat.le_of_ble_eq_true rfl), (Nat.le_of_ble_eq_true rfl)⟩ h_x_mi rfl rfl hl.1 rfl (Nat.le_of_ble_eq_true rfl) dX5_crowd_114 ⟨(Nat.le_of_ble_eq_true rfl), (Nat.le_of_ble_eq_true rfl)⟩) w hA (fun r9 F1 H locs hp w => ?_)
                  obtain ⟨x114, hx114, hr9, hw0, hw1, hk9⟩ := hp
                  subst hr9
                  have hq := hq.trans (w_bnd hx114)
                  have h_x := h_x.keep hk9 ⟨(wi.ne h_x h_x_mi (by intro h; cases h)), (fun j hj => (wi.ne h_x (h_qm j hj) (by intro h; cases h))), trivial⟩
                  have h_x_no := h_x_no.keep hk9 ⟨ne_x_no_x_mi, (fun j hj => (wi.ne h_x_no (h_qm j hj) (by intro h; cases h))), trivial⟩
                  have h_x_no_pa := h_x_no_pa.keep hk9 ⟨(wi.ne h_x_no_pa h_x_mi (by intro h; cases h)), (fun j hj => (wi.ne h_x_no_pa (h_qm j hj) (by intro h; cases h))), trivial⟩
                  have h_x_no_cr := h_x_no_cr.keep hk9 ⟨(wi.ne h_x_no_cr h_x_mi (by intro h; cases h)), (fun j hj => (wi.ne h_x_no_cr (h_qm j hj) (by intro h; cases h))), trivial⟩
                  have h_x_no_cr_e := h_x_no_cr_e.keep hk9 ⟨(wi.ne h_x_no_cr_e h_x_mi (by intro h; cases h)), (fun j hj => (wi.ne h_x_no_cr_e (h_qm j hj) (by intro h; cases h))), trivial⟩
                  have h_x_mi_pa := h_x_mi_pa.keep hk9 ⟨(wi.ne h_x_mi_pa h_x_mi (by intro h; cases h)), (fun j hj => (wi.ne h_x_mi_pa (h_qm j hj) (by intro h; cases h))), trivial⟩
                  have h_x_mi_cr := h_x_mi_cr.keep hk9 ⟨(wi.ne h_x_mi_cr h_x_mi (by intro h; cases h)), (fun j hj => (wi.ne h_x_mi_cr (h_qm j hj) (by intro h; cases h))), trivial⟩
                  have h_x_mi_cr_e := h_x_mi_cr_e.keep hk9 ⟨(wi.ne h_x_mi_cr_e h_x_mi (by intro h; cases h)), (fun j hj => (wi.ne h_x_mi_cr_e (h_qm j hj) (by intro h; cases h))), trivial⟩
                  have h_x_sh := h_x_sh.keep hk9 ⟨(wi.ne h_x_sh h_x_mi (by intro h; cases h)), (fun j hj => (wi.ne h_x_sh (h_qm j hj) (by intro h; cases h))), trivial⟩
                  have h_q9 := h_q9.keep hk9 ⟨(wi.ne h_q9 h_x_mi (by intro h; cases h)), (fun j hj => (wi.ne h_q9 (h_qm j hj) (by intro h; cases h))), trivial⟩
                  have h_pr := fun i (hi : i < 12) => (h_pr i hi).keep hk9 ⟨(wi.ne (h_pr i hi) h_x_mi (by intro h; cases h)), (fun j hj => (ne_pr_qm i j hi hj)), trivial⟩
                  have h_sh := fun i (hi : i < 8) => (h_sh i hi).keep hk9 ⟨(wi.ne (h_sh i hi) h_x_mi (by intro h; cases h)), (fun j hj => (wi.ne (h_sh i hi) (h_qm j hj) (by intro h; cases h))), trivial⟩
                  have h_rw := fun i (hi : i < 8) => (h_rw i hi).keep hk9 ⟨(wi.ne (h_rw i hi) h_x_mi (by intro h; cases h)), (fun j hj => (wi.ne (h_rw i hi) (h_qm j hj) (by intro h; cases h))), trivial⟩
                  have h_el := fun i (hi : i < 8) => (h_el i hi).keep hk9 ⟨(wi.ne (h_el i hi) h_x_mi (by intro h; cases h)), (fun j hj => (wi.ne (h_el i hi) (h_qm j hj) (by intro h; cases h))), trivial⟩
                  have h_x_mi := h_x_mi.new hw0
                  have h_qm := fun i (hi : i < 12) => (h_qm i hi).new (hw1 i hi)
                  have hk := hk.callm hk9 (fun q hm h => ⟨h.2.2.2.1, h.2.2.2.2.2.2.2.1, trivial⟩)
                  refine lv_if_ne (tgt := 127) hx hb dX5_crowd_117 (by decide) (fun c8 => ?_) (fun c8 => ?_)
                  · skip
                    have hq := hq.trans (if_neg c8)
                    refine lv_iinc (v := (nI (k + 1))) (lv' := [(6, .int (nI (k + 1))), (7, .int u_q9_pl), (0, .ref x), (1, .int d), (2, .ref (sh (d.toNatClampNeg))), (3, .int (f_X5_rowRefusal (sh_ho (d.toNatClampNeg)))), (4, .ref q9), (5, .int x45.1)]) hx hb dX5_crowd_127 hl (k := 7) rfl (w_inc _) (by decide) rfl (fun ls hl => ?_)
                    refine lv_goto (tgt := 86) hx hb dX5_crowd_130 (by decide) ?_
                    exact ih ((k + 1)) x114.2.1 x114.2.2.1 x114.2.2.2.1 x114.2.2.2.2.1 x114.2.2.2.2.2.1 x114.2.2.2.2.2.2.1 x114.2.2.2.2.2.2.2.1 x114.2.2.2.2.2.2.2.2.1 x114.2.2.2.2.2.2.2.2.2.1 x114.2.2.2.2.2.2.2.2.2.2 x102.2.1 x102.2.2.1 x102.2.2.2.1 x102.2.2.2.2.1 x102.2.2.2.2.2.1 x102.2.2.2.2.2.2 _ _ _ _ (by rw [hx114]; exact follows_people hi0) (by omega) (by omega) hq (lv_sub hl [2, 3, 4, 5, 6, 7, 0] rfl) w h_x h_x_no h_x_no_pa h_x_no_cr h_x_no_cr_e h_x_mi h_x_mi_pa h_x_mi_cr h_x_mi_cr_e h_x_sh h_q9 h_pr h_qm h_sh h_rw h_el hk
                  · skip
                    have hq := hq.trans (if_pos c8)
                    refine lv_sipush (v := (-2000)) hx hb dX5_crowd_120 (by decide) ?_
                    refine lv_iload hx hb dX5_crowd_123 (lv_at hl 0 rfl) ?_
                    refine lv_isub hx hb dX5_crowd_125 ?_
                    exact w_iret hx hb hr hlocks w ⟨_, hq.symm, rfl, h_x_no.2, h_x_no_cr.2, h_x_no_cr_e.2, h_x_mi.2, h_x_mi_cr.2, h_x_mi_cr_e.2, (fun i hi => (h_pr i hi).2), (fun i hi => (h_qm i hi).2), hk⟩ (Nat.le_of_ble_eq_true rfl) (Nat.le_of_ble_eq_true rfl) dX5_crowd_126
          exact hL86 (x45.1.toNatClampNeg + 1) 0 x74.1 x74.2.1 x74.2.2.1 x74.2.2.2.1 x74.2.2.2.2.1 x74.2.2.2.2.2.2.1 x74.2.2.2.2.2.2.2.2.2.2.2.1 x74.2.2.2.2.2.2.2.2.2.2.2.2.1 x74.2.2.2.2.2.2.2.2.2.2.2.2.2.1 x74.2.2.2.2.2.2.2.2.2.2.2.2.2.2 0 x45.2.2.1 x45.2.2.2.1 x45.2.2.2.2.1 x45.2.2.2.2.2.1 x45.2.2.2.2.2.2 _ _ _ _ hp74 (Nat.zero_le _) (by omega) hq (lv_sub hl [5, 6, 4, 3, 2, 1, 0] rfl) w h_x h_x_no h_x_no_pa h_x_no_cr h_x_no_cr_e h_x_mi h_x_mi_pa h_x_mi_cr h_x_mi_cr_e h_x_sh h_q9 h_pr h_qm h_sh h_rw h_el hk
        · skip
          have hq := hq.trans (if_neg c4)
          refine lv_sipush (v := (-1000)) hx hb dX5_crowd_56 (by decide) ?_
          refine lv_aload hx hb dX5_crowd_59 (lv_at hl 1 rfl) ?_
          refine w_get (v := .int x45.2.1) hx hb hts i_X2 hown hK w h_q9 rfl 1 (by decide) (hts _ m_13) rfl dX5_crowd_61 ?_
          refine lv_isub hx hb dX5_crowd_64 ?_
          exact w_iret hx hb hr hlocks w ⟨_, hq.symm, rfl, h_x_no.2, h_x_no_cr.2, h_x_no_cr_e.2, h_x_mi.2, h_x_mi_cr.2, h_x_mi_cr_e.2, (fun i hi => (h_pr i hi).2), (fun i hi => (h_qm i hi).2), hk⟩ (Nat.le_of_ble_eq_true rfl) (Nat.le_of_ble_eq_true rfl) dX5_crowd_65
      · skip
        have hq := hq.trans (if_neg c3)
        refine lv_bipush (v := (-12)) hx hb dX5_crowd_27 (by decide) ?_
        exact w_iret hx hb hr hlocks w ⟨_, hq.symm, rfl, h_x_no.2, h_x_no_cr.2, h_x_no_cr_e.2, h_x_mi.2, h_x_mi_cr.2, h_x_mi_cr_e.2, (fun i hi => (h_pr i hi).2), (fun i hi => (h_qm i hi).2), hk⟩ (Nat.le_of_ble_eq_true rfl) (Nat.le_of_ble_eq_true rfl) dX5_crowd_29
    · skip
      have hq := hq.trans (if_neg c2)
      refine lv_iload_n hx hb dX5_crowd_15 rfl (lv_at hl 0 rfl) ?_
      exact w_iret hx hb hr hlocks w ⟨_, hq.symm, rfl, h_x_no.2, h_x_no_cr.2, h_x_no_cr_e.2, h_x_mi.2, h_x_mi_cr.2, h_x_mi_cr_e.2, (fun i hi => (h_pr i hi).2), (fun i hi => (h_qm i hi).2), hk⟩ (Nat.le_of_ble_eq_true rfl) (Nat.le_of_ble_eq_true rfl) dX5_crowd_16
  · skip
    have hq := hq.trans (if_neg c1)
    refine w_finQ (v := .null) (by unfold f_X5_shelfAt_none; first | rfl | (split <;> rfl)) (w_runV (rm := ({ frames := 0, cells := 0, slots := 0, locals := 0 } : Room)) (As := [.int d]) (rest := []) (n := 1) hx hb hml hts hown hK w (c_X5_shelfAt_none l D cI cP cS cL L _ x d x_no x_ke x_mi x_im x_sh x_co x_ot sh h_x h_x_sh c1) gX5_crowd_X5_shelfAt rfl rfl rfl (by decide +kernel) ⟨(Nat.le_of_ble_eq_true rfl), (Nat.le_of_ble_eq_true rfl)⟩ h_x rfl rfl hl.1 rfl (Nat.le_of_ble_eq_true rfl) dX5_crowd_2 ⟨(Nat.le_of_ble_eq_true rfl), (Nat.le_of_ble_eq_true rfl)⟩) w hA (fun H locs w => ?_)
    refine lv_astore_nN (lv' := [(2, .null), (0, .ref x), (1, .int d)]) hx hb dX5_crowd_5 rfl hl (by decide) rfl (fun ls hl => ?_)
    refine lv_aload_nN hx hb dX5_crowd_6 rfl (lv_at hl 0 rfl) ?_
    refine w_finI (r := (-1)) (w_runS (rm := ({ frames := 1, cells := 0, slots := 0, locals := 21 } : Room)) (As := [.null]) (rest := []) (n := 1) hx hb hml hts hown hK w (c_X5_rowRefusal_n l D cI cP cS cL L _  ) gX5_crowd_X5_rowRefusal rfl rfl rfl (by decide +kernel) ⟨(Nat.le_of_ble_eq_true rfl), (Nat.le_of_ble_eq_true rfl)⟩ rfl hl.1 rfl (Nat.le_of_ble_eq_true rfl) dX5_crowd_7 ⟨(Nat.le_of_ble_eq_true rfl), (Nat.le_of_ble_eq_true rfl)⟩) w hA (fun H locs w => ?_)
    refine lv_istore_n (lv' := [(3, .int (-1)), (2, .null), (0, .ref x), (1, .int d)]) hx hb dX5_crowd_10 rfl hl (by decide) rfl (fun ls hl => ?_)
    refine lv_iload_n hx hb dX5_crowd_11 rfl (lv_at hl 0 rfl) ?_
    refine lv_if_eq (tgt := 17) hx hb dX5_crowd_12 (by decide) (fun c => absurd c (by decide)) (fun _ => ?_)
    refine lv_iload_n hx hb dX5_crowd_15 rfl (lv_at hl 0 rfl) ?_
    exact w_iret hx hb hr hlocks w ⟨_, hq.symm, rfl, h_x_no.2, h_x_no_cr.2, h_x_no_cr_e.2, h_x_mi.2, h_x_mi_cr.2, h_x_mi_cr_e.2, (fun i hi => (h_pr i hi).2), (fun i hi => (h_qm i hi).2), hk⟩ (Nat.le_of_ble_eq_true rfl) (Nat.le_of_ble_eq_true rfl) dX5_crowd_16
