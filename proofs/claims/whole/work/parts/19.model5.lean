def CH (ba en : Int32) (el : Nat → Int32) : Nat → Int32 → Prop
  | 0, p => en ≤ p
  | k + 1, p => p < en ∧ ¬ (f_X6_readsStatement p ba en el (fun _ => 0)).1 = 0 ∧ CH ba en el k ((f_X6_readsStatement p ba en el (fun _ => 0)).2.1)
theorem pos_nI {p : Int32} (h : 0 ≤ p.toInt) : p = nI p.toInt.toNat := by
  apply Int32.toInt_inj.mp
  have := Int32.toInt_lt p
  rw [nI_toInt (by omega)]
  omega
theorem rs_det {p ba en : Int32} {el nu nu2 : Nat → Int32} (hp : 0 ≤ p.toInt ∧ p.toInt ≤ 100) (hen : 0 ≤ en.toInt ∧ en.toInt ≤ 100) :
    (f_X6_readsStatement p ba en el nu).1 = (f_X6_readsStatement p ba en el nu2).1 ∧ (f_X6_readsStatement p ba en el nu).2.1 = (f_X6_readsStatement p ba en el nu2).2.1 ∧ (f_X6_readsStatement p ba en el nu).2.1.toInt ≤ 100 ∧ (¬ (f_X6_readsStatement p ba en el nu).1 = 0 → p < en ∧ (f_X6_readsStatement p ba en el nu).2.1 ≤ en) := by
  rw [pos_nI hp.1, pos_nI hen.1]
  obtain ⟨q, a1, b1, hq, h1⟩ := rs_rel (T := fun q => el ((ba + nI q).toNatClampNeg)) (el := el) (nu := nu) (n := en.toInt.toNat) (p := p.toInt.toNat) (ba := ba) (fi := 0) (se := 0) (th := 0) (nuc := 0) (by omega) (by omega) (fun _ _ => rfl)
  obtain ⟨q2, a2, b2, hq2, h2⟩ := rs_rel (T := fun q => el ((ba + nI q).toNatClampNeg)) (el := el) (nu := nu2) (n := en.toInt.toNat) (p := p.toInt.toNat) (ba := ba) (fi := 0) (se := 0) (th := 0) (nuc := 0) (by omega) (by omega) (fun _ _ => rfl)
  refine ⟨?_, ?_, ?_, ?_⟩
  · rcases h1 with ⟨x1, y1⟩ | ⟨x1, y1, _⟩ <;> rcases h2 with ⟨x2, y2⟩ | ⟨x2, y2, _⟩
    · exact y1.trans y2.symm
    · exact y1.trans ((x1.symm.trans x2).trans y2.symm)
    · exact y1.trans ((x1.symm.trans x2).trans y2.symm)
    · exact y1.trans y2.symm
  · exact (b1.trans (a1.symm.trans a2)).trans b2.symm
  · rw [b1, nI_toInt (by omega)]; omega
  · intro ok
    rcases h1 with ⟨x1, y1⟩ | ⟨x1, y1, l1, l2, _⟩
    · exact absurd y1 ok
    · rw [b1]
      exact ⟨(nI_ltI (by omega) (by omega)).mpr (by omega), (nI_leI (by omega) (by omega)).mpr l2⟩
theorem ch_in {p ba en : Int32} {el nu : Nat → Int32} {x : Int32 × Int32 × Int32 × (Nat → Int32)} {j : Nat} (hp : 0 ≤ p.toInt ∧ p.toInt ≤ 100) (hen : 0 ≤ en.toInt ∧ en.toInt ≤ 100) (hx : x = f_X6_readsStatement p ba en el nu) (ok : ¬ x.1 = 0) (h : CH ba en el j x.2.1) : CH ba en el (j + 1) p := by
  subst hx
  have d := rs_det (ba := ba) (el := el) (nu := nu) (nu2 := fun _ => 0) hp hen
  refine ⟨(d.2.2.2 ok).1, ?_, ?_⟩
  · rw [← d.1]; exact ok
  · rw [← d.2.1]; exact h
theorem ch_out {p ba en : Int32} {el nu : Nat → Int32} {x : Int32 × Int32 × Int32 × (Nat → Int32)} (hp : 0 ≤ p.toInt ∧ p.toInt ≤ 100) (hen : 0 ≤ en.toInt ∧ en.toInt ≤ 100) (hx : x = f_X6_readsStatement p ba en el nu) (hc : ∃ i, CH ba en el i p) (hlt : p < en) : ¬ x.1 = 0 ∧ (∃ i, CH ba en el i x.2.1) ∧ x.2.1.toInt ≤ 100 := by
  subst hx
  have d := rs_det (ba := ba) (el := el) (nu := nu) (nu2 := fun _ => 0) hp hen
  obtain ⟨i, hi⟩ := hc
  cases i with
  | zero => exact absurd hi (Int32.not_le.mpr hlt)
  | succ i =>
    obtain ⟨_, h1, h2⟩ := hi
    refine ⟨?_, ⟨i, ?_⟩, d.2.2.1⟩
    · rw [d.1]; exact h1
    · rw [d.2.1]; exact h2
theorem cr_ba {d : Int32} (hd : 0 ≤ d.toInt ∧ d.toInt < 8) : 0 ≤ (100 * d).toInt ∧ (100 * d).toInt ≤ 700 := by
  have h4 : (100 : Int32).toInt = 100 := rfl
  rw [mulI (by rw [h4]; omega), h4]
  omega
def f_X6_crowd_L154 (d : Int32) (m_si_f : Nat → Int32) (v3 : Int32) (u_m_po : Int32) (u_m_tl : Int32) (u_m_nu_f : Nat → Int32) (u_m_re_f : Nat → Int32) : Nat → Nat → (Nat → Int32) → Int32 × (Nat → Int32) × (Nat → Int32) × Int32 × Int32 × Int32 × Int32 × (Nat → Int32)
  | 0, _, _ => (0, (fun _ => 0), (fun _ => 0), 0, 0, 0, 0, (fun _ => 0))
  | n + 1, k, u_m_ss_f => if (55 : Int32) ≤ (nI k) then ((v3 + 1), u_m_ss_f, u_m_re_f, u_m_po, (100 * d), (m_si_f (d.toNatClampNeg)), u_m_tl, u_m_nu_f) else (f_X6_crowd_L154 d m_si_f v3 u_m_po u_m_tl u_m_nu_f u_m_re_f n ((k + 1)) (upd u_m_ss_f k (u_m_re_f k)))
theorem f_X6_crowd_L154_s (d : Int32) (m_si_f : Nat → Int32) (v3 : Int32) (u_m_po : Int32) (u_m_tl : Int32) (u_m_nu_f : Nat → Int32) (u_m_re_f : Nat → Int32) (n k : Nat) (u_m_ss_f : Nat → Int32) : f_X6_crowd_L154 d m_si_f v3 u_m_po u_m_tl u_m_nu_f u_m_re_f (n + 1) k u_m_ss_f = (if (55 : Int32) ≤ (nI k) then ((v3 + 1), u_m_ss_f, u_m_re_f, u_m_po, (100 * d), (m_si_f (d.toNatClampNeg)), u_m_tl, u_m_nu_f) else (f_X6_crowd_L154 d m_si_f v3 u_m_po u_m_tl u_m_nu_f u_m_re_f n ((k + 1)) (upd u_m_ss_f k (u_m_re_f k)))) := rfl
def f_X6_crowd_L103 (d : Int32) (m_ss_f : Nat → Int32) (m_si_f : Nat → Int32) (m_el_f : Nat → Int32) (v3 : Int32) : Nat → Nat → (Int32) → (Int32) → (Nat → Int32) → (Nat → Int32) → Int32 × (Nat → Int32) × (Nat → Int32) × Int32 × Int32 × Int32 × Int32 × (Nat → Int32)
  | 0, _, _, _, _, _ => (0, (fun _ => 0), (fun _ => 0), 0, 0, 0, 0, (fun _ => 0))
  | n + 1, k, u_m_po, u_m_tl, u_m_nu_f, u_m_re_f => if (m_si_f (d.toNatClampNeg)) ≤ u_m_po then (f_X6_crowd_L154 d m_si_f v3 u_m_po u_m_tl u_m_nu_f u_m_re_f (55 + 1) 0 m_ss_f) else (bnd (f_X6_readsStatement u_m_po (100 * d) (m_si_f (d.toNatClampNeg)) m_el_f u_m_nu_f) (fun x127 : Int32 × Int32 × Int32 × (Nat → Int32) => (bnd (f_X6_comes (f_X6_here u_m_po (100 * d) (m_si_f (d.toNatClampNeg)) m_el_f) u_m_re_f x127.2.2.2) (fun x135 : Int32 × (Nat → Int32) => if x135.1 = (0 : Int32) then (((-2000) - u_m_po), m_ss_f, x135.2, x127.2.1, (100 * d), (m_si_f (d.toNatClampNeg)), x127.2.2.1, x127.2.2.2) else (f_X6_crowd_L103 d m_ss_f m_si_f m_el_f v3 n 0 x127.2.1 x127.2.2.1 x127.2.2.2 x135.2)))))
theorem f_X6_crowd_L103_s (d : Int32) (m_ss_f : Nat → Int32) (m_si_f : Nat → Int32) (m_el_f : Nat → Int32) (v3 : Int32) (n k : Nat) (u_m_po : Int32) (u_m_tl : Int32) (u_m_nu_f : Nat → Int32) (u_m_re_f : Nat → Int32) : f_X6_crowd_L103 d m_ss_f m_si_f m_el_f v3 (n + 1) k u_m_po u_m_tl u_m_nu_f u_m_re_f = (if (m_si_f (d.toNatClampNeg)) ≤ u_m_po then (f_X6_crowd_L154 d m_si_f v3 u_m_po u_m_tl u_m_nu_f u_m_re_f (55 + 1) 0 m_ss_f) else (bnd (f_X6_readsStatement u_m_po (100 * d) (m_si_f (d.toNatClampNeg)) m_el_f u_m_nu_f) (fun x127 : Int32 × Int32 × Int32 × (Nat → Int32) => (bnd (f_X6_comes (f_X6_here u_m_po (100 * d) (m_si_f (d.toNatClampNeg)) m_el_f) u_m_re_f x127.2.2.2) (fun x135 : Int32 × (Nat → Int32) => if x135.1 = (0 : Int32) then (((-2000) - u_m_po), m_ss_f, x135.2, x127.2.1, (100 * d), (m_si_f (d.toNatClampNeg)), x127.2.2.1, x127.2.2.2) else (f_X6_crowd_L103 d m_ss_f m_si_f m_el_f v3 n 0 x127.2.1 x127.2.2.1 x127.2.2.2 x135.2)))))) := rfl
def f_X6_crowd_L71 (d : Int32) (m_ss_f : Nat → Int32) (m_si_f : Nat → Int32) (m_el_f : Nat → Int32) (v3 : Int32) (x39 : Int32 × Int32 × Int32 × (Nat → Int32)) : Nat → Nat → (Nat → Int32) → Int32 × (Nat → Int32) × (Nat → Int32) × Int32 × Int32 × Int32 × Int32 × (Nat → Int32)
  | 0, _, _ => (0, (fun _ => 0), (fun _ => 0), 0, 0, 0, 0, (fun _ => 0))
  | n + 1, k, u_m_re_f => if (55 : Int32) ≤ (nI k) then (f_X6_crowd_L103 d m_ss_f m_si_f m_el_f v3 101 0 0 x39.2.2.1 x39.2.2.2 u_m_re_f) else (f_X6_crowd_L71 d m_ss_f m_si_f m_el_f v3 x39 n ((k + 1)) (upd u_m_re_f k (m_ss_f k)))
theorem f_X6_crowd_L71_s (d : Int32) (m_ss_f : Nat → Int32) (m_si_f : Nat → Int32) (m_el_f : Nat → Int32) (v3 : Int32) (x39 : Int32 × Int32 × Int32 × (Nat → Int32)) (n k : Nat) (u_m_re_f : Nat → Int32) : f_X6_crowd_L71 d m_ss_f m_si_f m_el_f v3 x39 (n + 1) k u_m_re_f = (if (55 : Int32) ≤ (nI k) then (f_X6_crowd_L103 d m_ss_f m_si_f m_el_f v3 101 0 0 x39.2.2.1 x39.2.2.2 u_m_re_f) else (f_X6_crowd_L71 d m_ss_f m_si_f m_el_f v3 x39 n ((k + 1)) (upd u_m_re_f k (m_ss_f k)))) := rfl
def f_X6_crowd_L38 (d : Int32) (m_ss_f : Nat → Int32) (m_si_f : Nat → Int32) (m_el_f : Nat → Int32) (m_re_f : Nat → Int32) : Nat → Nat → Int32 → (Int32) → (Int32) → (Nat → Int32) → Int32 × (Nat → Int32) × (Nat → Int32) × Int32 × Int32 × Int32 × Int32 × (Nat → Int32)
  | 0, _, _, _, _, _ => (0, (fun _ => 0), (fun _ => 0), 0, 0, 0, 0, (fun _ => 0))
  | n + 1, k, v3, u_m_po, u_m_tl, u_m_nu_f => (bnd (f_X6_readsStatement u_m_po (100 * d) (m_si_f (d.toNatClampNeg)) m_el_f u_m_nu_f) (fun x39 : Int32 × Int32 × Int32 × (Nat → Int32) => if x39.1 = (0 : Int32) then (((-1000) - x39.2.1), m_ss_f, m_re_f, x39.2.1, (100 * d), (m_si_f (d.toNatClampNeg)), x39.2.2.1, x39.2.2.2) else (if x39.2.1 < (m_si_f (d.toNatClampNeg)) then (f_X6_crowd_L38 d m_ss_f m_si_f m_el_f m_re_f n 0 (v3 + 1) x39.2.1 x39.2.2.1 x39.2.2.2) else (f_X6_crowd_L71 d m_ss_f m_si_f m_el_f v3 x39 (55 + 1) 0 m_re_f))))
theorem f_X6_crowd_L38_s (d : Int32) (m_ss_f : Nat → Int32) (m_si_f : Nat → Int32) (m_el_f : Nat → Int32) (m_re_f : Nat → Int32) (n k : Nat) (v3 : Int32) (u_m_po : Int32) (u_m_tl : Int32) (u_m_nu_f : Nat → Int32) : f_X6_crowd_L38 d m_ss_f m_si_f m_el_f m_re_f (n + 1) k v3 u_m_po u_m_tl u_m_nu_f = (bnd (f_X6_readsStatement u_m_po (100 * d) (m_si_f (d.toNatClampNeg)) m_el_f u_m_nu_f) (fun x39 : Int32 × Int32 × Int32 × (Nat → Int32) => if x39.1 = (0 : Int32) then (((-1000) - x39.2.1), m_ss_f, m_re_f, x39.2.1, (100 * d), (m_si_f (d.toNatClampNeg)), x39.2.2.1, x39.2.2.2) else (if x39.2.1 < (m_si_f (d.toNatClampNeg)) then (f_X6_crowd_L38 d m_ss_f m_si_f m_el_f m_re_f n 0 (v3 + 1) x39.2.1 x39.2.2.1 x39.2.2.2) else (f_X6_crowd_L71 d m_ss_f m_si_f m_el_f v3 x39 (55 + 1) 0 m_re_f)))) := rfl
def f_X6_crowd (d : Int32) (m_po : Int32) (m_ba : Int32) (m_en : Int32) (m_tl : Int32) (m_ss_f : Nat → Int32) (m_ke_f : Nat → Int32) (m_so_f : Nat → Int32) (m_si_f : Nat → Int32) (m_el_f : Nat → Int32) (m_re_f : Nat → Int32) (m_nu_f : Nat → Int32) : Int32 × (Nat → Int32) × (Nat → Int32) × Int32 × Int32 × Int32 × Int32 × (Nat → Int32) := if (f_X6_wrongRow d 0 m_ke_f m_so_f) = (0 : Int32) then (f_X6_crowd_L38 d m_ss_f m_si_f m_el_f m_re_f 101 0 0 0 m_tl m_nu_f) else ((f_X6_wrongRow d 0 m_ke_f m_so_f), m_ss_f, m_re_f, m_po, m_ba, m_en, m_tl, m_nu_f)
set_option maxHeartbeats 400000 in
set_option maxRecDepth 100000 in
theorem c_X6_crowd (l : Launch) (D : va_G) (cI cP cS cL : ClassId) (L : List Nat) (F : Nat → va_E) (m : Nat) (d : Int32) (m_ss : Nat) (m_im : Nat) (m_re : Nat) (m_sa : Nat) (m_ke : Nat) (m_so : Nat) (m_si : Nat) (m_el : Nat) (m_kd : Nat) (m_kt : Nat) (m_hi : Int32) (m_th : Int32) (m_po : Int32) (m_ba : Int32) (m_en : Int32) (m_tl : Int32) (m_nu : Nat) (m_ca : Nat) (m_ha : Nat) (m_hs : Int32) (m_co : Nat) (m_ss_f : Nat → Int32) (m_ke_f : Nat → Int32) (m_so_f : Nat → Int32) (m_si_f : Nat → Int32) (m_el_f : Nat → Int32) (m_re_f : Nat → Int32) (m_nu_f : Nat → Int32) (h_m : wi L F m (eM m_ss m_im m_re m_sa m_ke m_so m_si m_el m_kd m_kt m_hi m_th m_po m_ba m_en m_tl m_nu m_ca m_ha m_hs m_co)) (h_m_ss : wi L F m_ss (eI cI 55 m_ss_f)) (h_m_ke : wi L F m_ke (eI cI 8 m_ke_f)) (h_m_so : wi L F m_so (eI cI 8 m_so_f)) (h_m_si : wi L F m_si (eI cI 8 m_si_f)) (h_m_el : wi L F m_el (eI cI 800 m_el_f)) (h_m_re : wi L F m_re (eI cI 55 m_re_f)) (h_m_nu : wi L F m_nu (eI cI 3 m_nu_f)) (h5 : 0 ≤ (m_ss_f 5).toInt ∧ (m_ss_f 5).toInt ≤ 12) (hsi : ∀ i, i < 8 → (m_si_f i).toInt ≤ 100) (hsi0 : ∀ i, i < 8 → 0 ≤ (m_si_f i).toInt) (ne_m_el_m_nu : m_el ≠ m_nu) (ne_m_ss_m_nu : m_ss ≠ m_nu) (ne_m_ke_m_nu : m_ke ≠ m_nu) (ne_m_so_m_nu : m_so ≠ m_nu) (ne_m_si_m_nu : m_si ≠ m_nu) (ne_m_re_m_nu : m_re ≠ m_nu) (ne_m_ke_m_ss : m_ke ≠ m_ss) (ne_m_so_m_ss : m_so ≠ m_ss) (ne_m_si_m_ss : m_si ≠ m_ss) (ne_m_el_m_ss : m_el ≠ m_ss) (ne_m_re_m_ss : m_re ≠ m_ss) (ne_m_nu_m_ss : m_nu ≠ m_ss) (ne_m_nu_m_re : m_nu ≠ m_re) (ne_m_ss_m_re : m_ss ≠ m_re) (ne_m_ke_m_re : m_ke ≠ m_re) (ne_m_so_m_re : m_so ≠ m_re) (ne_m_si_m_re : m_si ≠ m_re) (ne_m_el_m_re : m_el ≠ m_re) : wMj l D cI cP cS cL yX6_crowd wsX6_crowd ({ frames := 5, cells := 0, slots := 0, locals := 108 } : Room) [.ref m, .int d] L F (fun r1 F1 => ∃ y9 : Int32 × (Nat → Int32) × (Nat → Int32) × Int32 × Int32 × Int32 × Int32 × (Nat → Int32), y9 = (f_X6_crowd d m_po m_ba m_en m_tl m_ss_f m_ke_f m_so_f m_si_f m_el_f m_re_f m_nu_f) ∧ r1 = y9.1 ∧ F1 m = (eM m_ss m_im m_re m_sa m_ke m_so m_si m_el m_kd m_kt m_hi m_th y9.2.2.2.1 y9.2.2.2.2.1 y9.2.2.2.2.2.1 y9.2.2.2.2.2.2.1 m_nu m_ca m_ha m_hs m_co) ∧ F1 m_ss = (eI cI 55 y9.2.1) ∧ F1 m_re = (eI cI 55 y9.2.2.1) ∧ F1 m_nu = (eI cI 3 y9.2.2.2.2.2.2.2) ∧ wk (fun q : Nat => q ≠ m ∧ q ≠ m_ss ∧ q ≠ m_re ∧ q ≠ m_nu ∧ True) F1 F) := by
  refine wM.of (cc := cX6_crowd) (maxL := 7) (ret := (some .int)) (by decide) rfl (Nat.le_of_ble_eq_true rfl) ?_
  intro pZ eZ sZ mZ below meth cZ A ls C hl w
  obtain ⟨hx, hb, hr, hml, hts, hown, hlocks, hK, hA, hin⟩ := C
  have hown : sZ.vm.findClass RX6 = some mZ.cls := hown
  have hl : lv_has ls 7 [(0, .ref m), (1, .int d)] := hl
  have m_0 : ((.fieldLink RX6 68 "TwoThirdsModel" "base" "I") : Cond) ∈ wsX6_crowd := by decide +kernel
  have i_X6 : ∀ w ∈ wsX60, w ∈ wsX6_crowd := by decide +kernel
  have m_2 : ((.fieldLink RX6 28 "TwoThirdsModel" "size" "[I") : Cond) ∈ wsX6_crowd := by decide +kernel
  have m_3 : ((.fieldLink RX6 65 "TwoThirdsModel" "end" "I") : Cond) ∈ wsX6_crowd := by decide +kernel
  have m_4 : ((.fieldLink RX6 62 "TwoThirdsModel" "pos" "I") : Cond) ∈ wsX6_crowd := by decide +kernel
  have m_5 : ((.fieldLink RX6 9 "TwoThirdsModel" "s" "[I") : Cond) ∈ wsX6_crowd := by decide +kernel
  have m_6 : ((.fieldLink RX6 16 "TwoThirdsModel" "read" "[I") : Cond) ∈ wsX6_crowd := by decide +kernel
  have hk : wk (fun q : Nat => q ≠ m ∧ q ≠ m_ss ∧ q ≠ m_re ∧ q ≠ m_nu ∧ True) F F := wk.rf
  have hq : f_X6_crowd d m_po m_ba m_en m_tl m_ss_f m_ke_f m_so_f m_si_f m_el_f m_re_f m_nu_f = f_X6_crowd d m_po m_ba m_en m_tl m_ss_f m_ke_f m_so_f m_si_f m_el_f m_re_f m_nu_f := rfl
  refine lv_aload_n hx hb dX6_crowd_0 rfl (lv_at hl 0 rfl) ?_
  refine lv_iload_n hx hb dX6_crowd_1 rfl (lv_at hl 1 rfl) ?_
  refine lv_iconst (v := 0) hx hb dX6_crowd_2 (by decide) ?_
  refine w_finI (w_runV (rm := ({ frames := 2, cells := 0, slots := 0, locals := 45 } : Room)) (As := [.int d, .int 0]) (rest := []) (n := 2) hx hb hml hts hown hK w (c_X6_wrongRow l D cI cP cS cL L _ m d 0 m_ss m_im m_re m_sa m_ke m_so m_si m_el m_kd m_kt m_hi m_th m_po m_ba m_en m_tl m_nu m_ca m_ha m_hs m_co m_ke_f m_so_f h_m h_m_ke h_m_so) gX6_crowd_X6_wrongRow rfl rfl rfl (by decide +kernel) ⟨(Nat.le_of_ble_eq_true rfl), (Nat.le_of_ble_eq_true rfl)⟩ h_m rfl rfl hl.1 rfl (Nat.le_of_ble_eq_true rfl) dX6_crowd_3 ⟨(Nat.le_of_ble_eq_true rfl), (Nat.le_of_ble_eq_true rfl)⟩) w hA (fun H locs w => ?_)
  refine lv_istore_n (lv' := [(2, .int (f_X6_wrongRow d 0 m_ke_f m_so_f)), (0, .ref m), (1, .int d)]) hx hb dX6_crowd_6 rfl hl (by decide) rfl (fun ls hl => ?_)
  refine lv_iload_n hx hb dX6_crowd_7 rfl (lv_at hl 0 rfl) ?_
  refine lv_if_eq (tgt := 13) hx hb dX6_crowd_8 (by decide) (fun c1 => ?_) (fun c1 => ?_)
  · skip
    have hq := hq.trans (if_pos c1)
    have hd : 0 ≤ d.toInt ∧ d.toInt < 8 := wrongRow_ok c1
    have hd8 : d.toNatClampNeg < 8 := w_d8 hd
    have hba : 0 ≤ (100 * d).toInt ∧ (100 * d).toInt ≤ 700 := cr_ba hd
    have hen : (m_si_f (d.toNatClampNeg)).toInt ≤ 100 := hsi _ hd8
    have hen2 := And.intro (hsi0 _ hd8) hen
    refine lv_aload_n hx hb dX6_crowd_13 rfl (lv_at hl 1 rfl) ?_
    refine lv_bipush (v := 100) hx hb dX6_crowd_14 (by decide) ?_
    refine lv_iload_n hx hb dX6_crowd_16 rfl (lv_at hl 2 rfl) ?_
    refine lv_imul hx hb dX6_crowd_17 ?_
    have ho2 := h_m
    refine w_put (fs2 := [.ref m_ss, .ref m_im, .ref m_re, .ref m_sa, .ref m_ke, .ref m_so, .ref m_si, .ref m_el, .ref m_kd, .ref m_kt, .int m_hi, .int m_th, .int m_po, .int (100 * d), .int m_en, .int m_tl, .ref m_nu, .ref m_ca, .ref m_ha, .int m_hs, .ref m_co]) hx hb hts i_X6 tyX6 tyX6_ok nmX6 hown hK w h_m rfl 13 (by decide) (hts _ m_0) rfl rfl rfl (Nat.le_of_ble_eq_true rfl) rfl dX6_crowd_18 (fun H locs w h_m => ?_)
    have h_m_ss := h_m_ss.upw h_m (wi.ne h_m_ss ho2 (by intro h; cases h))
    have h_m_ke := h_m_ke.upw h_m (wi.ne h_m_ke ho2 (by intro h; cases h))
    have h_m_so := h_m_so.upw h_m (wi.ne h_m_so ho2 (by intro h; cases h))
    have h_m_si := h_m_si.upw h_m (wi.ne h_m_si ho2 (by intro h; cases h))
    have h_m_el := h_m_el.upw h_m (wi.ne h_m_el ho2 (by intro h; cases h))
    have h_m_re := h_m_re.upw h_m (wi.ne h_m_re ho2 (by intro h; cases h))
    have h_m_nu := h_m_nu.upw h_m (wi.ne h_m_nu ho2 (by intro h; cases h))
    have hk := hk.upw h_m (fun q h => h.1)
    refine lv_aload_n hx hb dX6_crowd_21 rfl (lv_at hl 1 rfl) ?_
    refine lv_aload_n hx hb dX6_crowd_22 rfl (lv_at hl 1 rfl) ?_
    refine w_get (v := .ref m_si) hx hb hts i_X6 hown hK w h_m rfl 6 (by decide) (hts _ m_2) rfl dX6_crowd_23 ?_
    refine lv_iload_n hx hb dX6_crowd_26 rfl (lv_at hl 2 rfl) ?_
    refine w_ild (j := (d.toNatClampNeg)) hx hb hK w h_m_si (w_in8 hd) rfl dX6_crowd_27 ?_
    have ho3 := h_m
    refine w_put (fs2 := [.ref m_ss, .ref m_im, .ref m_re, .ref m_sa, .ref m_ke, .ref m_so, .ref m_si, .ref m_el, .ref m_kd, .ref m_kt, .int m_hi, .int m_th, .int m_po, .int (100 * d), .int (m_si_f (d.toNatClampNeg)), .int m_tl, .ref m_nu, .ref m_ca, .ref m_ha, .int m_hs, .ref m_co]) hx hb hts i_X6 tyX6 tyX6_ok nmX6 hown hK w h_m rfl 14 (by decide) (hts _ m_3) rfl rfl rfl (Nat.le_of_ble_eq_true rfl) rfl dX6_crowd_28 (fun H locs w h_m => ?_)
    have h_m_ss := h_m_ss.upw h_m (wi.ne h_m_ss ho3 (by intro h; cases h))
    have h_m_ke := h_m_ke.upw h_m (wi.ne h_m_ke ho3 (by intro h; cases h))
    have h_m_so := h_m_so.upw h_m (wi.ne h_m_so ho3 (by intro h; cases h))
    have h_m_si := h_m_si.upw h_m (wi.ne h_m_si ho3 (by intro h; cases h))
    have h_m_el := h_m_el.upw h_m (wi.ne h_m_el ho3 (by intro h; cases h))
    have h_m_re := h_m_re.upw h_m (wi.ne h_m_re ho3 (by intro h; cases h))
    have h_m_nu := h_m_nu.upw h_m (wi.ne h_m_nu ho3 (by intro h; cases h))
    have hk := hk.upw h_m (fun q h => h.1)
    refine lv_aload_n hx hb dX6_crowd_31 rfl (lv_at hl 1 rfl) ?_
    refine lv_iconst (v := 0) hx hb dX6_crowd_32 (by decide) ?_
    have ho4 := h_m
    refine w_put (fs2 := [.ref m_ss, .ref m_im, .ref m_re, .ref m_sa, .ref m_ke, .ref m_so, .ref m_si, .ref m_el, .ref m_kd, .ref m_kt, .int m_hi, .int m_th, .int 0, .int (100 * d), .int (m_si_f (d.toNatClampNeg)), .int m_tl, .ref m_nu, .ref m_ca, .ref m_ha, .int m_hs, .ref m_co]) hx hb hts i_X6 tyX6 tyX6_ok nmX6 hown hK w h_m rfl 12 (by decide) (hts _ m_4) rfl rfl rfl (Nat.le_of_ble_eq_true rfl) rfl dX6_crowd_33 (fun H locs w h_m => ?_)
    have h_m_ss := h_m_ss.upw h_m (wi.ne h_m_ss ho4 (by intro h; cases h))
    have h_m_ke := h_m_ke.upw h_m (wi.ne h_m_ke ho4 (by intro h; cases h))
    have h_m_so := h_m_so.upw h_m (wi.ne h_m_so ho4 (by intro h; cases h))
    have h_m_si := h_m_si.upw h_m (wi.ne h_m_si ho4 (by intro h; cases h))
    have h_m_el := h_m_el.upw h_m (wi.ne h_m_el ho4 (by intro h; cases h))
    have h_m_re := h_m_re.upw h_m (wi.ne h_m_re ho4 (by intro h; cases h))
    have h_m_nu := h_m_nu.upw h_m (wi.ne h_m_nu ho4 (by intro h; cases h))
    have hk := hk.upw h_m (fun q h => h.1)
    refine lv_iconst (v := 0) hx hb dX6_crowd_36 (by decide) ?_
    refine lv_istore_n (lv' := [(3, .int 0), (2, .int (f_X6_wrongRow d 0 m_ke_f m_so_f)), (0, .ref m), (1, .int d)]) hx hb dX6_crowd_37 rfl hl (by decide) rfl (fun ls hl => ?_)
    have hL38 : ∀ (n k : Nat) (v3 : Int32) (u_m_po : Int32) (u_m_tl : Int32) (u_m_nu_f : Nat → Int32) (F1 : Nat → va_E) (H : Heap) (locs : List Loc) (ls : Array Slot), (0 ≤ u_m_po.toInt ∧ u_m_po.toInt ≤ 100) → (∀ j, CH (100 * d) (m_si_f (d.toNatClampNeg)) m_el_f j u_m_po → ∃ i, CH (100 * d) (m_si_f (d.toNatClampNeg)) m_el_f i 0) → k ≤ 0 → (100 - u_m_po.toInt).toNat < n → f_X6_crowd d m_po m_ba m_en m_tl m_ss_f m_ke_f m_so_f m_si_f m_el_f m_re_f m_nu_f = f_X6_crowd_L38 d m_ss_f m_si_f m_el_f m_re_f n k v3 u_m_po u_m_tl u_m_nu_f → lv_has ls 7 [(0, .ref m), (1, .int d), (2, .int (f_X6_wrongRow d 0 m_ke_f m_so_f)), (3, .int v3)] → ww D A sZ.heap L F1 H locs → (wi L F1 m (eM m_ss m_im m_re m_sa m_ke m_so m_si m_el m_kd m_kt m_hi m_th u_m_po (100 * d) (m_si_f (d.toNatClampNeg)) u_m_tl m_nu m_ca m_ha m_hs m_co)) → (wi L F1 m_ss (eI cI 55 m_ss_f)) → (wi L F1 m_ke (eI cI 8 m_ke_f)) → (wi L F1 m_so (eI cI 8 m_so_f)) → (wi L F1 m_si (eI cI 8 m_si_f)) → (wi L F1 m_el (eI cI 800 m_el_f)) → (wi L F1 m_re (eI cI 55 m_re_f)) → (wi L F1 m_nu (eI cI 3 u_m_nu_f)) → wk (fun q : Nat => q ≠ m ∧ q ≠ m_ss ∧ q ≠ m_re ∧ q ≠ m_nu ∧ True) F1 F → W pZ l eZ ({ frames := 5, cells := 0, slots := 0, locals := 108 } : Room) sZ mZ [.ref m, .int d].toArray below meth cZ H locs 0 0 (MQ below (wQi D A (fun r1 L1 F1 => L1 = L ∧ ∃ y9 : Int32 × (Nat → Int32) × (Nat → Int32) × Int32 × Int32 × Int32 × Int32 × (Nat → Int32), y9 = (f_X6_crowd d m_po m_ba m_en m_tl m_ss_f m_ke_f m_so_f m_si_f m_el_f m_re_f m_nu_f) ∧ r1 = y9.1 ∧ F1 m = (eM m_ss m_im m_re m_sa m_ke m_so m_si m_el m_kd m_kt m_hi m_th y9.2.2.2.1 y9.2.2.2.2.1 y9.2.2.2.2.2.1 y9.2.2.2.2.2.2.1 m_nu m_ca m_ha m_hs m_co) ∧ F1 m_ss = (eI cI 55 y9.2.1) ∧ F1 m_re = (eI cI 55 y9.2.2.1) ∧ F1 m_nu = (eI cI 3 y9.2.2.2.2.2.2.2) ∧ wk (fun q : Nat => q ≠ m ∧ q ≠ m_ss ∧ q ≠ m_re ∧ q ≠ m_nu ∧ True) F1 F)) [.ref m, .int d].toArray sZ 0 0 A) (F0 mZ 38 ls []) := by
      intro n; induction n with
      | zero => intro k v3 u_m_po u_m_tl u_m_nu_f F1 H locs ls _ _ hkT hmeas; exact absurd hmeas (Nat.not_lt_zero _)
      | succ n ih =>
        intro k v3 u_m_po u_m_tl u_m_nu_f F1 H locs ls hi0 hi1 hkT hmeas hq hl w h_m h_m_ss h_m_ke h_m_so h_m_si h_m_el h_m_re h_m_nu hk
        have hk31 : k < 2147483648 := (by omega)
        have hpu : 0 ≤ u_m_po.toInt := hi0.1
        have hq := hq.trans (f_X6_crowd_L38_s d m_ss_f m_si_f m_el_f m_re_f n k v3 u_m_po u_m_tl u_m_nu_f)
        refine lv_aload_n hx hb dX6_crowd_38 rfl (lv_at hl 0 rfl) ?_
        refine w_finj (w_runV (rm := ({ frames := 4, cells := 0, slots := 0, locals := 87 } : Room)) (As := []) (rest := []) (n := 0) hx hb hml hts hown hK w (c_X6_readsStatement l D cI cP cS cL L _ m m_ss m_im m_re m_sa m_ke m_so m_si m_el m_kd m_kt m_hi m_th u_m_po (100 * d) (m_si_f (d.toNatClampNeg)) u_m_tl m_nu m_ca m_ha m_hs m_co m_el_f u_m_nu_f h_m h_m_el h_m_nu hpu hba hen ne_m_el_m_nu) gX6_crowd_X6_readsStatement rfl rfl rfl (by decide +kernel) ⟨(Nat.le_of_ble_eq_true rfl), (Nat.le_of_ble_eq_true rfl)⟩ h_m rfl rfl hl.1 rfl (Nat.le_of_ble_eq_true rfl) dX6_crowd_39 ⟨(Nat.le_of_ble_eq_true rfl), (Nat.le_of_ble_eq_true rfl)⟩) w hA (fun r9 F1 H locs hp w => ?_)
        obtain ⟨x39, hx39, e39_0, e39_1, e39_2, hr9, hw0, hw1, hk9⟩ := hp
        subst hr9
        have hq := hq.trans (w_bnd hx39)
        have h_m_ss := h_m_ss.keep hk9 ⟨(wi.ne h_m_ss h_m (by intro h; cases h)), ne_m_ss_m_nu, trivial⟩
        have h_m_ke := h_m_ke.keep hk9 ⟨(wi.ne h_m_ke h_m (by intro h; cases h)), ne_m_ke_m_nu, trivial⟩
        have h_m_so := h_m_so.keep hk9 ⟨(wi.ne h_m_so h_m (by intro h; cases h)), ne_m_so_m_nu, trivial⟩
        have h_m_si := h_m_si.keep hk9 ⟨(wi.ne h_m_si h_m (by intro h; cases h)), ne_m_si_m_nu, trivial⟩
        have h_m_el := h_m_el.keep hk9 ⟨(wi.ne h_m_el h_m (by intro h; cases h)), ne_m_el_m_nu, trivial⟩
        have h_m_re := h_m_re.keep hk9 ⟨(wi.ne h_m_re h_m (by intro h; cases h)), ne_m_re_m_nu, trivial⟩
        have h_m := h_m.new hw0
        have h_m_nu := h_m_nu.new hw1
        have hk := hk.call hk9 (fun q h => ⟨h.1, h.2.2.2.1, trivial⟩)
        refine lv_if_ne (tgt := 54) hx hb dX6_crowd_42 (by decide) (fun c5 => ?_) (fun c5 => ?_)
        · skip
          have hq := hq.trans (if_neg c5)
          have hlt42 := e39_1.resolve_left c5
          have hok := c5
          refine lv_iinc (v := (v3 + 1)) (lv' := [(3, .int (v3 + 1)), (0, .ref m), (1, .int d), (2, .int (f_X6_wrongRow d 0 m_ke_f m_so_f))]) hx hb dX6_crowd_54 hl (k := 3) rfl rfl (by decide) rfl (fun ls hl => ?_)
          refine lv_aload_n hx hb dX6_crowd_57 rfl (lv_at hl 1 rfl) ?_
          refine w_get (v := .int x39.2.1) hx hb hts i_X6 hown hK w h_m rfl 12 (by decide) (hts _ m_4) rfl dX6_crowd_58 ?_
          refine lv_aload_n hx hb dX6_crowd_61 rfl (lv_at hl 1 rfl) ?_
          refine w_get (v := .int (m_si_f (d.toNatClampNeg))) hx hb hts i_X6 hown hK w h_m rfl 14 (by decide) (hts _ m_3) rfl dX6_crowd_62 ?_
          refine lv_icmp_lt (tgt := 38) hx hb dX6_crowd_65 (by decide) (fun c6 => ?_) (fun c6 => ?_)
          · skip
            have hq := hq.trans (if_pos c6)
            have hl65 := Int32.lt_iff_toInt_lt.mp c6
            exact ih 0 (v3 + 1) x39.2.1 x39.2.2.1 x39.2.2.2 _ _ _ _ ⟨e39_0, by omega⟩ (fun j h => hi1 (j + 1) (ch_in hi0 hen2 hx39 hok h)) (Nat.le_refl _) (by omega) hq (lv_sub hl [1, 2, 3, 0] rfl) w h_m h_m_ss h_m_ke h_m_so h_m_si h_m_el h_m_re h_m_nu hk
          · skip
            have hq := hq.trans (if_neg c6)
            have hch : ∃ i, CH (100 * d) (m_si_f (d.toNatClampNeg)) m_el_f i 0 := hi1 1 (ch_in ⟨hi0.1, hi0.2⟩ hen2 hx39 hok (Int32.not_lt.mp c6))
            refine lv_iconst (v := 0) hx hb dX6_crowd_68 (by decide) ?_
            refine lv_istore (lv' := [(4, .int 0), (3, .int (v3 + 1)), (0, .ref m), (1, .int d), (2, .int (f_X6_wrongRow d 0 m_ke_f m_so_f))]) hx hb dX6_crowd_69 hl (by decide) rfl (fun ls hl => ?_)
            have hL71 : ∀ (n k : Nat) (u_m_re_f : Nat → Int32) (F1 : Nat → va_E) (H : Heap) (locs : List Loc) (ls : Array Slot), (∀ i, i < k → u_m_re_f i = m_ss_f i) → k ≤ 55 → 55 - k < n → f_X6_crowd d m_po m_ba m_en m_tl m_ss_f m_ke_f m_so_f m_si_f m_el_f m_re_f m_nu_f = f_X6_crowd_L71 d m_ss_f m_si_f m_el_f v3 x39 n k u_m_re_f → lv_has ls 7 [(0, .ref m), (1, .int d), (2, .int (f_X6_wrongRow d 0 m_ke_f m_so_f)), (3, .int (v3 + 1)), (4, .int (nI k))] → ww D A sZ.heap L F1 H locs → (wi L F1 m (eM m_ss m_im m_re m_sa m_ke m_so m_si m_el m_kd m_kt m_hi m_th x39.2.1 (100 * d) (m_si_f (d.toNatClampNeg)) x39.2.2.1 m_nu m_ca m_ha m_hs m_co)) → (wi L F1 m_ss (eI cI 55 m_ss_f)) → (wi L F1 m_ke (eI cI 8 m_ke_f)) → (wi L F1 m_so (eI cI 8 m_so_f)) → (wi L F1 m_si (eI cI 8 m_si_f)) → (wi L F1 m_el (eI cI 800 m_el_f)) → (wi L F1 m_re (eI cI 55 u_m_re_f)) → (wi L F1 m_nu (eI cI 3 x39.2.2.2)) → wk (fun q : Nat => q ≠ m ∧ q ≠ m_ss ∧ q ≠ m_re ∧ q ≠ m_nu ∧ True) F1 F → W pZ l eZ ({ frames := 5, cells := 0, slots := 0, locals := 108 } : Room) sZ mZ [.ref m, .int d].toArray below meth cZ H locs 0 0 (MQ below (wQi D A (fun r1 L1 F1 => L1 = L ∧ ∃ y9 : Int32 × (Nat → Int32) × (Nat → Int32) × Int32 × Int32 × Int32 × Int32 × (Nat → Int32), y9 = (f_X6_crowd d m_po m_ba m_en m_tl m_ss_f m_ke_f m_so_f m_si_f m_el_f m_re_f m_nu_f) ∧ r1 = y9.1 ∧ F1 m = (eM m_ss m_im m_re m_sa m_ke m_so m_si m_el m_kd m_kt m_hi m_th y9.2.2.2.1 y9.2.2.2.2.1 y9.2.2.2.2.2.1 y9.2.2.2.2.2.2.1 m_nu m_ca m_ha m_hs m_co) ∧ F1 m_ss = (eI cI 55 y9.2.1) ∧ F1 m_re = (eI cI 55 y9.2.2.1) ∧ F1 m_nu = (eI cI 3 y9.2.2.2.2.2.2.2) ∧ wk (fun q : Nat => q ≠ m ∧ q ≠ m_ss ∧ q ≠ m_re ∧ q ≠ m_nu ∧ True) F1 F)) [.ref m, .int d].toArray sZ 0 0 A) (F0 mZ 71 ls []) := by
              intro n; induction n with
              | zero => intro k u_m_re_f F1 H locs ls _ hkT hmeas; exact absurd hmeas (Nat.not_lt_zero _)
              | succ n ih =>
                intro k u_m_re_f F1 H locs ls hi0 hkT hmeas hq hl w h_m h_m_ss h_m_ke h_m_so h_m_si h_m_el h_m_re h_m_nu hk
                have hk31 : k < 2147483648 := by omega
                have hq := hq.trans (f_X6_crowd_L71_s d m_ss_f m_si_f m_el_f v3 x39 n k u_m_re_f)
                refine lv_iload hx hb dX6_crowd_71 (lv_at hl 4 rfl) ?_
                refine lv_bipush (v := 55) hx hb dX6_crowd_73 (by decide) ?_
                refine lv_icmp_ge (tgt := 98) hx hb dX6_crowd_75 (by decide) (fun c7 => ?_) (fun c7 => ?_)
                · skip
                  have hq := hq.trans (if_pos c7)
                  have hk55 : 55 ≤ k := (nI_leI (a := 55) (by decide) hk31).mp c7
                  refine lv_aload_n hx hb dX6_crowd_98 rfl (lv_at hl 0 rfl) ?_
                  refine lv_iconst (v := 0) hx hb dX6_crowd_99 (by decide) ?_
                  have ho8 := h_m
                  refine w_put (fs2 := [.ref m_ss, .ref m_im, .ref m_re, .ref m_sa, .ref m_ke, .ref m_so, .ref m_si, .ref m_el, .ref m_kd, .ref m_kt, .int m_hi, .int m_th, .int 0, .int (100 * d), .int (m_si_f (d.toNatClampNeg)), .int x39.2.2.1, .ref m_nu, .ref m_ca, .ref m_ha, .int m_hs, .ref m_co]) hx hb hts i_X6 tyX6 tyX6_ok nmX6 hown hK w h_m rfl 12 (by decide) (hts _ m_4) rfl rfl rfl (Nat.le_of_ble_eq_true rfl) rfl dX6_crowd_100 (fun H locs w h_m => ?_)
                  have h_m_ss := h_m_ss.upw h_m (wi.ne h_m_ss ho8 (by intro h; cases h))
                  have h_m_ke := h_m_ke.upw h_m (wi.ne h_m_ke ho8 (by intro h; cases h))
                  have h_m_so := h_m_so.upw h_m (wi.ne h_m_so ho8 (by intro h; cases h))
                  have h_m_si := h_m_si.upw h_m (wi.ne h_m_si ho8 (by intro h; cases h))
                  have h_m_el := h_m_el.upw h_m (wi.ne h_m_el ho8 (by intro h; cases h))
                  have h_m_re := h_m_re.upw h_m (wi.ne h_m_re ho8 (by intro h; cases h))
                  have h_m_nu := h_m_nu.upw h_m (wi.ne h_m_nu ho8 (by intro h; cases h))
                  have hk := hk.upw h_m (fun q h => h.1)
                  have hL103 : ∀ (n k : Nat) (u_m_po : Int32) (u_m_tl : Int32) (u_m_nu_f : Nat → Int32) (u_m_re_f : Nat → Int32) (F1 : Nat → va_E) (H : Heap) (locs : List Loc) (ls : Array Slot), (0 ≤ u_m_po.toInt ∧ u_m_po.toInt ≤ 100) → (∃ i, CH (100 * d) (m_si_f (d.toNatClampNeg)) m_el_f i u_m_po) → (0 ≤ (u_m_re_f 5).toInt ∧ (u_m_re_f 5).toInt ≤ 12) → k ≤ 0 → (100 - u_m_po.toInt).toNat < n → f_X6_crowd d m_po m_ba m_en m_tl m_ss_f m_ke_f m_so_f m_si_f m_el_f m_re_f m_nu_f = f_X6_crowd_L103 d m_ss_f m_si_f m_el_f v3 n k u_m_po u_m_tl u_m_nu_f u_m_re_f → lv_has ls 7 [(0, .ref m), (1, .int d), (2, .int (f_X6_wrongRow d 0 m_ke_f m_so_f)), (3, .int (v3 + 1))] → ww D A sZ.heap L F1 H locs → (wi L F1 m (eM m_ss m_im m_re m_sa m_ke m_so m_si m_el m_kd m_kt m_hi m_th u_m_po (100 * d) (m_si_f (d.toNatClampNeg)) u_m_tl m_nu m_ca m_ha m_hs m_co)) → (wi L F1 m_ss (eI cI 55 m_ss_f)) → (wi L F1 m_ke (eI cI 8 m_ke_f)) → (wi L F1 m_so (eI cI 8 m_so_f)) → (wi L F1 m_si (eI cI 8 m_si_f)) → (wi L F1 m_el (eI cI 800 m_el_f)) → (wi L F1 m_re (eI cI 55 u_m_re_f)) → (wi L F1 m_nu (eI cI 3 u_m_nu_f)) → wk (fun q : Nat => q ≠ m ∧ q ≠ m_ss ∧ q ≠ m_re ∧ q ≠ m_nu ∧ True) F1 F → W pZ l eZ ({ frames := 5, cells := 0, slots := 0, locals := 108 } : Room) sZ mZ [.ref m, .int d].toArray below meth cZ H locs 0 0 (MQ below (wQi D A (fun r1 L1 F1 => L1 = L ∧ ∃ y9 : Int32 × (Nat → Int32) × (Nat → Int32) × Int32 × Int32 × Int32 × Int32 × (Nat → Int32), y9 = (f_X6_crowd d m_po m_ba m_en m_tl m_ss_f m_ke_f m_so_f m_si_f m_el_f m_re_f m_nu_f) ∧ r1 = y9.1 ∧ F1 m = (eM m_ss m_im m_re m_sa m_ke m_so m_si m_el m_kd m_kt m_hi m_th y9.2.2.2.1 y9.2.2.2.2.1 y9.2.2.2.2.2.1 y9.2.2.2.2.2.2.1 m_nu m_ca m_ha m_hs m_co) ∧ F1 m_ss = (eI cI 55 y9.2.1) ∧ F1 m_re = (eI cI 55 y9.2.2.1) ∧ F1 m_nu = (eI cI 3 y9.2.2.2.2.2.2.2) ∧ wk (fun q : Nat => q ≠ m ∧ q ≠ m_ss ∧ q ≠ m_re ∧ q ≠ m_nu ∧ True) F1 F)) [.ref m, .int d].toArray sZ 0 0 A) (F0 mZ 103 ls []) := by
                    intro n; induction n with
                    | zero => intro k u_m_po u_m_tl u_m_nu_f u_m_re_f F1 H locs ls _ _ _ hkT hmeas; exact absurd hmeas (Nat.not_lt_zero _)
                    | succ n ih =>
                      intro k u_m_po u_m_tl u_m_nu_f u_m_re_f F1 H locs ls hi0 hi1 hi2 hkT hmeas hq hl w h_m h_m_ss h_m_ke h_m_so h_m_si h_m_el h_m_re h_m_nu hk
                      have hk31 : k < 2147483648 := (by omega)
                      have hpu : 0 ≤ u_m_po.toInt := hi0.1
                      have hrm : 0 ≤ (u_m_re_f 5).toInt ∧ (u_m_re_f 5).toInt ≤ 12 := hi2
                      have hq := hq.trans (f_X6_crowd_L103_s d m_ss_f m_si_f m_el_f v3 n k u_m_po u_m_tl u_m_nu_f u_m_re_f)
                      refine lv_aload_n hx hb dX6_crowd_103 rfl (lv_at hl 0 rfl) ?_
                      refine w_get (v := .int u_m_po) hx hb hts i_X6 hown hK w h_m rfl 12 (by decide) (hts _ m_4) rfl dX6_crowd_104 ?_
                      refine lv_aload_n hx hb dX6_crowd_107 rfl (lv_at hl 0 rfl) ?_
                      refine w_get (v := .int (m_si_f (d.toNatClampNeg))) hx hb hts i_X6 hown hK w h_m rfl 14 (by decide) (hts _ m_3) rfl dX6_crowd_108 ?_
                      refine lv_icmp_ge (tgt := 151) hx hb dX6_crowd_111 (by decide) (fun c9 => ?_) (fun c9 => ?_)
                      · skip
                        have hq := hq.trans (if_pos c9)
                        refine lv_iconst (v := 0) hx hb dX6_crowd_151 (by decide) ?_
                        refine lv_istore (lv' := [(4, .int 0), (0, .ref m), (1, .int d), (2, .int (f_X6_wrongRow d 0 m_ke_f m_so_f)), (3, .int (v3 + 1))]) hx hb dX6_crowd_152 hl (by decide) rfl (fun ls hl => ?_)
                        have hL154 : ∀ (n k : Nat) (u_m_ss_f : Nat → Int32) (F1 : Nat → va_E) (H : Heap) (locs : List Loc) (ls : Array Slot), k ≤ 55 → 55 - k < n → f_X6_crowd d m_po m_ba m_en m_tl m_ss_f m_ke_f m_so_f m_si_f m_el_f m_re_f m_nu_f = f_X6_crowd_L154 d m_si_f v3 u_m_po u_m_tl u_m_nu_f u_m_re_f n k u_m_ss_f → lv_has ls 7 [(0, .ref m), (1, .int d), (2, .int (f_X6_wrongRow d 0 m_ke_f m_so_f)), (3, .int (v3 + 1)), (4, .int (nI k))] → ww D A sZ.heap L F1 H locs → (wi L F1 m (eM m_ss m_im m_re m_sa m_ke m_so m_si m_el m_kd m_kt m_hi m_th u_m_po (100 * d) (m_si_f (d.toNatClampNeg)) u_m_tl m_nu m_ca m_ha m_hs m_co)) → (wi L F1 m_ss (eI cI 55 u_m_ss_f)) → (wi L F1 m_ke (eI cI 8 m_ke_f)) → (wi L F1 m_so (eI cI 8 m_so_f)) → (wi L F1 m_si (eI cI 8 m_si_f)) → (wi L F1 m_el (eI cI 800 m_el_f)) → (wi L F1 m_re (eI cI 55 u_m_re_f)) → (wi L F1 m_nu (eI cI 3 u_m_nu_f)) → wk (fun q : Nat => q ≠ m ∧ q ≠ m_ss ∧ q ≠ m_re ∧ q ≠ m_nu ∧ True) F1 F → W pZ l eZ ({ frames := 5, cells := 0, slots := 0, locals := 108 } : Room) sZ mZ [.ref m, .int d].toArray below meth cZ H locs 0 0 (MQ below (wQi D A (fun r1 L1 F1 => L1 = L ∧ ∃ y9 : Int32 × (Nat → Int32) × (Nat → Int32) × Int32 × Int32 × Int32 × Int32 × (Nat → Int32), y9 = (f_X6_crowd d m_po m_ba m_en m_tl m_ss_f m_ke_f m_so_f m_si_f m_el_f m_re_f m_nu_f) ∧ r1 = y9.1 ∧ F1 m = (eM m_ss m_im m_re m_sa m_ke m_so m_si m_el m_kd m_kt m_hi m_th y9.2.2.2.1 y9.2.2.2.2.1 y9.2.2.2.2.2.1 y9.2.2.2.2.2.2.1 m_nu m_ca m_ha m_hs m_co) ∧ F1 m_ss = (eI cI 55 y9.2.1) ∧ F1 m_re = (eI cI 55 y9.2.2.1) ∧ F1 m_nu = (eI cI 3 y9.2.2.2.2.2.2.2) ∧ wk (fun q : Nat => q ≠ m ∧ q ≠ m_ss ∧ q ≠ m_re ∧ q ≠ m_nu ∧ True) F1 F)) [.ref m, .int d].toArray sZ 0 0 A) (F0 mZ 154 ls []) := by
                          intro n; induction n with
                          | zero => intro k u_m_ss_f F1 H locs ls hkT hmeas; exact absurd hmeas (Nat.not_lt_zero _)
                          | succ n ih =>
                            intro k u_m_ss_f F1 H locs ls hkT hmeas hq hl w h_m h_m_ss h_m_ke h_m_so h_m_si h_m_el h_m_re h_m_nu hk
                            have hk31 : k < 2147483648 := by omega
                            have hq := hq.trans (f_X6_crowd_L154_s d m_si_f v3 u_m_po u_m_tl u_m_nu_f u_m_re_f n k u_m_ss_f)
                            refine lv_iload hx hb dX6_crowd_154 (lv_at hl 4 rfl) ?_
                            refine lv_bipush (v := 55) hx hb dX6_crowd_156 (by decide) ?_
                            refine lv_icmp_ge (tgt := 181) hx hb dX6_crowd_158 (by decide) (fun c10 => ?_) (fun c10 => ?_)
                            · skip
                              have hq := hq.trans (if_pos c10)
                              refine lv_iload_n hx hb dX6_crowd_181 rfl (lv_at hl 3 rfl) ?_
                              exact w_iret hx hb hr hlocks w ⟨rfl, _, hq.symm, rfl, h_m.2, h_m_ss.2, h_m_re.2, h_m_nu.2, hk⟩ (Nat.le_refl _) (Nat.le_refl _) dX6_crowd_182
                            · skip
                              have hq := hq.trans (if_neg c10)
                              have hlt158 : k < 55 := w_ltk hk31 c10
                              refine lv_aload_n hx hb dX6_crowd_161 rfl (lv_at hl 0 rfl) ?_
                              refine w_get (v := .ref m_ss) hx hb hts i_X6 hown hK w h_m rfl 0 (by decide) (hts _ m_5) rfl dX6_crowd_162 ?_
                              refine lv_iload hx hb dX6_crowd_165 (lv_at hl 4 rfl) ?_
                              refine lv_aload_n hx hb dX6_crowd_167 rfl (lv_at hl 0 rfl) ?_
                              refine w_get (v := .ref m_re) hx hb hts i_X6 hown hK w h_m rfl 2 (by decide) (hts _ m_6) rfl dX6_crowd_168 ?_
                              refine lv_iload hx hb dX6_crowd_171 (lv_at hl 4 rfl) ?_
                              refine w_ild (j := k) hx hb hK w h_m_re (vp_in_nI (by omega) (by omega)) (nI_clamp (by omega)) dX6_crowd_173 ?_
                              have ho11 := h_m_ss
                              refine w_ist (j := k) hx hb hK w h_m_ss (vp_in_nI (by omega) (by omega)) (nI_clamp (by omega)) dX6_crowd_174 (fun H locs w h_m_ss => ?_)
                              have h_m := h_m.upw h_m_ss (wi.ne h_m ho11 (by intro h; cases h))
                              have h_m_ke := h_m_ke.upw h_m_ss ne_m_ke_m_ss
                              have h_m_so := h_m_so.upw h_m_ss ne_m_so_m_ss
                              have h_m_si := h_m_si.upw h_m_ss ne_m_si_m_ss
                              have h_m_el := h_m_el.upw h_m_ss ne_m_el_m_ss
                              have h_m_re := h_m_re.upw h_m_ss ne_m_re_m_ss
                              have h_m_nu := h_m_nu.upw h_m_ss ne_m_nu_m_ss
                              have hk := hk.upw h_m_ss (fun q h => h.2.1)
                              refine lv_iinc (v := (nI (k + 1))) (lv' := [(4, .int (nI (k + 1))), (0, .ref m), (1, .int d), (2, .int (f_X6_wrongRow d 0 m_ke_f m_so_f)), (3, .int (v3 + 1))]) hx hb dX6_crowd_175 hl (k := 4) rfl (w_inc _) (by decide) rfl (fun ls hl => ?_)
                              refine lv_goto (tgt := 154) hx hb dX6_crowd_178 (by decide) ?_
                              exact ih ((k + 1)) (upd u_m_ss_f k (u_m_re_f k)) _ _ _ _ (by omega) (by omega) hq (lv_sub hl [1, 2, 3, 4, 0] rfl) w h_m h_m_ss h_m_ke h_m_so h_m_si h_m_el h_m_re h_m_nu hk
                        exact hL154 (55 + 1) 0 m_ss_f _ _ _ _ (Nat.zero_le _) (by omega) hq (lv_sub hl [1, 2, 3, 4, 0] rfl) w h_m h_m_ss h_m_ke h_m_so h_m_si h_m_el h_m_re h_m_nu hk
                      · skip
                        have hq := hq.trans (if_neg c9)
                        have hl111 := Int32.not_le.mp c9
                        refine lv_aload_n hx hb dX6_crowd_114 rfl (lv_at hl 0 rfl) ?_
                        refine w_get (v := .int u_m_po) hx hb hts i_X6 hown hK w h_m rfl 12 (by decide) (hts _ m_4) rfl dX6_crowd_115 ?_
                        refine lv_istore (lv' := [(4, .int u_m_po), (0, .ref m), (1, .int d), (2, .int (f_X6_wrongRow d 0 m_ke_f m_so_f)), (3, .int (v3 + 1))]) hx hb dX6_crowd_118 hl (by decide) rfl (fun ls hl => ?_)
                        refine lv_aload_n hx hb dX6_crowd_120 rfl (lv_at hl 1 rfl) ?_
                        refine w_finI (w_runV (rm := ({ frames := 0, cells := 0, slots := 0, locals := 0 } : Room)) (As := []) (rest := []) (n := 0) hx hb hml hts hown hK w (c_X6_here l D cI cP cS cL L _ m m_ss m_im m_re m_sa m_ke m_so m_si m_el m_kd m_kt m_hi m_th u_m_po (100 * d) (m_si_f (d.toNatClampNeg)) u_m_tl m_nu m_ca m_ha m_hs m_co m_el_f h_m h_m_el hpu hba hen) gX6_crowd_X6_here rfl rfl rfl (by decide +kernel) ⟨(Nat.le_of_ble_eq_true rfl), (Nat.le_of_ble_eq_true rfl)⟩ h_m rfl rfl hl.1 rfl (Nat.le_of_ble_eq_true rfl) dX6_crowd_121 ⟨(Nat.le_of_ble_eq_true rfl), (Nat.le_of_ble_eq_true rfl)⟩) w hA (fun H locs w => ?_)
                        refine lv_istore (lv' := [(5, .int (f_X6_here u_m_po (100 * d) (m_si_f (d.toNatClampNeg)) m_el_f)), (4, .int u_m_po), (0, .ref m), (1, .int d), (2, .int (f_X6_wrongRow d 0 m_ke_f m_so_f)), (3, .int (v3 + 1))]) hx hb dX6_crowd_124 hl (by decide) rfl (fun ls hl => ?_)
                        refine lv_aload_n hx hb dX6_crowd_126 rfl (lv_at hl 2 rfl) ?_
                        refine w_finj (w_runV (rm := ({ frames := 4, cells := 0, slots := 0, locals := 87 } : Room)) (As := []) (rest := []) (n := 0) hx hb hml hts hown hK w (c_X6_readsStatement l D cI cP cS cL L _ m m_ss m_im m_re m_sa m_ke m_so m_si m_el m_kd m_kt m_hi m_th u_m_po (100 * d) (m_si_f (d.toNatClampNeg)) u_m_tl m_nu m_ca m_ha m_hs m_co m_el_f u_m_nu_f h_m h_m_el h_m_nu hpu hba hen ne_m_el_m_nu) gX6_crowd_X6_readsStatement rfl rfl rfl (by decide +kernel) ⟨(Nat.le_of_ble_eq_true rfl), (Nat.le_of_ble_eq_true rfl)⟩ h_m rfl rfl hl.1 rfl (Nat.le_of_ble_eq_true rfl) dX6_crowd_127 ⟨(Nat.le_of_ble_eq_true rfl), (Nat.le_of_ble_eq_true rfl)⟩) w hA (fun r9 F1 H locs hp w => ?_)
                        obtain ⟨x127, hx127, e127_0, e127_1, e127_2, hr9, hw0, hw1, hk9⟩ := hp
                        subst hr9
                        have hq := hq.trans (w_bnd hx127)
                        have h_m_ss := h_m_ss.keep hk9 ⟨(wi.ne h_m_ss h_m (by intro h; cases h)), ne_m_ss_m_nu, trivial⟩
                        have h_m_ke := h_m_ke.keep hk9 ⟨(wi.ne h_m_ke h_m (by intro h; cases h)), ne_m_ke_m_nu, trivial⟩
                        have h_m_so := h_m_so.keep hk9 ⟨(wi.ne h_m_so h_m (by intro h; cases h)), ne_m_so_m_nu, trivial⟩
                        have h_m_si := h_m_si.keep hk9 ⟨(wi.ne h_m_si h_m (by intro h; cases h)), ne_m_si_m_nu, trivial⟩
                        have h_m_el := h_m_el.keep hk9 ⟨(wi.ne h_m_el h_m (by intro h; cases h)), ne_m_el_m_nu, trivial⟩
                        have h_m_re := h_m_re.keep hk9 ⟨(wi.ne h_m_re h_m (by intro h; cases h)), ne_m_re_m_nu, trivial⟩
                        have h_m := h_m.new hw0
                        have h_m_nu := h_m_nu.new hw1
                        have hk := hk.call hk9 (fun q h => ⟨h.1, h.2.2.2.1, trivial⟩)
                        have ok127 : ¬ x127.1 = 0 ∧ (∃ i, CH (100 * d) (m_si_f (d.toNatClampNeg)) m_el_f i x127.2.1) ∧ x127.2.1.toInt ≤ 100 := ch_out hi0 hen2 hx127 hi1 hl111
                        have lt127 : u_m_po.toInt < x127.2.1.toInt := e127_1.resolve_left ok127.1
                        refine lv_istore (lv' := [(6, .int x127.1), (5, .int (f_X6_here u_m_po (100 * d) (m_si_f (d.toNatClampNeg)) m_el_f)), (4, .int u_m_po), (0, .ref m), (1, .int d), (2, .int (f_X6_wrongRow d 0 m_ke_f m_so_f)), (3, .int (v3 + 1))]) hx hb dX6_crowd_130 hl (by decide) rfl (fun ls hl => ?_)
                        refine lv_aload_n hx hb dX6_crowd_132 rfl (lv_at hl 3 rfl) ?_
                        refine lv_iload hx hb dX6_crowd_133 (lv_at hl 1 rfl) ?_
                        refine w_finj (w_runV (rm := ({ frames := 2, cells := 0, slots := 0, locals := 46 } : Room)) (As := [.int (f_X6_here u_m_po (100 * d) (m_si_f (d.toNatClampNeg)) m_el_f)]) (rest := []) (n := 1) hx hb hml hts hown hK w (c_X6_comes l D cI cP cS cL L _ m (f_X6_here u_m_po (100 * d) (m_si_f (d.toNatClampNeg)) m_el_f) m_ss m_im m_re m_sa m_ke m_so m_si m_el m_kd m_kt m_hi m_th x127.2.1 (100 * d) (m_si_f (d.toNatClampNeg)) x127.2.2.1 m_nu m_ca m_ha m_hs m_co u_m_re_f x127.2.2.2 h_m h_m_re h_m_nu hrm ne_m_nu_m_re) gX6_crowd_X6_comes rfl rfl rfl (by decide +kernel) ⟨(Nat.le_of_ble_eq_true rfl), (Nat.le_of_ble_eq_true rfl)⟩ h_m rfl rfl hl.1 rfl (Nat.le_of_ble_eq_true rfl) dX6_crowd_135 ⟨(Nat.le_of_ble_eq_true rfl), (Nat.le_of_ble_eq_true rfl)⟩) w hA (fun r9 F1 H locs hp w => ?_)
                        obtain ⟨x135, hx135, e135_0, hr9, hw0, hk9⟩ := hp
                        subst hr9
                        have hq := hq.trans (w_bnd hx135)
                        have h_m := h_m.keep hk9 ⟨(wi.ne h_m h_m_re (by intro h; cases h)), trivial⟩
                        have h_m_ss := h_m_ss.keep hk9 ⟨ne_m_ss_m_re, trivial⟩
                        have h_m_ke := h_m_ke.keep hk9 ⟨ne_m_ke_m_re, trivial⟩
                        have h_m_so := h_m_so.keep hk9 ⟨ne_m_so_m_re, trivial⟩
                        have h_m_si := h_m_si.keep hk9 ⟨ne_m_si_m_re, trivial⟩
                        have h_m_el := h_m_el.keep hk9 ⟨ne_m_el_m_re, trivial⟩
                        have h_m_nu := h_m_nu.keep hk9 ⟨ne_m_nu_m_re, trivial⟩
                        have h_m_re := h_m_re.new hw0
                        have hk := hk.call hk9 (fun q h => ⟨h.2.2.1, trivial⟩)
                        refine lv_if_ne (tgt := 148) hx hb dX6_crowd_138 (by decide) (fun c12 => ?_) (fun c12 => ?_)
                        · skip
                          have hq := hq.trans (if_neg c12)
                          refine lv_goto (tgt := 103) hx hb dX6_crowd_148 (by decide) ?_
                          exact ih 0 x127.2.1 x127.2.2.1 x127.2.2.2 x135.2 _ _ _ _ ⟨e127_0, ok127.2.2⟩ ok127.2.1 e135_0 (Nat.le_refl _) (by omega) hq (lv_sub hl [3, 4, 5, 6] rfl) w h_m h_m_ss h_m_ke h_m_so h_m_si h_m_el h_m_re h_m_nu hk
                        · skip
                          have hq := hq.trans (if_pos c12)
                          refine lv_sipush (v := (-2000)) hx hb dX6_crowd_141 (by decide) ?_
                          refine lv_iload hx hb dX6_crowd_144 (lv_at hl 2 rfl) ?_
                          refine lv_isub hx hb dX6_crowd_146 ?_
                          exact w_iret hx hb hr hlocks w ⟨rfl, _, hq.symm, rfl, h_m.2, h_m_ss.2, h_m_re.2, h_m_nu.2, hk⟩ (Nat.le_refl _) (Nat.le_refl _) dX6_crowd_147
                  exact hL103 101 0 0 x39.2.2.1 x39.2.2.2 u_m_re_f _ _ _ _ (by decide) hch (by rw [hi0 5 (by omega)]; exact h5) (Nat.zero_le _) (by decide) hq (lv_sub hl [0, 1, 2, 3] rfl) w h_m h_m_ss h_m_ke h_m_so h_m_si h_m_el h_m_re h_m_nu hk
                · skip
                  have hq := hq.trans (if_neg c7)
                  have hlt75 : k < 55 := w_ltk hk31 c7
                  refine lv_aload_n hx hb dX6_crowd_78 rfl (lv_at hl 0 rfl) ?_
                  refine w_get (v := .ref m_re) hx hb hts i_X6 hown hK w h_m rfl 2 (by decide) (hts _ m_6) rfl dX6_crowd_79 ?_
                  refine lv_iload hx hb dX6_crowd_82 (lv_at hl 4 rfl) ?_
                  refine lv_aload_n hx hb dX6_crowd_84 rfl (lv_at hl 0 rfl) ?_
                  refine w_get (v := .ref m_ss) hx hb hts i_X6 hown hK w h_m rfl 0 (by decide) (hts _ m_5) rfl dX6_crowd_85 ?_
                  refine lv_iload hx hb dX6_crowd_88 (lv_at hl 4 rfl) ?_
                  refine w_ild (j := k) hx hb hK w h_m_ss (vp_in_nI (by omega) (by omega)) (nI_clamp (by omega)) dX6_crowd_90 ?_
                  have ho13 := h_m_re
                  refine w_ist (j := k) hx hb hK w h_m_re (vp_in_nI (by omega) (by omega)) (nI_clamp (by omega)) dX6_crowd_91 (fun H locs w h_m_re => ?_)
                  have h_m := h_m.upw h_m_re (wi.ne h_m ho13 (by intro h; cases h))
                  have h_m_ss := h_m_ss.upw h_m_re ne_m_ss_m_re
                  have h_m_ke := h_m_ke.upw h_m_re ne_m_ke_m_re
                  have h_m_so := h_m_so.upw h_m_re ne_m_so_m_re
                  have h_m_si := h_m_si.upw h_m_re ne_m_si_m_re
                  have h_m_el := h_m_el.upw h_m_re ne_m_el_m_re
                  have h_m_nu := h_m_nu.upw h_m_re ne_m_nu_m_re
                  have hk := hk.upw h_m_re (fun q h => h.2.2.1)
                  refine lv_iinc (v := (nI (k + 1))) (lv' := [(4, .int (nI (k + 1))), (0, .ref m), (1, .int d), (2, .int (f_X6_wrongRow d 0 m_ke_f m_so_f)), (3, .int (v3 + 1))]) hx hb dX6_crowd_92 hl (k := 4) rfl (w_inc _) (by decide) rfl (fun ls hl => ?_)
                  refine lv_goto (tgt := 71) hx hb dX6_crowd_95 (by decide) ?_
                  exact ih ((k + 1)) (upd u_m_re_f k (m_ss_f k)) _ _ _ _ (fun i h => by by_cases q : i = k; (subst q; exact if_pos rfl); exact (if_neg q).trans (hi0 i (by omega))) (by omega) (by omega) hq (lv_sub hl [1, 2, 3, 4, 0] rfl) w h_m h_m_ss h_m_ke h_m_so h_m_si h_m_el h_m_re h_m_nu hk
            exact hL71 (55 + 1) 0 m_re_f _ _ _ _ (fun i h => absurd h (Nat.not_lt_zero _)) (Nat.zero_le _) (by omega) hq (lv_sub hl [2, 3, 4, 1, 0] rfl) w h_m h_m_ss h_m_ke h_m_so h_m_si h_m_el h_m_re h_m_nu hk
        · skip
          have hq := hq.trans (if_pos c5)
          refine lv_sipush (v := (-1000)) hx hb dX6_crowd_45 (by decide) ?_
          refine lv_aload_n hx hb dX6_crowd_48 rfl (lv_at hl 0 rfl) ?_
          refine w_get (v := .int x39.2.1) hx hb hts i_X6 hown hK w h_m rfl 12 (by decide) (hts _ m_4) rfl dX6_crowd_49 ?_
          refine lv_isub hx hb dX6_crowd_52 ?_
          exact w_iret hx hb hr hlocks w ⟨rfl, _, hq.symm, rfl, h_m.2, h_m_ss.2, h_m_re.2, h_m_nu.2, hk⟩ (Nat.le_refl _) (Nat.le_refl _) dX6_crowd_53
    exact hL38 101 0 0 0 m_tl m_nu_f _ _ _ _ (by decide) (fun j h => ⟨j, h⟩) (Nat.zero_le _) (by decide) hq (lv_sub hl [2, 3, 1, 0] rfl) w h_m h_m_ss h_m_ke h_m_so h_m_si h_m_el h_m_re h_m_nu hk
  · skip
    have hq := hq.trans (if_neg c1)
    refine lv_iload_n hx hb dX6_crowd_11 rfl (lv_at hl 0 rfl) ?_
    exact w_iret hx hb hr hlocks w ⟨rfl, _, hq.symm, rfl, h_m.2, h_m_ss.2, h_m_re.2, h_m_nu.2, hk⟩ (Nat.le_refl _) (Nat.le_refl _) dX6_crowd_12
