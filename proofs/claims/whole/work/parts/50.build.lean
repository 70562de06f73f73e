/-! build -/
theorem lnZ_0 {n r : Nat} : lnZ n (fun _ => ((0 : Nat) : Int)) r = 0 := by
  unfold lnZ
  have : ∀ k, smZ k (fun c => ((0 : Nat) : Int) * armZ n ((c + r) % n)) = 0 := by
    intro k
    induction k with
    | zero => rfl
    | succ k ih =>
      simp only [smZ]
      rw [ih]
      simp
  exact this n
theorem arm60_all : ∀ n ∈ [6, 10, 12, 20, 30], ∀ p, p < n → wh_armAtSixtieth (nI p * nI (60 / n)) (fun _ _ => 0) = some (iI (armZ n p)) := by decide +kernel
section
variable {M : e_Me} {n : Nat}
theorem arm60_ok {p : Nat} (hk : okn n) (hp : p < n) : wh_armAtSixtieth (nI p * nI (60 / n)) M = some (iI (armZ n p)) := by
  have e : wh_armAtSixtieth (nI p * nI (60 / n)) M = wh_armAtSixtieth (nI p * nI (60 / n)) (fun _ _ => 0) := rfl
  rw [e]
  exact arm60_all n (okn_in hk) p hp
theorem apart_ok (hk : okn n) : wh_sixtiethsApart (nI n) M = some (nI (60 / n)) := by
  rcases hk with rfl | rfl | rfl | rfl | rfl <;> rfl
theorem apart_no {x : Int32} (h : ¬ (x = 6 ∨ x = 10 ∨ x = 12 ∨ x = 20 ∨ x = 30)) : wh_sixtiethsApart x M = some 0 := by
  unfold wh_sixtiethsApart
  rw [if_neg (fun e => h (by simp [e])), if_neg (fun e => h (by simp [e])), if_neg (fun e => h (by simp [e])), if_neg (fun e => h (by simp [e])), if_neg (fun e => h (by simp [e]))]
theorem lay_ok (hk : okn n) : ∀ (d p F : Nat) (M1 : e_Me), p + d = n → d < F → (∀ q, q < p → M1 4 q = iI (armZ n q)) → ∃ M', wh_lay_l38 (nI n) (nI (60 / n)) F (nI p) M1 = some M' ∧ (∀ q, q < n → M' 4 q = iI (armZ n q)) ∧ ∀ a b, a ≠ 4 → M' a b = M1 a b := by
  have hb := okn_b hk
  intro d
  induction d with
  | zero =>
    intro p F M1 g1 g2 g3
    obtain ⟨F, rfl⟩ : ∃ F', F = F' + 1 := ⟨F - 1, by omega⟩
    have e : p = n := by omega
    subst e
    exact ⟨M1, by simp (disch := omega) only [x_bd_s, x_bi_s, x_lt_e, x_rd_n, x_wr_n, x_ra_n, x_dv_n, s_lt, s_le, s_eq, s_lt0, s_le0, s_0lt, s_0le, s_eq0, s_sub, s_rem, s_div, s_in, bI_0, bI_1, x_gb_b, x_gb_0, x_gb_1, nI_add, nI_1, s_size, s_abs, s_max, iI_mul, iI_add, iI_neg, Nat.le_refl, Nat.lt_irrefl, if_true, if_false, ite_true, ite_false, not_true, not_false_eq_true, wh_lay_l38], g3, fun a b _ => rfl⟩
  | succ d ih =>
    intro p F M1 g1 g2 g3
    obtain ⟨F, rfl⟩ : ∃ F', F = F' + 1 := ⟨F - 1, by omega⟩
    have c1 : ¬ n ≤ p := by omega
    obtain ⟨M', k1, k2, k3⟩ := ih (p + 1) F (e_up M1 4 p (iI (armZ n p))) (by omega) (by omega) (fun q hq => by
      by_cases e : q = p
      · subst e
        rw [e_up_e]
      · rw [e_up_o (by omega), g3 q (by omega)])
    refine ⟨M', ?_, k2, fun a b hab => by rw [k3 a b hab, e_up_o (by omega)]⟩
    simp only [wh_lay_l38, s_le (show n < 2147483648 by omega) (show p < 2147483648 by omega), c1, if_false, arm60_ok hk (show p < n by omega), x_bd_s]
    simp (disch := omega) only [x_bd_s, x_bi_s, x_lt_e, x_rd_n, x_wr_n, x_ra_n, x_dv_n, s_lt, s_le, s_eq, s_lt0, s_le0, s_0lt, s_0le, s_eq0, s_sub, s_rem, s_div, s_in, bI_0, bI_1, x_gb_b, x_gb_0, x_gb_1, nI_add, nI_1, s_size, s_abs, s_max, iI_mul, iI_add, iI_neg, Nat.le_refl, Nat.lt_irrefl, if_true, if_false, ite_true, ite_false, not_true, not_false_eq_true, ]
    exact k1
theorem wh_lay_ok (hk : okn n) : ∃ M', wh_lay (nI n) M = some M' ∧ cW M' n 0 (fun _ => 0) ∧ ∀ a b, ¬ (3 ≤ a ∧ a ≤ 6) → M' a b = M a b := by
  have hb := okn_b hk
  obtain ⟨A, a1, a2, a3⟩ := ar_fill_ok (M := e_up (e_up M 3 3 (nI n)) 3 4 0) (x := 0) arl_30.1 (by omega)
  obtain ⟨B, b1, b2, b3⟩ := ar_fill_ok (M := A) (x := 0) arl_30.2.1 (by omega)
  obtain ⟨C, c1, c2, c3⟩ := lay_ok hk n 0 e_F B (by omega) (by have := e_Fge; omega) (fun q hq => by omega)
  rw [nI_0] at c1
  refine ⟨C, ?_, ⟨hk, by omega, ?_, ?_, c2, fun c hc => ?_, fun r hr => ?_, fun c _ => Nat.zero_le _⟩, fun a b hab => ?_⟩
  · have e0 : (nI (60 / n) = 0) = False := by
      rw [s_eq0 (by have := Nat.div_le_self 60 n; omega)]
      exact eq_false (by rcases hk with rfl | rfl | rfl | rfl | rfl <;> decide)
    simp only [wh_lay, apart_ok hk, x_bd_s, e0, if_false, x_lt_e, a1, b1, c1]
  · rw [c3 _ _ (by omega), b3 _ _ (by omega), a3 _ _ (by omega), e_up_o (by omega), e_up_e]
  · rw [c3 _ _ (by omega), b3 _ _ (by omega), a3 _ _ (by omega), e_up_e]
    rfl
  · rw [c3 _ _ (by omega), b3 _ _ (by omega), a2 c hc]
    rfl
  · rw [c3 _ _ (by omega), b2 r (by omega), lnZ_0]
    rfl
  · rw [c3 _ _ (by omega), b3 _ _ (by omega), a3 _ _ (by omega), e_up_o (by omega), e_up_o (by omega)]
theorem ri_clear_ok : ∀ (d c F : Nat) (M1 : e_Me), c + d = 30 → d < F → (∀ q, q < c → M1 (27 + 2 * q) 1 = 0) → ∃ M', ri_startAnew_l16 F (nI c) M1 = some M' ∧ (∀ q, q < 30 → M' (27 + 2 * q) 1 = 0) ∧ ∀ a b, ¬ (27 ≤ a ∧ a ≤ 86) → M' a b = M1 a b := by
  intro d
  induction d with
  | zero =>
    intro c F M1 g1 g2 g3
    obtain ⟨F, rfl⟩ : ∃ F', F = F' + 1 := ⟨F - 1, by omega⟩
    have e : c = 30 := by omega
    subst e
    exact ⟨M1, by simp (disch := omega) only [x_bd_s, x_bi_s, x_lt_e, x_rd_n, x_wr_n, x_ra_n, x_dv_n, s_lt, s_le, s_eq, s_lt0, s_le0, s_0lt, s_0le, s_eq0, s_sub, s_rem, s_div, s_in, bI_0, bI_1, x_gb_b, x_gb_0, x_gb_1, nI_add, nI_1, s_size, s_abs, s_max, iI_mul, iI_add, iI_neg, Nat.le_refl, Nat.lt_irrefl, if_true, if_false, ite_true, ite_false, not_true, not_false_eq_true, ri_startAnew_l16], g3, fun a b _ => rfl⟩
  | succ d ih =>
    intro c F M1 g1 g2 g3
    obtain ⟨F, rfl⟩ : ∃ F', F = F' + 1 := ⟨F - 1, by omega⟩
    have c1 : ¬ 30 ≤ c := by omega
    obtain ⟨M', k1, k2, k3⟩ := ih (c + 1) F (e_up M1 (27 + 2 * c) 1 0) (by omega) (by omega) (fun q hq => by
      by_cases e : q = c
      · subst e
        rw [e_up_e]
      · rw [e_up_o (by omega), g3 q (by omega)])
    refine ⟨M', ?_, k2, fun a b hab => by rw [k3 a b hab, e_up_o (by omega)]⟩
    simp (disch := omega) only [x_bd_s, x_bi_s, x_lt_e, x_rd_n, x_wr_n, x_ra_n, x_dv_n, s_lt, s_le, s_eq, s_lt0, s_le0, s_0lt, s_0le, s_eq0, s_sub, s_rem, s_div, s_in, bI_0, bI_1, x_gb_b, x_gb_0, x_gb_1, nI_add, nI_1, s_size, s_abs, s_max, iI_mul, iI_add, iI_neg, Nat.le_refl, Nat.lt_irrefl, if_true, if_false, ite_true, ite_false, not_true, not_false_eq_true, ri_startAnew_l16, c1, cap_cab c (show c < 30 by omega), ro_clear_ok (cap_cab c (show c < 30 by omega))]
    exact k1
theorem md_begin_ok : ∀ (d c F : Nat) (M1 : e_Me), c + d = 30 → d < F → (∀ q, q < c → M1 184 q = 0 ∧ M1 185 q = 0 ∧ M1 201 q = 0 ∧ M1 202 q = 900) → ∃ M', md_begin_l42 F (nI c) M1 = some M' ∧ (∀ q, q < 30 → M' 184 q = 0 ∧ M' 185 q = 0 ∧ M' 201 q = 0 ∧ M' 202 q = 900) ∧ ∀ a b, ¬ (a = 184 ∨ a = 185 ∨ a = 201 ∨ a = 202) → M' a b = M1 a b := by
  intro d
  induction d with
  | zero =>
    intro c F M1 g1 g2 g3
    obtain ⟨F, rfl⟩ : ∃ F', F = F' + 1 := ⟨F - 1, by omega⟩
    have e : c = 30 := by omega
    subst e
    exact ⟨M1, by simp (disch := omega) only [x_bd_s, x_bi_s, x_lt_e, x_rd_n, x_wr_n, x_ra_n, x_dv_n, s_lt, s_le, s_eq, s_lt0, s_le0, s_0lt, s_0le, s_eq0, s_sub, s_rem, s_div, s_in, bI_0, bI_1, x_gb_b, x_gb_0, x_gb_1, nI_add, nI_1, s_size, s_abs, s_max, iI_mul, iI_add, iI_neg, Nat.le_refl, Nat.lt_irrefl, if_true, if_false, ite_true, ite_false, not_true, not_false_eq_true, md_begin_l42, show (30 : Int32) = nI 30 from rfl], g3, fun a b _ => rfl⟩
  | succ d ih =>
    intro c F M1 g1 g2 g3
    obtain ⟨F, rfl⟩ : ∃ F', F = F' + 1 := ⟨F - 1, by omega⟩
    have c1 : ¬ 30 ≤ c := by omega
    obtain ⟨M', k1, k2, k3⟩ := ih (c + 1) F (e_up (e_up (e_up (e_up M1 184 c 0) 185 c 0) 201 c 0) 202 c 900) (by omega) (by omega) (fun q hq => by
      by_cases e : q = c
      · subst e
        simp (disch := omega) only [e_up_o, e_up_e]
        exact ⟨trivial, trivial, trivial, trivial⟩
      · simp (disch := omega) only [e_up_o]
        exact g3 q (by omega))
    refine ⟨M', ?_, k2, fun a b hab => by rw [k3 a b hab]; simp (disch := omega) only [e_up_o]⟩
    simp (disch := omega) only [x_bd_s, x_bi_s, x_lt_e, x_rd_n, x_wr_n, x_ra_n, x_dv_n, s_lt, s_le, s_eq, s_lt0, s_le0, s_0lt, s_0le, s_eq0, s_sub, s_rem, s_div, s_in, bI_0, bI_1, x_gb_b, x_gb_0, x_gb_1, nI_add, nI_1, s_size, s_abs, s_max, iI_mul, iI_add, iI_neg, Nat.le_refl, Nat.lt_irrefl, if_true, if_false, ite_true, ite_false, not_true, not_false_eq_true, md_begin_l42, show (30 : Int32) = nI 30 from rfl, c1]
    exact k1
theorem l_build (h : Inv M) (x : Int32) : ∃ r M1 M2, ew_build x M = some (r, M1) ∧ md_build x M1 = some (r, M2) ∧ Inv M2 := by
  by_cases hx : x = 6 ∨ x = 10 ∨ x = 12 ∨ x = 20 ∨ x = 30
  · have hex : ∃ n, okn n ∧ x = nI n := by
      rcases hx with rfl | rfl | rfl | rfl | rfl
      · exact ⟨6, by unfold okn; omega, rfl⟩
      · exact ⟨10, by unfold okn; omega, rfl⟩
      · exact ⟨12, by unfold okn; omega, rfl⟩
      · exact ⟨20, by unfold okn; omega, rfl⟩
      · exact ⟨30, by unfold okn; omega, rfl⟩
    obtain ⟨n, hk, rfl⟩ := hex
    have hb := okn_b hk
    obtain ⟨-, -, -, -, ⟨w, s, d, g1, g2, g3, g4, g5, g6, g7, g8⟩, ⟨b, h0, c, p, hU⟩, -, -, -, ⟨k9, hO⟩, -⟩ := id h
    obtain ⟨A, a1, a2, a3⟩ := wh_lay_ok (M := M) hk
    generalize hB : e_up (e_up A 7 2 0) 7 3 0 = B
    generalize hC : e_up (e_up (e_up (e_up (e_up (e_up (e_up B 10 1 0) 12 1 0) 14 1 0) 16 1 0) 18 1 0) 20 1 0) 22 1 0 = C
    obtain ⟨D, d1, d2, d3⟩ := ri_clear_ok 30 0 e_F C (by omega) (by have := e_Fge; omega) (fun q hq => by omega)
    rw [nI_0] at d1
    generalize hE : e_up (e_up D 167 1 0) 169 1 0 = E
    generalize hG : e_up (e_up (e_up E 176 1 0) 178 1 0) 180 1 0 = G
    obtain ⟨I, i1, i2, i3⟩ := ar_fill_ok (M := G) (x := 0) arl_30.2.2.1 (by omega)
    obtain ⟨J, j1, j2, j3⟩ := ar_fill_ok (M := I) (x := 900) arl_30.2.2.2 (by omega)
    have e0 : (nI (60 / n) = 0) = False := by
      rw [s_eq0 (by have := Nat.div_le_self 60 n; omega)]
      exact eq_false (by rcases hk with rfl | rfl | rfl | rfl | rfl <;> decide)
    have hx1 : ew_build (nI n) M = some (nI n, J) := by
      have q1 : rg_startAnew A = some B := by
        rw [← hB]
        simp only [rg_startAnew, x_lt_e]
      have q2 : ri_startAnew B = some D := by
        simp only [ri_startAnew, pa_startAnew, ro_clear_ok cap_200.1, ro_clear_ok cap_200.2.1, ro_clear_ok cap_200.2.2.1, ro_clear_ok cap_200.2.2.2.1, ro_clear_ok cap_200.2.2.2.2.1, ro_clear_ok cap_200.2.2.2.2.2, ro_clear_ok cap_22, x_bd_s]
        rw [hC]
        exact d1
      have q3 : no_startAnew D = some (D 167 1, E) := by
        rw [← hE]
        simp only [no_startAnew, ro_count_ok cap_40.1, ro_clear_ok cap_40.1, ro_clear_ok cap_40.2, x_bd_s]
      have q4 : re_startAnew E = some J := by
        simp only [re_startAnew, re_dropAll, ro_count_ok cap_12.1, ro_clear_ok cap_12.1, ro_clear_ok cap_12.2.1, ro_clear_ok cap_12.2.2, x_bd_s, x_bi_s]
        rw [hG]
        simp only [i1, j1, x_bd_s]
      simp only [ew_build, apart_ok hk, x_bd_s, e0, if_false, a1, q1, q2, q3, x_bi_s, q4]
    -- what stays, what is new
    have fJ : ∀ a b, ¬ ((3 ≤ a ∧ a ≤ 6) ∨ (a = 7 ∧ (b = 2 ∨ b = 3)) ∨ ((10 ≤ a ∧ a ≤ 22) ∧ b = 1) ∨ (27 ≤ a ∧ a ≤ 86) ∨ ((a = 167 ∨ a = 169 ∨ a = 176 ∨ a = 178 ∨ a = 180) ∧ b = 1) ∨ a = 172 ∨ a = 173) → J a b = M a b := fun a b hab => by
      rw [j3 _ _ (by omega), i3 _ _ (by omega), ← hG]
      simp (disch := omega) only [e_up_o]
      rw [← hE]
      simp (disch := omega) only [e_up_o]
      rw [d3 _ _ (by omega), ← hC]
      simp (disch := omega) only [e_up_o]
      rw [← hB]
      simp (disch := omega) only [e_up_o]
      exact a3 _ _ (by omega)
    have fJD : ∀ a b, ¬ ((a = 167 ∨ a = 169 ∨ a = 176 ∨ a = 178 ∨ a = 180) ∧ b = 1) → a ≠ 172 → a ≠ 173 → J a b = D a b := fun a b hab y1 y2 => by
      rw [j3 _ _ y2, i3 _ _ y1, ← hG]
      simp (disch := omega) only [e_up_o]
      rw [← hE]
      simp (disch := omega) only [e_up_o]
    have fJC : ∀ a b, ¬ ((a = 167 ∨ a = 169 ∨ a = 176 ∨ a = 178 ∨ a = 180) ∧ b = 1) → a ≠ 172 → a ≠ 173 → ¬ (27 ≤ a ∧ a ≤ 86) → J a b = C a b := fun a b hab y1 y2 y3 => by
      rw [fJD a b hab y1 y2, d3 _ _ y3]
    have fJA : ∀ a b, a < 7 → J a b = A a b := fun a b hab => by
      rw [fJC _ _ (by omega) (by omega) (by omega) (by omega), ← hC]
      simp (disch := omega) only [e_up_o]
      rw [← hB]
      simp (disch := omega) only [e_up_o]
    -- the reference
    generalize hK : e_up (e_up (e_up (e_up (e_up (e_up (e_up (e_up J 182 0 (nI n)) 182 1 0) 182 2 0) 182 3 0) 182 12 0) 182 19 0) 182 31 0) 182 38 0 = K
    obtain ⟨L, l1, l2, l3⟩ := md_begin_ok 30 0 e_F K (by omega) (by have := e_Fge; omega) (fun q hq => by omega)
    rw [nI_0] at l1
    have y33 : md_build_b33 (nI n) J = some (nI n, L) := by
      have e1 : md_begin (nI n) J = some L := by
        simp only [md_begin, x_lt_e]
        rw [hK]
        exact l1
      have e2 : L 182 0 = nI n := by
        rw [l3 _ _ (by omega), ← hK]
        simp (disch := omega) only [e_up_o, e_up_e]
      simp only [md_build_b33, e1, x_bd_s, e2]
    have hx2 : md_build (nI n) J = some (nI n, L) := by
      unfold md_build
      rw [y33]
      rcases hk with rfl | rfl | rfl | rfl | rfl <;> rfl
    have fK : ∀ a b, ¬ (a = 182 ∧ (b ≤ 3 ∨ b = 12 ∨ b = 19 ∨ b = 31 ∨ b = 38)) → K a b = J a b := fun a b hab => by
      rw [← hK]
      simp (disch := omega) only [e_up_o]
    have fL : ∀ a b, ¬ (a = 182 ∧ (b ≤ 3 ∨ b = 12 ∨ b = 19 ∨ b = 31 ∨ b = 38)) → ¬ (a = 184 ∨ a = 185 ∨ a = 201 ∨ a = 202) → L a b = J a b := fun a b hab y => by rw [l3 _ _ y, fK _ _ hab]
    have z182 : L 182 0 = nI n ∧ L 182 1 = 0 ∧ L 182 2 = 0 ∧ L 182 3 = 0 ∧ L 182 12 = 0 ∧ L 182 19 = 0 ∧ L 182 31 = 0 ∧ L 182 38 = 0 := by
      rw [l3 _ _ (by omega), l3 _ _ (by omega), l3 _ _ (by omega), l3 _ _ (by omega), l3 _ _ (by omega), l3 _ _ (by omega), l3 _ _ (by omega), l3 _ _ (by omega), ← hK]
      simp (disch := omega) only [e_up_o, e_up_e]
      exact ⟨trivial, trivial, trivial, trivial, trivial, trivial, trivial, trivial⟩
    obtain ⟨z0, z1, z2, z3, z12, z19, z31, z38⟩ := z182
    have size0 : L 10 1 = 0 ∧ L 12 1 = 0 ∧ L 14 1 = 0 ∧ L 16 1 = 0 ∧ L 18 1 = 0 ∧ L 20 1 = 0 ∧ L 22 1 = 0 := by
      rw [fL _ _ (by omega) (by omega), fL _ _ (by omega) (by omega), fL _ _ (by omega) (by omega), fL _ _ (by omega) (by omega), fL _ _ (by omega) (by omega), fL _ _ (by omega) (by omega), fL _ _ (by omega) (by omega), fJC _ _ (by omega) (by omega) (by omega) (by omega), fJC _ _ (by omega) (by omega) (by omega) (by omega), fJC _ _ (by omega) (by omega) (by omega) (by omega), fJC _ _ (by omega) (by omega) (by omega) (by omega), fJC _ _ (by omega) (by omega) (by omega) (by omega), fJC _ _ (by omega) (by omega) (by omega) (by omega), fJC _ _ (by omega) (by omega) (by omega) (by omega), ← hC]
      simp (disch := omega) only [e_up_o, e_up_e]
      exact ⟨trivial, trivial, trivial, trivial, trivial, trivial, trivial⟩
    obtain ⟨s1, s2, s3, s4, s5, s6, s7⟩ := size0
    refine ⟨nI n, J, L, hx1, hx2, n, 0, fun _ => 0, ⟨cW_frame a2 ?_ ?_ ?_ ?_, z0, z1, fun c hc => (l2 c hc).2.1⟩, ⟨0, 0, d, ?_, ?_, ?_, z2, z3, ?_, g7, by omega⟩, ⟨b, h0, c, p, bU_same (fun i j hk => ?_) hU⟩, ⟨0, fun _ => 0, fun _ => 0, by omega, ?_, ?_, z31, fun i hi => by omega⟩, ⟨0, fun _ => 0, fun _ => 0, fun _ => 0, by omega, ?_, ?_, ?_, z38, fun i hi => by omega⟩, ⟨fun _ => 0, fun _ => 900, fun c hc => ⟨?_, ?_, (l2 c hc).2.2.1, (l2 c hc).2.2.2, Nat.zero_le _, Nat.le_refl _⟩⟩, ⟨k9, bO_same (fun i j hk => ?_) hO⟩, 0, fun _ => 0, fun _ => 0, fun _ => 0, fun _ => 0, fun _ => 0, fun _ => 0, 0, fun _ => 0, fun _ => 0, fun _ _ => 0, ⟨⟨s1, s2, s3, s4, s5, s6⟩, fun p hp => by omega, s7, fun k hk => by omega, fun c hc => ?_, fun c hc i hi => absurd hi (Nat.not_lt_zero _)⟩, ⟨z12, fun p hp => by omega, z19, fun k hk => by omega, fun c hc => (l2 c hc).1, fun c hc i hi => absurd hi (Nat.not_lt_zero _)⟩, by omega, by omega, fun p hp => by omega, fun p hp => by omega, fun p q hp => by omega, fun c hc i hi => absurd hi (Nat.not_lt_zero _), fun c hc i j hi => absurd hi (Nat.not_lt_zero _), fun p hp => by omega, fun c hc => ⟨rfl, by show 0 ≤ 6; omega⟩, fun c hc hc2 => rfl⟩
    · funext j; rw [fL _ _ (by omega) (by omega), fJA _ _ (by omega)]
    · funext j; rw [fL _ _ (by omega) (by omega), fJA _ _ (by omega)]
    · funext j; rw [fL _ _ (by omega) (by omega), fJA _ _ (by omega)]
    · funext j; rw [fL _ _ (by omega) (by omega), fJA _ _ (by omega)]
    · rw [fL _ _ (by omega) (by omega), fJC _ _ (by omega) (by omega) (by omega) (by omega), ← hC]
      simp (disch := omega) only [e_up_o]
      rw [← hB, e_up_o (by omega), e_up_e]
      rfl
    · rw [fL _ _ (by omega) (by omega), fJC _ _ (by omega) (by omega) (by omega) (by omega), ← hC]
      simp (disch := omega) only [e_up_o]
      rw [← hB, e_up_e]
    · rw [fL _ _ (by omega) (by omega), fJ _ _ (by omega), g3]
    · rw [fL _ _ (by omega) (by omega), fJ _ _ (by omega), g6]
    · unfold kU at hk
      rw [fL _ _ (by omega) (by omega), fJ _ _ (by omega)]
    · rw [fL _ _ (by omega) (by omega), j3 _ _ (by omega), i3 _ _ (by omega), ← hG]
      simp (disch := omega) only [e_up_o]
      rw [← hE, e_up_o (by omega), e_up_e]
      rfl
    · rw [fL _ _ (by omega) (by omega), j3 _ _ (by omega), i3 _ _ (by omega), ← hG]
      simp (disch := omega) only [e_up_o]
      rw [← hE, e_up_e]
      rfl
    · rw [fL _ _ (by omega) (by omega), j3 _ _ (by omega), i3 _ _ (by omega), ← hG]
      simp (disch := omega) only [e_up_o, e_up_e]
      rfl
    · rw [fL _ _ (by omega) (by omega), j3 _ _ (by omega), i3 _ _ (by omega), ← hG]
      simp (disch := omega) only [e_up_o, e_up_e]
      rfl
    · rw [fL _ _ (by omega) (by omega), j3 _ _ (by omega), i3 _ _ (by omega), ← hG]
      simp (disch := omega) only [e_up_o, e_up_e]
      rfl
    · rw [fL _ _ (by omega) (by omega), j3 _ _ (by omega), i2 c hc]
      rfl
    · rw [fL _ _ (by omega) (by omega), j2 c hc]
      rfl
    · unfold kO at hk
      rw [fL _ _ (by omega) (by omega), fJ _ _ (by omega)]
    · rw [fL _ _ (by omega) (by omega), fJD _ _ (by omega) (by omega) (by omega), d2 c hc]
      rfl
  · refine ⟨-102, M, M, ?_, ?_, h⟩
    · simp only [ew_build, apart_no hx, x_bd_s, if_true]
    · unfold md_build
      rw [if_neg (fun e => hx (by simp [e])), if_neg (fun e => hx (by simp [e])), if_neg (fun e => hx (by simp [e])), if_neg (fun e => hx (by simp [e])), if_neg (fun e => hx (by simp [e]))]
end
