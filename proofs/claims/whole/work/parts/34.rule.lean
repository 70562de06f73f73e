/-! why, step, rule, drive -/
section
variable {M : e_Me}
theorem l_why (h : Inv M) : ∃ r, ew_why M = some r ∧ md_why M = some r := by
  obtain ⟨n, t, ld, ⟨hc, hn, ht, hl⟩, ⟨w, s, d, g1, g2, g3, g4, g5, g6, g7, g8⟩, ⟨b, h, c, p, u1, u2, u3, u4, u5, u6, u7, u8, u9, u10, u11, u12⟩, -⟩ := h
  exact ⟨nI (whyN b h c d w (lnZ n (fun c => (ld c : Int)) ((t + 1) % n))), by simp (disch := omega) only [x_bd_s, x_bi_s, x_lt_e, x_rd_n, x_wr_n, x_ra_n, x_dv_n, s_lt, s_le, s_eq, s_lt0, s_le0, s_0lt, s_0le, s_eq0, s_sub, s_rem, s_div, s_in, bI_0, bI_1, x_gb_b, x_gb_0, x_gb_1, nI_add, nI_1, s_size, s_abs, s_max, iI_mul, iI_add, iI_neg, Nat.le_refl, Nat.lt_irrefl, if_true, if_false, ite_true, ite_false, not_true, not_false_eq_true, ew_why, rg_why_ok hc ⟨g1, g2, g3⟩ ⟨u1, u2, u3, u4⟩ (show w ≤ 100000 by omega) u9 u10 u11], by simp (disch := omega) only [x_bd_s, x_bi_s, x_lt_e, x_rd_n, x_wr_n, x_ra_n, x_dv_n, s_lt, s_le, s_eq, s_lt0, s_le0, s_0lt, s_0le, s_eq0, s_sub, s_rem, s_div, s_in, bI_0, bI_1, x_gb_b, x_gb_0, x_gb_1, nI_add, nI_1, s_size, s_abs, s_max, iI_mul, iI_add, iI_neg, Nat.le_refl, Nat.lt_irrefl, if_true, if_false, ite_true, ite_false, not_true, not_false_eq_true, md_why, md_why_ok hc.1 hc.2.1 (cW_ld hc) ⟨hn, ht, hl⟩ ⟨g4, g5, g6⟩ ⟨u5, u6, u7, u8⟩ (show w ≤ 100000 by omega) u9 u10 u11]⟩
theorem l_step (h : Inv M) : ∃ r M1 M2, ew_step M = some (r, M1) ∧ md_step M1 = some (r, M2) ∧ Inv M2 := by
  obtain ⟨n, t, ld, ⟨hc, hn, ht, hl⟩, ⟨w, s, d, g1, g2, g3, g4, g5, g6, g7, g8⟩, ⟨b, h, c, p, u1, u2, u3, u4, u5, u6, u7, u8, u9, u10, u11, u12⟩, ⟨k, s', q, hN⟩, ⟨k2, r, v, m, hR⟩, ⟨lo, hi, hH⟩, ⟨k3, hO⟩, np, pe, we, wi, wh, se, pa, l, ln, sc, cb, hP, hQ, hwf⟩ := h
  rcases rg_goOn_ok hc ⟨g1, g2, g3⟩ ⟨u1, u2, u3, u4⟩ g8 u9 u10 u11 with ⟨a1, a2⟩ | ⟨t', w', M1, a1, a2, a3, a4, a5⟩
  · rcases md_goesOn_ok hc.1 hc.2.1 (cW_ld hc) ⟨hn, ht, hl⟩ ⟨g4, g5, g6⟩ ⟨u5, u6, u7, u8⟩ g8 u9 u10 u11 with ⟨b1, b2⟩ | ⟨t', w', b1, b2⟩
    · exact ⟨-103, M, M, by simp (disch := omega) only [x_bd_s, x_bi_s, x_lt_e, x_rd_n, x_wr_n, x_ra_n, x_dv_n, s_lt, s_le, s_eq, s_lt0, s_le0, s_0lt, s_0le, s_eq0, s_sub, s_rem, s_div, s_in, bI_0, bI_1, x_gb_b, x_gb_0, x_gb_1, nI_add, nI_1, s_size, s_abs, s_max, iI_mul, iI_add, iI_neg, Nat.le_refl, Nat.lt_irrefl, if_true, if_false, ite_true, ite_false, not_true, not_false_eq_true, ew_step, a2], by simp (disch := omega) only [x_bd_s, x_bi_s, x_lt_e, x_rd_n, x_wr_n, x_ra_n, x_dv_n, s_lt, s_le, s_eq, s_lt0, s_le0, s_0lt, s_0le, s_eq0, s_sub, s_rem, s_div, s_in, bI_0, bI_1, x_gb_b, x_gb_0, x_gb_1, nI_add, nI_1, s_size, s_abs, s_max, iI_mul, iI_add, iI_neg, Nat.le_refl, Nat.lt_irrefl, if_true, if_false, ite_true, ite_false, not_true, not_false_eq_true, md_step, b2], n, t, ld, ⟨hc, hn, ht, hl⟩, ⟨w, s, d, g1, g2, g3, g4, g5, g6, g7, g8⟩, ⟨b, h, c, p, u1, u2, u3, u4, u5, u6, u7, u8, u9, u10, u11, u12⟩, ⟨k, s', q, hN⟩, ⟨k2, r, v, m, hR⟩, ⟨lo, hi, hH⟩, ⟨k3, hO⟩, np, pe, we, wi, wh, se, pa, l, ln, sc, cb, hP, hQ, hwf⟩
    · rw [a1] at b1
      cases b1
  · have e82 : ∀ i, 8 ≤ i → M1 i = M i := fun i hi => a5 i (by omega) (by omega)
    have e2 : M1 2 = M 2 := a5 2 (by omega) (by omega)
    rcases md_goesOn_ok (M := M1) (w := w) (s := s) (d := d) (b := b) (h := h) (c := c) (p := p) hc.1 hc.2.1 (cW_ld hc) ⟨by rw [e82 182 (by omega), hn], by rw [e82 182 (by omega), ht], fun c hc => by rw [e82 185 (by omega)]; exact hl c hc⟩ ⟨by rw [e82 182 (by omega), g4], by rw [e82 182 (by omega), g5], by rw [e82 182 (by omega), g6]⟩ ⟨by rw [e82 182 (by omega), u5], by rw [e82 182 (by omega), u6], by rw [e82 182 (by omega), u7], by rw [e82 182 (by omega), u8]⟩ g8 u9 u10 u11 with ⟨b1, b2⟩ | ⟨t2, w2, b1, b2⟩
    · rw [a1] at b1
      cases b1
    · rw [a1] at b1
      cases b1
      have hw := goF_w u10 a1
      have e7 : M1 7 = e_up (e_up (e_up M1 182 1 (nI t')) 182 2 (nI w')) 182 3 (s + 1) 7 := by funext j; simp [e_up_a]
      have hs : ∀ i j, ¬ (i = 3 ∨ i = 7 ∨ (i = 182 ∧ (j = 1 ∨ j = 2 ∨ j = 3))) → e_up (e_up (e_up M1 182 1 (nI t')) 182 2 (nI w')) 182 3 (s + 1) i j = M i j := fun i j hn => by
        simp (disch := omega) only [e_up_o]
        exact congrFun (a5 i (by omega) (by omega)) j
      refine ⟨nI t', M1, _, by simp (disch := omega) only [x_bd_s, x_bi_s, x_lt_e, x_rd_n, x_wr_n, x_ra_n, x_dv_n, s_lt, s_le, s_eq, s_lt0, s_le0, s_0lt, s_0le, s_eq0, s_sub, s_rem, s_div, s_in, bI_0, bI_1, x_gb_b, x_gb_0, x_gb_1, nI_add, nI_1, s_size, s_abs, s_max, iI_mul, iI_add, iI_neg, Nat.le_refl, Nat.lt_irrefl, if_true, if_false, ite_true, ite_false, not_true, not_false_eq_true, ew_step, a2, s_10, wh_turnNow, a3.2.2.2.1], by simp (disch := omega) only [x_bd_s, x_bi_s, x_lt_e, x_rd_n, x_wr_n, x_ra_n, x_dv_n, s_lt, s_le, s_eq, s_lt0, s_le0, s_0lt, s_0le, s_eq0, s_sub, s_rem, s_div, s_in, bI_0, bI_1, x_gb_b, x_gb_0, x_gb_1, nI_add, nI_1, s_size, s_abs, s_max, iI_mul, iI_add, iI_neg, Nat.le_refl, Nat.lt_irrefl, if_true, if_false, ite_true, ite_false, not_true, not_false_eq_true, md_step, b2, s_10, e_up_o, e_up_e], n, t', ld, ⟨cW_frame a3 (by funext j; simp [e_up_a]) (by funext j; simp [e_up_a]) (by funext j; simp [e_up_a]) (by funext j; simp [e_up_a]), ?_, ?_, ?_⟩, ⟨w', s + 1, d, ?_, ?_, ?_, ?_, ?_, ?_, g7, hw⟩, ⟨b, h, c, p, bU_same (fun i j hk => hs i j (by unfold kU at hk; omega)) ⟨u1, u2, u3, u4, u5, u6, u7, u8, u9, u10, u11, u12⟩⟩, ⟨k, s', q, bN_same (fun i j hk => hs i j (by unfold kN at hk; omega)) hN⟩, ⟨k2, r, v, m, bR_same (fun i j hk => hs i j (by unfold kR at hk; omega)) hR⟩, ⟨lo, hi, bH_same (fun i j hk => hs i j (by unfold kH at hk; omega)) hH⟩, ⟨k3, bO_same (fun i j hk => hs i j (by unfold kO at hk; omega)) hO⟩, np, pe, we, wi, wh, se, pa, l, ln, sc, cb, cP_same (fun i j h1 h2 => hs i j (by omega)) hP, mP_same (fun i j h1 => hs i j (by omega)) hQ, hwf⟩
      · rw [hs 182 0 (by omega), hn]
      · simp [e_up_a]
      · intro c hc
        rw [hs 185 c (by omega), hl c hc]
      · rw [← e7, a4.1]
      · rw [← e7, a4.2.1]
      · rw [← e7, a4.2.2]
      · simp [e_up_a]
      · simp [e_up_a]
      · rw [hs 182 8 (by omega), g6]
/-- which BOUND, HOT, COOLING or PATIENCE -/
def rlo (i : Nat) : Nat := match i with
  | 1 => 100
  | 3 => 1
  | _ => 0
def rhi (i : Nat) : Nat := match i with
  | 0 => 1000000
  | 1 => 10000
  | 2 => 500
  | _ => 20
theorem r_lo0 : iI ((rlo 0 : Nat) : Int) = (0 : Int32) := by decide
theorem r_lo1 : iI ((rlo 1 : Nat) : Int) = (100 : Int32) := by decide
theorem r_lo2 : iI ((rlo 2 : Nat) : Int) = (0 : Int32) := by decide
theorem r_lo3 : iI ((rlo 3 : Nat) : Int) = (1 : Int32) := by decide
theorem r_hi0 : iI ((rhi 0 : Nat) : Int) = (1000000 : Int32) := by decide
theorem r_hi1 : iI ((rhi 1 : Nat) : Int) = (10000 : Int32) := by decide
theorem r_hi2 : iI ((rhi 2 : Nat) : Int) = (500 : Int32) := by decide
theorem r_hi3 : iI ((rhi 3 : Nat) : Int) = (20 : Int32) := by decide
theorem ru_names_no {x : Int32} (g : x < 0 ∨ nI 4 ≤ x) : ru_names x M = some 0 := by
  unfold ru_names
  rcases g with g | g
  · rw [if_pos g]
  · have : (3 : Int32) < x := by
      obtain ⟨z, rfl, h1, h2⟩ := iI_of x
      rw [nI_iI, iI_le (by omega) (by omega) h1 h2] at g
      rw [show (3 : Int32) = iI 3 from rfl, iI_lt (by omega) (by omega) h1 h2]
      omega
    split
    · rfl
    · simp [this]
theorem ru_names_yes {i : Nat} (hi : i < 4) : ru_names (nI i) M = some 1 := by
  have : ¬ 3 < i := by omega
  simp (disch := omega) only [x_bd_s, x_bi_s, x_lt_e, x_rd_n, x_wr_n, x_ra_n, x_dv_n, s_lt, s_le, s_eq, s_lt0, s_le0, s_0lt, s_0le, s_eq0, s_sub, s_rem, s_div, s_in, bI_0, bI_1, x_gb_b, x_gb_0, x_gb_1, nI_add, nI_1, s_size, s_abs, s_max, iI_mul, iI_add, iI_neg, Nat.le_refl, Nat.lt_irrefl, if_true, if_false, ite_true, ite_false, not_true, not_false_eq_true, ru_names, show (3 : Int32) = nI 3 from rfl, this]
theorem ru_allows_ok {i : Nat} (hi : i < 4) (v : Int32) : ru_allows (nI i) v M = some (bI ((rlo i : Int) ≤ v.toInt ∧ v.toInt ≤ rhi i)) := by
  obtain ⟨z, rfl, g1, g2⟩ := iI_of v
  have e : ∀ (f : Int32 → Option Int32), x_rd (e_tab [0, 100, 0, 1]) 4 (nI i) f = f (iI (rlo i)) := fun f => by
    rw [x_rd_n hi (by omega)]
    obtain rfl | rfl | rfl | rfl : i = 0 ∨ i = 1 ∨ i = 2 ∨ i = 3 := by omega
    all_goals rfl
  have e2 : ∀ (f : Int32 → Option Int32), x_rd (e_tab [1000000, 10000, 500, 20]) 4 (nI i) f = f (iI (rhi i)) := fun f => by
    rw [x_rd_n hi (by omega)]
    obtain rfl | rfl | rfl | rfl : i = 0 ∨ i = 1 ∨ i = 2 ∨ i = 3 := by omega
    all_goals rfl
  have b1 : rlo i ≤ 100 := by
    obtain rfl | rfl | rfl | rfl : i = 0 ∨ i = 1 ∨ i = 2 ∨ i = 3 := by omega
    all_goals decide
  have b2 : rhi i ≤ 1000000 := by
    obtain rfl | rfl | rfl | rfl : i = 0 ∨ i = 1 ∨ i = 2 ∨ i = 3 := by omega
    all_goals decide
  simp (disch := omega) only [x_bd_s, x_bi_s, x_lt_e, x_rd_n, x_wr_n, x_ra_n, x_dv_n, s_lt, s_le, s_eq, s_lt0, s_le0, s_0lt, s_0le, s_eq0, s_sub, s_rem, s_div, s_in, bI_0, bI_1, x_gb_b, x_gb_0, x_gb_1, nI_add, nI_1, s_size, s_abs, s_max, iI_mul, iI_add, iI_neg, Nat.le_refl, Nat.lt_irrefl, if_true, if_false, ite_true, ite_false, not_true, not_false_eq_true, ru_allows, ru_names_yes hi, s_10, e, e2]
  rw [iI_toInt g1 g2]
  simp only [iI_lt g1 g2 (show -2147483648 ≤ ((rlo i : Nat) : Int) by omega) (by omega), iI_lt (show -2147483648 ≤ ((rhi i : Nat) : Int) by omega) (by omega) g1 g2]
  unfold bI
  by_cases k1 : z < (rlo i : Int) <;> by_cases k2 : (rhi i : Int) < z
  · rw [if_pos k1, if_neg (by omega)]
  · rw [if_pos k1, if_neg (by omega)]
  · rw [if_neg k1, if_pos k2, if_neg (by omega)]
  · rw [if_neg k1, if_neg k2, if_pos (by omega)]
theorem in_gen {x : Int32} {a b : Int} (h1 : -2147483648 ≤ a) (h2 : a < 2147483648) (h3 : -2147483648 ≤ b) (h4 : b < 2147483648) : md_in x.toInt64 (iI a).toInt64 (iI b).toInt64 M = some (bI (a ≤ x.toInt ∧ x.toInt ≤ b)) := by
  obtain ⟨z, rfl, g1, g2⟩ := iI_of x
  rw [s_in]
  congr 1
  unfold bI
  simp only [iI_le h1 h2 g1 g2, iI_le g1 g2 h3 h4, iI_toInt g1 g2]
theorem md_rule_no {x v : Int32} (g : x < 0 ∨ nI 4 ≤ x) : md_rule x v M = some (-101, M) := by
  have e := in_no (M := M) (show 4 < 2147483648 by omega) g
  have e2 : nI 4 - 1 = (3 : Int32) := rfl
  rw [e2] at e
  simp (disch := omega) only [x_bd_s, x_bi_s, x_lt_e, x_rd_n, x_wr_n, x_ra_n, x_dv_n, s_lt, s_le, s_eq, s_lt0, s_le0, s_0lt, s_0le, s_eq0, s_sub, s_rem, s_div, s_in, bI_0, bI_1, x_gb_b, x_gb_0, x_gb_1, nI_add, nI_1, s_size, s_abs, s_max, iI_mul, iI_add, iI_neg, Nat.le_refl, Nat.lt_irrefl, if_true, if_false, ite_true, ite_false, not_true, not_false_eq_true, md_rule, e]
theorem md_rule_bad {i : Nat} {v : Int32} (hi : i < 4) (hv : ¬ ((rlo i : Int) ≤ v.toInt ∧ v.toInt ≤ rhi i)) : md_rule (nI i) v M = some (-102, M) := by
  have e := in_yes (M := M) hi (show 4 < 2147483648 by omega)
  rw [show nI 4 - 1 = (3 : Int32) from rfl] at e
  have e2 := in_gen (M := M) (x := v) (a := rlo i) (b := rhi i)
  obtain rfl | rfl | rfl | rfl : i = 0 ∨ i = 1 ∨ i = 2 ∨ i = 3 := by omega
  all_goals
    have e3 := (e2 (by decide) (by decide) (by decide) (by decide)).trans (by rw [bI_f hv])
    simp only [r_lo0, r_lo1, r_lo2, r_lo3, r_hi0, r_hi1, r_hi2, r_hi3] at e3
    simp only [show nI 0 = (0 : Int32) from rfl, show nI 1 = (1 : Int32) from rfl, show nI 2 = (2 : Int32) from rfl, show nI 3 = (3 : Int32) from rfl] at e
    simp only [md_rule, x_bd_s, e, s_10, if_false, md_rule_b38, md_rule_b73, show nI 0 = (0 : Int32) from rfl, show nI 1 = (1 : Int32) from rfl, show nI 2 = (2 : Int32) from rfl, show nI 3 = (3 : Int32) from rfl, q_00, q_01, q_02, q_03, q_10, q_11, q_12, q_13, q_20, q_21, q_22, q_23, q_30, q_31, q_32, q_33, if_true, e3]
theorem md_rule_ok {i : Nat} {v : Int32} (hi : i < 4) (hv : (rlo i : Int) ≤ v.toInt ∧ v.toInt ≤ rhi i) : ∃ M', md_rule (nI i) v M = some (M 182 (4 + i), M') ∧ M' 182 (4 + i) = v ∧ ∀ a b, ¬ (a = 182 ∧ b = 4 + i) → M' a b = M a b := by
  have e := in_yes (M := M) hi (show 4 < 2147483648 by omega)
  rw [show nI 4 - 1 = (3 : Int32) from rfl] at e
  have e2 := in_gen (M := M) (x := v) (a := rlo i) (b := rhi i)
  obtain rfl | rfl | rfl | rfl : i = 0 ∨ i = 1 ∨ i = 2 ∨ i = 3 := by omega
  all_goals
    have e3 := (e2 (by decide) (by decide) (by decide) (by decide)).trans (by rw [bI_t hv])
    simp only [r_lo0, r_lo1, r_lo2, r_lo3, r_hi0, r_hi1, r_hi2, r_hi3] at e3
    simp only [show nI 0 = (0 : Int32) from rfl, show nI 1 = (1 : Int32) from rfl, show nI 2 = (2 : Int32) from rfl, show nI 3 = (3 : Int32) from rfl] at e
    simp only [md_rule, x_bd_s, x_lt_e, e, s_10, if_false, md_rule_b38, md_rule_b73, md_rule_b121, md_rule_b135, md_rule_b152, md_rule_b169, md_rule_b186, show nI 0 = (0 : Int32) from rfl, show nI 1 = (1 : Int32) from rfl, show nI 2 = (2 : Int32) from rfl, show nI 3 = (3 : Int32) from rfl, q_00, q_01, q_02, q_03, q_10, q_11, q_12, q_13, q_20, q_21, q_22, q_23, q_30, q_31, q_32, q_33, if_true, e3]
    refine ⟨_, rfl, by simp [e_up_a], fun a b hab => ?_⟩
    by_cases h1 : a = 182
    · subst h1
      simp only [e_up_a, if_true]
      repeat' split
      all_goals first | rfl | (subst_vars; omega) | (subst_vars; simp [e_up_a]) | omega
    · simp [e_up_a, h1]
theorem l_rule (h : Inv M) (x v : Int32) : ∃ r M1 M2, ew_rule x v M = some (r, M1) ∧ md_rule x v M1 = some (r, M2) ∧ Inv M2 := by
  rcases pk_ix x (n := 4) (by omega) with g | g | ⟨i, hi, rfl⟩
  · exact ⟨-101, M, M, by simp (disch := omega) only [x_bd_s, x_bi_s, x_lt_e, x_rd_n, x_wr_n, x_ra_n, x_dv_n, s_lt, s_le, s_eq, s_lt0, s_le0, s_0lt, s_0le, s_eq0, s_sub, s_rem, s_div, s_in, bI_0, bI_1, x_gb_b, x_gb_0, x_gb_1, nI_add, nI_1, s_size, s_abs, s_max, iI_mul, iI_add, iI_neg, Nat.le_refl, Nat.lt_irrefl, if_true, if_false, ite_true, ite_false, not_true, not_false_eq_true, ew_rule, ru_names_no (Or.inl g)], md_rule_no (Or.inl g), h⟩
  · exact ⟨-101, M, M, by simp (disch := omega) only [x_bd_s, x_bi_s, x_lt_e, x_rd_n, x_wr_n, x_ra_n, x_dv_n, s_lt, s_le, s_eq, s_lt0, s_le0, s_0lt, s_0le, s_eq0, s_sub, s_rem, s_div, s_in, bI_0, bI_1, x_gb_b, x_gb_0, x_gb_1, nI_add, nI_1, s_size, s_abs, s_max, iI_mul, iI_add, iI_neg, Nat.le_refl, Nat.lt_irrefl, if_true, if_false, ite_true, ite_false, not_true, not_false_eq_true, ew_rule, ru_names_no (Or.inr g)], md_rule_no (Or.inr g), h⟩
  · by_cases hv : (rlo i : Int) ≤ v.toInt ∧ v.toInt ≤ rhi i
    · obtain ⟨n, t, ld, hW, ⟨w, s, d, hG⟩, ⟨b, h, c, p, u1, u2, u3, u4, u5, u6, u7, u8, u9, u10, u11, u12⟩, ⟨k, s', q, hN⟩, ⟨k2, r, v', m, hR⟩, ⟨lo, hi', hH⟩, ⟨k3, hO⟩, np, pe, we, wi, wh, se, pa, l, ln, sc, cb, hP, hQ, hwf⟩ := h
      obtain ⟨M2, k1, k2', k3'⟩ := md_rule_ok (M := e_up M 2 i v) hi hv
      have hs : ∀ a b, ¬ ((a = 2 ∧ b = i) ∨ (a = 182 ∧ b = 4 + i)) → M2 a b = M a b := fun a b hab => by
        rw [k3' a b (by omega), e_up_o (by omega)]
      have e2 : M2 2 i = v := by rw [k3' 2 i (by omega), e_up_e]
      have eq : M 2 i = M 182 (4 + i) := by
        obtain rfl | rfl | rfl | rfl : i = 0 ∨ i = 1 ∨ i = 2 ∨ i = 3 := by omega
        · rw [u1, u5]
        · rw [u2, u6]
        · rw [u3, u7]
        · rw [u4, u8]
      have hv0 : v = nI v.toInt.toNat := by
        have : (0 : Int) ≤ (rlo i : Int) := by omega
        obtain ⟨z, rfl, z1, z2⟩ := iI_of v
        rw [iI_toInt z1 z2] at hv ⊢
        exact nI_of_iI (by omega)
      have hU : ∃ b' h' c' p', bU M2 b' h' c' p' := by
        obtain rfl | rfl | rfl | rfl : i = 0 ∨ i = 1 ∨ i = 2 ∨ i = 3 := by omega
        · exact ⟨v.toInt.toNat, h, c, p, by rw [e2, ← hv0], by rw [hs 2 1 (by omega), u2], by rw [hs 2 2 (by omega), u3], by rw [hs 2 3 (by omega), u4], by rw [k2', ← hv0], by rw [hs 182 5 (by omega), u6], by rw [hs 182 6 (by omega), u7], by rw [hs 182 7 (by omega), u8], by have := hv.2; simp only [rhi] at this; omega, u10, u11, u12⟩
        · exact ⟨b, v.toInt.toNat, c, p, by rw [hs 2 0 (by omega), u1], by rw [e2, ← hv0], by rw [hs 2 2 (by omega), u3], by rw [hs 2 3 (by omega), u4], by rw [hs 182 4 (by omega), u5], by rw [k2', ← hv0], by rw [hs 182 6 (by omega), u7], by rw [hs 182 7 (by omega), u8], u9, by have := hv.2; simp only [rhi] at this; omega, u11, u12⟩
        · exact ⟨b, h, v.toInt.toNat, p, by rw [hs 2 0 (by omega), u1], by rw [hs 2 1 (by omega), u2], by rw [e2, ← hv0], by rw [hs 2 3 (by omega), u4], by rw [hs 182 4 (by omega), u5], by rw [hs 182 5 (by omega), u6], by rw [k2', ← hv0], by rw [hs 182 7 (by omega), u8], u9, u10, by have := hv.2; simp only [rhi] at this; omega, u12⟩
        · exact ⟨b, h, c, v.toInt.toNat, by rw [hs 2 0 (by omega), u1], by rw [hs 2 1 (by omega), u2], by rw [hs 2 2 (by omega), u3], by rw [e2, ← hv0], by rw [hs 182 4 (by omega), u5], by rw [hs 182 5 (by omega), u6], by rw [hs 182 6 (by omega), u7], by rw [k2', ← hv0], u9, u10, u11, by have := hv.2; simp only [rhi] at this; omega⟩
      refine ⟨M 2 i, e_up M 2 i v, M2, ?_, ?_, n, t, ld, bW_same (fun a b hk => hs a b (by unfold kW at hk; omega)) hW, ⟨w, s, d, bG_same (fun a b hk => hs a b (by unfold kG at hk; omega)) hG⟩, hU, ⟨k, s', q, bN_same (fun i j hk => hs i j (by unfold kN at hk; omega)) hN⟩, ⟨k2, r, v', m, bR_same (fun i j hk => hs i j (by unfold kR at hk; omega)) hR⟩, ⟨lo, hi', bH_same (fun i j hk => hs i j (by unfold kH at hk; omega)) hH⟩, ⟨k3, bO_same (fun i j hk => hs i j (by unfold kO at hk; omega)) hO⟩, np, pe, we, wi, wh, se, pa, l, ln, sc, cb, cP_same (fun i j h1 h2 => hs i j (by omega)) hP, mP_same (fun i j h1 => hs i j (by omega)) hQ, hwf⟩
      · simp (disch := omega) only [x_bd_s, x_bi_s, x_lt_e, x_rd_n, x_wr_n, x_ra_n, x_dv_n, s_lt, s_le, s_eq, s_lt0, s_le0, s_0lt, s_0le, s_eq0, s_sub, s_rem, s_div, s_in, bI_0, bI_1, x_gb_b, x_gb_0, x_gb_1, nI_add, nI_1, s_size, s_abs, s_max, iI_mul, iI_add, iI_neg, Nat.le_refl, Nat.lt_irrefl, if_true, if_false, ite_true, ite_false, not_true, not_false_eq_true, ew_rule, ru_names_yes hi, s_10, ru_allows_ok hi, hv, and_self, ru_change, ru_valueOf_ok hi]
      · rw [k1, e_up_o (by omega), eq]
    · exact ⟨-102, M, M, by simp (disch := omega) only [x_bd_s, x_bi_s, x_lt_e, x_rd_n, x_wr_n, x_ra_n, x_dv_n, s_lt, s_le, s_eq, s_lt0, s_le0, s_0lt, s_0le, s_eq0, s_sub, s_rem, s_div, s_in, bI_0, bI_1, x_gb_b, x_gb_0, x_gb_1, nI_add, nI_1, s_size, s_abs, s_max, iI_mul, iI_add, iI_neg, Nat.le_refl, Nat.lt_irrefl, if_true, if_false, ite_true, ite_false, not_true, not_false_eq_true, ew_rule, ru_names_yes hi, s_10, ru_allows_ok hi, hv], md_rule_bad hi hv, h⟩
theorem l_drive (h : Inv M) (x : Int32) (hx : x = 0 ∨ x = 1) : ∃ r M1 M2, ew_drive x M = some (r, M1) ∧ md_drive x M1 = some (r, M2) ∧ Inv M2 := by
  obtain ⟨n, t, ld, hW, ⟨w, s, d, g1, g2, g3, g4, g5, g6, g7, g8⟩, ⟨b, h, c, p, hU⟩, ⟨k, s', q, hN⟩, ⟨k2, r, v', m, hR⟩, ⟨lo, hi', hH⟩, ⟨k3, hO⟩, np, pe, we, wi, wh, se, pa, l, ln, sc, cb, hP, hQ, hwf⟩ := h
  have e1 : ew_drive x M = some (d, e_up M 7 4 x) := by
    simp only [ew_drive, rg_setDriven, x_lt_e, g3, x_gb_of hx, x_gb_of g7, x_bi_s]
    rcases g7 with rfl | rfl
    · rfl
    · rfl
  have e2 : md_drive x (e_up M 7 4 x) = some (d, e_up (e_up M 7 4 x) 182 8 x) := by
    have : e_up M 7 4 x 182 8 = d := by rw [e_up_o (by omega), g6]
    simp only [md_drive, this, md_drive_b12, x_gb_of hx, x_lt_e]
    rcases g7 with rfl | rfl
    · rfl
    · rfl
  have hs : ∀ i j, ¬ ((i = 7 ∧ j = 4) ∨ (i = 182 ∧ j = 8)) → e_up (e_up M 7 4 x) 182 8 x i j = M i j := fun i j hn => by simp (disch := omega) only [e_up_o]
  exact ⟨d, _, _, e1, e2, n, t, ld, bW_same (fun a b hk => hs a b (by unfold kW at hk; omega)) hW, ⟨w, s, x, by rw [hs 7 2 (by omega), g1], by rw [hs 7 3 (by omega), g2], by simp [e_up_a], by rw [hs 182 2 (by omega), g4], by rw [hs 182 3 (by omega), g5], by simp [e_up_a], hx, g8⟩, ⟨b, h, c, p, bU_same (fun a b hk => hs a b (by unfold kU at hk; omega)) hU⟩, ⟨k, s', q, bN_same (fun i j hk => hs i j (by unfold kN at hk; omega)) hN⟩, ⟨k2, r, v', m, bR_same (fun i j hk => hs i j (by unfold kR at hk; omega)) hR⟩, ⟨lo, hi', bH_same (fun i j hk => hs i j (by unfold kH at hk; omega)) hH⟩, ⟨k3, bO_same (fun i j hk => hs i j (by unfold kO at hk; omega)) hO⟩, np, pe, we, wi, wh, se, pa, l, ln, sc, cb, cP_same (fun i j h1 h2 => hs i j (by omega)) hP, mP_same (fun i j h1 => hs i j (by omega)) hQ, hwf⟩
end
