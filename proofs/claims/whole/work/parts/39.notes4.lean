/-! note, tear, up, begins -/
def enV (sd : Nat) (st : Option (Int × Int)) : Int32 := match st with
  | none => -1
  | some (p, r) => if sd = 1 then iI r else iI p
section
variable {M : e_Me} {n t : Nat}
theorem iI_m1 : iI (-1) = (-1 : Int32) := by decide
theorem endOf_none {sd : Nat} (hsd : sd ≤ 1) (hn : M 182 0 = nI n) (hn3 : n ≤ 30) (hM : ∀ j : Nat, j ≤ 6 * n → M 199 j = bB (memB none j)) : md_endOf (nI sd) M = some (-1) := by
  have e6 : (6 : Int32) * nI n = nI (6 * n) := by rw [show (6 : Int32) = nI 6 from rfl, pk_mul]
  have key : ∀ (d x F : Nat), x + d = 6 * n + 1 → d < F → md_endOf_l4 (nI sd) M F (-1) (nI x) = some (-1) := by
    intro d
    induction d with
    | zero =>
      intro x F h1 h2
      obtain ⟨F, rfl⟩ : ∃ F', F = F' + 1 := ⟨F - 1, by omega⟩
      have c1 : 6 * n < x := by omega
      simp (disch := omega) only [x_bd_s, x_bi_s, x_lt_e, x_rd_n, x_wr_n, x_ra_n, x_dv_n, s_lt, s_le, s_eq, s_lt0, s_le0, s_0lt, s_0le, s_eq0, s_sub, s_rem, s_div, s_in, bI_0, bI_1, x_gb_b, x_gb_0, x_gb_1, nI_add, nI_1, s_size, s_abs, s_max, iI_mul, iI_add, iI_neg, Nat.le_refl, Nat.lt_irrefl, if_true, if_false, ite_true, ite_false, not_true, not_false_eq_true, md_endOf_l4, hn, e6, c1]
    | succ d ih =>
      intro x F h1 h2
      obtain ⟨F, rfl⟩ : ∃ F', F = F' + 1 := ⟨F - 1, by omega⟩
      have c1 : ¬ 6 * n < x := by omega
      have e2 : M 199 x = 0 := by rw [hM x (by omega)]; rfl
      simp (disch := omega) only [x_bd_s, x_bi_s, x_lt_e, x_rd_n, x_wr_n, x_ra_n, x_dv_n, s_lt, s_le, s_eq, s_lt0, s_le0, s_0lt, s_0le, s_eq0, s_sub, s_rem, s_div, s_in, bI_0, bI_1, x_gb_b, x_gb_0, x_gb_1, nI_add, nI_1, s_size, s_abs, s_max, iI_mul, iI_add, iI_neg, Nat.le_refl, Nat.lt_irrefl, if_true, if_false, ite_true, ite_false, not_true, not_false_eq_true, md_endOf_l4, hn, e6, c1, e2]
      exact ih (x + 1) F (by omega) (by omega)
  have := e_Fge
  have k1 := key (6 * n + 1) 0 e_F (by omega) (by omega)
  rw [nI_0] at k1
  exact k1
theorem endOf_some {sd : Nat} {p r : Int} (hsd : sd ≤ 1) (hn : M 182 0 = nI n) (hn3 : n ≤ 30) (hp : 0 ≤ p) (hpr : p ≤ r) (hr : r ≤ (6 * n : Nat)) (hM : ∀ j : Nat, j ≤ 6 * n → M 199 j = bB (memB (some (p, r)) j)) : md_endOf (nI sd) M = some (if sd = 1 then iI r else iI p) := by
  have e6 : (6 : Int32) * nI n = nI (6 * n) := by rw [show (6 : Int32) = nI 6 from rfl, pk_mul]
  have hM1 : ∀ j : Nat, j ≤ 6 * n → p ≤ j → (j : Int) ≤ r → ¬ M 199 j = 0 := fun j hj a b => by
    rw [hM j hj, bB_0]
    simp only [memB, decide_eq_true a, decide_eq_true b, Bool.and_self]
    decide
  have hM0 : ∀ j : Nat, j ≤ 6 * n → ¬ (p ≤ j ∧ (j : Int) ≤ r) → M 199 j = 0 := fun j hj a => by
    have : memB (some (p, r)) (j : Int) = false := by
      simp only [memB]
      by_cases b : p ≤ (j : Int)
      · rw [decide_eq_false (show ¬ (j : Int) ≤ r by omega), Bool.and_false]
      · rw [decide_eq_false b, Bool.false_and]
    rw [hM j hj, this]
    rfl
  have key : ∀ (d x F : Nat) (v : Int), x + d = 6 * n + 1 → d < F → v = (if p < x then (if sd = 1 then min ((x : Int) - 1) r else p) else -1) → md_endOf_l4 (nI sd) M F (iI v) (nI x) = some (if sd = 1 then iI r else iI p) := by
    intro d
    induction d with
    | zero =>
      intro x F v h1 h2 h3
      obtain ⟨F, rfl⟩ : ∃ F', F = F' + 1 := ⟨F - 1, by omega⟩
      have c1 : 6 * n < x := by omega
      simp (disch := omega) only [x_bd_s, x_bi_s, x_lt_e, x_rd_n, x_wr_n, x_ra_n, x_dv_n, s_lt, s_le, s_eq, s_lt0, s_le0, s_0lt, s_0le, s_eq0, s_sub, s_rem, s_div, s_in, bI_0, bI_1, x_gb_b, x_gb_0, x_gb_1, nI_add, nI_1, s_size, s_abs, s_max, iI_mul, iI_add, iI_neg, Nat.le_refl, Nat.lt_irrefl, if_true, if_false, ite_true, ite_false, not_true, not_false_eq_true, md_endOf_l4, hn, e6, c1]
      rw [if_pos (show p < (x : Int) by omega)] at h3
      by_cases g : sd = 1
      · rw [if_pos g] at h3 ⊢
        rw [h3, show min ((x : Int) - 1) r = r by omega]
      · rw [if_neg g] at h3 ⊢
        rw [h3]
    | succ d ih =>
      intro x F v h1 h2 h3
      obtain ⟨F, rfl⟩ : ∃ F', F = F' + 1 := ⟨F - 1, by omega⟩
      have c1 : ¬ 6 * n < x := by omega
      by_cases hm : p ≤ (x : Int) ∧ (x : Int) ≤ r
      · have e2 := hM1 x (by omega) hm.1 hm.2
        obtain rfl | rfl : sd = 0 ∨ sd = 1 := by omega
        · by_cases g : p < (x : Int)
          · have e4 : ¬ iI v = -1 := by
              rw [if_pos g, if_neg (by decide)] at h3
              rw [← iI_m1, iI_eq (by omega) (by omega) (by omega) (by omega)]
              omega
            simp (disch := omega) only [x_bd_s, x_bi_s, x_lt_e, x_rd_n, x_wr_n, x_ra_n, x_dv_n, s_lt, s_le, s_eq, s_lt0, s_le0, s_0lt, s_0le, s_eq0, s_sub, s_rem, s_div, s_in, bI_0, bI_1, x_gb_b, x_gb_0, x_gb_1, nI_add, nI_1, s_size, s_abs, s_max, iI_mul, iI_add, iI_neg, Nat.le_refl, Nat.lt_irrefl, if_true, if_false, ite_true, ite_false, not_true, not_false_eq_true, md_endOf_l4, hn, e6, c1, e2, show nI 0 = (0 : Int32) from rfl, q_01, e4]
            have i1 := ih (x + 1) F v (by omega) (by omega) (by rw [if_pos (by omega), if_neg (by decide)]; rw [if_pos g, if_neg (by decide)] at h3; exact h3)
            rw [nI_0] at i1
            exact i1
          · have e4 : iI v = -1 := by
              rw [if_neg g] at h3
              rw [h3, iI_m1]
            simp (disch := omega) only [x_bd_s, x_bi_s, x_lt_e, x_rd_n, x_wr_n, x_ra_n, x_dv_n, s_lt, s_le, s_eq, s_lt0, s_le0, s_0lt, s_0le, s_eq0, s_sub, s_rem, s_div, s_in, bI_0, bI_1, x_gb_b, x_gb_0, x_gb_1, nI_add, nI_1, s_size, s_abs, s_max, iI_mul, iI_add, iI_neg, Nat.le_refl, Nat.lt_irrefl, if_true, if_false, ite_true, ite_false, not_true, not_false_eq_true, md_endOf_l4, hn, e6, c1, e2, show nI 0 = (0 : Int32) from rfl, q_01, e4]
            have i1 := ih (x + 1) F (x : Int) (by omega) (by omega) (by rw [if_pos (by omega), if_neg (by decide)]; omega)
            rw [nI_0] at i1
            exact i1
        · simp (disch := omega) only [x_bd_s, x_bi_s, x_lt_e, x_rd_n, x_wr_n, x_ra_n, x_dv_n, s_lt, s_le, s_eq, s_lt0, s_le0, s_0lt, s_0le, s_eq0, s_sub, s_rem, s_div, s_in, bI_0, bI_1, x_gb_b, x_gb_0, x_gb_1, nI_add, nI_1, s_size, s_abs, s_max, iI_mul, iI_add, iI_neg, Nat.le_refl, Nat.lt_irrefl, if_true, if_false, ite_true, ite_false, not_true, not_false_eq_true, md_endOf_l4, hn, e6, c1, e2, show nI 1 = (1 : Int32) from rfl, q_11]
          exact ih (x + 1) F (x : Int) (by omega) (by omega) (by rw [if_pos (by omega), if_pos rfl]; omega)
      · have e2 := hM0 x (by omega) hm
        simp (disch := omega) only [x_bd_s, x_bi_s, x_lt_e, x_rd_n, x_wr_n, x_ra_n, x_dv_n, s_lt, s_le, s_eq, s_lt0, s_le0, s_0lt, s_0le, s_eq0, s_sub, s_rem, s_div, s_in, bI_0, bI_1, x_gb_b, x_gb_0, x_gb_1, nI_add, nI_1, s_size, s_abs, s_max, iI_mul, iI_add, iI_neg, Nat.le_refl, Nat.lt_irrefl, if_true, if_false, ite_true, ite_false, not_true, not_false_eq_true, md_endOf_l4, hn, e6, c1, e2]
        refine ih (x + 1) F v (by omega) (by omega) ?_
        rw [h3]
        by_cases g : p < (x : Int)
        · rw [if_pos g, if_pos (show p < ((x + 1 : Nat) : Int) by omega)]
          by_cases g2 : sd = 1
          · rw [if_pos g2, if_pos g2]
            omega
          · rw [if_neg g2, if_neg g2]
        · rw [if_neg g, if_neg (show ¬ p < ((x + 1 : Nat) : Int) by omega)]
  have := e_Fge
  have k1 := key (6 * n + 1) 0 e_F (-1) (by omega) (by omega) (by rw [if_neg (by omega)])
  rw [iI_m1, nI_0] at k1
  exact k1
theorem endOf_ok {sd : Nat} {st : Option (Int × Int)} (hsd : sd ≤ 1) (hn : M 182 0 = nI n) (hn3 : n ≤ 30) (hst : inS (6 * n : Nat) st) (hM : ∀ j : Nat, j ≤ 6 * n → M 199 j = bB (memB st j)) : md_endOf (nI sd) M = some (enV sd st) := by
  rcases st with _ | ⟨p, r⟩
  · exact endOf_none hsd hn hn3 hM
  · obtain ⟨a, b, c⟩ := hst p r rfl
    exact endOf_some hsd hn hn3 a b c hM
theorem in_6 {x : Int32} {m : Nat} (hm : m ≤ 1000) (hx : x < 0 ∨ nI (m + 1) ≤ x) : md_in x.toInt64 (0 : Int32).toInt64 (nI m).toInt64 M = some 0 := by
  have := in_no (M := M) (x := x) (n := m + 1) (by omega) hx
  rw [nI_pred] at this
  exact this
theorem in_6y {j m : Nat} (hm : m ≤ 1000) (hj : j ≤ m) : md_in (nI j).toInt64 (0 : Int32).toInt64 (nI m).toInt64 M = some 1 := by
  have := in_yes (M := M) (j := j) (n := m + 1) (by omega) (by omega)
  rw [nI_pred] at this
  exact this
theorem x_gt {x : Int32} {m : Nat} (hm : m ≤ 100000) (h : nI (m + 1) ≤ x) : ¬ x < 0 ∧ nI m < x := by
  obtain ⟨z, rfl, z1, z2⟩ := iI_of x
  rw [nI_iI, iI_le (by omega) (by omega) z1 z2] at h
  rw [nI_iI, iI_lt0 z1 z2, iI_lt (by omega) (by omega) z1 z2]
  omega
theorem l_up (h : Inv M) (x y : Int32) : ∃ r M1 M2, ew_up x y M = some (r, M1) ∧ md_up x y M1 = some (r, M2) ∧ Inv M2 := by
  obtain ⟨n, t, ld, ⟨hc, hn, ht, hl⟩, -, -, ⟨k, s, q, hk, n1, n2, n3, n4⟩, -⟩ := id h
  have hb := okn_b hc.1
  have e6 : (6 : Int32) * nI n = nI (6 * n) := by rw [show (6 : Int32) = nI 6 from rfl, pk_mul]
  have hm : ∀ M : e_Me, M 3 3 = nI n → no_mostUpEver M = some (nI (6 * n)) := fun M h => by
    rw [no_most_ok h, nI_iI]
    rfl
  rcases pk_ix x (n := 6 * n + 1) (by omega) with g | g | ⟨b, hb2, rfl⟩
  · exact ⟨-102, M, M, by simp (disch := omega) only [x_bd_s, x_bi_s, x_lt_e, x_rd_n, x_wr_n, x_ra_n, x_dv_n, s_lt, s_le, s_eq, s_lt0, s_le0, s_0lt, s_0le, s_eq0, s_sub, s_rem, s_div, s_in, bI_0, bI_1, x_gb_b, x_gb_0, x_gb_1, nI_add, nI_1, s_size, s_abs, s_max, iI_mul, iI_add, iI_neg, Nat.le_refl, Nat.lt_irrefl, if_true, if_false, ite_true, ite_false, not_true, not_false_eq_true, ew_up, no_mayBeUp, g], by simp (disch := omega) only [x_bd_s, x_bi_s, x_lt_e, x_rd_n, x_wr_n, x_ra_n, x_dv_n, s_lt, s_le, s_eq, s_lt0, s_le0, s_0lt, s_0le, s_eq0, s_sub, s_rem, s_div, s_in, bI_0, bI_1, x_gb_b, x_gb_0, x_gb_1, nI_add, nI_1, s_size, s_abs, s_max, iI_mul, iI_add, iI_neg, Nat.le_refl, Nat.lt_irrefl, if_true, if_false, ite_true, ite_false, not_true, not_false_eq_true, md_up, hn, e6, in_6 (M := M) (show 6 * n ≤ 1000 by omega) (Or.inl g)], h⟩
  · have gg := x_gt (by omega) g
    exact ⟨-102, M, M, by simp (disch := omega) only [x_bd_s, x_bi_s, x_lt_e, x_rd_n, x_wr_n, x_ra_n, x_dv_n, s_lt, s_le, s_eq, s_lt0, s_le0, s_0lt, s_0le, s_eq0, s_sub, s_rem, s_div, s_in, bI_0, bI_1, x_gb_b, x_gb_0, x_gb_1, nI_add, nI_1, s_size, s_abs, s_max, iI_mul, iI_add, iI_neg, Nat.le_refl, Nat.lt_irrefl, if_true, if_false, ite_true, ite_false, not_true, not_false_eq_true, ew_up, no_mayBeUp, gg.1, hm M hc.2.2.1, gg.2], by simp (disch := omega) only [x_bd_s, x_bi_s, x_lt_e, x_rd_n, x_wr_n, x_ra_n, x_dv_n, s_lt, s_le, s_eq, s_lt0, s_le0, s_0lt, s_0le, s_eq0, s_sub, s_rem, s_div, s_in, bI_0, bI_1, x_gb_b, x_gb_0, x_gb_1, nI_add, nI_1, s_size, s_abs, s_max, iI_mul, iI_add, iI_neg, Nat.le_refl, Nat.lt_irrefl, if_true, if_false, ite_true, ite_false, not_true, not_false_eq_true, md_up, hn, e6, in_6 (M := M) (show 6 * n ≤ 1000 by omega) (Or.inr g)], h⟩
  · have u1 : no_mayBeUp (nI b) M = some 1 := by
      have : ¬ 6 * n < b := by omega
      simp (disch := omega) only [x_bd_s, x_bi_s, x_lt_e, x_rd_n, x_wr_n, x_ra_n, x_dv_n, s_lt, s_le, s_eq, s_lt0, s_le0, s_0lt, s_0le, s_eq0, s_sub, s_rem, s_div, s_in, bI_0, bI_1, x_gb_b, x_gb_0, x_gb_1, nI_add, nI_1, s_size, s_abs, s_max, iI_mul, iI_add, iI_neg, Nat.le_refl, Nat.lt_irrefl, if_true, if_false, ite_true, ite_false, not_true, not_false_eq_true, no_mayBeUp, hm M hc.2.2.1, this]
    rcases pk_ix y (n := 1 + 1) (by omega) with g | g | ⟨sd, hsd, rfl⟩
    · have i2 := in_6 (M := M) (show 1 ≤ 1000 by omega) (Or.inl g)
      rw [show nI 1 = (1 : Int32) from rfl] at i2
      exact ⟨-102, M, M, by simp (disch := omega) only [x_bd_s, x_bi_s, x_lt_e, x_rd_n, x_wr_n, x_ra_n, x_dv_n, s_lt, s_le, s_eq, s_lt0, s_le0, s_0lt, s_0le, s_eq0, s_sub, s_rem, s_div, s_in, bI_0, bI_1, x_gb_b, x_gb_0, x_gb_1, nI_add, nI_1, s_size, s_abs, s_max, iI_mul, iI_add, iI_neg, Nat.le_refl, Nat.lt_irrefl, if_true, if_false, ite_true, ite_false, not_true, not_false_eq_true, ew_up, u1, s_10, g], by simp (disch := omega) only [x_bd_s, x_bi_s, x_lt_e, x_rd_n, x_wr_n, x_ra_n, x_dv_n, s_lt, s_le, s_eq, s_lt0, s_le0, s_0lt, s_0le, s_eq0, s_sub, s_rem, s_div, s_in, bI_0, bI_1, x_gb_b, x_gb_0, x_gb_1, nI_add, nI_1, s_size, s_abs, s_max, iI_mul, iI_add, iI_neg, Nat.le_refl, Nat.lt_irrefl, if_true, if_false, ite_true, ite_false, not_true, not_false_eq_true, md_up, hn, e6, in_6y (M := M) (show 6 * n ≤ 1000 by omega) (show b ≤ 6 * n by omega), s_10, i2], h⟩
    · have gg := x_gt (by omega) g
      have g3 : ¬ y ≤ (1 : Int32) := Int32.not_le.mpr gg.2
      refine ⟨-102, M, M, by simp (disch := omega) only [x_bd_s, x_bi_s, x_lt_e, x_rd_n, x_wr_n, x_ra_n, x_dv_n, s_lt, s_le, s_eq, s_lt0, s_le0, s_0lt, s_0le, s_eq0, s_sub, s_rem, s_div, s_in, bI_0, bI_1, x_gb_b, x_gb_0, x_gb_1, nI_add, nI_1, s_size, s_abs, s_max, iI_mul, iI_add, iI_neg, Nat.le_refl, Nat.lt_irrefl, if_true, if_false, ite_true, ite_false, not_true, not_false_eq_true, ew_up, u1, s_10, gg.1, g3], ?_, h⟩
      have i2 := in_6 (M := M) (show 1 ≤ 1000 by omega) (Or.inr g)
      rw [show nI 1 = (1 : Int32) from rfl] at i2
      simp (disch := omega) only [x_bd_s, x_bi_s, x_lt_e, x_rd_n, x_wr_n, x_ra_n, x_dv_n, s_lt, s_le, s_eq, s_lt0, s_le0, s_0lt, s_0le, s_eq0, s_sub, s_rem, s_div, s_in, bI_0, bI_1, x_gb_b, x_gb_0, x_gb_1, nI_add, nI_1, s_size, s_abs, s_max, iI_mul, iI_add, iI_neg, Nat.le_refl, Nat.lt_irrefl, if_true, if_false, ite_true, ite_false, not_true, not_false_eq_true, md_up, hn, e6, in_6y (M := M) (show 6 * n ≤ 1000 by omega) (show b ≤ 6 * n by omega), s_10, i2]
    · have i2 := in_6y (M := M) (show 1 ≤ 1000 by omega) (show sd ≤ 1 by omega)
      rw [show nI 1 = (1 : Int32) from rfl] at i2
      obtain ⟨M1, f1, f2⟩ := no_follow_ok (M := M) (k := k) (s := s) (q := q) (b := b) (n := n) ⟨hk, n1, n2, fun i hi => ⟨(n4 i hi).1, (n4 i hi).2.1, (n4 i hi).2.2.2.2.1, (n4 i hi).2.2.2.2.2.1⟩⟩ hc.2.2.1 (by omega) (by omega)
      have hN1 : mN M1 k s q := ⟨hk, by rw [f1 182 31 (by omega), n3], fun i hi => by
        rw [f1 197 i (by omega), f1 198 i (by omega)]
        exact ⟨(n4 i hi).2.2.1, (n4 i hi).2.2.2.1, (n4 i hi).2.2.2.2.1, (n4 i hi).2.2.2.2.2.1⟩⟩
      have hn1 : M1 182 0 = nI n := by rw [f1 182 0 (by omega), hn]
      obtain ⟨M2, p1, p2, p3⟩ := md_follow_ok hN1 hn1 (by omega) (show b ≤ 6 * n by omega)
      have hn2 : M2 182 0 = nI n := by rw [p3 182 0 (by omega), hn1]
      have hin : inS ((6 * n : Nat) : Int) (folN ((6 * n : Nat) : Int) s q k 0 b b) := fun p r e => fol_b k 0 b b p r (by omega) (by omega) (by omega) e
      have e9 := endOf_ok (M := M2) (sd := sd) (by omega) hn2 (by omega) hin p2
      have hI : Inv M2 := Inv_same (fun i j hk => by
        have : ¬ (i = 199 ∨ i = 200) ∧ ¬ (i = 166 ∧ (j = 3 ∨ j = 4)) := by
          unfold kp kW kG kU kN kR kH kO kP at hk
          omega
        rw [p3 i j this.1, f1 i j this.2]) h
      refine ⟨enV sd (folN ((6 * n : Nat) : Int) s q k 0 b b), M1, M2, ?_, ?_, hI⟩
      · have cs : ¬ nI sd < 0 := nI_pos (by omega)
        have cs2 : nI sd ≤ (1 : Int32) := nI_le (b := 1) (by omega) (by omega)
        have ez : (6 * (n : Int)) = ((6 * n : Nat) : Int) := by omega
        rw [ez] at f2
        cases hf : folN ((6 * n : Nat) : Int) s q k 0 b b with
        | none =>
          rw [hf] at f2
          simp (disch := omega) only [x_bd_s, x_bi_s, x_lt_e, x_rd_n, x_wr_n, x_ra_n, x_dv_n, s_lt, s_le, s_eq, s_lt0, s_le0, s_0lt, s_0le, s_eq0, s_sub, s_rem, s_div, s_in, bI_0, bI_1, x_gb_b, x_gb_0, x_gb_1, nI_add, nI_1, s_size, s_abs, s_max, iI_mul, iI_add, iI_neg, Nat.le_refl, Nat.lt_irrefl, if_true, if_false, ite_true, ite_false, not_true, not_false_eq_true, ew_up, u1, s_10, cs2, f2]
          rfl
        | some w =>
          obtain ⟨p, r⟩ := w
          rw [hf] at f2
          obtain ⟨w1, w2, w3⟩ := f2
          obtain rfl | rfl : sd = 0 ∨ sd = 1 := by omega
          · simp (disch := omega) only [x_bd_s, x_bi_s, x_lt_e, x_rd_n, x_wr_n, x_ra_n, x_dv_n, s_lt, s_le, s_eq, s_lt0, s_le0, s_0lt, s_0le, s_eq0, s_sub, s_rem, s_div, s_in, bI_0, bI_1, x_gb_b, x_gb_0, x_gb_1, nI_add, nI_1, s_size, s_abs, s_max, iI_mul, iI_add, iI_neg, Nat.le_refl, Nat.lt_irrefl, if_true, if_false, ite_true, ite_false, not_true, not_false_eq_true, ew_up, u1, s_10, cs2, w1, no_leastUp, no_mostUp, w2, w3]
            rfl
          · simp (disch := omega) only [x_bd_s, x_bi_s, x_lt_e, x_rd_n, x_wr_n, x_ra_n, x_dv_n, s_lt, s_le, s_eq, s_lt0, s_le0, s_0lt, s_0le, s_eq0, s_sub, s_rem, s_div, s_in, bI_0, bI_1, x_gb_b, x_gb_0, x_gb_1, nI_add, nI_1, s_size, s_abs, s_max, iI_mul, iI_add, iI_neg, Nat.le_refl, Nat.lt_irrefl, if_true, if_false, ite_true, ite_false, not_true, not_false_eq_true, ew_up, u1, s_10, cs2, w1, no_leastUp, no_mostUp, w2, w3, show ((1 : Nat) = 0) = False by decide]
            rfl
      · have i2' : md_in (nI sd).toInt64 (0 : Int32).toInt64 (1 : Int32).toInt64 M1 = some 1 := i2
        simp (disch := omega) only [x_bd_s, x_bi_s, x_lt_e, x_rd_n, x_wr_n, x_ra_n, x_dv_n, s_lt, s_le, s_eq, s_lt0, s_le0, s_0lt, s_0le, s_eq0, s_sub, s_rem, s_div, s_in, bI_0, bI_1, x_gb_b, x_gb_0, x_gb_1, nI_add, nI_1, s_size, s_abs, s_max, iI_mul, iI_add, iI_neg, Nat.le_refl, Nat.lt_irrefl, if_true, if_false, ite_true, ite_false, not_true, not_false_eq_true, md_up, hn1, e6, in_6y (M := M1) (show 6 * n ≤ 1000 by omega) (show b ≤ 6 * n by omega), s_10, i2', p1, e9]
theorem l_begins (h : Inv M) : ∃ r M1 M2, ew_begins M = some (r, M1) ∧ md_begins M1 = some (r, M2) ∧ Inv M2 := by
  obtain ⟨n, t, ld, ⟨hc, hn, ht, hl⟩, -, -, ⟨k, s, q, hk, n1, n2, n3, n4⟩, -⟩ := id h
  have hb := okn_b hc.1
  have e6 : (6 : Int32) * nI n = nI (6 * n) := by rw [show (6 : Int32) = nI 6 from rfl, pk_mul]
  have ez : (6 * (n : Int)) = ((6 * n : Nat) : Int) := by omega
  obtain ⟨M1, f1, f2⟩ := no_begins_ok (M := M) (k := k) (s := s) (q := q) (n := n) ⟨hk, n1, n2, fun i hi => ⟨(n4 i hi).1, (n4 i hi).2.1, (n4 i hi).2.2.2.2.1, (n4 i hi).2.2.2.2.2.1⟩⟩ hc.2.2.1 (by omega)
  rw [ez] at f2
  have key : ∀ (d b F : Nat) (M2 : e_Me) (v : Int), b + d = 6 * n + 1 → d < F → (∀ u w, ¬ (u = 199 ∨ u = 200) → M2 u w = M1 u w) → v = (match bckN ((6 * n : Nat) : Int) s q k 0 with
      | none => 0
      | some (p, r) => max 0 (min (b : Int) (r + 1) - p)) → ∃ M', md_begins_l4 F (iI v) (nI b) M2 = some (match bckN ((6 * n : Nat) : Int) s q k 0 with
      | none => 0
      | some (p, r) => iI (r - p + 1), M') ∧ ∀ u w, ¬ (u = 199 ∨ u = 200) → M' u w = M1 u w := by
    intro d
    induction d with
    | zero =>
      intro b F M2 v h1 h2 h3 h4
      obtain ⟨F, rfl⟩ : ∃ F', F = F' + 1 := ⟨F - 1, by omega⟩
      have hn2 : M2 182 0 = nI n := by rw [h3 182 0 (by omega), f1 182 0 (by omega), hn]
      have c1 : 6 * n < b := by omega
      refine ⟨M2, ?_, h3⟩
      simp (disch := omega) only [x_bd_s, x_bi_s, x_lt_e, x_rd_n, x_wr_n, x_ra_n, x_dv_n, s_lt, s_le, s_eq, s_lt0, s_le0, s_0lt, s_0le, s_eq0, s_sub, s_rem, s_div, s_in, bI_0, bI_1, x_gb_b, x_gb_0, x_gb_1, nI_add, nI_1, s_size, s_abs, s_max, iI_mul, iI_add, iI_neg, Nat.le_refl, Nat.lt_irrefl, if_true, if_false, ite_true, ite_false, not_true, not_false_eq_true, md_begins_l4, hn2, e6, c1]
      cases hf : bckN ((6 * n : Nat) : Int) s q k 0 with
      | none =>
        rw [hf] at h4
        rw [h4]
        rfl
      | some w =>
        obtain ⟨p, r⟩ := w
        rw [hf] at h4
        have := bck_b (by omega) _ _ _ _ hf
        simp only at h4 ⊢
        rw [h4]
        congr 3
        omega
    | succ d ih =>
      intro b F M2 v h1 h2 h3 h4
      obtain ⟨F, rfl⟩ : ∃ F', F = F' + 1 := ⟨F - 1, by omega⟩
      have c1 : ¬ 6 * n < b := by omega
      have hn2 : M2 182 0 = nI n := by rw [h3 182 0 (by omega), f1 182 0 (by omega), hn]
      have hN2 : mN M2 k s q := ⟨hk, by rw [h3 182 31 (by omega), f1 182 31 (by omega), n3], fun i hi => by
        rw [h3 197 i (by omega), h3 198 i (by omega), f1 197 i (by omega), f1 198 i (by omega)]
        exact ⟨(n4 i hi).2.2.1, (n4 i hi).2.2.2.1, (n4 i hi).2.2.2.2.1, (n4 i hi).2.2.2.2.2.1⟩⟩
      obtain ⟨M3, p1, p2, p3⟩ := md_follow_ok hN2 hn2 (by omega) (show b ≤ 6 * n by omega)
      have hin : inS ((6 * n : Nat) : Int) (folN ((6 * n : Nat) : Int) s q k 0 b b) := fun p r e => fol_b k 0 b b p r (by omega) (by omega) (by omega) e
      have e9 := endOf_ok (M := M3) (sd := 0) (by omega) (by rw [p3 182 0 (by omega), hn2]) (by omega) hin p2
      rw [nI_0] at e9
      have fb := fol_bck (s := s) (q := q) (show (0 : Int) ≤ ((6 * n : Nat) : Int) by omega) k 0 b b (fun j _ hj => (n4 j (by omega)).2.2.2.2.2.1) (by omega) (by omega) (by omega)
      have hs3 : ∀ u w, ¬ (u = 199 ∨ u = 200) → M3 u w = M1 u w := fun u w hu => by rw [p3 u w hu, h3 u w hu]
      cases hf : folN ((6 * n : Nat) : Int) s q k 0 b b with
      | none =>
        rw [hf] at e9 fb
        have c2 : ¬ ∃ p r, bckN ((6 * n : Nat) : Int) s q k 0 = some (p, r) ∧ (b : Int) ≤ r ∧ p ≤ (b : Int) := fb.mp rfl
        have e10 : iI v + 0 = iI v := by
          rw [show (0 : Int32) = iI 0 from rfl, iI_add]
          simp
        have e11 : (enV 0 none = -1) = True := by simp [enV]
        obtain ⟨M', k1, k2⟩ := ih (b + 1) F M3 v (by omega) (by omega) hs3 (by
          rw [h4]
          cases hf2 : bckN ((6 * n : Nat) : Int) s q k 0 with
          | none => rfl
          | some w =>
            obtain ⟨p, r⟩ := w
            have : ¬ ((b : Int) ≤ r ∧ p ≤ (b : Int)) := fun hh => c2 ⟨p, r, hf2, hh.1, hh.2⟩
            simp only
            omega)
        refine ⟨M', ?_, k2⟩
        simp (disch := omega) only [x_bd_s, x_bi_s, x_lt_e, x_rd_n, x_wr_n, x_ra_n, x_dv_n, s_lt, s_le, s_eq, s_lt0, s_le0, s_0lt, s_0le, s_eq0, s_sub, s_rem, s_div, s_in, bI_0, bI_1, x_gb_b, x_gb_0, x_gb_1, nI_add, nI_1, s_size, s_abs, s_max, iI_mul, iI_add, iI_neg, Nat.le_refl, Nat.lt_irrefl, if_true, if_false, ite_true, ite_false, not_true, not_false_eq_true, md_begins_l4, hn2, e6, c1, p1, e9, e11, e10]
        exact k1
      | some w =>
        obtain ⟨p0, r0⟩ := w
        obtain ⟨z1, z2, z3⟩ := hin p0 r0 hf
        rw [hf] at e9 fb
        have c2 : ∃ p r, bckN ((6 * n : Nat) : Int) s q k 0 = some (p, r) ∧ (b : Int) ≤ r ∧ p ≤ (b : Int) := Classical.byContradiction fun hh => by
          have := fb.mpr hh
          cases this
        obtain ⟨p, r, hf2, y1, y2⟩ := c2
        have e10 : iI v + 1 = iI (v + 1) := by rw [show (1 : Int32) = iI 1 from rfl, iI_add]
        have e11 : (enV 0 (some (p0, r0)) = -1) = False := by
          simp only [enV, show ((0 : Nat) = 1) = False by decide, if_false]
          rw [← iI_m1, iI_eq (by omega) (by omega) (by omega) (by omega)]
          exact eq_false (by omega)
        rw [hf2] at h4
        obtain ⟨M', k1, k2⟩ := ih (b + 1) F M3 (v + 1) (by omega) (by omega) hs3 (by
          rw [hf2]
          simp only at h4 ⊢
          omega)
        refine ⟨M', ?_, k2⟩
        simp (disch := omega) only [x_bd_s, x_bi_s, x_lt_e, x_rd_n, x_wr_n, x_ra_n, x_dv_n, s_lt, s_le, s_eq, s_lt0, s_le0, s_0lt, s_0le, s_eq0, s_sub, s_rem, s_div, s_in, bI_0, bI_1, x_gb_b, x_gb_0, x_gb_1, nI_add, nI_1, s_size, s_abs, s_max, iI_mul, iI_add, iI_neg, Nat.le_refl, Nat.lt_irrefl, if_true, if_false, ite_true, ite_false, not_true, not_false_eq_true, md_begins_l4, hn2, e6, c1, p1, e9, e11, e10]
        exact k1
  have := e_Fge
  obtain ⟨M2, k1, k2⟩ := key (6 * n + 1) 0 e_F M1 0 (by omega) (by omega) (fun _ _ _ => rfl) (by
    cases hf2 : bckN ((6 * n : Nat) : Int) s q k 0 with
    | none => rfl
    | some w =>
      obtain ⟨p, r⟩ := w
      have := bck_b (by omega) _ _ _ _ hf2
      simp only
      omega)
  have hI : Inv M2 := Inv_same (fun i j hk => by
    have : ¬ (i = 199 ∨ i = 200) ∧ ¬ (i = 166 ∧ (j = 3 ∨ j = 4)) := by
      unfold kp kW kG kU kN kR kH kO kP at hk
      omega
    rw [k2 i j this.1, f1 i j this.2]) h
  rw [nI_0] at k1
  exact ⟨_, M1, M2, by rw [ew_begins, f2]; rfl, k1, hI⟩
theorem l_tear (h : Inv M) : ∃ r M1 M2, ew_tear M = some (r, M1) ∧ md_tear M1 = some (r, M2) ∧ Inv M2 := by
  obtain ⟨n, t, ld, hW, ⟨w, s0, d, hG⟩, ⟨b, x, c, p, hU⟩, ⟨k, s, q, hk, n1, n2, n3, n4⟩, ⟨k2, r, v, m, hR⟩, ⟨lo, hi, hH⟩, ⟨k3, hO⟩, np, pe, we, wi, wh, se, pa, l, ln, sc, cb, hP, hQ, hwf⟩ := h
  have e1 : ew_tear M = some (nI k, e_up (e_up M 167 1 0) 169 1 0) := by
    simp (disch := omega) only [x_bd_s, x_bi_s, x_lt_e, x_rd_n, x_wr_n, x_ra_n, x_dv_n, s_lt, s_le, s_eq, s_lt0, s_le0, s_0lt, s_0le, s_eq0, s_sub, s_rem, s_div, s_in, bI_0, bI_1, x_gb_b, x_gb_0, x_gb_1, nI_add, nI_1, s_size, s_abs, s_max, iI_mul, iI_add, iI_neg, Nat.le_refl, Nat.lt_irrefl, if_true, if_false, ite_true, ite_false, not_true, not_false_eq_true, ew_tear, no_startAnew, ro_count_ok cap_40.1, n1, ro_clear_ok cap_40.1, ro_clear_ok cap_40.2]
  have e2 : md_tear (e_up (e_up M 167 1 0) 169 1 0) = some (nI k, e_up (e_up (e_up M 167 1 0) 169 1 0) 182 31 0) := by
    have : e_up (e_up M 167 1 0) 169 1 0 182 31 = nI k := by rw [e_up_o (by omega), e_up_o (by omega), n3]
    simp (disch := omega) only [x_bd_s, x_bi_s, x_lt_e, x_rd_n, x_wr_n, x_ra_n, x_dv_n, s_lt, s_le, s_eq, s_lt0, s_le0, s_0lt, s_0le, s_eq0, s_sub, s_rem, s_div, s_in, bI_0, bI_1, x_gb_b, x_gb_0, x_gb_1, nI_add, nI_1, s_size, s_abs, s_max, iI_mul, iI_add, iI_neg, Nat.le_refl, Nat.lt_irrefl, if_true, if_false, ite_true, ite_false, not_true, not_false_eq_true, md_tear, this]
  have hs : ∀ i j, ¬ ((i = 167 ∧ j = 1) ∨ (i = 169 ∧ j = 1) ∨ (i = 182 ∧ j = 31)) → e_up (e_up (e_up M 167 1 0) 169 1 0) 182 31 0 i j = M i j := fun i j hn => by simp (disch := omega) only [e_up_o]
  exact ⟨nI k, _, _, e1, e2, n, t, ld, bW_same (fun a b hk => hs a b (by unfold kW at hk; omega)) hW, ⟨w, s0, d, bG_same (fun a b hk => hs a b (by unfold kG at hk; omega)) hG⟩, ⟨b, x, c, p, bU_same (fun a b hk => hs a b (by unfold kU at hk; omega)) hU⟩, ⟨0, s, q, by omega, by simp [e_up_a, nI_0], by simp [e_up_a, nI_0], by simp [e_up_a, nI_0], fun i hi => by omega⟩, ⟨k2, r, v, m, bR_same (fun i j hk => hs i j (by unfold kR at hk; omega)) hR⟩, ⟨lo, hi, bH_same (fun i j hk => hs i j (by unfold kH at hk; omega)) hH⟩, ⟨k3, bO_same (fun i j hk => hs i j (by unfold kO at hk; omega)) hO⟩, np, pe, we, wi, wh, se, pa, l, ln, sc, cb, cP_same (fun i j h1 h2 => hs i j (by omega)) hP, mP_same (fun i j h1 => hs i j (by omega)) hQ, hwf⟩
theorem no_allows_no {x y : Int32} (g : x < 0 ∨ nI 3 ≤ x) : no_allows x y M = some 0 := by
  have h0 : ¬ x = 0 ∧ ¬ x = 1 ∧ ¬ x = 2 := by
    obtain ⟨z, rfl, z1, z2⟩ := iI_of x
    rw [iI_lt0 z1 z2, nI_iI, iI_le (by omega) (by omega) z1 z2] at g
    rw [show (2 : Int32) = iI 2 from rfl, show (1 : Int32) = iI 1 from rfl, iI_eq0 z1 z2, iI_eq z1 z2 (by omega) (by omega), iI_eq z1 z2 (by omega) (by omega)]
    omega
  simp (disch := omega) only [x_bd_s, x_bi_s, x_lt_e, x_rd_n, x_wr_n, x_ra_n, x_dv_n, s_lt, s_le, s_eq, s_lt0, s_le0, s_0lt, s_0le, s_eq0, s_sub, s_rem, s_div, s_in, bI_0, bI_1, x_gb_b, x_gb_0, x_gb_1, nI_add, nI_1, s_size, s_abs, s_max, iI_mul, iI_add, iI_neg, Nat.le_refl, Nat.lt_irrefl, if_true, if_false, ite_true, ite_false, not_true, not_false_eq_true, no_allows, h0.1, h0.2.1, h0.2.2]
theorem no_allows_ok {i : Nat} (hi : i < 3) (y : Int32) : no_allows (nI i) y M = some (bI (0 ≤ y.toInt ∧ y.toInt ≤ if i = 2 then 0 else 36)) := by
  obtain ⟨z, rfl, z1, z2⟩ := iI_of y
  rw [iI_toInt z1 z2]
  have hb : no_allows_b24 (iI z) M = some (bI (0 ≤ z ∧ z ≤ 36)) := by
    unfold no_allows_b24 bI
    simp only [iI_lt0 z1 z2, s_36, iI_lt (show (-2147483648 : Int) ≤ 36 by omega) (show (36 : Int) < 2147483648 by omega) z1 z2]
    by_cases a : z < 0 <;> by_cases b : 36 < z
    · rw [if_pos a, if_neg (by omega)]
    · rw [if_pos a, if_neg (by omega)]
    · rw [if_neg a, if_pos b, if_neg (by omega)]
    · rw [if_neg a, if_neg b, if_pos (by omega)]
  obtain rfl | rfl | rfl : i = 0 ∨ i = 1 ∨ i = 2 := by omega
  · simp only [no_allows, show nI 0 = (0 : Int32) from rfl, q_02, q_00, if_false, if_true, hb, show ((0 : Nat) = 2) = False by decide]
  · simp only [no_allows, show nI 1 = (1 : Int32) from rfl, q_12, q_10, q_11, if_false, if_true, hb, show ((1 : Nat) = 2) = False by decide]
  · simp only [no_allows, show nI 2 = (2 : Int32) from rfl, q_22, if_true]
    unfold bI
    simp only [iI_eq0 z1 z2]
    by_cases a : z = 0
    · rw [if_pos a, if_pos (by omega)]
    · rw [if_neg a, if_neg (by omega)]
theorem md_note_no {x y : Int32} (g : x < 0 ∨ nI 3 ≤ x) : md_note x y M = some (-102, M) := by
  have e := in_no (M := M) (show 3 < 2147483648 by omega) g
  rw [show nI 3 - 1 = (2 : Int32) from rfl] at e
  simp (disch := omega) only [x_bd_s, x_bi_s, x_lt_e, x_rd_n, x_wr_n, x_ra_n, x_dv_n, s_lt, s_le, s_eq, s_lt0, s_le0, s_0lt, s_0le, s_eq0, s_sub, s_rem, s_div, s_in, bI_0, bI_1, x_gb_b, x_gb_0, x_gb_1, nI_add, nI_1, s_size, s_abs, s_max, iI_mul, iI_add, iI_neg, Nat.le_refl, Nat.lt_irrefl, if_true, if_false, ite_true, ite_false, not_true, not_false_eq_true, md_note, e]
theorem md_note_in {i : Nat} (hi : i < 3) (y : Int32) : md_note (nI i) y M = if (0 ≤ y.toInt ∧ y.toInt ≤ if i = 2 then 0 else 36) then (if M 182 31 = 40 then some (-104, M) else x_wr M 197 40 (M 182 31) (nI i) fun M2 =>
      x_wr M2 198 40 (M2 182 31) y fun M3 =>
      x_lt (e_up M3 182 31 ((M3 182 31) + (1 : Int32))) fun M4 =>
      some ((M4 182 31), M4)) else some (-102, M) := by
  have e := in_yes (M := M) hi (show 3 < 2147483648 by omega)
  rw [show nI 3 - 1 = (2 : Int32) from rfl] at e
  have e2 := in_gen (M := M) (x := y) (a := 0) (b := 0) (by omega) (by omega) (by omega) (by omega)
  have e3 := in_gen (M := M) (x := y) (a := 0) (b := 36) (by omega) (by omega) (by omega) (by omega)
  rw [← s_36] at e3
  rw [show iI 0 = (0 : Int32) from rfl] at e2 e3
  have last : ∀ (c : Prop) [Decidable c] (u v w : Int64), md_in w v u M = some (bI c) → md_note_b27 (nI i) y u v w M = if c then (if M 182 31 = 40 then some (-104, M) else x_wr M 197 40 (M 182 31) (nI i) fun M2 =>
      x_wr M2 198 40 (M2 182 31) y fun M3 =>
      x_lt (e_up M3 182 31 ((M3 182 31) + (1 : Int32))) fun M4 =>
      some ((M4 182 31), M4)) else some (-102, M) := by
    intro c _ u v w hh
    simp only [md_note_b27, hh, x_bd_s, bI_0]
    by_cases hc : c
    · simp only [hc, not_true, if_true, if_false]
    · simp only [hc, not_false_eq_true, if_true, if_false]
  obtain rfl | rfl | rfl : i = 0 ∨ i = 1 ∨ i = 2 := by omega
  · have l := last _ _ _ _ e3
    simp only [show nI 0 = (0 : Int32) from rfl] at e l ⊢
    simp only [md_note, e, x_bd_s, s_10, if_false, q_02, l, show ((0 : Nat) = 2) = False by decide]
  · have l := last _ _ _ _ e3
    simp only [show nI 1 = (1 : Int32) from rfl] at e l ⊢
    simp only [md_note, e, x_bd_s, s_10, if_false, q_12, l, show ((1 : Nat) = 2) = False by decide]
  · have l := last _ _ _ _ e2
    simp only [show nI 2 = (2 : Int32) from rfl] at e l ⊢
    simp only [md_note, e, x_bd_s, s_10, if_false, if_true, q_22, l]
theorem l_note (h : Inv M) (x y : Int32) : ∃ r M1 M2, ew_note x y M = some (r, M1) ∧ md_note x y M1 = some (r, M2) ∧ Inv M2 := by
  rcases pk_ix x (n := 3) (by omega) with g | g | ⟨i, hi, rfl⟩
  · exact ⟨-102, M, M, by simp (disch := omega) only [x_bd_s, x_bi_s, x_lt_e, x_rd_n, x_wr_n, x_ra_n, x_dv_n, s_lt, s_le, s_eq, s_lt0, s_le0, s_0lt, s_0le, s_eq0, s_sub, s_rem, s_div, s_in, bI_0, bI_1, x_gb_b, x_gb_0, x_gb_1, nI_add, nI_1, s_size, s_abs, s_max, iI_mul, iI_add, iI_neg, Nat.le_refl, Nat.lt_irrefl, if_true, if_false, ite_true, ite_false, not_true, not_false_eq_true, ew_note, no_allows_no (Or.inl g)], md_note_no (Or.inl g), h⟩
  · exact ⟨-102, M, M, by simp (disch := omega) only [x_bd_s, x_bi_s, x_lt_e, x_rd_n, x_wr_n, x_ra_n, x_dv_n, s_lt, s_le, s_eq, s_lt0, s_le0, s_0lt, s_0le, s_eq0, s_sub, s_rem, s_div, s_in, bI_0, bI_1, x_gb_b, x_gb_0, x_gb_1, nI_add, nI_1, s_size, s_abs, s_max, iI_mul, iI_add, iI_neg, Nat.le_refl, Nat.lt_irrefl, if_true, if_false, ite_true, ite_false, not_true, not_false_eq_true, ew_note, no_allows_no (Or.inr g)], md_note_no (Or.inr g), h⟩
  · by_cases hv : 0 ≤ y.toInt ∧ y.toInt ≤ if i = 2 then 0 else 36
    · obtain ⟨n, t, ld, hW, ⟨w, s0, d, hG⟩, ⟨b, x, c, p, hU⟩, ⟨k, s, q, hk, n1, n2, n3, n4⟩, ⟨k2, r, v, m, hR⟩, ⟨lo, hi', hH⟩, ⟨k3, hO⟩, np, pe, we, wi, wh, se, pa, l, ln, sc, cb, hP, hQ, hwf⟩ := id h
      by_cases hf : k = 40
      · subst hf
        refine ⟨-104, M, M, ?_, ?_, h⟩
        · simp (disch := omega) only [x_bd_s, x_bi_s, x_lt_e, x_rd_n, x_wr_n, x_ra_n, x_dv_n, s_lt, s_le, s_eq, s_lt0, s_le0, s_0lt, s_0le, s_eq0, s_sub, s_rem, s_div, s_in, bI_0, bI_1, x_gb_b, x_gb_0, x_gb_1, nI_add, nI_1, s_size, s_abs, s_max, iI_mul, iI_add, iI_neg, Nat.le_refl, Nat.lt_irrefl, if_true, if_false, ite_true, ite_false, not_true, not_false_eq_true, ew_note, no_allows_ok hi, hv, and_self, no_write, ro_hasRoom_ok cap_40.1 n1]
        · rw [md_note_in hi, if_pos hv, n3]
          rfl
      · have hk2 : k < 40 := by omega
        obtain ⟨z, rfl, z1, z2⟩ := iI_of y
        rw [iI_toInt z1 z2] at hv
        have hz : iI z = nI z.toNat := nI_of_iI (by omega)
        have e1 : ew_note (nI i) (iI z) M = some (nI (k + 1), e_up (e_up (e_up (e_up M 168 k (nI i)) 167 1 (nI (k + 1))) 170 k (iI z)) 169 1 (nI (k + 1))) := by
          have a1 : e_up (e_up M 168 k (nI i)) 167 1 (nI (k + 1)) 169 1 = nI k := by rw [e_up_o (by omega), e_up_o (by omega), n2]
          have a2 : e_up (e_up (e_up (e_up M 168 k (nI i)) 167 1 (nI (k + 1))) 170 k (iI z)) 169 1 (nI (k + 1)) 167 1 = nI (k + 1) := by rw [e_up_o (by omega), e_up_o (by omega), e_up_e]
          have hv2 := hv
          rw [← iI_toInt z1 z2] at hv2
          simp (disch := omega) only [x_bd_s, x_bi_s, x_lt_e, x_rd_n, x_wr_n, x_ra_n, x_dv_n, s_lt, s_le, s_eq, s_lt0, s_le0, s_0lt, s_0le, s_eq0, s_sub, s_rem, s_div, s_in, bI_0, bI_1, x_gb_b, x_gb_0, x_gb_1, nI_add, nI_1, s_size, s_abs, s_max, iI_mul, iI_add, iI_neg, Nat.le_refl, Nat.lt_irrefl, if_true, if_false, ite_true, ite_false, not_true, not_false_eq_true, ew_note, no_allows_ok hi, hv2, and_self, no_write, ro_hasRoom_ok cap_40.1 n1, hk2, ro_append_ok cap_40.1 n1, ro_append_ok cap_40.2 a1, ro_count_ok cap_40.1, a2]
        have a3 : e_up (e_up (e_up (e_up M 168 k (nI i)) 167 1 (nI (k + 1))) 170 k (iI z)) 169 1 (nI (k + 1)) 182 31 = nI k := by simp (disch := omega) only [e_up_o, n3]
        generalize hM1 : e_up (e_up (e_up (e_up M 168 k (nI i)) 167 1 (nI (k + 1))) 170 k (iI z)) 169 1 (nI (k + 1)) = M1 at e1 a3
        have e2 : md_note (nI i) (iI z) M1 = some (nI (k + 1), e_up (e_up (e_up M1 197 k (nI i)) 198 k (iI z)) 182 31 (nI (k + 1))) := by
          have a4 : e_up M1 197 k (nI i) 182 31 = nI k := by rw [e_up_o (by omega), a3]
          have a5 : e_up (e_up M1 197 k (nI i)) 198 k (iI z) 182 31 = nI k := by rw [e_up_o (by omega), a4]
          rw [md_note_in hi, iI_toInt z1 z2, if_pos hv, a3, if_neg (by rw [show (40 : Int32) = nI 40 from rfl, s_eq (by omega) (by omega)]; omega)]
          simp (disch := omega) only [x_bd_s, x_bi_s, x_lt_e, x_rd_n, x_wr_n, x_ra_n, x_dv_n, s_lt, s_le, s_eq, s_lt0, s_le0, s_0lt, s_0le, s_eq0, s_sub, s_rem, s_div, s_in, bI_0, bI_1, x_gb_b, x_gb_0, x_gb_1, nI_add, nI_1, s_size, s_abs, s_max, iI_mul, iI_add, iI_neg, Nat.le_refl, Nat.lt_irrefl, if_true, if_false, ite_true, ite_false, not_true, not_false_eq_true, a4, a5, e_up_e]
        have hs : ∀ a b, ¬ (a = 167 ∨ a = 168 ∨ a = 169 ∨ a = 170 ∨ (a = 182 ∧ b = 31) ∨ a = 197 ∨ a = 198) → e_up (e_up (e_up M1 197 k (nI i)) 198 k (iI z)) 182 31 (nI (k + 1)) a b = M a b := fun a b hn => by
          rw [← hM1]
          simp (disch := omega) only [e_up_o]
        refine ⟨nI (k + 1), M1, _, e1, e2, n, t, ld, bW_same (fun a b hk => hs a b (by unfold kW at hk; omega)) hW, ⟨w, s0, d, bG_same (fun a b hk => hs a b (by unfold kG at hk; omega)) hG⟩, ⟨b, x, c, p, bU_same (fun a b hk => hs a b (by unfold kU at hk; omega)) hU⟩, ⟨k + 1, fun j => if j = k then i else s j, fun j => if j = k then z.toNat else q j, by omega, ?_, ?_, ?_, fun j hj => ?_⟩, ⟨k2, r, v, m, bR_same (fun i j hk => hs i j (by unfold kR at hk; omega)) hR⟩, ⟨lo, hi', bH_same (fun i j hk => hs i j (by unfold kH at hk; omega)) hH⟩, ⟨k3, bO_same (fun i j hk => hs i j (by unfold kO at hk; omega)) hO⟩, np, pe, we, wi, wh, se, pa, l, ln, sc, cb, cP_same (fun i j h1 h2 => hs i j (by omega)) hP, mP_same (fun i j h1 => hs i j (by omega)) hQ, hwf⟩
        · rw [← hM1]
          simp (disch := omega) only [e_up_o, e_up_e]
        · rw [← hM1]
          simp (disch := omega) only [e_up_o, e_up_e]
        · rw [e_up_e]
        · rw [← hM1]
          by_cases e : j = k
          · subst e
            simp only [if_true]
            refine ⟨by simp (disch := omega) only [e_up_o, e_up_e], by simp (disch := omega) only [e_up_o, e_up_e]; exact hz, by simp (disch := omega) only [e_up_o, e_up_e], by simp (disch := omega) only [e_up_o, e_up_e]; exact hz, by omega, ?_, fun e2 => ?_⟩
            · split at hv <;> omega
            · rw [if_pos e2] at hv
              omega
          · obtain ⟨b1, b2, b3, b4, b5⟩ := n4 j (by omega)
            simp only [e, if_false]
            exact ⟨by simp (disch := omega) only [e_up_o, b1], by simp (disch := omega) only [e_up_o, b2], by simp (disch := omega) only [e_up_o, b3], by simp (disch := omega) only [e_up_o, b4], b5⟩
    · refine ⟨-102, M, M, by simp (disch := omega) only [x_bd_s, x_bi_s, x_lt_e, x_rd_n, x_wr_n, x_ra_n, x_dv_n, s_lt, s_le, s_eq, s_lt0, s_le0, s_0lt, s_0le, s_eq0, s_sub, s_rem, s_div, s_in, bI_0, bI_1, x_gb_b, x_gb_0, x_gb_1, nI_add, nI_1, s_size, s_abs, s_max, iI_mul, iI_add, iI_neg, Nat.le_refl, Nat.lt_irrefl, if_true, if_false, ite_true, ite_false, not_true, not_false_eq_true, ew_note, no_allows_ok hi, hv], ?_, h⟩
      rw [md_note_in hi, if_neg hv]
end
