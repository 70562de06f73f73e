/-! guess, read, forget, fit, breaks, agree -/
def agN (f : Nat → Bool) : Nat → Nat
  | 0 => 0
  | k + 1 => if f k = true then agN f k + 1 else agN f k
theorem agN_le (f : Nat → Bool) : ∀ k, agN f k ≤ k
  | 0 => Nat.le_refl _
  | k + 1 => by
    have := agN_le f k
    simp only [agN]
    split <;> omega
theorem ixI_m1 {o : Option Nat} (h : ∀ i, o = some i → i < 100) : (ixI o = -1) = (o = none) := by
  cases o with
  | none => simp [ixI]
  | some i =>
    have := h i rfl
    simp only [ixI]
    refine propext ⟨fun e => ?_, fun e => by cases e⟩
    rw [nI_iI, ← iI_m1, iI_eq (by omega) (by omega) (by omega) (by omega)] at e
    omega
theorem nrI_lt {n : Nat} {r : Nat → Nat} {v m : Nat → Int32} : ∀ (d i : Nat) (lo hi : Nat → Int32) (j : Nat), (nrI n r v m d i lo hi).1 = some j → j < i + d := by
  intro d
  induction d with
  | zero => intro i lo hi j h; cases h
  | succ d ih =>
    intro i lo hi j h
    simp only [nrI] at h
    split at h
    · have := ih _ _ _ _ h
      omega
    · cases h
      omega
section
variable {M : e_Me}
/-- both narrow alike -/
theorem both_narrow (h : Inv M) : ∃ (n : Nat) (o : Option Nat) (lo hi : Nat → Int32) (M1 M2 : e_Me), okn n ∧ M 182 0 = nI n ∧ (∃ t ld, cW M n t ld ∧ cW M1 n t ld ∧ ∀ c, c < 30 → M2 185 c = nI (ld c)) ∧ (∀ i, o = some i → i < 100) ∧
    re_narrow M = some (ixI o, M1) ∧ (∀ j, j < n → M1 174 j = lo j ∧ M1 175 j = hi j) ∧ (∀ u, u ≠ 174 → u ≠ 175 → M1 u = M u) ∧
    md_narrowAll M1 = some (ixI o, M2) ∧ (∀ j, j < n → M2 206 j = lo j ∧ M2 207 j = hi j) ∧ (∀ u, u ≠ 206 → u ≠ 207 → M2 u = M1 u) ∧ Inv M1 ∧ Inv M2 := by
  obtain ⟨n, t, ld, ⟨hc, hn, ht, hl⟩, -, -, -, ⟨k, r, v, m, k0, k1, k2, k3, k4, k5⟩, ⟨lo, hi, hH⟩, -⟩ := id h
  have hb := okn_b hc.1
  obtain ⟨M1, p1, p2, p3⟩ := narrow_ok (M := M) (n := n) (k := k) (r := r) (v := fun i => iI (v i)) (m := fun i => nI (m i)) hc ⟨k0, k1, k2, k3, fun i hi => ⟨(k5 i hi).1, (k5 i hi).2.1, (k5 i hi).2.2.1, (k5 i hi).2.2.2.2.2.2.1⟩⟩
  have hR : mR M1 n k r (fun i => iI (v i)) (fun i => nI (m i)) := ⟨k0, by rw [p3 182 (by omega) (by omega), k4], fun i hi => by
    rw [p3 203 (by omega) (by omega), p3 204 (by omega) (by omega), p3 205 (by omega) (by omega)]
    exact ⟨(k5 i hi).2.2.2.1, (k5 i hi).2.2.2.2.1, (k5 i hi).2.2.2.2.2.1, (k5 i hi).2.2.2.2.2.2.1⟩⟩
  obtain ⟨M2, q1, q2, q3⟩ := md_all_ok (M := M1) hc.1 (by rw [p3 182 (by omega) (by omega), hn]) hR
  obtain ⟨c1, c2⟩ := nrI_cong (n := n) (r := r) (v := fun i => iI (v i)) (m := fun i => nI (m i)) k 0 (M 172) (M 173) (M1 201) (M1 202) (fun j hj => by
    rw [p3 201 (by omega) (by omega), p3 202 (by omega) (by omega)]
    have := hH j (by omega)
    rw [this.1, this.2.1, this.2.2.1, this.2.2.2.1]
    exact ⟨rfl, rfl⟩)
  have hs2 : ∀ u, u ≠ 206 → u ≠ 207 → M2 u = M1 u := q3
  have hW1 : cW M1 n t ld := cW_frame hc (p3 3 (by omega) (by omega)) (p3 4 (by omega) (by omega)) (p3 5 (by omega) (by omega)) (p3 6 (by omega) (by omega))
  have hI1 : Inv M1 := Inv_same (fun i j hk => by
    have : i ≠ 174 ∧ i ≠ 175 := by
      unfold kp kW kG kU kN kR kH kO kP at hk
      omega
    rw [p3 i this.1 this.2]) h
  have hI2 : Inv M2 := Inv_same (fun i j hk => by
    have : i ≠ 206 ∧ i ≠ 207 := by
      unfold kp kW kG kU kN kR kH kO kP at hk
      omega
    rw [q3 i this.1 this.2]) hI1
  refine ⟨n, _, _, _, M1, M2, hc.1, hn, ⟨t, ld, hc, hW1, fun c hc' => ?_⟩, fun i hi => ?_, p1, p2, p3, ?_, fun j hj => ?_, hs2, hI1, hI2⟩
  · rw [q3 185 (by omega) (by omega), p3 185 (by omega) (by omega), hl c hc']
  · have := nrI_lt _ _ _ _ _ hi
    omega
  · rw [q1, c1]
  · rw [(q2 j hj).1, (q2 j hj).2, (c2 j hj).1, (c2 j hj).2]
    exact ⟨rfl, rfl⟩
theorem l_breaks (h : Inv M) : ∃ r M1 M2, ew_breaks M = some (r, M1) ∧ md_breaks M1 = some (r, M2) ∧ Inv M2 := by
  obtain ⟨n, o, lo, hi, M1, M2, -, -, -, -, p1, -, -, q1, -, -, -, hI⟩ := both_narrow h
  exact ⟨ixI o, M1, M2, by simp (disch := omega) only [x_bd_s, x_bi_s, x_lt_e, x_rd_n, x_wr_n, x_ra_n, x_dv_n, s_lt, s_le, s_eq, s_lt0, s_le0, s_0lt, s_0le, s_eq0, s_sub, s_rem, s_div, s_in, bI_0, bI_1, x_gb_b, x_gb_0, x_gb_1, nI_add, nI_1, s_size, s_abs, s_max, iI_mul, iI_add, iI_neg, Nat.le_refl, Nat.lt_irrefl, if_true, if_false, ite_true, ite_false, not_true, not_false_eq_true, ew_breaks, p1], by simp (disch := omega) only [x_bd_s, x_bi_s, x_lt_e, x_rd_n, x_wr_n, x_ra_n, x_dv_n, s_lt, s_le, s_eq, s_lt0, s_le0, s_0lt, s_0le, s_eq0, s_sub, s_rem, s_div, s_in, bI_0, bI_1, x_gb_b, x_gb_0, x_gb_1, nI_add, nI_1, s_size, s_abs, s_max, iI_mul, iI_add, iI_neg, Nat.le_refl, Nat.lt_irrefl, if_true, if_false, ite_true, ite_false, not_true, not_false_eq_true, md_breaks, q1], hI⟩
theorem l_fit (h : Inv M) (x y : Int32) : ∃ r M1 M2, ew_fit x y M = some (r, M1) ∧ md_fit x y M1 = some (r, M2) ∧ Inv M2 := by
  obtain ⟨n, o, lo, hi, M1, M2, hk, hn, ⟨t, ld, hc, hc1, hl2⟩, ho, p1, p2, p3, q1, q2, q3, hI1, hI2⟩ := both_narrow h
  have hb := okn_b hk
  have hb2 : n < 2147483648 := by omega
  have hn1 : M1 182 0 = nI n := by rw [p3 182 (by omega) (by omega), hn]
  rcases pk_ix x (n := n) (by omega) with g | g | ⟨c, hcn, rfl⟩
  · exact ⟨-101, M, M, by simp (disch := omega) only [x_bd_s, x_bi_s, x_lt_e, x_rd_n, x_wr_n, x_ra_n, x_dv_n, s_lt, s_le, s_eq, s_lt0, s_le0, s_0lt, s_0le, s_eq0, s_sub, s_rem, s_div, s_in, bI_0, bI_1, x_gb_b, x_gb_0, x_gb_1, nI_add, nI_1, s_size, s_abs, s_max, iI_mul, iI_add, iI_neg, Nat.le_refl, Nat.lt_irrefl, if_true, if_false, ite_true, ite_false, not_true, not_false_eq_true, ew_fit, wh_has_no hc (Or.inl g)], by simp (disch := omega) only [x_bd_s, x_bi_s, x_lt_e, x_rd_n, x_wr_n, x_ra_n, x_dv_n, s_lt, s_le, s_eq, s_lt0, s_le0, s_0lt, s_0le, s_eq0, s_sub, s_rem, s_div, s_in, bI_0, bI_1, x_gb_b, x_gb_0, x_gb_1, nI_add, nI_1, s_size, s_abs, s_max, iI_mul, iI_add, iI_neg, Nat.le_refl, Nat.lt_irrefl, if_true, if_false, ite_true, ite_false, not_true, not_false_eq_true, md_fit, isCabin_no hn hb2 (Or.inl g)], h⟩
  · exact ⟨-101, M, M, by simp (disch := omega) only [x_bd_s, x_bi_s, x_lt_e, x_rd_n, x_wr_n, x_ra_n, x_dv_n, s_lt, s_le, s_eq, s_lt0, s_le0, s_0lt, s_0le, s_eq0, s_sub, s_rem, s_div, s_in, bI_0, bI_1, x_gb_b, x_gb_0, x_gb_1, nI_add, nI_1, s_size, s_abs, s_max, iI_mul, iI_add, iI_neg, Nat.le_refl, Nat.lt_irrefl, if_true, if_false, ite_true, ite_false, not_true, not_false_eq_true, ew_fit, wh_has_no hc (Or.inr g)], by simp (disch := omega) only [x_bd_s, x_bi_s, x_lt_e, x_rd_n, x_wr_n, x_ra_n, x_dv_n, s_lt, s_le, s_eq, s_lt0, s_le0, s_0lt, s_0le, s_eq0, s_sub, s_rem, s_div, s_in, bI_0, bI_1, x_gb_b, x_gb_0, x_gb_1, nI_add, nI_1, s_size, s_abs, s_max, iI_mul, iI_add, iI_neg, Nat.le_refl, Nat.lt_irrefl, if_true, if_false, ite_true, ite_false, not_true, not_false_eq_true, md_fit, isCabin_no hn hb2 (Or.inr g)], h⟩
  · rcases pk_ix y (n := 1 + 1) (by omega) with g | g | ⟨sd, hsd, rfl⟩
    · have i2 := in_6 (M := M) (show 1 ≤ 1000 by omega) (Or.inl g)
      rw [show nI 1 = (1 : Int32) from rfl] at i2
      exact ⟨-102, M, M, by simp (disch := omega) only [x_bd_s, x_bi_s, x_lt_e, x_rd_n, x_wr_n, x_ra_n, x_dv_n, s_lt, s_le, s_eq, s_lt0, s_le0, s_0lt, s_0le, s_eq0, s_sub, s_rem, s_div, s_in, bI_0, bI_1, x_gb_b, x_gb_0, x_gb_1, nI_add, nI_1, s_size, s_abs, s_max, iI_mul, iI_add, iI_neg, Nat.le_refl, Nat.lt_irrefl, if_true, if_false, ite_true, ite_false, not_true, not_false_eq_true, ew_fit, wh_has_ok hc, hcn, g], by simp (disch := omega) only [x_bd_s, x_bi_s, x_lt_e, x_rd_n, x_wr_n, x_ra_n, x_dv_n, s_lt, s_le, s_eq, s_lt0, s_le0, s_0lt, s_0le, s_eq0, s_sub, s_rem, s_div, s_in, bI_0, bI_1, x_gb_b, x_gb_0, x_gb_1, nI_add, nI_1, s_size, s_abs, s_max, iI_mul, iI_add, iI_neg, Nat.le_refl, Nat.lt_irrefl, if_true, if_false, ite_true, ite_false, not_true, not_false_eq_true, md_fit, isCabin_yes hn hb2 hcn, s_10, i2], h⟩
    · have gg := x_gt (by omega) g
      have g3 : ¬ y ≤ (1 : Int32) := Int32.not_le.mpr gg.2
      have i2 := in_6 (M := M) (show 1 ≤ 1000 by omega) (Or.inr g)
      rw [show nI 1 = (1 : Int32) from rfl] at i2
      exact ⟨-102, M, M, by simp (disch := omega) only [x_bd_s, x_bi_s, x_lt_e, x_rd_n, x_wr_n, x_ra_n, x_dv_n, s_lt, s_le, s_eq, s_lt0, s_le0, s_0lt, s_0le, s_eq0, s_sub, s_rem, s_div, s_in, bI_0, bI_1, x_gb_b, x_gb_0, x_gb_1, nI_add, nI_1, s_size, s_abs, s_max, iI_mul, iI_add, iI_neg, Nat.le_refl, Nat.lt_irrefl, if_true, if_false, ite_true, ite_false, not_true, not_false_eq_true, ew_fit, wh_has_ok hc, hcn, gg.1, g3], by simp (disch := omega) only [x_bd_s, x_bi_s, x_lt_e, x_rd_n, x_wr_n, x_ra_n, x_dv_n, s_lt, s_le, s_eq, s_lt0, s_le0, s_0lt, s_0le, s_eq0, s_sub, s_rem, s_div, s_in, bI_0, bI_1, x_gb_b, x_gb_0, x_gb_1, nI_add, nI_1, s_size, s_abs, s_max, iI_mul, iI_add, iI_neg, Nat.le_refl, Nat.lt_irrefl, if_true, if_false, ite_true, ite_false, not_true, not_false_eq_true, md_fit, isCabin_yes hn hb2 hcn, s_10, i2], h⟩
    · have i2 := in_6y (M := M1) (show 1 ≤ 1000 by omega) (show sd ≤ 1 by omega)
      rw [show nI 1 = (1 : Int32) from rfl] at i2
      have cs2 : nI sd ≤ (1 : Int32) := nI_le (b := 1) (by omega) (by omega)
      by_cases g : o = none
      · have e1 : (ixI o = -1) = True := by rw [ixI_m1 ho]; exact eq_true g
        obtain rfl | rfl : sd = 0 ∨ sd = 1 := by omega
        · exact ⟨lo c, M1, M2, by simp (disch := omega) only [x_bd_s, x_bi_s, x_lt_e, x_rd_n, x_wr_n, x_ra_n, x_dv_n, s_lt, s_le, s_eq, s_lt0, s_le0, s_0lt, s_0le, s_eq0, s_sub, s_rem, s_div, s_in, bI_0, bI_1, x_gb_b, x_gb_0, x_gb_1, nI_add, nI_1, s_size, s_abs, s_max, iI_mul, iI_add, iI_neg, Nat.le_refl, Nat.lt_irrefl, if_true, if_false, ite_true, ite_false, not_true, not_false_eq_true, ew_fit, wh_has_ok hc, hcn, cs2, p1, e1, lowOf_ok (M := M1) (show c < 30 by omega), (p2 c hcn).1], by simp (disch := omega) only [x_bd_s, x_bi_s, x_lt_e, x_rd_n, x_wr_n, x_ra_n, x_dv_n, s_lt, s_le, s_eq, s_lt0, s_le0, s_0lt, s_0le, s_eq0, s_sub, s_rem, s_div, s_in, bI_0, bI_1, x_gb_b, x_gb_0, x_gb_1, nI_add, nI_1, s_size, s_abs, s_max, iI_mul, iI_add, iI_neg, Nat.le_refl, Nat.lt_irrefl, if_true, if_false, ite_true, ite_false, not_true, not_false_eq_true, md_fit, isCabin_yes hn1 hb2 hcn, s_10, i2, q1, e1, (q2 c hcn).1], hI2⟩
        · exact ⟨hi c, M1, M2, by simp (disch := omega) only [x_bd_s, x_bi_s, x_lt_e, x_rd_n, x_wr_n, x_ra_n, x_dv_n, s_lt, s_le, s_eq, s_lt0, s_le0, s_0lt, s_0le, s_eq0, s_sub, s_rem, s_div, s_in, bI_0, bI_1, x_gb_b, x_gb_0, x_gb_1, nI_add, nI_1, s_size, s_abs, s_max, iI_mul, iI_add, iI_neg, Nat.le_refl, Nat.lt_irrefl, if_true, if_false, ite_true, ite_false, not_true, not_false_eq_true, ew_fit, wh_has_ok hc, hcn, cs2, p1, e1, highOf_ok (M := M1) (show c < 30 by omega), (p2 c hcn).2, show ((1 : Nat) = 0) = False by decide], by simp (disch := omega) only [x_bd_s, x_bi_s, x_lt_e, x_rd_n, x_wr_n, x_ra_n, x_dv_n, s_lt, s_le, s_eq, s_lt0, s_le0, s_0lt, s_0le, s_eq0, s_sub, s_rem, s_div, s_in, bI_0, bI_1, x_gb_b, x_gb_0, x_gb_1, nI_add, nI_1, s_size, s_abs, s_max, iI_mul, iI_add, iI_neg, Nat.le_refl, Nat.lt_irrefl, if_true, if_false, ite_true, ite_false, not_true, not_false_eq_true, md_fit, isCabin_yes hn1 hb2 hcn, s_10, i2, q1, e1, (q2 c hcn).2, show ((1 : Nat) = 0) = False by decide], hI2⟩
      · have e1 : (ixI o = -1) = False := by rw [ixI_m1 ho]; exact eq_false g
        exact ⟨-1, M1, M2, by simp (disch := omega) only [x_bd_s, x_bi_s, x_lt_e, x_rd_n, x_wr_n, x_ra_n, x_dv_n, s_lt, s_le, s_eq, s_lt0, s_le0, s_0lt, s_0le, s_eq0, s_sub, s_rem, s_div, s_in, bI_0, bI_1, x_gb_b, x_gb_0, x_gb_1, nI_add, nI_1, s_size, s_abs, s_max, iI_mul, iI_add, iI_neg, Nat.le_refl, Nat.lt_irrefl, if_true, if_false, ite_true, ite_false, not_true, not_false_eq_true, ew_fit, wh_has_ok hc, hcn, cs2, p1, e1], by simp (disch := omega) only [x_bd_s, x_bi_s, x_lt_e, x_rd_n, x_wr_n, x_ra_n, x_dv_n, s_lt, s_le, s_eq, s_lt0, s_le0, s_0lt, s_0le, s_eq0, s_sub, s_rem, s_div, s_in, bI_0, bI_1, x_gb_b, x_gb_0, x_gb_1, nI_add, nI_1, s_size, s_abs, s_max, iI_mul, iI_add, iI_neg, Nat.le_refl, Nat.lt_irrefl, if_true, if_false, ite_true, ite_false, not_true, not_false_eq_true, md_fit, isCabin_yes hn1 hb2 hcn, s_10, i2, q1, e1], hI2⟩
theorem l_agree (h : Inv M) : ∃ r M1 M2, ew_agree M = some (r, M1) ∧ md_agree M1 = some (r, M2) ∧ Inv M2 := by
  obtain ⟨n, o, lo, hi, M1, M2, hk, hn, ⟨t, ld, hc, hc1, hl2⟩, ho, p1, p2, p3, q1, q2, q3, hI1, hI2⟩ := both_narrow h
  have hb := okn_b hk
  have hn2 : M2 182 0 = nI n := by rw [q3 182 (by omega) (by omega), p3 182 (by omega) (by omega), hn]
  by_cases g : o = none
  · have e1 : (ixI o = -1) = True := by rw [ixI_m1 ho]; exact eq_true g
    obtain ⟨f, hf⟩ : ∃ f : Nat → Bool, ∀ c, (f c = true ↔ lo c ≤ nI (ld c) ∧ nI (ld c) ≤ hi c) := ⟨fun c => decide (lo c ≤ nI (ld c) ∧ nI (ld c) ≤ hi c), fun c => decide_eq_true_iff⟩
    have key1 : ∀ (d c F : Nat), c + d = n → d < F → re_countAgreeing_l4 M1 F (nI (agN f c)) (nI c) = some (nI (agN f n)) := by
      intro d
      induction d with
      | zero =>
        intro c F h1 h2
        obtain ⟨F, rfl⟩ : ∃ F', F = F' + 1 := ⟨F - 1, by omega⟩
        have e : c = n := by omega
        subst e
        simp (disch := omega) only [x_bd_s, x_bi_s, x_lt_e, x_rd_n, x_wr_n, x_ra_n, x_dv_n, s_lt, s_le, s_eq, s_lt0, s_le0, s_0lt, s_0le, s_eq0, s_sub, s_rem, s_div, s_in, bI_0, bI_1, x_gb_b, x_gb_0, x_gb_1, nI_add, nI_1, s_size, s_abs, s_max, iI_mul, iI_add, iI_neg, Nat.le_refl, Nat.lt_irrefl, if_true, if_false, ite_true, ite_false, not_true, not_false_eq_true, re_countAgreeing_l4, wh_count, hc1.2.2.1]
      | succ d ih =>
        intro c F h1 h2
        obtain ⟨F, rfl⟩ : ∃ F', F = F' + 1 := ⟨F - 1, by omega⟩
        have c1 : ¬ n ≤ c := by omega
        have hcn : c < n := by omega
        have i1 := ih (c + 1) F (by omega) (by omega)
        simp (disch := omega) only [x_bd_s, x_bi_s, x_lt_e, x_rd_n, x_wr_n, x_ra_n, x_dv_n, s_lt, s_le, s_eq, s_lt0, s_le0, s_0lt, s_0le, s_eq0, s_sub, s_rem, s_div, s_in, bI_0, bI_1, x_gb_b, x_gb_0, x_gb_1, nI_add, nI_1, s_size, s_abs, s_max, iI_mul, iI_add, iI_neg, Nat.le_refl, Nat.lt_irrefl, if_true, if_false, ite_true, ite_false, not_true, not_false_eq_true, re_countAgreeing_l4, wh_count, hc1.2.2.1, c1, wh_loadOf_ok hc1 hcn, lowOf_ok (M := M1) (show c < 30 by omega), highOf_ok (M := M1) (show c < 30 by omega), (p2 c hcn).1, (p2 c hcn).2]
        simp only [agN] at i1
        by_cases g1 : nI (ld c) < lo c
        · rw [if_pos g1]
          rw [if_neg (fun q => Int32.not_le.mpr g1 ((hf c).mp q).1)] at i1
          exact i1
        · rw [if_neg g1]
          by_cases g2 : hi c < nI (ld c)
          · rw [if_pos g2]
            rw [if_neg (fun q => Int32.not_le.mpr g2 ((hf c).mp q).2)] at i1
            exact i1
          · rw [if_neg g2]
            rw [if_pos ((hf c).mpr ⟨Int32.not_lt.mp g1, Int32.not_lt.mp g2⟩)] at i1
            exact i1
    have key2 : ∀ (d c F : Nat), c + d = n → d < F → md_agree_l14 M2 F (nI (agN f c)) (nI c) = some (nI (agN f n), M2) := by
      intro d
      induction d with
      | zero =>
        intro c F h1 h2
        obtain ⟨F, rfl⟩ : ∃ F', F = F' + 1 := ⟨F - 1, by omega⟩
        have e : c = n := by omega
        subst e
        simp (disch := omega) only [x_bd_s, x_bi_s, x_lt_e, x_rd_n, x_wr_n, x_ra_n, x_dv_n, s_lt, s_le, s_eq, s_lt0, s_le0, s_0lt, s_0le, s_eq0, s_sub, s_rem, s_div, s_in, bI_0, bI_1, x_gb_b, x_gb_0, x_gb_1, nI_add, nI_1, s_size, s_abs, s_max, iI_mul, iI_add, iI_neg, Nat.le_refl, Nat.lt_irrefl, if_true, if_false, ite_true, ite_false, not_true, not_false_eq_true, md_agree_l14, hn2]
      | succ d ih =>
        intro c F h1 h2
        obtain ⟨F, rfl⟩ : ∃ F', F = F' + 1 := ⟨F - 1, by omega⟩
        have c1 : ¬ n ≤ c := by omega
        have hcn : c < n := by omega
        have i1 := ih (c + 1) F (by omega) (by omega)
        have z0 : ∀ x : Int32, x + 0 = x := fun x => Int32.add_zero x
        simp (disch := omega) only [x_bd_s, x_bi_s, x_lt_e, x_rd_n, x_wr_n, x_ra_n, x_dv_n, s_lt, s_le, s_eq, s_lt0, s_le0, s_0lt, s_0le, s_eq0, s_sub, s_rem, s_div, s_in, bI_0, bI_1, x_gb_b, x_gb_0, x_gb_1, nI_add, nI_1, s_size, s_abs, s_max, iI_mul, iI_add, iI_neg, Nat.le_refl, Nat.lt_irrefl, if_true, if_false, ite_true, ite_false, not_true, not_false_eq_true, md_agree_l14, hn2, c1, hl2 c (by omega), (q2 c hcn).1, (q2 c hcn).2, z0]
        simp only [agN] at i1
        by_cases g1 : lo c ≤ nI (ld c) ∧ nI (ld c) ≤ hi c
        · rw [if_neg (not_not_intro g1)]
          rw [if_pos ((hf c).mpr g1)] at i1
          exact i1
        · rw [if_pos g1]
          rw [if_neg (fun q => g1 ((hf c).mp q))] at i1
          exact i1
    have := e_Fge
    have k1 := key1 n 0 e_F (by omega) (by omega)
    have k2 := key2 n 0 e_F (by omega) (by omega)
    simp only [agN, nI_0] at k1 k2
    exact ⟨nI (agN f n), M1, M2, by simp (disch := omega) only [x_bd_s, x_bi_s, x_lt_e, x_rd_n, x_wr_n, x_ra_n, x_dv_n, s_lt, s_le, s_eq, s_lt0, s_le0, s_0lt, s_0le, s_eq0, s_sub, s_rem, s_div, s_in, bI_0, bI_1, x_gb_b, x_gb_0, x_gb_1, nI_add, nI_1, s_size, s_abs, s_max, iI_mul, iI_add, iI_neg, Nat.le_refl, Nat.lt_irrefl, if_true, if_false, ite_true, ite_false, not_true, not_false_eq_true, ew_agree, p1, e1, re_countAgreeing, k1], by simp (disch := omega) only [x_bd_s, x_bi_s, x_lt_e, x_rd_n, x_wr_n, x_ra_n, x_dv_n, s_lt, s_le, s_eq, s_lt0, s_le0, s_0lt, s_0le, s_eq0, s_sub, s_rem, s_div, s_in, bI_0, bI_1, x_gb_b, x_gb_0, x_gb_1, nI_add, nI_1, s_size, s_abs, s_max, iI_mul, iI_add, iI_neg, Nat.le_refl, Nat.lt_irrefl, if_true, if_false, ite_true, ite_false, not_true, not_false_eq_true, md_agree, q1, e1, k2], hI2⟩
  · have e1 : (ixI o = -1) = False := by rw [ixI_m1 ho]; exact eq_false g
    exact ⟨-1, M1, M2, by simp (disch := omega) only [x_bd_s, x_bi_s, x_lt_e, x_rd_n, x_wr_n, x_ra_n, x_dv_n, s_lt, s_le, s_eq, s_lt0, s_le0, s_0lt, s_0le, s_eq0, s_sub, s_rem, s_div, s_in, bI_0, bI_1, x_gb_b, x_gb_0, x_gb_1, nI_add, nI_1, s_size, s_abs, s_max, iI_mul, iI_add, iI_neg, Nat.le_refl, Nat.lt_irrefl, if_true, if_false, ite_true, ite_false, not_true, not_false_eq_true, ew_agree, p1, e1], by simp (disch := omega) only [x_bd_s, x_bi_s, x_lt_e, x_rd_n, x_wr_n, x_ra_n, x_dv_n, s_lt, s_le, s_eq, s_lt0, s_le0, s_0lt, s_0le, s_eq0, s_sub, s_rem, s_div, s_in, bI_0, bI_1, x_gb_b, x_gb_0, x_gb_1, nI_add, nI_1, s_size, s_abs, s_max, iI_mul, iI_add, iI_neg, Nat.le_refl, Nat.lt_irrefl, if_true, if_false, ite_true, ite_false, not_true, not_false_eq_true, md_agree, q1, e1], hI2⟩
theorem l_forget (h : Inv M) : ∃ r M1 M2, ew_forget M = some (r, M1) ∧ md_forget M1 = some (r, M2) ∧ Inv M2 := by
  obtain ⟨n, t, ld, hW, ⟨w, s0, d, hG⟩, ⟨b, x, c, p, hU⟩, ⟨kn, s, q, hN⟩, ⟨k, r, v, m, k0, k1, k2, k3, k4, k5⟩, ⟨lo, hi, hH⟩, ⟨k9, hO⟩, np, pe, we, wi, wh, se, pa, l, ln, sc, cb, hP, hQ, hwf⟩ := h
  have e1 : ew_forget M = some (nI k, e_up (e_up (e_up M 176 1 0) 178 1 0) 180 1 0) := by
    simp (disch := omega) only [x_bd_s, x_bi_s, x_lt_e, x_rd_n, x_wr_n, x_ra_n, x_dv_n, s_lt, s_le, s_eq, s_lt0, s_le0, s_0lt, s_0le, s_eq0, s_sub, s_rem, s_div, s_in, bI_0, bI_1, x_gb_b, x_gb_0, x_gb_1, nI_add, nI_1, s_size, s_abs, s_max, iI_mul, iI_add, iI_neg, Nat.le_refl, Nat.lt_irrefl, if_true, if_false, ite_true, ite_false, not_true, not_false_eq_true, ew_forget, re_dropAll, ro_count_ok cap_12.1, k1, ro_clear_ok cap_12.1, ro_clear_ok cap_12.2.1, ro_clear_ok cap_12.2.2]
  have a1 : e_up (e_up (e_up M 176 1 0) 178 1 0) 180 1 0 182 38 = nI k := by simp (disch := omega) only [e_up_o, k4]
  have e2 : md_forget (e_up (e_up (e_up M 176 1 0) 178 1 0) 180 1 0) = some (nI k, e_up (e_up (e_up (e_up M 176 1 0) 178 1 0) 180 1 0) 182 38 0) := by
    simp (disch := omega) only [x_bd_s, x_bi_s, x_lt_e, x_rd_n, x_wr_n, x_ra_n, x_dv_n, s_lt, s_le, s_eq, s_lt0, s_le0, s_0lt, s_0le, s_eq0, s_sub, s_rem, s_div, s_in, bI_0, bI_1, x_gb_b, x_gb_0, x_gb_1, nI_add, nI_1, s_size, s_abs, s_max, iI_mul, iI_add, iI_neg, Nat.le_refl, Nat.lt_irrefl, if_true, if_false, ite_true, ite_false, not_true, not_false_eq_true, md_forget, a1]
  have hs : ∀ i j, ¬ (i = 176 ∨ i = 178 ∨ i = 180 ∨ (i = 182 ∧ j = 38)) → e_up (e_up (e_up (e_up M 176 1 0) 178 1 0) 180 1 0) 182 38 0 i j = M i j := fun i j hn => by simp (disch := omega) only [e_up_o]
  exact ⟨nI k, _, _, e1, e2, n, t, ld, bW_same (fun a b hk => hs a b (by unfold kW at hk; omega)) hW, ⟨w, s0, d, bG_same (fun a b hk => hs a b (by unfold kG at hk; omega)) hG⟩, ⟨b, x, c, p, bU_same (fun a b hk => hs a b (by unfold kU at hk; omega)) hU⟩, ⟨kn, s, q, bN_same (fun i j hk => hs i j (by unfold kN at hk; omega)) hN⟩, ⟨0, r, v, m, by omega, by simp [e_up_a, nI_0], by simp [e_up_a, nI_0], by simp [e_up_a, nI_0], by simp [e_up_a, nI_0], fun i hi => by omega⟩, ⟨lo, hi, bH_same (fun i j hk => hs i j (by unfold kH at hk; omega)) hH⟩, ⟨k9, bO_same (fun i j hk => hs i j (by unfold kO at hk; omega)) hO⟩, np, pe, we, wi, wh, se, pa, l, ln, sc, cb, cP_same (fun i j h1 h2 => hs i j (by omega)) hP, mP_same (fun i j h1 => hs i j (by omega)) hQ, hwf⟩
theorem s_900 : (900 : Int32) = iI 900 := by decide
theorem l_guess (h : Inv M) (x y z : Int32) : ∃ r M1 M2, ew_guess x y z M = some (r, M1) ∧ md_guess x y z M1 = some (r, M2) ∧ Inv M2 := by
  obtain ⟨n, t, ld, ⟨hc, hn, ht, hl⟩, ⟨w, s0, d, hG⟩, ⟨b, u, cc, p, hU⟩, ⟨kn, s, q, hN⟩, ⟨k, r, v, m, hR⟩, ⟨lo, hi, hH⟩, ⟨k9, hO⟩, np, pe, we, wi, wh, se, pa, l, ln, sc, cb, hP, hQ, hwf⟩ := id h
  have hb := okn_b hc.1
  have hb2 : n < 2147483648 := by omega
  rcases pk_ix x (n := n) (by omega) with g | g | ⟨c, hcn, rfl⟩
  · exact ⟨-101, M, M, by simp (disch := omega) only [x_bd_s, x_bi_s, x_lt_e, x_rd_n, x_wr_n, x_ra_n, x_dv_n, s_lt, s_le, s_eq, s_lt0, s_le0, s_0lt, s_0le, s_eq0, s_sub, s_rem, s_div, s_in, bI_0, bI_1, x_gb_b, x_gb_0, x_gb_1, nI_add, nI_1, s_size, s_abs, s_max, iI_mul, iI_add, iI_neg, Nat.le_refl, Nat.lt_irrefl, if_true, if_false, ite_true, ite_false, not_true, not_false_eq_true, ew_guess, wh_has_no hc (Or.inl g)], by simp (disch := omega) only [x_bd_s, x_bi_s, x_lt_e, x_rd_n, x_wr_n, x_ra_n, x_dv_n, s_lt, s_le, s_eq, s_lt0, s_le0, s_0lt, s_0le, s_eq0, s_sub, s_rem, s_div, s_in, bI_0, bI_1, x_gb_b, x_gb_0, x_gb_1, nI_add, nI_1, s_size, s_abs, s_max, iI_mul, iI_add, iI_neg, Nat.le_refl, Nat.lt_irrefl, if_true, if_false, ite_true, ite_false, not_true, not_false_eq_true, md_guess, isCabin_no hn hb2 (Or.inl g)], h⟩
  · exact ⟨-101, M, M, by simp (disch := omega) only [x_bd_s, x_bi_s, x_lt_e, x_rd_n, x_wr_n, x_ra_n, x_dv_n, s_lt, s_le, s_eq, s_lt0, s_le0, s_0lt, s_0le, s_eq0, s_sub, s_rem, s_div, s_in, bI_0, bI_1, x_gb_b, x_gb_0, x_gb_1, nI_add, nI_1, s_size, s_abs, s_max, iI_mul, iI_add, iI_neg, Nat.le_refl, Nat.lt_irrefl, if_true, if_false, ite_true, ite_false, not_true, not_false_eq_true, ew_guess, wh_has_no hc (Or.inr g)], by simp (disch := omega) only [x_bd_s, x_bi_s, x_lt_e, x_rd_n, x_wr_n, x_ra_n, x_dv_n, s_lt, s_le, s_eq, s_lt0, s_le0, s_0lt, s_0le, s_eq0, s_sub, s_rem, s_div, s_in, bI_0, bI_1, x_gb_b, x_gb_0, x_gb_1, nI_add, nI_1, s_size, s_abs, s_max, iI_mul, iI_add, iI_neg, Nat.le_refl, Nat.lt_irrefl, if_true, if_false, ite_true, ite_false, not_true, not_false_eq_true, md_guess, isCabin_no hn hb2 (Or.inr g)], h⟩
  · obtain ⟨a, rfl, a1, a2⟩ := iI_of y
    obtain ⟨e, rfl, e1, e2⟩ := iI_of z
    have i1 := in_gen (M := M) (x := iI a) (a := 0) (b := 900) (by omega) (by omega) (by omega) (by omega)
    have i2 := in_gen (M := M) (x := iI e) (a := a) (b := 900) a1 a2 (by omega) (by omega)
    rw [iI_toInt a1 a2, ← s_900, show iI 0 = (0 : Int32) from rfl] at i1
    rw [iI_toInt e1 e2, ← s_900] at i2
    by_cases hv : 0 ≤ a ∧ a ≤ e ∧ e ≤ 900
    · rw [bI_t (by omega)] at i1 i2
      have c1 : ¬ a < 0 := by omega
      have c2 : ¬ e < a := by omega
      have c3 : e ≤ 900 := by omega
      have x1 : ew_guess (nI c) (iI a) (iI e) M = some (1, e_up (e_up M 172 c (iI a)) 173 c (iI e)) := by
        simp (disch := omega) only [x_bd_s, x_bi_s, x_lt_e, x_rd_n, x_wr_n, x_ra_n, x_dv_n, s_lt, s_le, s_eq, s_lt0, s_le0, s_0lt, s_0le, s_eq0, s_sub, s_rem, s_div, s_in, bI_0, bI_1, x_gb_b, x_gb_0, x_gb_1, nI_add, nI_1, s_size, s_abs, s_max, iI_mul, iI_add, iI_neg, Nat.le_refl, Nat.lt_irrefl, if_true, if_false, ite_true, ite_false, not_true, not_false_eq_true, ew_guess, wh_has_ok hc, hcn, re_suppose, holds_ok (M := M) (show c < 30 by omega), s_10, iI_lt0, iI_lt, iI_le, s_900, c1, c2, c3]
      have hn1 : e_up (e_up M 172 c (iI a)) 173 c (iI e) 182 0 = nI n := by rw [e_up_o (by omega), e_up_o (by omega), hn]
      have i1' : md_in (iI a).toInt64 (0 : Int32).toInt64 (900 : Int32).toInt64 (e_up (e_up M 172 c (iI a)) 173 c (iI e)) = some 1 := i1
      have i2' : md_in (iI e).toInt64 (iI a).toInt64 (900 : Int32).toInt64 (e_up (e_up M 172 c (iI a)) 173 c (iI e)) = some 1 := i2
      have x2 : md_guess (nI c) (iI a) (iI e) (e_up (e_up M 172 c (iI a)) 173 c (iI e)) = some (1, e_up (e_up (e_up (e_up M 172 c (iI a)) 173 c (iI e)) 201 c (iI a)) 202 c (iI e)) := by
        simp only [md_guess, isCabin_yes hn1 hb2 hcn, x_bd_s, s_10, if_false, i1', i2']
        simp (disch := omega) only [x_bd_s, x_bi_s, x_lt_e, x_rd_n, x_wr_n, x_ra_n, x_dv_n, s_lt, s_le, s_eq, s_lt0, s_le0, s_0lt, s_0le, s_eq0, s_sub, s_rem, s_div, s_in, bI_0, bI_1, x_gb_b, x_gb_0, x_gb_1, nI_add, nI_1, s_size, s_abs, s_max, iI_mul, iI_add, iI_neg, Nat.le_refl, Nat.lt_irrefl, if_true, if_false, ite_true, ite_false, not_true, not_false_eq_true, ]
      have hs : ∀ i j, ¬ (i = 172 ∨ i = 173 ∨ i = 201 ∨ i = 202) → e_up (e_up (e_up (e_up M 172 c (iI a)) 173 c (iI e)) 201 c (iI a)) 202 c (iI e) i j = M i j := fun i j hn => by simp (disch := omega) only [e_up_o]
      refine ⟨1, _, _, x1, x2, n, t, ld, bW_same (fun a b hk => hs a b (by unfold kW at hk; omega)) ⟨hc, hn, ht, hl⟩, ⟨w, s0, d, bG_same (fun a b hk => hs a b (by unfold kG at hk; omega)) hG⟩, ⟨b, u, cc, p, bU_same (fun a b hk => hs a b (by unfold kU at hk; omega)) hU⟩, ⟨kn, s, q, bN_same (fun i j hk => hs i j (by unfold kN at hk; omega)) hN⟩, ⟨k, r, v, m, bR_same (fun i j hk => hs i j (by unfold kR at hk; omega)) hR⟩, ⟨fun j => if j = c then a.toNat else lo j, fun j => if j = c then e.toNat else hi j, fun j hj => ?_⟩, ⟨k9, bO_same (fun i j hk => hs i j (by unfold kO at hk; omega)) hO⟩, np, pe, we, wi, wh, se, pa, l, ln, sc, cb, cP_same (fun i j h1 h2 => hs i j (by omega)) hP, mP_same (fun i j h1 => hs i j (by omega)) hQ, hwf⟩
      by_cases ej : j = c
      · subst ej
        simp only [if_true]
        have ya : iI a = nI a.toNat := nI_of_iI (by omega)
        have ye : iI e = nI e.toNat := nI_of_iI (by omega)
        exact ⟨by simp (disch := omega) only [e_up_o, e_up_e]; exact ya, by simp (disch := omega) only [e_up_o, e_up_e]; exact ye, by simp (disch := omega) only [e_up_o, e_up_e]; exact ya, by simp (disch := omega) only [e_up_o, e_up_e]; exact ye, by omega, by omega⟩
      · obtain ⟨z1, z2, z3, z4, z5⟩ := hH j hj
        simp only [ej, if_false]
        exact ⟨by simp (disch := omega) only [e_up_o, z1], by simp (disch := omega) only [e_up_o, z2], by simp (disch := omega) only [e_up_o, z3], by simp (disch := omega) only [e_up_o, z4], z5⟩
    · refine ⟨-102, M, M, ?_, ?_, h⟩
      · simp (disch := omega) only [x_bd_s, x_bi_s, x_lt_e, x_rd_n, x_wr_n, x_ra_n, x_dv_n, s_lt, s_le, s_eq, s_lt0, s_le0, s_0lt, s_0le, s_eq0, s_sub, s_rem, s_div, s_in, bI_0, bI_1, x_gb_b, x_gb_0, x_gb_1, nI_add, nI_1, s_size, s_abs, s_max, iI_mul, iI_add, iI_neg, Nat.le_refl, Nat.lt_irrefl, if_true, if_false, ite_true, ite_false, not_true, not_false_eq_true, ew_guess, wh_has_ok hc, hcn, re_suppose, holds_ok (M := M) (show c < 30 by omega), s_10, iI_lt0, iI_lt, iI_le, s_900]
        by_cases c1 : a < 0
        · simp (disch := omega) only [x_bd_s, x_bi_s, x_lt_e, x_rd_n, x_wr_n, x_ra_n, x_dv_n, s_lt, s_le, s_eq, s_lt0, s_le0, s_0lt, s_0le, s_eq0, s_sub, s_rem, s_div, s_in, bI_0, bI_1, x_gb_b, x_gb_0, x_gb_1, nI_add, nI_1, s_size, s_abs, s_max, iI_mul, iI_add, iI_neg, Nat.le_refl, Nat.lt_irrefl, if_true, if_false, ite_true, ite_false, not_true, not_false_eq_true, c1]
        · by_cases c2 : e < a
          · simp (disch := omega) only [x_bd_s, x_bi_s, x_lt_e, x_rd_n, x_wr_n, x_ra_n, x_dv_n, s_lt, s_le, s_eq, s_lt0, s_le0, s_0lt, s_0le, s_eq0, s_sub, s_rem, s_div, s_in, bI_0, bI_1, x_gb_b, x_gb_0, x_gb_1, nI_add, nI_1, s_size, s_abs, s_max, iI_mul, iI_add, iI_neg, Nat.le_refl, Nat.lt_irrefl, if_true, if_false, ite_true, ite_false, not_true, not_false_eq_true, c1, c2]
          · have c3 : ¬ e ≤ 900 := by omega
            simp (disch := omega) only [x_bd_s, x_bi_s, x_lt_e, x_rd_n, x_wr_n, x_ra_n, x_dv_n, s_lt, s_le, s_eq, s_lt0, s_le0, s_0lt, s_0le, s_eq0, s_sub, s_rem, s_div, s_in, bI_0, bI_1, x_gb_b, x_gb_0, x_gb_1, nI_add, nI_1, s_size, s_abs, s_max, iI_mul, iI_add, iI_neg, Nat.le_refl, Nat.lt_irrefl, if_true, if_false, ite_true, ite_false, not_true, not_false_eq_true, c1, c2, c3]
      · simp only [md_guess, isCabin_yes hn hb2 hcn, x_bd_s, s_10, if_false, i1, i2, bI_0]
        by_cases c1 : 0 ≤ a ∧ a ≤ 900
        · have c2 : ¬ (a ≤ e ∧ e ≤ 900) := by omega
          simp only [c1, c2, and_self, not_true, not_false_eq_true, if_true, if_false]
        · simp only [c1, not_false_eq_true, if_true]
theorem s_2m : (2000000 : Int32) = iI 2000000 := by decide
theorem s_m2m : (-2000000 : Int32) = iI (-2000000) := by decide
theorem s_100k : (100000 : Int32) = iI 100000 := by decide
theorem l_read (h : Inv M) (x y z : Int32) : ∃ r M1 M2, ew_read x y z M = some (r, M1) ∧ md_read x y z M1 = some (r, M2) ∧ Inv M2 := by
  obtain ⟨n, t, ld, ⟨hc, hn, ht, hl⟩, ⟨w, s0, d, hG⟩, ⟨b, u, cc, p, hU⟩, ⟨kn, s, q, hN⟩, ⟨k, r, v, m, k0, k1, k2, k3, k4, k5⟩, ⟨lo, hi, hH⟩, ⟨k9, hO⟩, np, pe, we, wi, wh, se, pa, l, ln, sc, cb, hP, hQ, hwf⟩ := id h
  have hb := okn_b hc.1
  have hb2 : n < 2147483648 := by omega
  rcases pk_ix x (n := n) (by omega) with g | g | ⟨c, hcn, rfl⟩
  · exact ⟨-101, M, M, by simp (disch := omega) only [x_bd_s, x_bi_s, x_lt_e, x_rd_n, x_wr_n, x_ra_n, x_dv_n, s_lt, s_le, s_eq, s_lt0, s_le0, s_0lt, s_0le, s_eq0, s_sub, s_rem, s_div, s_in, bI_0, bI_1, x_gb_b, x_gb_0, x_gb_1, nI_add, nI_1, s_size, s_abs, s_max, iI_mul, iI_add, iI_neg, Nat.le_refl, Nat.lt_irrefl, if_true, if_false, ite_true, ite_false, not_true, not_false_eq_true, ew_read, wh_has_no hc (Or.inl g)], by simp (disch := omega) only [x_bd_s, x_bi_s, x_lt_e, x_rd_n, x_wr_n, x_ra_n, x_dv_n, s_lt, s_le, s_eq, s_lt0, s_le0, s_0lt, s_0le, s_eq0, s_sub, s_rem, s_div, s_in, bI_0, bI_1, x_gb_b, x_gb_0, x_gb_1, nI_add, nI_1, s_size, s_abs, s_max, iI_mul, iI_add, iI_neg, Nat.le_refl, Nat.lt_irrefl, if_true, if_false, ite_true, ite_false, not_true, not_false_eq_true, md_read, hn, in_no (M := M) hb2 (Or.inl g)], h⟩
  · exact ⟨-101, M, M, by simp (disch := omega) only [x_bd_s, x_bi_s, x_lt_e, x_rd_n, x_wr_n, x_ra_n, x_dv_n, s_lt, s_le, s_eq, s_lt0, s_le0, s_0lt, s_0le, s_eq0, s_sub, s_rem, s_div, s_in, bI_0, bI_1, x_gb_b, x_gb_0, x_gb_1, nI_add, nI_1, s_size, s_abs, s_max, iI_mul, iI_add, iI_neg, Nat.le_refl, Nat.lt_irrefl, if_true, if_false, ite_true, ite_false, not_true, not_false_eq_true, ew_read, wh_has_no hc (Or.inr g)], by simp (disch := omega) only [x_bd_s, x_bi_s, x_lt_e, x_rd_n, x_wr_n, x_ra_n, x_dv_n, s_lt, s_le, s_eq, s_lt0, s_le0, s_0lt, s_0le, s_eq0, s_sub, s_rem, s_div, s_in, bI_0, bI_1, x_gb_b, x_gb_0, x_gb_1, nI_add, nI_1, s_size, s_abs, s_max, iI_mul, iI_add, iI_neg, Nat.le_refl, Nat.lt_irrefl, if_true, if_false, ite_true, ite_false, not_true, not_false_eq_true, md_read, hn, in_no (M := M) hb2 (Or.inr g)], h⟩
  · obtain ⟨a, rfl, a1, a2⟩ := iI_of y
    obtain ⟨e, rfl, e1, e2⟩ := iI_of z
    have i0 := in_yes (M := M) hcn hb2
    have i1 := in_gen (M := M) (x := iI a) (a := -2000000) (b := 2000000) (by omega) (by omega) (by omega) (by omega)
    have i2 := in_gen (M := M) (x := iI e) (a := 0) (b := 100000) (by omega) (by omega) (by omega) (by omega)
    rw [iI_toInt a1 a2, ← s_2m, ← s_m2m] at i1
    rw [iI_toInt e1 e2, ← s_100k, show iI 0 = (0 : Int32) from rfl] at i2
    have al : re_allows (iI a) (iI e) M = some (bI ((-2000000 ≤ a ∧ a ≤ 2000000) ∧ 0 ≤ e ∧ e ≤ 100000)) := by
      unfold re_allows bI
      rw [s_m2m, s_2m, s_100k]
      simp (disch := omega) only [iI_lt, iI_lt0]
      by_cases c1 : a < -2000000
      · rw [if_pos c1, if_neg (by omega)]
      · by_cases c2 : 2000000 < a
        · rw [if_neg c1, if_pos c2, if_neg (by omega)]
        · by_cases c3 : e < 0
          · rw [if_neg c1, if_neg c2, if_pos c3, if_neg (by omega)]
          · by_cases c4 : 100000 < e
            · rw [if_neg c1, if_neg c2, if_neg c3, if_pos c4, if_neg (by omega)]
            · rw [if_neg c1, if_neg c2, if_neg c3, if_neg c4, if_pos (by omega)]
    by_cases hv : (-2000000 ≤ a ∧ a ≤ 2000000) ∧ 0 ≤ e ∧ e ≤ 100000
    · rw [bI_t hv.1] at i1
      rw [bI_t hv.2] at i2
      rw [bI_t hv] at al
      by_cases hf : k = 12
      · subst hf
        refine ⟨-104, M, M, by simp (disch := omega) only [x_bd_s, x_bi_s, x_lt_e, x_rd_n, x_wr_n, x_ra_n, x_dv_n, s_lt, s_le, s_eq, s_lt0, s_le0, s_0lt, s_0le, s_eq0, s_sub, s_rem, s_div, s_in, bI_0, bI_1, x_gb_b, x_gb_0, x_gb_1, nI_add, nI_1, s_size, s_abs, s_max, iI_mul, iI_add, iI_neg, Nat.le_refl, Nat.lt_irrefl, if_true, if_false, ite_true, ite_false, not_true, not_false_eq_true, ew_read, wh_has_ok hc, hcn, al, s_10, re_write, ro_hasRoom_ok cap_12.1 k1], ?_, h⟩
        have e12 : (nI 12 = (12 : Int32)) = True := eq_true rfl
        simp only [md_read, hn, i0, x_bd_s, s_10, if_false, i1, i2, k4, e12, if_true]
      · have hk2 : k < 12 := by omega
        have a3 : e_up (e_up M 177 k (nI c)) 176 1 (nI (k + 1)) 178 1 = nI k := by simp (disch := omega) only [e_up_o, k2]
        have a4 : e_up (e_up (e_up (e_up M 177 k (nI c)) 176 1 (nI (k + 1))) 179 k (iI a)) 178 1 (nI (k + 1)) 180 1 = nI k := by simp (disch := omega) only [e_up_o, k3]
        have a5 : e_up (e_up (e_up (e_up (e_up (e_up M 177 k (nI c)) 176 1 (nI (k + 1))) 179 k (iI a)) 178 1 (nI (k + 1))) 181 k (iI e)) 180 1 (nI (k + 1)) 176 1 = nI (k + 1) := by simp (disch := omega) only [e_up_o, e_up_e]
        have x1 : ew_read (nI c) (iI a) (iI e) M = some (nI (k + 1), e_up (e_up (e_up (e_up (e_up (e_up M 177 k (nI c)) 176 1 (nI (k + 1))) 179 k (iI a)) 178 1 (nI (k + 1))) 181 k (iI e)) 180 1 (nI (k + 1))) := by
          simp (disch := omega) only [x_bd_s, x_bi_s, x_lt_e, x_rd_n, x_wr_n, x_ra_n, x_dv_n, s_lt, s_le, s_eq, s_lt0, s_le0, s_0lt, s_0le, s_eq0, s_sub, s_rem, s_div, s_in, bI_0, bI_1, x_gb_b, x_gb_0, x_gb_1, nI_add, nI_1, s_size, s_abs, s_max, iI_mul, iI_add, iI_neg, Nat.le_refl, Nat.lt_irrefl, if_true, if_false, ite_true, ite_false, not_true, not_false_eq_true, ew_read, wh_has_ok hc, hcn, al, s_10, re_write, ro_hasRoom_ok cap_12.1 k1, hk2, ro_append_ok cap_12.1 k1, ro_append_ok cap_12.2.1 a3, ro_append_ok cap_12.2.2 a4, ro_count_ok cap_12.1, a5]
        have a6 : e_up (e_up (e_up (e_up (e_up (e_up M 177 k (nI c)) 176 1 (nI (k + 1))) 179 k (iI a)) 178 1 (nI (k + 1))) 181 k (iI e)) 180 1 (nI (k + 1)) 182 38 = nI k := by simp (disch := omega) only [e_up_o, k4]
        have a7 : e_up (e_up (e_up (e_up (e_up (e_up M 177 k (nI c)) 176 1 (nI (k + 1))) 179 k (iI a)) 178 1 (nI (k + 1))) 181 k (iI e)) 180 1 (nI (k + 1)) 182 0 = nI n := by simp (disch := omega) only [e_up_o, hn]
        generalize hM1 : e_up (e_up (e_up (e_up (e_up (e_up M 177 k (nI c)) 176 1 (nI (k + 1))) 179 k (iI a)) 178 1 (nI (k + 1))) 181 k (iI e)) 180 1 (nI (k + 1)) = M1 at x1 a6 a7
        have b1 : e_up M1 203 k (nI c) 182 38 = nI k := by rw [e_up_o (by omega), a6]
        have b2 : e_up (e_up M1 203 k (nI c)) 204 k (iI a) 182 38 = nI k := by rw [e_up_o (by omega), b1]
        have b3 : e_up (e_up (e_up M1 203 k (nI c)) 204 k (iI a)) 205 k (iI e) 182 38 = nI k := by rw [e_up_o (by omega), b2]
        have i0' : md_in (nI c).toInt64 (0 : Int32).toInt64 (nI n - 1).toInt64 M1 = some 1 := i0
        have i1' : md_in (iI a).toInt64 (-2000000 : Int32).toInt64 (2000000 : Int32).toInt64 M1 = some 1 := i1
        have i2' : md_in (iI e).toInt64 (0 : Int32).toInt64 (100000 : Int32).toInt64 M1 = some 1 := i2
        have e12 : (nI k = (12 : Int32)) = False := by
          rw [show (12 : Int32) = nI 12 from rfl, s_eq (by omega) (by omega)]
          exact eq_false hf
        have x2 : md_read (nI c) (iI a) (iI e) M1 = some (nI (k + 1), e_up (e_up (e_up (e_up M1 203 k (nI c)) 204 k (iI a)) 205 k (iI e)) 182 38 (nI (k + 1))) := by
          simp only [md_read, a7, i0', x_bd_s, s_10, if_false, i1', i2', a6, e12]
          simp (disch := omega) only [x_bd_s, x_bi_s, x_lt_e, x_rd_n, x_wr_n, x_ra_n, x_dv_n, s_lt, s_le, s_eq, s_lt0, s_le0, s_0lt, s_0le, s_eq0, s_sub, s_rem, s_div, s_in, bI_0, bI_1, x_gb_b, x_gb_0, x_gb_1, nI_add, nI_1, s_size, s_abs, s_max, iI_mul, iI_add, iI_neg, Nat.le_refl, Nat.lt_irrefl, if_true, if_false, ite_true, ite_false, not_true, not_false_eq_true, b1, b2, b3, e_up_e]
        have hs : ∀ i j, ¬ ((176 ≤ i ∧ i ≤ 181) ∨ i = 203 ∨ i = 204 ∨ i = 205 ∨ (i = 182 ∧ j = 38)) → e_up (e_up (e_up (e_up M1 203 k (nI c)) 204 k (iI a)) 205 k (iI e)) 182 38 (nI (k + 1)) i j = M i j := fun i j hn => by
          rw [← hM1]
          simp (disch := omega) only [e_up_o]
        refine ⟨nI (k + 1), M1, _, x1, x2, n, t, ld, bW_same (fun a b hk => hs a b (by unfold kW at hk; omega)) ⟨hc, hn, ht, hl⟩, ⟨w, s0, d, bG_same (fun a b hk => hs a b (by unfold kG at hk; omega)) hG⟩, ⟨b, u, cc, p, bU_same (fun a b hk => hs a b (by unfold kU at hk; omega)) hU⟩, ⟨kn, s, q, bN_same (fun i j hk => hs i j (by unfold kN at hk; omega)) hN⟩, ⟨k + 1, fun j => if j = k then c else r j, fun j => if j = k then a else v j, fun j => if j = k then e.toNat else m j, by omega, ?_, ?_, ?_, ?_, fun j hj => ?_⟩, ⟨lo, hi, bH_same (fun i j hk => hs i j (by unfold kH at hk; omega)) hH⟩, ⟨k9, bO_same (fun i j hk => hs i j (by unfold kO at hk; omega)) hO⟩, np, pe, we, wi, wh, se, pa, l, ln, sc, cb, cP_same (fun i j h1 h2 => hs i j (by omega)) hP, mP_same (fun i j h1 => hs i j (by omega)) hQ, hwf⟩
        · rw [← hM1]
          simp (disch := omega) only [e_up_o, e_up_e]
        · rw [← hM1]
          simp (disch := omega) only [e_up_o, e_up_e]
        · rw [← hM1]
          simp (disch := omega) only [e_up_o, e_up_e]
        · rw [e_up_e]
        · rw [← hM1]
          by_cases ej : j = k
          · subst ej
            have ye : iI e = nI e.toNat := nI_of_iI (by omega)
            simp only [if_true]
            exact ⟨by simp (disch := omega) only [e_up_o, e_up_e], by simp (disch := omega) only [e_up_o, e_up_e], by simp (disch := omega) only [e_up_o, e_up_e]; exact ye, by simp (disch := omega) only [e_up_o, e_up_e], by simp (disch := omega) only [e_up_o, e_up_e], by simp (disch := omega) only [e_up_o, e_up_e]; exact ye, hcn, by omega, by omega, by omega⟩
          · obtain ⟨z1, z2, z3, z4, z5, z6, z7⟩ := k5 j (by omega)
            simp only [ej, if_false]
            exact ⟨by simp (disch := omega) only [e_up_o, z1], by simp (disch := omega) only [e_up_o, z2], by simp (disch := omega) only [e_up_o, z3], by simp (disch := omega) only [e_up_o, z4], by simp (disch := omega) only [e_up_o, z5], by simp (disch := omega) only [e_up_o, z6], z7⟩
    · refine ⟨-102, M, M, by rw [bI_f hv] at al; simp (disch := omega) only [x_bd_s, x_bi_s, x_lt_e, x_rd_n, x_wr_n, x_ra_n, x_dv_n, s_lt, s_le, s_eq, s_lt0, s_le0, s_0lt, s_0le, s_eq0, s_sub, s_rem, s_div, s_in, bI_0, bI_1, x_gb_b, x_gb_0, x_gb_1, nI_add, nI_1, s_size, s_abs, s_max, iI_mul, iI_add, iI_neg, Nat.le_refl, Nat.lt_irrefl, if_true, if_false, ite_true, ite_false, not_true, not_false_eq_true, ew_read, wh_has_ok hc, hcn, al], ?_, h⟩
      simp only [md_read, hn, i0, x_bd_s, s_10, if_false, i1, i2, bI_0]
      by_cases c1 : -2000000 ≤ a ∧ a ≤ 2000000
      · have c2 : ¬ (0 ≤ e ∧ e ≤ 100000) := by omega
        simp only [c1, c2, and_self, not_true, not_false_eq_true, if_true, if_false]
      · simp only [c1, not_false_eq_true, if_true]
end
