/-! rows -/
theorem cap_200 : e_cap 10 = some 200 ∧ e_cap 12 = some 200 ∧ e_cap 14 = some 200 ∧ e_cap 16 = some 200 ∧ e_cap 18 = some 200 ∧ e_cap 20 = some 200 := by decide +kernel
theorem cap_22 : e_cap 22 = some 30 := by decide +kernel
theorem cap_24 : e_cap 24 = some 0 := by decide +kernel
theorem cap_cab : ∀ c, c < 30 → e_cap (27 + 2 * c) = some 6 := by decide +kernel
theorem cap_em : e_cap 88 = some 6 ∧ e_cap 90 = some 6 ∧ e_cap 92 = some 6 := by decide +kernel
theorem cap_164 : e_cap 164 = some 30 := by decide +kernel
theorem cap_40 : e_cap 167 = some 40 ∧ e_cap 169 = some 40 := by decide +kernel
theorem cap_12 : e_cap 176 = some 12 ∧ e_cap 178 = some 12 ∧ e_cap 180 = some 12 := by decide +kernel
theorem arl_95 : ∀ j, j < 64 → e_arl (95 + j) = some 30 := by decide +kernel
theorem arl_30 : e_arl 5 = some 30 ∧ e_arl 6 = some 30 ∧ e_arl 172 = some 30 ∧ e_arl 173 = some 30 := by decide +kernel
section
variable {M : e_Me} {r cap m : Nat}
theorem ro_count_ok (hr : e_cap r = some cap) : ro_count r M = some (M r 1) := by
  simp (disch := omega) only [x_bd_s, x_bi_s, x_lt_e, x_rd_n, x_wr_n, x_ra_n, x_dv_n, s_lt, s_le, s_eq, s_lt0, s_le0, s_0lt, s_0le, s_eq0, s_sub, s_rem, s_div, s_in, bI_0, bI_1, x_gb_b, x_gb_0, x_gb_1, nI_add, nI_1, s_size, s_abs, s_max, iI_mul, iI_add, iI_neg, Nat.le_refl, Nat.lt_irrefl, if_true, if_false, ite_true, ite_false, not_true, not_false_eq_true, ro_count, hr]
theorem ro_at_ok {i : Nat} (hr : e_cap r = some cap) (hm : M r 1 = nI m) (hc : m ≤ cap) (hk : cap ≤ 1000) (hi : i < m) : ro_at r (nI i) M = some (M (r + 1) i) := by
  have c1 : ¬ m ≤ i := by omega
  simp (disch := omega) only [x_bd_s, x_bi_s, x_lt_e, x_rd_n, x_wr_n, x_ra_n, x_dv_n, s_lt, s_le, s_eq, s_lt0, s_le0, s_0lt, s_0le, s_eq0, s_sub, s_rem, s_div, s_in, bI_0, bI_1, x_gb_b, x_gb_0, x_gb_1, nI_add, nI_1, s_size, s_abs, s_max, iI_mul, iI_add, iI_neg, Nat.le_refl, Nat.lt_irrefl, if_true, if_false, ite_true, ite_false, not_true, not_false_eq_true, ro_at, hr, hm, c1]
theorem ro_at_no {x : Int32} (hr : e_cap r = some cap) (hm : M r 1 = nI m) (hx : x < 0 ∨ nI m ≤ x) : ro_at r x M = some (-1) := by
  simp (disch := omega) only [x_bd_s, x_bi_s, x_lt_e, x_rd_n, x_wr_n, x_ra_n, x_dv_n, s_lt, s_le, s_eq, s_lt0, s_le0, s_0lt, s_0le, s_eq0, s_sub, s_rem, s_div, s_in, bI_0, bI_1, x_gb_b, x_gb_0, x_gb_1, nI_add, nI_1, s_size, s_abs, s_max, iI_mul, iI_add, iI_neg, Nat.le_refl, Nat.lt_irrefl, if_true, if_false, ite_true, ite_false, not_true, not_false_eq_true, ro_at, hr, hm]
  rcases hx with g | g
  · rw [if_pos g]
  · split
    · rfl
    · rfl
theorem ro_hasRoom_ok (hr : e_cap r = some cap) (hm : M r 1 = nI m) (hc : m ≤ cap) (hk : cap ≤ 1000) : ro_hasRoom r M = some (bI (m < cap)) := by
  unfold bI
  by_cases g : m < cap
  · have c1 : ¬ cap ≤ m := by omega
    simp (disch := omega) only [x_bd_s, x_bi_s, x_lt_e, x_rd_n, x_wr_n, x_ra_n, x_dv_n, s_lt, s_le, s_eq, s_lt0, s_le0, s_0lt, s_0le, s_eq0, s_sub, s_rem, s_div, s_in, bI_0, bI_1, x_gb_b, x_gb_0, x_gb_1, nI_add, nI_1, s_size, s_abs, s_max, iI_mul, iI_add, iI_neg, Nat.le_refl, Nat.lt_irrefl, if_true, if_false, ite_true, ite_false, not_true, not_false_eq_true, ro_hasRoom, hr, hm, c1, g]
  · have c1 : cap ≤ m := by omega
    simp (disch := omega) only [x_bd_s, x_bi_s, x_lt_e, x_rd_n, x_wr_n, x_ra_n, x_dv_n, s_lt, s_le, s_eq, s_lt0, s_le0, s_0lt, s_0le, s_eq0, s_sub, s_rem, s_div, s_in, bI_0, bI_1, x_gb_b, x_gb_0, x_gb_1, nI_add, nI_1, s_size, s_abs, s_max, iI_mul, iI_add, iI_neg, Nat.le_refl, Nat.lt_irrefl, if_true, if_false, ite_true, ite_false, not_true, not_false_eq_true, ro_hasRoom, hr, hm, c1, g]
theorem ro_append_ok {x : Int32} (hr : e_cap r = some cap) (hm : M r 1 = nI m) (hc : m < cap) (hk : cap ≤ 1000) : ro_append r x M = some (e_up (e_up M (r + 1) m x) r 1 (nI (m + 1))) := by
  have e : e_up M (r + 1) m x r 1 = nI m := by rw [e_up_o (by omega), hm]
  simp (disch := omega) only [x_bd_s, x_bi_s, x_lt_e, x_rd_n, x_wr_n, x_ra_n, x_dv_n, s_lt, s_le, s_eq, s_lt0, s_le0, s_0lt, s_0le, s_eq0, s_sub, s_rem, s_div, s_in, bI_0, bI_1, x_gb_b, x_gb_0, x_gb_1, nI_add, nI_1, s_size, s_abs, s_max, iI_mul, iI_add, iI_neg, Nat.le_refl, Nat.lt_irrefl, if_true, if_false, ite_true, ite_false, not_true, not_false_eq_true, ro_append, hr, ro_hasRoom_ok hr hm (by omega) hk, hc, hm, e]
theorem ro_clear_ok (hr : e_cap r = some cap) : ro_clear r M = some (e_up M r 1 0) := by
  simp (disch := omega) only [x_bd_s, x_bi_s, x_lt_e, x_rd_n, x_wr_n, x_ra_n, x_dv_n, s_lt, s_le, s_eq, s_lt0, s_le0, s_0lt, s_0le, s_eq0, s_sub, s_rem, s_div, s_in, bI_0, bI_1, x_gb_b, x_gb_0, x_gb_1, nI_add, nI_1, s_size, s_abs, s_max, iI_mul, iI_add, iI_neg, Nat.le_refl, Nat.lt_irrefl, if_true, if_false, ite_true, ite_false, not_true, not_false_eq_true, ro_clear, hr]
theorem ro_set_ok {i : Nat} {x : Int32} (hr : e_cap r = some cap) (hm : M r 1 = nI m) (hc : m ≤ cap) (hk : cap ≤ 1000) (hi : i < m) : ro_set r (nI i) x M = some (e_up M (r + 1) i x) := by
  have c1 : ¬ m ≤ i := by omega
  simp (disch := omega) only [x_bd_s, x_bi_s, x_lt_e, x_rd_n, x_wr_n, x_ra_n, x_dv_n, s_lt, s_le, s_eq, s_lt0, s_le0, s_0lt, s_0le, s_eq0, s_sub, s_rem, s_div, s_in, bI_0, bI_1, x_gb_b, x_gb_0, x_gb_1, nI_add, nI_1, s_size, s_abs, s_max, iI_mul, iI_add, iI_neg, Nat.le_refl, Nat.lt_irrefl, if_true, if_false, ite_true, ite_false, not_true, not_false_eq_true, ro_set, hr, hm, c1]
theorem ro_placeOf_yes {i : Nat} {x : Int32} (hr : e_cap r = some cap) (hm : M r 1 = nI m) (hc : m ≤ cap) (hk : cap ≤ 1000) (hi : i < m) (h1 : M (r + 1) i = x) (h2 : ∀ j, j < i → M (r + 1) j ≠ x) : ro_placeOf r x M = some (nI i) := by
  have key : ∀ (d j F : Nat), j + d = i → d < F → ro_placeOf_l2 r cap x M F (nI j) = some (nI i) := by
    intro d
    induction d with
    | zero =>
      intro j F g1 g2
      obtain ⟨F, rfl⟩ : ∃ F', F = F' + 1 := ⟨F - 1, by omega⟩
      have e : j = i := by omega
      subst e
      have c1 : ¬ m ≤ j := by omega
      simp (disch := omega) only [x_bd_s, x_bi_s, x_lt_e, x_rd_n, x_wr_n, x_ra_n, x_dv_n, s_lt, s_le, s_eq, s_lt0, s_le0, s_0lt, s_0le, s_eq0, s_sub, s_rem, s_div, s_in, bI_0, bI_1, x_gb_b, x_gb_0, x_gb_1, nI_add, nI_1, s_size, s_abs, s_max, iI_mul, iI_add, iI_neg, Nat.le_refl, Nat.lt_irrefl, if_true, if_false, ite_true, ite_false, not_true, not_false_eq_true, ro_placeOf_l2, hm, c1, h1]
    | succ d ih =>
      intro j F g1 g2
      obtain ⟨F, rfl⟩ : ∃ F', F = F' + 1 := ⟨F - 1, by omega⟩
      have c1 : ¬ m ≤ j := by omega
      have c2 := h2 j (by omega)
      simp (disch := omega) only [x_bd_s, x_bi_s, x_lt_e, x_rd_n, x_wr_n, x_ra_n, x_dv_n, s_lt, s_le, s_eq, s_lt0, s_le0, s_0lt, s_0le, s_eq0, s_sub, s_rem, s_div, s_in, bI_0, bI_1, x_gb_b, x_gb_0, x_gb_1, nI_add, nI_1, s_size, s_abs, s_max, iI_mul, iI_add, iI_neg, Nat.le_refl, Nat.lt_irrefl, if_true, if_false, ite_true, ite_false, not_true, not_false_eq_true, ro_placeOf_l2, hm, c1, c2]
      exact ih (j + 1) F (by omega) (by omega)
  have := e_Fge
  simp (disch := omega) only [x_bd_s, x_bi_s, x_lt_e, x_rd_n, x_wr_n, x_ra_n, x_dv_n, s_lt, s_le, s_eq, s_lt0, s_le0, s_0lt, s_0le, s_eq0, s_sub, s_rem, s_div, s_in, bI_0, bI_1, x_gb_b, x_gb_0, x_gb_1, nI_add, nI_1, s_size, s_abs, s_max, iI_mul, iI_add, iI_neg, Nat.le_refl, Nat.lt_irrefl, if_true, if_false, ite_true, ite_false, not_true, not_false_eq_true, ro_placeOf, hr]
  exact key i 0 e_F (by omega) (by omega)
theorem ro_placeOf_no {x : Int32} (hr : e_cap r = some cap) (hm : M r 1 = nI m) (hc : m ≤ cap) (hk : cap ≤ 1000) (h2 : ∀ j, j < m → M (r + 1) j ≠ x) : ro_placeOf r x M = some (-1) := by
  have key : ∀ (d j F : Nat), j + d = m → d < F → ro_placeOf_l2 r cap x M F (nI j) = some (-1) := by
    intro d
    induction d with
    | zero =>
      intro j F g1 g2
      obtain ⟨F, rfl⟩ : ∃ F', F = F' + 1 := ⟨F - 1, by omega⟩
      have c1 : m ≤ j := by omega
      simp (disch := omega) only [x_bd_s, x_bi_s, x_lt_e, x_rd_n, x_wr_n, x_ra_n, x_dv_n, s_lt, s_le, s_eq, s_lt0, s_le0, s_0lt, s_0le, s_eq0, s_sub, s_rem, s_div, s_in, bI_0, bI_1, x_gb_b, x_gb_0, x_gb_1, nI_add, nI_1, s_size, s_abs, s_max, iI_mul, iI_add, iI_neg, Nat.le_refl, Nat.lt_irrefl, if_true, if_false, ite_true, ite_false, not_true, not_false_eq_true, ro_placeOf_l2, hm, c1]
    | succ d ih =>
      intro j F g1 g2
      obtain ⟨F, rfl⟩ : ∃ F', F = F' + 1 := ⟨F - 1, by omega⟩
      have c1 : ¬ m ≤ j := by omega
      have c2 := h2 j (by omega)
      simp (disch := omega) only [x_bd_s, x_bi_s, x_lt_e, x_rd_n, x_wr_n, x_ra_n, x_dv_n, s_lt, s_le, s_eq, s_lt0, s_le0, s_0lt, s_0le, s_eq0, s_sub, s_rem, s_div, s_in, bI_0, bI_1, x_gb_b, x_gb_0, x_gb_1, nI_add, nI_1, s_size, s_abs, s_max, iI_mul, iI_add, iI_neg, Nat.le_refl, Nat.lt_irrefl, if_true, if_false, ite_true, ite_false, not_true, not_false_eq_true, ro_placeOf_l2, hm, c1, c2]
      exact ih (j + 1) F (by omega) (by omega)
  have := e_Fge
  simp (disch := omega) only [x_bd_s, x_bi_s, x_lt_e, x_rd_n, x_wr_n, x_ra_n, x_dv_n, s_lt, s_le, s_eq, s_lt0, s_le0, s_0lt, s_0le, s_eq0, s_sub, s_rem, s_div, s_in, bI_0, bI_1, x_gb_b, x_gb_0, x_gb_1, nI_add, nI_1, s_size, s_abs, s_max, iI_mul, iI_add, iI_neg, Nat.le_refl, Nat.lt_irrefl, if_true, if_false, ite_true, ite_false, not_true, not_false_eq_true, ro_placeOf, hr]
  exact key m 0 e_F (by omega) (by omega)
theorem ro_cut_ok {k : Nat} (hr : e_cap r = some cap) (hm : M r 1 = nI m) (hc : m ≤ cap) (hk : cap ≤ 1000) (hi : k < m) : ∃ M', ro_cut r (nI k) M = some M' ∧ M' r 1 = nI (m - 1) ∧ (∀ j, j < m - 1 → M' (r + 1) j = if j < k then M (r + 1) j else M (r + 1) (j + 1)) ∧ ∀ a b, ¬ (a = r + 1 ∨ (a = r ∧ b = 1)) → M' a b = M a b := by
  have key : ∀ (d j F : Nat) (M1 : e_Me), j + d = m → d < F → 0 < j → k < j → (∀ a b, a ≠ r + 1 → M1 a b = M a b) → (∀ q, q < j - 1 → M1 (r + 1) q = if q < k then M (r + 1) q else M (r + 1) (q + 1)) → (∀ q, j - 1 ≤ q → M1 (r + 1) q = M (r + 1) q) →
      ∃ M', ro_cut_l17 r cap F (nI j) M1 = some M' ∧ M' r 1 = nI (m - 1) ∧ (∀ j, j < m - 1 → M' (r + 1) j = if j < k then M (r + 1) j else M (r + 1) (j + 1)) ∧ ∀ a b, ¬ (a = r + 1 ∨ (a = r ∧ b = 1)) → M' a b = M a b := by
    intro d
    induction d with
    | zero =>
      intro j F M1 g1 g2 g3 g4 g5 g6 g7
      obtain ⟨F, rfl⟩ : ∃ F', F = F' + 1 := ⟨F - 1, by omega⟩
      have e : j = m := by omega
      subst e
      have e1 : M1 r 1 = nI j := by rw [g5 r 1 (by omega), hm]
      refine ⟨e_up M1 r 1 (nI (j - 1)), ?_, e_up_e _ _ _ _, fun q hq => ?_, fun a b hab => ?_⟩
      · simp (disch := omega) only [x_bd_s, x_bi_s, x_lt_e, x_rd_n, x_wr_n, x_ra_n, x_dv_n, s_lt, s_le, s_eq, s_lt0, s_le0, s_0lt, s_0le, s_eq0, s_sub, s_rem, s_div, s_in, bI_0, bI_1, x_gb_b, x_gb_0, x_gb_1, nI_add, nI_1, s_size, s_abs, s_max, iI_mul, iI_add, iI_neg, Nat.le_refl, Nat.lt_irrefl, if_true, if_false, ite_true, ite_false, not_true, not_false_eq_true, ro_cut_l17, e1, ro_cut_b45, show (1 : Int32) = nI 1 from rfl]
      · rw [e_up_o (by omega), g6 q (by omega)]
      · rw [e_up_o (by omega), g5 a b (by omega)]
    | succ d ih =>
      intro j F M1 g1 g2 g3 g4 g5 g6 g7
      obtain ⟨F, rfl⟩ : ∃ F', F = F' + 1 := ⟨F - 1, by omega⟩
      have e1 : M1 r 1 = nI m := by rw [g5 r 1 (by omega), hm]
      have c1 : ¬ m ≤ j := by omega
      have e2 : nI j - 1 = nI (j - 1) := s_sub (b := 1) (by omega)
      simp (disch := omega) only [x_bd_s, x_bi_s, x_lt_e, x_rd_n, x_wr_n, x_ra_n, x_dv_n, s_lt, s_le, s_eq, s_lt0, s_le0, s_0lt, s_0le, s_eq0, s_sub, s_rem, s_div, s_in, bI_0, bI_1, x_gb_b, x_gb_0, x_gb_1, nI_add, nI_1, s_size, s_abs, s_max, iI_mul, iI_add, iI_neg, Nat.le_refl, Nat.lt_irrefl, if_true, if_false, ite_true, ite_false, not_true, not_false_eq_true, ro_cut_l17, e1, c1, e2]
      refine ih (j + 1) F _ (by omega) (by omega) (by omega) (by omega) (fun a b hab => ?_) (fun q hq => ?_) (fun q hq => ?_)
      · rw [e_up_o (by omega), g5 a b hab]
      · by_cases e : q = j - 1
        · subst e
          rw [e_up_e, g7 j (by omega), if_neg (by omega)]
          congr 1
          omega
        · rw [e_up_o (by omega), g6 q (by omega)]
      · rw [e_up_o (by omega), g7 q (by omega)]
  have := e_Fge
  have c0 := hi
  obtain ⟨M', k1, k2⟩ := key (m - k - 1) (k + 1) e_F M (by omega) (by omega) (by omega) (by omega) (fun a b _ => rfl) (fun q hq => by rw [if_pos (by omega)]) (fun q _ => rfl)
  refine ⟨M', ?_, k2⟩
  simp (disch := omega) only [x_bd_s, x_bi_s, x_lt_e, x_rd_n, x_wr_n, x_ra_n, x_dv_n, s_lt, s_le, s_eq, s_lt0, s_le0, s_0lt, s_0le, s_eq0, s_sub, s_rem, s_div, s_in, bI_0, bI_1, x_gb_b, x_gb_0, x_gb_1, nI_add, nI_1, s_size, s_abs, s_max, iI_mul, iI_add, iI_neg, Nat.le_refl, Nat.lt_irrefl, if_true, if_false, ite_true, ite_false, not_true, not_false_eq_true, ro_cut, hr, hm, hi]
  exact k1
theorem ro_copyFrom_ok {q cap2 m2 : Nat} (hr : e_cap r = some cap) (hq : e_cap q = some cap2) (hne : r ≠ q ∧ r ≠ q + 1 ∧ q ≠ r + 1) (hm : M q 1 = nI m2) (hc : m2 ≤ cap) (hc2 : m2 ≤ cap2) (hk : cap ≤ 1000) (hk2 : cap2 ≤ 1000) :
    ∃ M', ro_copyFrom r q M = some M' ∧ M' r 1 = nI m2 ∧ (∀ j, j < m2 → M' (r + 1) j = M (q + 1) j) ∧ ∀ a b, ¬ (a = r + 1 ∨ (a = r ∧ b = 1)) → M' a b = M a b := by
  obtain ⟨n1, n2, n3⟩ := hne
  have key : ∀ (d j F : Nat) (M1 : e_Me), j + d = m2 → d < F → M1 r 1 = nI j → (∀ i, i < j → M1 (r + 1) i = M (q + 1) i) → (∀ a b, ¬ (a = r + 1 ∨ (a = r ∧ b = 1)) → M1 a b = M a b) →
      ∃ M', ro_copyFrom_l6 r cap q cap2 F (nI j) M1 = some M' ∧ M' r 1 = nI m2 ∧ (∀ j, j < m2 → M' (r + 1) j = M (q + 1) j) ∧ ∀ a b, ¬ (a = r + 1 ∨ (a = r ∧ b = 1)) → M' a b = M a b := by
    intro d
    induction d with
    | zero =>
      intro j F M1 g1 g2 g3 g4 g5
      obtain ⟨F, rfl⟩ : ∃ F', F = F' + 1 := ⟨F - 1, by omega⟩
      have e : j = m2 := by omega
      subst e
      have e1 : M1 q 1 = nI j := by rw [g5 q 1 (by omega), hm]
      exact ⟨M1, by simp (disch := omega) only [x_bd_s, x_bi_s, x_lt_e, x_rd_n, x_wr_n, x_ra_n, x_dv_n, s_lt, s_le, s_eq, s_lt0, s_le0, s_0lt, s_0le, s_eq0, s_sub, s_rem, s_div, s_in, bI_0, bI_1, x_gb_b, x_gb_0, x_gb_1, nI_add, nI_1, s_size, s_abs, s_max, iI_mul, iI_add, iI_neg, Nat.le_refl, Nat.lt_irrefl, if_true, if_false, ite_true, ite_false, not_true, not_false_eq_true, ro_copyFrom_l6, ro_count_ok hq, e1], g3, g4, g5⟩
    | succ d ih =>
      intro j F M1 g1 g2 g3 g4 g5
      obtain ⟨F, rfl⟩ : ∃ F', F = F' + 1 := ⟨F - 1, by omega⟩
      have e1 : M1 q 1 = nI m2 := by rw [g5 q 1 (by omega), hm]
      have c1 : ¬ m2 ≤ j := by omega
      have e2 : M1 (q + 1) j = M (q + 1) j := g5 _ _ (by omega)
      simp (disch := omega) only [x_bd_s, x_bi_s, x_lt_e, x_rd_n, x_wr_n, x_ra_n, x_dv_n, s_lt, s_le, s_eq, s_lt0, s_le0, s_0lt, s_0le, s_eq0, s_sub, s_rem, s_div, s_in, bI_0, bI_1, x_gb_b, x_gb_0, x_gb_1, nI_add, nI_1, s_size, s_abs, s_max, iI_mul, iI_add, iI_neg, Nat.le_refl, Nat.lt_irrefl, if_true, if_false, ite_true, ite_false, not_true, not_false_eq_true, ro_copyFrom_l6, ro_count_ok hq, e1, c1, ro_at_ok hq e1 hc2 hk2 (show j < m2 by omega), e2, ro_append_ok hr g3 (show j < cap by omega) hk]
      refine ih (j + 1) F _ (by omega) (by omega) (e_up_e _ _ _ _) (fun i hi => ?_) (fun a b hab => ?_)
      · rw [e_up_o (by omega)]
        by_cases e : i = j
        · subst e
          rw [e_up_e]
        · rw [e_up_o (by omega), g4 i (by omega)]
      · rw [e_up_o (by omega), e_up_o (by omega), g5 a b hab]
  have := e_Fge
  obtain ⟨M', k1, k2, k3, k4⟩ := key m2 0 e_F (e_up M r 1 0) (by omega) (by omega) (e_up_e _ _ _ _) (fun i hi => by omega) (fun a b hab => e_up_o (by omega))
  refine ⟨M', ?_, k2, k3, k4⟩
  simp (disch := omega) only [x_bd_s, x_bi_s, x_lt_e, x_rd_n, x_wr_n, x_ra_n, x_dv_n, s_lt, s_le, s_eq, s_lt0, s_le0, s_0lt, s_0le, s_eq0, s_sub, s_rem, s_div, s_in, bI_0, bI_1, x_gb_b, x_gb_0, x_gb_1, nI_add, nI_1, s_size, s_abs, s_max, iI_mul, iI_add, iI_neg, Nat.le_refl, Nat.lt_irrefl, if_true, if_false, ite_true, ite_false, not_true, not_false_eq_true, ro_copyFrom, hr, hq, ro_clear_ok hr]
  exact k1
/-- 31 times h, and a number more, along a row -/
def mxL (f : Nat → Int32) : Nat → Nat → Int64 → Int64
  | 0, _, h => h
  | d + 1, i, h => mxL f d (i + 1) ((31 : Int32).toInt64 * h + (f i).toInt64)
theorem mxL_cong {f g : Nat → Int32} : ∀ (d i : Nat) (h : Int64), (∀ j, i ≤ j → j < i + d → f j = g j) → mxL f d i h = mxL g d i h
  | 0, _, _, _ => rfl
  | d + 1, i, h, e => by
    rw [mxL, mxL, e i (by omega) (by omega)]
    exact mxL_cong d (i + 1) _ (fun j a b => e j (by omega) (by omega))
theorem ro_mixInto_ok {h : Int64} (hr : e_cap r = some cap) (hm : M r 1 = nI m) (hc : m ≤ cap) (hk : cap ≤ 1000) : ro_mixInto r h M = some (mxL (M (r + 1)) m 0 h) := by
  have key : ∀ (d j F : Nat) (h : Int64), j + d = m → d < F → ro_mixInto_l2 r cap M F h (nI j) = some (mxL (M (r + 1)) d j h) := by
    intro d
    induction d with
    | zero =>
      intro j F h g1 g2
      obtain ⟨F, rfl⟩ : ∃ F', F = F' + 1 := ⟨F - 1, by omega⟩
      have c1 : m ≤ j := by omega
      simp (disch := omega) only [x_bd_s, x_bi_s, x_lt_e, x_rd_n, x_wr_n, x_ra_n, x_dv_n, s_lt, s_le, s_eq, s_lt0, s_le0, s_0lt, s_0le, s_eq0, s_sub, s_rem, s_div, s_in, bI_0, bI_1, x_gb_b, x_gb_0, x_gb_1, nI_add, nI_1, s_size, s_abs, s_max, iI_mul, iI_add, iI_neg, Nat.le_refl, Nat.lt_irrefl, if_true, if_false, ite_true, ite_false, not_true, not_false_eq_true, ro_mixInto_l2, hm, c1]
      rfl
    | succ d ih =>
      intro j F h g1 g2
      obtain ⟨F, rfl⟩ : ∃ F', F = F' + 1 := ⟨F - 1, by omega⟩
      have c1 : ¬ m ≤ j := by omega
      simp (disch := omega) only [x_bd_s, x_bi_s, x_lt_e, x_rd_n, x_wr_n, x_ra_n, x_dv_n, s_lt, s_le, s_eq, s_lt0, s_le0, s_0lt, s_0le, s_eq0, s_sub, s_rem, s_div, s_in, bI_0, bI_1, x_gb_b, x_gb_0, x_gb_1, nI_add, nI_1, s_size, s_abs, s_max, iI_mul, iI_add, iI_neg, Nat.le_refl, Nat.lt_irrefl, if_true, if_false, ite_true, ite_false, not_true, not_false_eq_true, ro_mixInto_l2, hm, c1, ew_mix]
      exact ih (j + 1) F _ (by omega) (by omega)
  have := e_Fge
  simp (disch := omega) only [x_bd_s, x_bi_s, x_lt_e, x_rd_n, x_wr_n, x_ra_n, x_dv_n, s_lt, s_le, s_eq, s_lt0, s_le0, s_0lt, s_0le, s_eq0, s_sub, s_rem, s_div, s_in, bI_0, bI_1, x_gb_b, x_gb_0, x_gb_1, nI_add, nI_1, s_size, s_abs, s_max, iI_mul, iI_add, iI_neg, Nat.le_refl, Nat.lt_irrefl, if_true, if_false, ite_true, ite_false, not_true, not_false_eq_true, ro_mixInto, hr]
  exact key m 0 e_F h (by omega) (by omega)
theorem ar_fill_ok {x : Int32} (hr : e_arl r = some cap) (hk : cap ≤ 1000) : ∃ M', ar_fill r x M = some M' ∧ (∀ j, j < cap → M' r j = x) ∧ ∀ a b, a ≠ r → M' a b = M a b := by
  have key : ∀ (d j F : Nat) (M1 : e_Me), j + d = cap → d < F → (∀ i, i < j → M1 r i = x) → (∀ a b, a ≠ r → M1 a b = M a b) → ∃ M', ar_fill_l5 r cap x (nI cap) F (nI j) M1 = some M' ∧ (∀ j, j < cap → M' r j = x) ∧ ∀ a b, a ≠ r → M' a b = M a b := by
    intro d
    induction d with
    | zero =>
      intro j F M1 g1 g2 g3 g4
      obtain ⟨F, rfl⟩ : ∃ F', F = F' + 1 := ⟨F - 1, by omega⟩
      have c1 : cap ≤ j := by omega
      exact ⟨M1, by simp (disch := omega) only [x_bd_s, x_bi_s, x_lt_e, x_rd_n, x_wr_n, x_ra_n, x_dv_n, s_lt, s_le, s_eq, s_lt0, s_le0, s_0lt, s_0le, s_eq0, s_sub, s_rem, s_div, s_in, bI_0, bI_1, x_gb_b, x_gb_0, x_gb_1, nI_add, nI_1, s_size, s_abs, s_max, iI_mul, iI_add, iI_neg, Nat.le_refl, Nat.lt_irrefl, if_true, if_false, ite_true, ite_false, not_true, not_false_eq_true, ar_fill_l5, c1], fun i hi => g3 i (by omega), g4⟩
    | succ d ih =>
      intro j F M1 g1 g2 g3 g4
      obtain ⟨F, rfl⟩ : ∃ F', F = F' + 1 := ⟨F - 1, by omega⟩
      have c1 : ¬ cap ≤ j := by omega
      simp (disch := omega) only [x_bd_s, x_bi_s, x_lt_e, x_rd_n, x_wr_n, x_ra_n, x_dv_n, s_lt, s_le, s_eq, s_lt0, s_le0, s_0lt, s_0le, s_eq0, s_sub, s_rem, s_div, s_in, bI_0, bI_1, x_gb_b, x_gb_0, x_gb_1, nI_add, nI_1, s_size, s_abs, s_max, iI_mul, iI_add, iI_neg, Nat.le_refl, Nat.lt_irrefl, if_true, if_false, ite_true, ite_false, not_true, not_false_eq_true, ar_fill_l5, c1]
      refine ih (j + 1) F _ (by omega) (by omega) (fun i hi => ?_) (fun a b hab => ?_)
      · by_cases e : i = j
        · subst e
          exact e_up_e _ _ _ _
        · rw [e_up_o (by omega), g3 i (by omega)]
      · rw [e_up_o (by omega), g4 a b hab]
  have := e_Fge
  obtain ⟨M', k1, k2⟩ := key cap 0 e_F M (by omega) (by omega) (fun i hi => by omega) (fun a b _ => rfl)
  refine ⟨M', ?_, k2⟩
  simp (disch := omega) only [x_bd_s, x_bi_s, x_lt_e, x_rd_n, x_wr_n, x_ra_n, x_dv_n, s_lt, s_le, s_eq, s_lt0, s_le0, s_0lt, s_0le, s_eq0, s_sub, s_rem, s_div, s_in, bI_0, bI_1, x_gb_b, x_gb_0, x_gb_1, nI_add, nI_1, s_size, s_abs, s_max, iI_mul, iI_add, iI_neg, Nat.le_refl, Nat.lt_irrefl, if_true, if_false, ite_true, ite_false, not_true, not_false_eq_true, ar_fill, hr]
  exact k1
end
