/-! calls that look at the wheel; steps -/
section
variable {M : e_Me}
theorem l_arm (h : Inv M) (x : Int32) : ∃ r, ew_arm x M = some r ∧ md_arm x M = some r := by
  obtain ⟨n, t, ld, ⟨hc, hn, ht, hl⟩, -⟩ := h
  have hb := okn_b hc.1
  rcases pk_ix x (n := n) (by omega) with g | g | ⟨j, hj, rfl⟩
  · exact ⟨-1000, by simp (disch := omega) only [x_bd_s, x_bi_s, x_lt_e, x_rd_n, x_wr_n, x_ra_n, x_dv_n, s_lt, s_le, s_eq, s_lt0, s_le0, s_0lt, s_0le, s_eq0, s_sub, s_rem, s_div, s_in, bI_0, bI_1, x_gb_b, x_gb_0, x_gb_1, nI_add, nI_1, s_size, s_abs, s_max, iI_mul, iI_add, iI_neg, Nat.le_refl, Nat.lt_irrefl, if_true, if_false, ite_true, ite_false, not_true, not_false_eq_true, ew_arm, wh_has_no hc (Or.inl g)], by simp (disch := omega) only [x_bd_s, x_bi_s, x_lt_e, x_rd_n, x_wr_n, x_ra_n, x_dv_n, s_lt, s_le, s_eq, s_lt0, s_le0, s_0lt, s_0le, s_eq0, s_sub, s_rem, s_div, s_in, bI_0, bI_1, x_gb_b, x_gb_0, x_gb_1, nI_add, nI_1, s_size, s_abs, s_max, iI_mul, iI_add, iI_neg, Nat.le_refl, Nat.lt_irrefl, if_true, if_false, ite_true, ite_false, not_true, not_false_eq_true, md_arm, hn, in_no (M := M) (show n < 2147483648 by omega) (Or.inl g)]⟩
  · exact ⟨-1000, by simp (disch := omega) only [x_bd_s, x_bi_s, x_lt_e, x_rd_n, x_wr_n, x_ra_n, x_dv_n, s_lt, s_le, s_eq, s_lt0, s_le0, s_0lt, s_0le, s_eq0, s_sub, s_rem, s_div, s_in, bI_0, bI_1, x_gb_b, x_gb_0, x_gb_1, nI_add, nI_1, s_size, s_abs, s_max, iI_mul, iI_add, iI_neg, Nat.le_refl, Nat.lt_irrefl, if_true, if_false, ite_true, ite_false, not_true, not_false_eq_true, ew_arm, wh_has_no hc (Or.inr g)], by simp (disch := omega) only [x_bd_s, x_bi_s, x_lt_e, x_rd_n, x_wr_n, x_ra_n, x_dv_n, s_lt, s_le, s_eq, s_lt0, s_le0, s_0lt, s_0le, s_eq0, s_sub, s_rem, s_div, s_in, bI_0, bI_1, x_gb_b, x_gb_0, x_gb_1, nI_add, nI_1, s_size, s_abs, s_max, iI_mul, iI_add, iI_neg, Nat.le_refl, Nat.lt_irrefl, if_true, if_false, ite_true, ite_false, not_true, not_false_eq_true, md_arm, hn, in_no (M := M) (show n < 2147483648 by omega) (Or.inr g)]⟩
  · refine ⟨iI (armZ n j), ?_, ?_⟩
    · have e := wh_armOf_ok hc hj (r := 0) (by omega)
      rw [Nat.add_zero, Nat.mod_eq_of_lt hj, nI_0] at e
      simp (disch := omega) only [x_bd_s, x_bi_s, x_lt_e, x_rd_n, x_wr_n, x_ra_n, x_dv_n, s_lt, s_le, s_eq, s_lt0, s_le0, s_0lt, s_0le, s_eq0, s_sub, s_rem, s_div, s_in, bI_0, bI_1, x_gb_b, x_gb_0, x_gb_1, nI_add, nI_1, s_size, s_abs, s_max, iI_mul, iI_add, iI_neg, Nat.le_refl, Nat.lt_irrefl, if_true, if_false, ite_true, ite_false, not_true, not_false_eq_true, ew_arm, wh_has_ok hc, hj, e]
    · simp (disch := omega) only [x_bd_s, x_bi_s, x_lt_e, x_rd_n, x_wr_n, x_ra_n, x_dv_n, s_lt, s_le, s_eq, s_lt0, s_le0, s_0lt, s_0le, s_eq0, s_sub, s_rem, s_div, s_in, bI_0, bI_1, x_gb_b, x_gb_0, x_gb_1, nI_add, nI_1, s_size, s_abs, s_max, iI_mul, iI_add, iI_neg, Nat.le_refl, Nat.lt_irrefl, if_true, if_false, ite_true, ite_false, not_true, not_false_eq_true, md_arm, hn, in_yes (M := M) hj (show n < 2147483648 by omega), md_armOf_ok hc.1 hn hj, s_10]
theorem l_lean (h : Inv M) (x : Int32) : ∃ r, ew_lean x M = some r ∧ md_lean x M = some r := by
  obtain ⟨n, t, ld, ⟨hc, hn, ht, hl⟩, -⟩ := h
  have hb := okn_b hc.1
  rcases pk_ix x (n := n) (by omega) with g | g | ⟨j, hj, rfl⟩
  · exact ⟨-1000000001, by simp (disch := omega) only [x_bd_s, x_bi_s, x_lt_e, x_rd_n, x_wr_n, x_ra_n, x_dv_n, s_lt, s_le, s_eq, s_lt0, s_le0, s_0lt, s_0le, s_eq0, s_sub, s_rem, s_div, s_in, bI_0, bI_1, x_gb_b, x_gb_0, x_gb_1, nI_add, nI_1, s_size, s_abs, s_max, iI_mul, iI_add, iI_neg, Nat.le_refl, Nat.lt_irrefl, if_true, if_false, ite_true, ite_false, not_true, not_false_eq_true, ew_lean, wh_has_no hc (Or.inl g)], by simp (disch := omega) only [x_bd_s, x_bi_s, x_lt_e, x_rd_n, x_wr_n, x_ra_n, x_dv_n, s_lt, s_le, s_eq, s_lt0, s_le0, s_0lt, s_0le, s_eq0, s_sub, s_rem, s_div, s_in, bI_0, bI_1, x_gb_b, x_gb_0, x_gb_1, nI_add, nI_1, s_size, s_abs, s_max, iI_mul, iI_add, iI_neg, Nat.le_refl, Nat.lt_irrefl, if_true, if_false, ite_true, ite_false, not_true, not_false_eq_true, md_lean, hn, in_no (M := M) (show n < 2147483648 by omega) (Or.inl g)]⟩
  · exact ⟨-1000000001, by simp (disch := omega) only [x_bd_s, x_bi_s, x_lt_e, x_rd_n, x_wr_n, x_ra_n, x_dv_n, s_lt, s_le, s_eq, s_lt0, s_le0, s_0lt, s_0le, s_eq0, s_sub, s_rem, s_div, s_in, bI_0, bI_1, x_gb_b, x_gb_0, x_gb_1, nI_add, nI_1, s_size, s_abs, s_max, iI_mul, iI_add, iI_neg, Nat.le_refl, Nat.lt_irrefl, if_true, if_false, ite_true, ite_false, not_true, not_false_eq_true, ew_lean, wh_has_no hc (Or.inr g)], by simp (disch := omega) only [x_bd_s, x_bi_s, x_lt_e, x_rd_n, x_wr_n, x_ra_n, x_dv_n, s_lt, s_le, s_eq, s_lt0, s_le0, s_0lt, s_0le, s_eq0, s_sub, s_rem, s_div, s_in, bI_0, bI_1, x_gb_b, x_gb_0, x_gb_1, nI_add, nI_1, s_size, s_abs, s_max, iI_mul, iI_add, iI_neg, Nat.le_refl, Nat.lt_irrefl, if_true, if_false, ite_true, ite_false, not_true, not_false_eq_true, md_lean, hn, in_no (M := M) (show n < 2147483648 by omega) (Or.inr g)]⟩
  · refine ⟨iI (lnZ n (fun c => (ld c : Int)) j), ?_, ?_⟩
    · simp (disch := omega) only [x_bd_s, x_bi_s, x_lt_e, x_rd_n, x_wr_n, x_ra_n, x_dv_n, s_lt, s_le, s_eq, s_lt0, s_le0, s_0lt, s_0le, s_eq0, s_sub, s_rem, s_div, s_in, bI_0, bI_1, x_gb_b, x_gb_0, x_gb_1, nI_add, nI_1, s_size, s_abs, s_max, iI_mul, iI_add, iI_neg, Nat.le_refl, Nat.lt_irrefl, if_true, if_false, ite_true, ite_false, not_true, not_false_eq_true, ew_lean, wh_has_ok hc, hj, wh_leanAt_ok hc hj]
    · simp (disch := omega) only [x_bd_s, x_bi_s, x_lt_e, x_rd_n, x_wr_n, x_ra_n, x_dv_n, s_lt, s_le, s_eq, s_lt0, s_le0, s_0lt, s_0le, s_eq0, s_sub, s_rem, s_div, s_in, bI_0, bI_1, x_gb_b, x_gb_0, x_gb_1, nI_add, nI_1, s_size, s_abs, s_max, iI_mul, iI_add, iI_neg, Nat.le_refl, Nat.lt_irrefl, if_true, if_false, ite_true, ite_false, not_true, not_false_eq_true, md_lean, hn, in_yes (M := M) hj (show n < 2147483648 by omega), md_leanOf_ok (f := fun c => (ld c : Int)) hc.1 hn (fun c hc' => hl c (by omega)) hj, s_10]
theorem l_greatest (h : Inv M) : ∃ r, ew_greatest M = some r ∧ md_greatest M = some r := by
  obtain ⟨n, t, ld, ⟨hc, hn, ht, hl⟩, -⟩ := h
  have hb := okn_b hc.1
  refine ⟨nI (mxN (fun r => (lnZ n (fun d => (ld d : Int)) r).natAbs) n), ?_, ?_⟩
  · simp (disch := omega) only [x_bd_s, x_bi_s, x_lt_e, x_rd_n, x_wr_n, x_ra_n, x_dv_n, s_lt, s_le, s_eq, s_lt0, s_le0, s_0lt, s_0le, s_eq0, s_sub, s_rem, s_div, s_in, bI_0, bI_1, x_gb_b, x_gb_0, x_gb_1, nI_add, nI_1, s_size, s_abs, s_max, iI_mul, iI_add, iI_neg, Nat.le_refl, Nat.lt_irrefl, if_true, if_false, ite_true, ite_false, not_true, not_false_eq_true, ew_greatest, wh_greatestLean_ok hc]
  · simp (disch := omega) only [x_bd_s, x_bi_s, x_lt_e, x_rd_n, x_wr_n, x_ra_n, x_dv_n, s_lt, s_le, s_eq, s_lt0, s_le0, s_0lt, s_0le, s_eq0, s_sub, s_rem, s_div, s_in, bI_0, bI_1, x_gb_b, x_gb_0, x_gb_1, nI_add, nI_1, s_size, s_abs, s_max, iI_mul, iI_add, iI_neg, Nat.le_refl, Nat.lt_irrefl, if_true, if_false, ite_true, ite_false, not_true, not_false_eq_true, md_greatest, md_greatestOf_ok (f := fun c => (ld c : Int)) hc.1 hn (fun c hc' => hl c (by omega)) (cW_ld hc)]
theorem l_worst (h : Inv M) : ∃ r, ew_worst M = some r ∧ md_worst M = some r := by
  obtain ⟨n, t, ld, ⟨hc, hn, ht, hl⟩, -⟩ := h
  have hb := okn_b hc.1
  refine ⟨nI (wsN (fun r => (lnZ n (fun d => (ld d : Int)) r).natAbs) n), ?_, ?_⟩
  · simp (disch := omega) only [x_bd_s, x_bi_s, x_lt_e, x_rd_n, x_wr_n, x_ra_n, x_dv_n, s_lt, s_le, s_eq, s_lt0, s_le0, s_0lt, s_0le, s_eq0, s_sub, s_rem, s_div, s_in, bI_0, bI_1, x_gb_b, x_gb_0, x_gb_1, nI_add, nI_1, s_size, s_abs, s_max, iI_mul, iI_add, iI_neg, Nat.le_refl, Nat.lt_irrefl, if_true, if_false, ite_true, ite_false, not_true, not_false_eq_true, ew_worst, wh_worstTurn_ok hc]
  · simp (disch := omega) only [x_bd_s, x_bi_s, x_lt_e, x_rd_n, x_wr_n, x_ra_n, x_dv_n, s_lt, s_le, s_eq, s_lt0, s_le0, s_0lt, s_0le, s_eq0, s_sub, s_rem, s_div, s_in, bI_0, bI_1, x_gb_b, x_gb_0, x_gb_1, nI_add, nI_1, s_size, s_abs, s_max, iI_mul, iI_add, iI_neg, Nat.le_refl, Nat.lt_irrefl, if_true, if_false, ite_true, ite_false, not_true, not_false_eq_true, md_worst, md_worstOf_ok (f := fun c => (ld c : Int)) hc.1 hn (fun c hc' => hl c (by omega)) (cW_ld hc)]
theorem isCabin_no {x : Int32} {n : Nat} (hn : M 182 0 = nI n) (h : n < 2147483648) (g : x < 0 ∨ nI n ≤ x) : md_isCabin x M = some 0 := by
  simp (disch := omega) only [x_bd_s, x_bi_s, x_lt_e, x_rd_n, x_wr_n, x_ra_n, x_dv_n, s_lt, s_le, s_eq, s_lt0, s_le0, s_0lt, s_0le, s_eq0, s_sub, s_rem, s_div, s_in, bI_0, bI_1, x_gb_b, x_gb_0, x_gb_1, nI_add, nI_1, s_size, s_abs, s_max, iI_mul, iI_add, iI_neg, Nat.le_refl, Nat.lt_irrefl, if_true, if_false, ite_true, ite_false, not_true, not_false_eq_true, md_isCabin, hn, in_no (M := M) h g]
theorem isCabin_yes {j n : Nat} (hn : M 182 0 = nI n) (h : n < 2147483648) (g : j < n) : md_isCabin (nI j) M = some 1 := by
  simp (disch := omega) only [x_bd_s, x_bi_s, x_lt_e, x_rd_n, x_wr_n, x_ra_n, x_dv_n, s_lt, s_le, s_eq, s_lt0, s_le0, s_0lt, s_0le, s_eq0, s_sub, s_rem, s_div, s_in, bI_0, bI_1, x_gb_b, x_gb_0, x_gb_1, nI_add, nI_1, s_size, s_abs, s_max, iI_mul, iI_add, iI_neg, Nat.le_refl, Nat.lt_irrefl, if_true, if_false, ite_true, ite_false, not_true, not_false_eq_true, md_isCabin, hn, in_yes (M := M) g h]
theorem l_load (h : Inv M) (x : Int32) : ∃ r, ew_load x M = some r ∧ md_load x M = some r := by
  obtain ⟨n, t, ld, ⟨hc, hn, ht, hl⟩, -⟩ := h
  have hb := okn_b hc.1
  have hb2 : n < 2147483648 := by omega
  rcases pk_ix x (n := n) (by omega) with g | g | ⟨j, hj, rfl⟩
  · exact ⟨-101, by simp (disch := omega) only [x_bd_s, x_bi_s, x_lt_e, x_rd_n, x_wr_n, x_ra_n, x_dv_n, s_lt, s_le, s_eq, s_lt0, s_le0, s_0lt, s_0le, s_eq0, s_sub, s_rem, s_div, s_in, bI_0, bI_1, x_gb_b, x_gb_0, x_gb_1, nI_add, nI_1, s_size, s_abs, s_max, iI_mul, iI_add, iI_neg, Nat.le_refl, Nat.lt_irrefl, if_true, if_false, ite_true, ite_false, not_true, not_false_eq_true, ew_load, wh_has_no hc (Or.inl g)], by simp (disch := omega) only [x_bd_s, x_bi_s, x_lt_e, x_rd_n, x_wr_n, x_ra_n, x_dv_n, s_lt, s_le, s_eq, s_lt0, s_le0, s_0lt, s_0le, s_eq0, s_sub, s_rem, s_div, s_in, bI_0, bI_1, x_gb_b, x_gb_0, x_gb_1, nI_add, nI_1, s_size, s_abs, s_max, iI_mul, iI_add, iI_neg, Nat.le_refl, Nat.lt_irrefl, if_true, if_false, ite_true, ite_false, not_true, not_false_eq_true, md_load, isCabin_no hn hb2 (Or.inl g)]⟩
  · exact ⟨-101, by simp (disch := omega) only [x_bd_s, x_bi_s, x_lt_e, x_rd_n, x_wr_n, x_ra_n, x_dv_n, s_lt, s_le, s_eq, s_lt0, s_le0, s_0lt, s_0le, s_eq0, s_sub, s_rem, s_div, s_in, bI_0, bI_1, x_gb_b, x_gb_0, x_gb_1, nI_add, nI_1, s_size, s_abs, s_max, iI_mul, iI_add, iI_neg, Nat.le_refl, Nat.lt_irrefl, if_true, if_false, ite_true, ite_false, not_true, not_false_eq_true, ew_load, wh_has_no hc (Or.inr g)], by simp (disch := omega) only [x_bd_s, x_bi_s, x_lt_e, x_rd_n, x_wr_n, x_ra_n, x_dv_n, s_lt, s_le, s_eq, s_lt0, s_le0, s_0lt, s_0le, s_eq0, s_sub, s_rem, s_div, s_in, bI_0, bI_1, x_gb_b, x_gb_0, x_gb_1, nI_add, nI_1, s_size, s_abs, s_max, iI_mul, iI_add, iI_neg, Nat.le_refl, Nat.lt_irrefl, if_true, if_false, ite_true, ite_false, not_true, not_false_eq_true, md_load, isCabin_no hn hb2 (Or.inr g)]⟩
  · exact ⟨nI (ld j), by simp (disch := omega) only [x_bd_s, x_bi_s, x_lt_e, x_rd_n, x_wr_n, x_ra_n, x_dv_n, s_lt, s_le, s_eq, s_lt0, s_le0, s_0lt, s_0le, s_eq0, s_sub, s_rem, s_div, s_in, bI_0, bI_1, x_gb_b, x_gb_0, x_gb_1, nI_add, nI_1, s_size, s_abs, s_max, iI_mul, iI_add, iI_neg, Nat.le_refl, Nat.lt_irrefl, if_true, if_false, ite_true, ite_false, not_true, not_false_eq_true, ew_load, wh_has_ok hc, hj, wh_loadOf_ok hc hj], by simp (disch := omega) only [x_bd_s, x_bi_s, x_lt_e, x_rd_n, x_wr_n, x_ra_n, x_dv_n, s_lt, s_le, s_eq, s_lt0, s_le0, s_0lt, s_0le, s_eq0, s_sub, s_rem, s_div, s_in, bI_0, bI_1, x_gb_b, x_gb_0, x_gb_1, nI_add, nI_1, s_size, s_abs, s_max, iI_mul, iI_add, iI_neg, Nat.le_refl, Nat.lt_irrefl, if_true, if_false, ite_true, ite_false, not_true, not_false_eq_true, md_load, isCabin_yes hn hb2 hj, hl j (by omega), s_10]⟩
end
/-! a STEP -/
def wrm (w c : Nat) (L : Int) : Nat := if L < 0 then w + L.natAbs / 100 else w - c
def whyN (b h c : Nat) (d : Int32) (w : Nat) (L : Int) : Nat := if b < L.natAbs then 1 else if h < wrm w c L then 2 else if 0 < L ∧ d = 0 then 3 else 0
/-- the class's ride; the reference's -/
def cG (M : e_Me) (w : Nat) (s d : Int32) : Prop := M 7 2 = nI w ∧ M 7 3 = s ∧ M 7 4 = d
def cU (M : e_Me) (b h c p : Nat) : Prop := M 2 0 = nI b ∧ M 2 1 = nI h ∧ M 2 2 = nI c ∧ M 2 3 = nI p
def mW (M : e_Me) (n t : Nat) (ld : Nat → Nat) : Prop := M 182 0 = nI n ∧ M 182 1 = nI t ∧ ∀ c, c < 30 → M 185 c = nI (ld c)
def mG (M : e_Me) (w : Nat) (s d : Int32) : Prop := M 182 2 = nI w ∧ M 182 3 = s ∧ M 182 8 = d
def mU (M : e_Me) (b h c p : Nat) : Prop := M 182 4 = nI b ∧ M 182 5 = nI h ∧ M 182 6 = nI c ∧ M 182 7 = nI p
section
variable {M : e_Me} {n t : Nat} {ld : Nat → Nat} {b h c p w : Nat} {s d : Int32}
theorem ru_valueOf_ok {i : Nat} (hi : i < 4) : ru_valueOf (nI i) M = some (M 2 i) := by
  have e : ru_names (nI i) M = some 1 := by
    have : ¬ 3 < i := by omega
    simp (disch := omega) only [x_bd_s, x_bi_s, x_lt_e, x_rd_n, x_wr_n, x_ra_n, x_dv_n, s_lt, s_le, s_eq, s_lt0, s_le0, s_0lt, s_0le, s_eq0, s_sub, s_rem, s_div, s_in, bI_0, bI_1, x_gb_b, x_gb_0, x_gb_1, nI_add, nI_1, s_size, s_abs, s_max, iI_mul, iI_add, iI_neg, Nat.le_refl, Nat.lt_irrefl, if_true, if_false, ite_true, ite_false, not_true, not_false_eq_true, ru_names, show (3 : Int32) = nI 3 from rfl, this]
  simp (disch := omega) only [x_bd_s, x_bi_s, x_lt_e, x_rd_n, x_wr_n, x_ra_n, x_dv_n, s_lt, s_le, s_eq, s_lt0, s_le0, s_0lt, s_0le, s_eq0, s_sub, s_rem, s_div, s_in, bI_0, bI_1, x_gb_b, x_gb_0, x_gb_1, nI_add, nI_1, s_size, s_abs, s_max, iI_mul, iI_add, iI_neg, Nat.le_refl, Nat.lt_irrefl, if_true, if_false, ite_true, ite_false, not_true, not_false_eq_true, ru_valueOf, e, s_10]
theorem s_max0 {z : Int} (h1 : -2147483648 ≤ z) (h2 : z < 2147483648) : ma_max 0 (iI z) M = some (nI z.toNat) := by
  unfold ma_max
  rcases Int.lt_or_le 0 z with g | g
  · simp only [iI_0lt h1 h2, g, if_true]
    rw [nI_of_iI (by omega)]
  · have g2 : ¬ 0 < z := by omega
    simp only [iI_0lt h1 h2, g2, if_false]
    rw [show z.toNat = 0 by omega]
    rfl
theorem rg_lean_ok (hc : cW M n t ld) : rg_leanAfterStep M = some (iI (lnZ n (fun c => (ld c : Int)) ((t + 1) % n))) := by
  have hb := okn_b hc.1
  have hm := Nat.mod_lt (t + 1) (show 0 < n by omega)
  simp (disch := omega) only [x_bd_s, x_bi_s, x_lt_e, x_rd_n, x_wr_n, x_ra_n, x_dv_n, s_lt, s_le, s_eq, s_lt0, s_le0, s_0lt, s_0le, s_eq0, s_sub, s_rem, s_div, s_in, bI_0, bI_1, x_gb_b, x_gb_0, x_gb_1, nI_add, nI_1, s_size, s_abs, s_max, iI_mul, iI_add, iI_neg, Nat.le_refl, Nat.lt_irrefl, if_true, if_false, ite_true, ite_false, not_true, not_false_eq_true, rg_leanAfterStep, wh_turnNow, hc.2.2.2.1, wh_turnBehind_ok hc hc.2.1, wh_leanAt_ok hc hm]
theorem rg_warmth_ok (hc : cW M n t ld) (hg : cG M w s d) (hu : cU M b h c p) (hw : w ≤ 100000) (h9 : c ≤ 500) : rg_warmthAfterStep M = some (nI (wrm w c (lnZ n (fun c => (ld c : Int)) ((t + 1) % n)))) := by
  have hB := lnZ_b (r := (t + 1) % n) hc.1 (cW_ld hc)
  unfold wrm
  by_cases g : lnZ n (fun c => (ld c : Int)) ((t + 1) % n) < 0
  · have g2 : ¬ 0 ≤ lnZ n (fun c => (ld c : Int)) ((t + 1) % n) := by omega
    have e1 : iI (-lnZ n (fun c => (ld c : Int)) ((t + 1) % n)) = nI (lnZ n (fun c => (ld c : Int)) ((t + 1) % n)).natAbs := by
      rw [nI_iI]
      congr 1
      omega
    simp (disch := omega) only [x_bd_s, x_bi_s, x_lt_e, x_rd_n, x_wr_n, x_ra_n, x_dv_n, s_lt, s_le, s_eq, s_lt0, s_le0, s_0lt, s_0le, s_eq0, s_sub, s_rem, s_div, s_in, bI_0, bI_1, x_gb_b, x_gb_0, x_gb_1, nI_add, nI_1, s_size, s_abs, s_max, iI_mul, iI_add, iI_neg, Nat.le_refl, Nat.lt_irrefl, if_true, if_false, ite_true, ite_false, not_true, not_false_eq_true, rg_warmthAfterStep, rg_lean_ok hc, iI_0le, g2, g, hg.1, e1, show (100 : Int32) = nI 100 from rfl]
  · have g2 : 0 ≤ lnZ n (fun c => (ld c : Int)) ((t + 1) % n) := by omega
    have e1 : nI w - nI c = iI ((w : Int) - (c : Int)) := by rw [nI_iI, nI_iI, iI_sub]
    have e2 : (2 : Int32) = nI 2 := rfl
    have e3 : ((w : Int) - (c : Int)).toNat = w - c := by omega
    simp (disch := omega) only [x_bd_s, x_bi_s, x_lt_e, x_rd_n, x_wr_n, x_ra_n, x_dv_n, s_lt, s_le, s_eq, s_lt0, s_le0, s_0lt, s_0le, s_eq0, s_sub, s_rem, s_div, s_in, bI_0, bI_1, x_gb_b, x_gb_0, x_gb_1, nI_add, nI_1, s_size, s_abs, s_max, iI_mul, iI_add, iI_neg, Nat.le_refl, Nat.lt_irrefl, if_true, if_false, ite_true, ite_false, not_true, not_false_eq_true, rg_warmthAfterStep, rg_lean_ok hc, iI_0le, g2, g, hg.1, e2, ru_valueOf_ok, hu.2.2.1, e1, s_max0, e3]
theorem rg_why_ok (hc : cW M n t ld) (hg : cG M w s d) (hu : cU M b h c p) (hw : w ≤ 100000) (h7 : b ≤ 1000000) (h8 : h ≤ 10000) (h9 : c ≤ 500) : rg_whyNot M = some (nI (whyN b h c d w (lnZ n (fun c => (ld c : Int)) ((t + 1) % n)))) := by
  have hB := lnZ_b (r := (t + 1) % n) hc.1 (cW_ld hc)
  have hW : wrm w c (lnZ n (fun c => (ld c : Int)) ((t + 1) % n)) ≤ 200000 := by
    unfold wrm
    split <;> omega
  have v0 : ru_valueOf 0 M = some (nI b) := by rw [← nI_0, ru_valueOf_ok (by omega), hu.1]
  have v1 : ru_valueOf 1 M = some (nI h) := by rw [show (1 : Int32) = nI 1 from rfl, ru_valueOf_ok (by omega), hu.2.1]
  unfold whyN
  by_cases g1 : b < (lnZ n (fun c => (ld c : Int)) ((t + 1) % n)).natAbs
  · have k1 : ¬ (lnZ n (fun c => (ld c : Int)) ((t + 1) % n)).natAbs ≤ b := by omega
    simp (disch := omega) only [x_bd_s, x_bi_s, x_lt_e, x_rd_n, x_wr_n, x_ra_n, x_dv_n, s_lt, s_le, s_eq, s_lt0, s_le0, s_0lt, s_0le, s_eq0, s_sub, s_rem, s_div, s_in, bI_0, bI_1, x_gb_b, x_gb_0, x_gb_1, nI_add, nI_1, s_size, s_abs, s_max, iI_mul, iI_add, iI_neg, Nat.le_refl, Nat.lt_irrefl, if_true, if_false, ite_true, ite_false, not_true, not_false_eq_true, rg_whyNot, rg_lean_ok hc, v0, g1, k1]
    rfl
  · have k1 : (lnZ n (fun c => (ld c : Int)) ((t + 1) % n)).natAbs ≤ b := by omega
    by_cases g2 : h < wrm w c (lnZ n (fun c => (ld c : Int)) ((t + 1) % n))
    · have k2 : ¬ wrm w c (lnZ n (fun c => (ld c : Int)) ((t + 1) % n)) ≤ h := by omega
      simp (disch := omega) only [x_bd_s, x_bi_s, x_lt_e, x_rd_n, x_wr_n, x_ra_n, x_dv_n, s_lt, s_le, s_eq, s_lt0, s_le0, s_0lt, s_0le, s_eq0, s_sub, s_rem, s_div, s_in, bI_0, bI_1, x_gb_b, x_gb_0, x_gb_1, nI_add, nI_1, s_size, s_abs, s_max, iI_mul, iI_add, iI_neg, Nat.le_refl, Nat.lt_irrefl, if_true, if_false, ite_true, ite_false, not_true, not_false_eq_true, rg_whyNot, rg_lean_ok hc, v0, g1, k1, rg_warmth_ok hc hg hu hw h9, v1, g2, k2]
      rfl
    · have k2 : wrm w c (lnZ n (fun c => (ld c : Int)) ((t + 1) % n)) ≤ h := by omega
      by_cases g3 : 0 < lnZ n (fun c => (ld c : Int)) ((t + 1) % n)
      · have k3 : ¬ lnZ n (fun c => (ld c : Int)) ((t + 1) % n) ≤ 0 := by omega
        by_cases g4 : d = 0
        · simp (disch := omega) only [x_bd_s, x_bi_s, x_lt_e, x_rd_n, x_wr_n, x_ra_n, x_dv_n, s_lt, s_le, s_eq, s_lt0, s_le0, s_0lt, s_0le, s_eq0, s_sub, s_rem, s_div, s_in, bI_0, bI_1, x_gb_b, x_gb_0, x_gb_1, nI_add, nI_1, s_size, s_abs, s_max, iI_mul, iI_add, iI_neg, Nat.le_refl, Nat.lt_irrefl, if_true, if_false, ite_true, ite_false, not_true, not_false_eq_true, rg_whyNot, rg_lean_ok hc, v0, g1, k1, rg_warmth_ok hc hg hu hw h9, v1, g2, k2, iI_le0, k3, g3, g4, hg.2.2, and_self]
          rfl
        · simp (disch := omega) only [x_bd_s, x_bi_s, x_lt_e, x_rd_n, x_wr_n, x_ra_n, x_dv_n, s_lt, s_le, s_eq, s_lt0, s_le0, s_0lt, s_0le, s_eq0, s_sub, s_rem, s_div, s_in, bI_0, bI_1, x_gb_b, x_gb_0, x_gb_1, nI_add, nI_1, s_size, s_abs, s_max, iI_mul, iI_add, iI_neg, Nat.le_refl, Nat.lt_irrefl, if_true, if_false, ite_true, ite_false, not_true, not_false_eq_true, rg_whyNot, rg_lean_ok hc, v0, g1, k1, rg_warmth_ok hc hg hu hw h9, v1, g2, k2, iI_le0, k3, g3, g4, hg.2.2, and_false]
          rfl
      · have k3 : lnZ n (fun c => (ld c : Int)) ((t + 1) % n) ≤ 0 := by omega
        simp (disch := omega) only [x_bd_s, x_bi_s, x_lt_e, x_rd_n, x_wr_n, x_ra_n, x_dv_n, s_lt, s_le, s_eq, s_lt0, s_le0, s_0lt, s_0le, s_eq0, s_sub, s_rem, s_div, s_in, bI_0, bI_1, x_gb_b, x_gb_0, x_gb_1, nI_add, nI_1, s_size, s_abs, s_max, iI_mul, iI_add, iI_neg, Nat.le_refl, Nat.lt_irrefl, if_true, if_false, ite_true, ite_false, not_true, not_false_eq_true, rg_whyNot, rg_lean_ok hc, v0, g1, k1, rg_warmth_ok hc hg hu hw h9, v1, g2, k2, iI_le0, k3, g3, false_and]
        rfl
theorem md_why_ok (hk : okn n) (ht : t < n) (hld : ∀ c, c < n → -2000 ≤ ((fun c => (ld c : Int)) c) ∧ ((fun c => (ld c : Int)) c) ≤ 2000) (hm : mW M n t ld) (hg : mG M w s d) (hu : mU M b h c p) (hw : w ≤ 100000) (h7 : b ≤ 1000000) (h8 : h ≤ 10000) (h9 : c ≤ 500) : md_whyOf M = some (nI (whyN b h c d w (lnZ n (fun c => (ld c : Int)) ((t + 1) % n)))) := by
  have hb := okn_b hk
  have hB := lnZ_b (r := (t + 1) % n) hk hld
  have hmt := Nat.mod_lt (t + 1) (show 0 < n by omega)
  obtain ⟨m1, m2, m3⟩ := hm
  obtain ⟨u1, u2, u3, u4⟩ := hu
  obtain ⟨q1, q2, q3⟩ := hg
  have e0 := md_leanOf_ok (M := M) (f := fun c => (ld c : Int)) hk m1 (fun c hc' => m3 c (by omega)) hmt
  have last : ∀ x : Nat, x = wrm w c (lnZ n (fun c => (ld c : Int)) ((t + 1) % n)) → ¬ b < (lnZ n (fun c => (ld c : Int)) ((t + 1) % n)).natAbs → md_whyOf_b70 (iI (lnZ n (fun c => (ld c : Int)) ((t + 1) % n))) (nI x) M = some (nI (whyN b h c d w (lnZ n (fun c => (ld c : Int)) ((t + 1) % n)))) := by
    intro x hx g1
    have hW : x ≤ 200000 := by
      rw [hx]
      unfold wrm
      split <;> omega
    unfold whyN
    rw [← hx]
    by_cases g2 : h < x
    · have k2 : ¬ x ≤ h := by omega
      simp (disch := omega) only [x_bd_s, x_bi_s, x_lt_e, x_rd_n, x_wr_n, x_ra_n, x_dv_n, s_lt, s_le, s_eq, s_lt0, s_le0, s_0lt, s_0le, s_eq0, s_sub, s_rem, s_div, s_in, bI_0, bI_1, x_gb_b, x_gb_0, x_gb_1, nI_add, nI_1, s_size, s_abs, s_max, iI_mul, iI_add, iI_neg, Nat.le_refl, Nat.lt_irrefl, if_true, if_false, ite_true, ite_false, not_true, not_false_eq_true, md_whyOf_b70, u2, k2, g1, g2]
      rfl
    · have k2 : x ≤ h := by omega
      by_cases g3 : 0 < lnZ n (fun c => (ld c : Int)) ((t + 1) % n)
      · have k3 : ¬ lnZ n (fun c => (ld c : Int)) ((t + 1) % n) ≤ 0 := by omega
        by_cases g4 : d = 0
        · simp (disch := omega) only [x_bd_s, x_bi_s, x_lt_e, x_rd_n, x_wr_n, x_ra_n, x_dv_n, s_lt, s_le, s_eq, s_lt0, s_le0, s_0lt, s_0le, s_eq0, s_sub, s_rem, s_div, s_in, bI_0, bI_1, x_gb_b, x_gb_0, x_gb_1, nI_add, nI_1, s_size, s_abs, s_max, iI_mul, iI_add, iI_neg, Nat.le_refl, Nat.lt_irrefl, if_true, if_false, ite_true, ite_false, not_true, not_false_eq_true, md_whyOf_b70, u2, k2, g1, g2, iI_le0, k3, g3, g4, q3, and_self]
          rfl
        · simp (disch := omega) only [x_bd_s, x_bi_s, x_lt_e, x_rd_n, x_wr_n, x_ra_n, x_dv_n, s_lt, s_le, s_eq, s_lt0, s_le0, s_0lt, s_0le, s_eq0, s_sub, s_rem, s_div, s_in, bI_0, bI_1, x_gb_b, x_gb_0, x_gb_1, nI_add, nI_1, s_size, s_abs, s_max, iI_mul, iI_add, iI_neg, Nat.le_refl, Nat.lt_irrefl, if_true, if_false, ite_true, ite_false, not_true, not_false_eq_true, md_whyOf_b70, u2, k2, g1, g2, iI_le0, k3, g3, g4, q3, and_false]
          rfl
      · have k3 : lnZ n (fun c => (ld c : Int)) ((t + 1) % n) ≤ 0 := by omega
        simp (disch := omega) only [x_bd_s, x_bi_s, x_lt_e, x_rd_n, x_wr_n, x_ra_n, x_dv_n, s_lt, s_le, s_eq, s_lt0, s_le0, s_0lt, s_0le, s_eq0, s_sub, s_rem, s_div, s_in, bI_0, bI_1, x_gb_b, x_gb_0, x_gb_1, nI_add, nI_1, s_size, s_abs, s_max, iI_mul, iI_add, iI_neg, Nat.le_refl, Nat.lt_irrefl, if_true, if_false, ite_true, ite_false, not_true, not_false_eq_true, md_whyOf_b70, u2, k2, g1, g2, iI_le0, k3, g3, false_and]
        rfl
  by_cases g1 : b < (lnZ n (fun c => (ld c : Int)) ((t + 1) % n)).natAbs
  · have k1 : ¬ (lnZ n (fun c => (ld c : Int)) ((t + 1) % n)).natAbs ≤ b := by omega
    simp (disch := omega) only [x_bd_s, x_bi_s, x_lt_e, x_rd_n, x_wr_n, x_ra_n, x_dv_n, s_lt, s_le, s_eq, s_lt0, s_le0, s_0lt, s_0le, s_eq0, s_sub, s_rem, s_div, s_in, bI_0, bI_1, x_gb_b, x_gb_0, x_gb_1, nI_add, nI_1, s_size, s_abs, s_max, iI_mul, iI_add, iI_neg, Nat.le_refl, Nat.lt_irrefl, if_true, if_false, ite_true, ite_false, not_true, not_false_eq_true, md_whyOf, m1, m2, e0, u1, k1]
    unfold whyN
    rw [if_pos g1]
    rfl
  · have k1 : (lnZ n (fun c => (ld c : Int)) ((t + 1) % n)).natAbs ≤ b := by omega
    by_cases g : lnZ n (fun c => (ld c : Int)) ((t + 1) % n) < 0
    · have g2 : ¬ 0 ≤ lnZ n (fun c => (ld c : Int)) ((t + 1) % n) := by omega
      have e1 : iI (-lnZ n (fun c => (ld c : Int)) ((t + 1) % n)) = nI (lnZ n (fun c => (ld c : Int)) ((t + 1) % n)).natAbs := by
        rw [nI_iI]
        congr 1
        omega
      simp (disch := omega) only [x_bd_s, x_bi_s, x_lt_e, x_rd_n, x_wr_n, x_ra_n, x_dv_n, s_lt, s_le, s_eq, s_lt0, s_le0, s_0lt, s_0le, s_eq0, s_sub, s_rem, s_div, s_in, bI_0, bI_1, x_gb_b, x_gb_0, x_gb_1, nI_add, nI_1, s_size, s_abs, s_max, iI_mul, iI_add, iI_neg, Nat.le_refl, Nat.lt_irrefl, if_true, if_false, ite_true, ite_false, not_true, not_false_eq_true, md_whyOf, m1, m2, e0, u1, k1, iI_0le, g2, q1, e1, show (100 : Int32) = nI 100 from rfl]
      exact last _ (by unfold wrm; rw [if_pos g]) g1
    · have g2 : 0 ≤ lnZ n (fun c => (ld c : Int)) ((t + 1) % n) := by omega
      by_cases g3 : w ≤ c
      · simp (disch := omega) only [x_bd_s, x_bi_s, x_lt_e, x_rd_n, x_wr_n, x_ra_n, x_dv_n, s_lt, s_le, s_eq, s_lt0, s_le0, s_0lt, s_0le, s_eq0, s_sub, s_rem, s_div, s_in, bI_0, bI_1, x_gb_b, x_gb_0, x_gb_1, nI_add, nI_1, s_size, s_abs, s_max, iI_mul, iI_add, iI_neg, Nat.le_refl, Nat.lt_irrefl, if_true, if_false, ite_true, ite_false, not_true, not_false_eq_true, md_whyOf, m1, m2, e0, u1, k1, iI_0le, g2, q1, u3, g3]
        exact last 0 (by unfold wrm; rw [if_neg g]; omega) g1
      · simp (disch := omega) only [x_bd_s, x_bi_s, x_lt_e, x_rd_n, x_wr_n, x_ra_n, x_dv_n, s_lt, s_le, s_eq, s_lt0, s_le0, s_0lt, s_0le, s_eq0, s_sub, s_rem, s_div, s_in, bI_0, bI_1, x_gb_b, x_gb_0, x_gb_1, nI_add, nI_1, s_size, s_abs, s_max, iI_mul, iI_add, iI_neg, Nat.le_refl, Nat.lt_irrefl, if_true, if_false, ite_true, ite_false, not_true, not_false_eq_true, md_whyOf, m1, m2, e0, u1, k1, iI_0le, g2, q1, u3, g3]
        exact last (w - c) (by unfold wrm; rw [if_neg g]) g1
end

/-! a STEP done, and STEPS one behind the other -/
/-- THE TURN and WARMTH behind a STEP; none: it is not done -/
def goF (n : Nat) (ld : Nat → Nat) (b h c : Nat) (d : Int32) (x : Nat × Nat) : Option (Nat × Nat) :=
  if whyN b h c d x.2 (lnZ n (fun c => (ld c : Int)) ((x.1 + 1) % n)) = 0 then some ((x.1 + 1) % n, wrm x.2 c (lnZ n (fun c => (ld c : Int)) ((x.1 + 1) % n))) else none
section
variable {M : e_Me} {n t : Nat} {ld : Nat → Nat} {b h c p w : Nat} {s d : Int32}
theorem whyN_le {x : Int} : whyN b h c d w x ≤ 3 := by
  unfold whyN
  split
  · omega
  · split
    · omega
    · split <;> omega
theorem goF_w {x y : Nat × Nat} (h8 : h ≤ 10000) (e : goF n ld b h c d x = some y) : y.2 ≤ 10000 := by
  unfold goF at e
  split at e
  · rename_i g
    cases e
    show wrm _ _ _ ≤ 10000
    unfold whyN at g
    split at g
    · omega
    · split at g
      · omega
      · omega
  · cases e
/-- all that a step of the class may change -/
def stC (M M' : e_Me) : Prop := ∀ i, i ≠ 3 → i ≠ 7 → M' i = M i
theorem rg_goOn_ok (hc : cW M n t ld) (hg : cG M w s d) (hu : cU M b h c p) (hw : w ≤ 10000) (h7 : b ≤ 1000000) (h8 : h ≤ 10000) (h9 : c ≤ 500) :
    (goF n ld b h c d (t, w) = none ∧ rg_goOn M = some (0, M)) ∨
    ∃ t' w' M', goF n ld b h c d (t, w) = some (t', w') ∧ rg_goOn M = some (1, M') ∧ cW M' n t' ld ∧ cG M' w' (s + 1) d ∧ stC M M' := by
  have hb := okn_b hc.1
  have hW := rg_why_ok hc hg hu (by omega) h7 h8 h9
  have hl := whyN_le (b := b) (h := h) (c := c) (d := d) (w := w) (x := lnZ n (fun c => (ld c : Int)) ((t + 1) % n))
  have hmt := Nat.mod_lt (t + 1) (show 0 < n by omega)
  unfold goF
  simp only
  by_cases g : whyN b h c d w (lnZ n (fun c => (ld c : Int)) ((t + 1) % n)) = 0
  · right
    rw [if_pos g]
    have e1 : cW (e_up M 7 2 (nI (wrm w c (lnZ n (fun c => (ld c : Int)) ((t + 1) % n))))) n t ld := cW_frame hc (by funext j; simp [e_up_a]) (by funext j; simp [e_up_a]) (by funext j; simp [e_up_a]) (by funext j; simp [e_up_a])
    obtain ⟨M2, k1, k2, k3⟩ := wh_turnTo_ok e1 hmt
    refine ⟨_, _, e_up M2 7 3 (M2 7 3 + 1), rfl, ?_, cW_frame k2 (by funext j; simp [e_up_a]) (by funext j; simp [e_up_a]) (by funext j; simp [e_up_a]) (by funext j; simp [e_up_a]), ⟨?_, ?_, ?_⟩, ?_⟩
    · simp (disch := omega) only [x_bd_s, x_bi_s, x_lt_e, x_rd_n, x_wr_n, x_ra_n, x_dv_n, s_lt, s_le, s_eq, s_lt0, s_le0, s_0lt, s_0le, s_eq0, s_sub, s_rem, s_div, s_in, bI_0, bI_1, x_gb_b, x_gb_0, x_gb_1, nI_add, nI_1, s_size, s_abs, s_max, iI_mul, iI_add, iI_neg, Nat.le_refl, Nat.lt_irrefl, if_true, if_false, ite_true, ite_false, not_true, not_false_eq_true, rg_goOn, hW, g, rg_warmth_ok hc hg hu (show w ≤ 100000 by omega) h9, wh_turnNow, e1.2.2.2.1, wh_turnBehind_ok e1 hc.2.1, k1]
    · simp [e_up_a, k3 7 (by omega)]
    · simp [e_up_a, k3 7 (by omega), hg.2.1]
    · simp [e_up_a, k3 7 (by omega), hg.2.2]
    · intro i a1 a2
      funext j
      simp [e_up_a, a2, k3 i a1]
  · left
    rw [if_neg g]
    refine ⟨rfl, ?_⟩
    simp (disch := omega) only [x_bd_s, x_bi_s, x_lt_e, x_rd_n, x_wr_n, x_ra_n, x_dv_n, s_lt, s_le, s_eq, s_lt0, s_le0, s_0lt, s_0le, s_eq0, s_sub, s_rem, s_div, s_in, bI_0, bI_1, x_gb_b, x_gb_0, x_gb_1, nI_add, nI_1, s_size, s_abs, s_max, iI_mul, iI_add, iI_neg, Nat.le_refl, Nat.lt_irrefl, if_true, if_false, ite_true, ite_false, not_true, not_false_eq_true, rg_goOn, hW, g]
theorem md_goesOn_ok (hk : okn n) (ht : t < n) (hld : ∀ c, c < n → -2000 ≤ ((fun c => (ld c : Int)) c) ∧ ((fun c => (ld c : Int)) c) ≤ 2000) (hm : mW M n t ld) (hg : mG M w s d) (hu : mU M b h c p) (hw : w ≤ 10000) (h7 : b ≤ 1000000) (h8 : h ≤ 10000) (h9 : c ≤ 500) :
    (goF n ld b h c d (t, w) = none ∧ md_goesOn M = some (0, M)) ∨
    ∃ t' w', goF n ld b h c d (t, w) = some (t', w') ∧ md_goesOn M = some (1, e_up (e_up (e_up M 182 1 (nI t')) 182 2 (nI w')) 182 3 (s + 1)) := by
  have hb := okn_b hk
  have hB := lnZ_b (r := (t + 1) % n) hk hld
  have hW := md_why_ok hk ht hld hm hg hu (by omega) h7 h8 h9
  have hl := whyN_le (b := b) (h := h) (c := c) (d := d) (w := w) (x := lnZ n (fun c => (ld c : Int)) ((t + 1) % n))
  have hmt := Nat.mod_lt (t + 1) (show 0 < n by omega)
  unfold goF
  simp only
  by_cases g : whyN b h c d w (lnZ n (fun c => (ld c : Int)) ((t + 1) % n)) = 0
  · right
    rw [if_pos g]
    refine ⟨_, _, rfl, ?_⟩
    obtain ⟨m1, m2, m3⟩ := id hm
    obtain ⟨u1, u2, u3, u4⟩ := hu
    obtain ⟨q1, q2, q3⟩ := hg
    have e0 : md_leanOf (nI ((t + 1) % n)) (e_up M 182 1 (nI ((t + 1) % n))) = some (iI (lnZ n (fun c => (ld c : Int)) ((t + 1) % n))) := md_leanOf_ok (f := fun c => (ld c : Int)) hk (by simp [e_up_a, m1]) (fun c hc' => show e_up M 182 1 (nI ((t + 1) % n)) 185 c = nI (ld c) by simpa [e_up_a] using m3 c (by omega)) hmt
    have f0 : e_up M 182 1 (nI ((t + 1) % n)) 182 1 = nI ((t + 1) % n) := by simp [e_up_a]
    have f2 : e_up M 182 1 (nI ((t + 1) % n)) 182 2 = nI w := by simp [e_up_a, q1]
    have f3 : ∀ z, e_up (e_up M 182 1 (nI ((t + 1) % n))) 182 2 z 182 3 = s := fun z => by simp [e_up_a, q2]
    have f6 : e_up M 182 1 (nI ((t + 1) % n)) 182 6 = nI c := by simp [e_up_a, u3]
    unfold wrm
    by_cases gg : lnZ n (fun c => (ld c : Int)) ((t + 1) % n) < 0
    · have g2 : ¬ 0 ≤ lnZ n (fun c => (ld c : Int)) ((t + 1) % n) := by omega
      have e1 : iI (-lnZ n (fun c => (ld c : Int)) ((t + 1) % n)) = nI (lnZ n (fun c => (ld c : Int)) ((t + 1) % n)).natAbs := by
        rw [nI_iI]
        congr 1
        omega
      simp (disch := omega) only [x_bd_s, x_bi_s, x_lt_e, x_rd_n, x_wr_n, x_ra_n, x_dv_n, s_lt, s_le, s_eq, s_lt0, s_le0, s_0lt, s_0le, s_eq0, s_sub, s_rem, s_div, s_in, bI_0, bI_1, x_gb_b, x_gb_0, x_gb_1, nI_add, nI_1, s_size, s_abs, s_max, iI_mul, iI_add, iI_neg, Nat.le_refl, Nat.lt_irrefl, if_true, if_false, ite_true, ite_false, not_true, not_false_eq_true, md_goesOn, hW, g, m1, m2, f0, e0, iI_0le, g2, gg, f2, f6, md_goesOn_b82, e1, show (100 : Int32) = nI 100 from rfl, f3]
    · have g2 : 0 ≤ lnZ n (fun c => (ld c : Int)) ((t + 1) % n) := by omega
      by_cases g3 : w ≤ c
      · have g4 : w - c = 0 := by omega
        simp (disch := omega) only [x_bd_s, x_bi_s, x_lt_e, x_rd_n, x_wr_n, x_ra_n, x_dv_n, s_lt, s_le, s_eq, s_lt0, s_le0, s_0lt, s_0le, s_eq0, s_sub, s_rem, s_div, s_in, bI_0, bI_1, x_gb_b, x_gb_0, x_gb_1, nI_add, nI_1, s_size, s_abs, s_max, iI_mul, iI_add, iI_neg, Nat.le_refl, Nat.lt_irrefl, if_true, if_false, ite_true, ite_false, not_true, not_false_eq_true, md_goesOn, hW, g, m1, m2, f0, e0, iI_0le, g2, gg, f2, f6, g3, md_goesOn_b79, md_goesOn_b82, f3, g4]
        rfl
      · simp (disch := omega) only [x_bd_s, x_bi_s, x_lt_e, x_rd_n, x_wr_n, x_ra_n, x_dv_n, s_lt, s_le, s_eq, s_lt0, s_le0, s_0lt, s_0le, s_eq0, s_sub, s_rem, s_div, s_in, bI_0, bI_1, x_gb_b, x_gb_0, x_gb_1, nI_add, nI_1, s_size, s_abs, s_max, iI_mul, iI_add, iI_neg, Nat.le_refl, Nat.lt_irrefl, if_true, if_false, ite_true, ite_false, not_true, not_false_eq_true, md_goesOn, hW, g, m1, m2, f0, e0, iI_0le, g2, gg, f2, f6, g3, md_goesOn_b79, md_goesOn_b82, f3]
  · left
    rw [if_neg g]
    refine ⟨rfl, ?_⟩
    simp (disch := omega) only [x_bd_s, x_bi_s, x_lt_e, x_rd_n, x_wr_n, x_ra_n, x_dv_n, s_lt, s_le, s_eq, s_lt0, s_le0, s_0lt, s_0le, s_eq0, s_sub, s_rem, s_div, s_in, bI_0, bI_1, x_gb_b, x_gb_0, x_gb_1, nI_add, nI_1, s_size, s_abs, s_max, iI_mul, iI_add, iI_neg, Nat.le_refl, Nat.lt_irrefl, if_true, if_false, ite_true, ite_false, not_true, not_false_eq_true, md_goesOn, hW, g]
end
