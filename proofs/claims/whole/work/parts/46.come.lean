/-! come, tire -/
def upn {α : Type} (f : Nat → α) (k : Nat) (v : α) : Nat → α := fun j => if j = k then v else f j
theorem upn_e {α : Type} (f : Nat → α) (k : Nat) (v : α) : upn f k v k = v := if_pos rfl
theorem upn_o {α : Type} {f : Nat → α} {k j : Nat} {v : α} (h : j ≠ k) : upn f k v j = f j := if_neg h
/-- what m PERSONS weigh together -/
def tgN (a b c : Nat) : Nat → Nat
  | 0 => 0
  | k + 1 => tgN a b c k + (if k % 3 = 0 then a else if k % 3 = 1 then b else c)
theorem tgN_b {a b c : Nat} (ha : 5 ≤ a ∧ a ≤ 150) (hb : 5 ≤ b ∧ b ≤ 150) (hc : 5 ≤ c ∧ c ≤ 150) : ∀ k, 5 * k ≤ tgN a b c k ∧ tgN a b c k ≤ 150 * k
  | 0 => by simp [tgN]
  | k + 1 => by
    have := tgN_b ha hb hc k
    simp only [tgN]
    split
    · omega
    · split <;> omega
section
variable {M : e_Me}
theorem together_ok {m a b c : Nat} (hm : m ≤ 6) : pa_together (nI m) (nI a) (nI b) (nI c) M = some (nI (tgN a b c m)) := by
  have key : ∀ (d k F : Nat), k + d = m → d < F → pa_together_l6 (nI m) (nI a) (nI b) (nI c) M F (nI (tgN a b c k)) (nI k) = some (nI (tgN a b c m)) := by
    intro d
    induction d with
    | zero =>
      intro k F h1 h2
      obtain ⟨F, rfl⟩ : ∃ F', F = F' + 1 := ⟨F - 1, by omega⟩
      have e : k = m := by omega
      subst e
      simp (disch := omega) only [x_bd_s, x_bi_s, x_lt_e, x_rd_n, x_wr_n, x_ra_n, x_dv_n, s_lt, s_le, s_eq, s_lt0, s_le0, s_0lt, s_0le, s_eq0, s_sub, s_rem, s_div, s_in, bI_0, bI_1, x_gb_b, x_gb_0, x_gb_1, nI_add, nI_1, s_size, s_abs, s_max, iI_mul, iI_add, iI_neg, Nat.le_refl, Nat.lt_irrefl, if_true, if_false, ite_true, ite_false, not_true, not_false_eq_true, pa_together_l6]
    | succ d ih =>
      intro k F h1 h2
      obtain ⟨F, rfl⟩ : ∃ F', F = F' + 1 := ⟨F - 1, by omega⟩
      have c1 : ¬ m ≤ k := by omega
      have c2 : ¬ 6 ≤ k := by omega
      have i1 := ih (k + 1) F (by omega) (by omega)
      simp only [tgN] at i1
      simp (disch := omega) only [x_bd_s, x_bi_s, x_lt_e, x_rd_n, x_wr_n, x_ra_n, x_dv_n, s_lt, s_le, s_eq, s_lt0, s_le0, s_0lt, s_0le, s_eq0, s_sub, s_rem, s_div, s_in, bI_0, bI_1, x_gb_b, x_gb_0, x_gb_1, nI_add, nI_1, s_size, s_abs, s_max, iI_mul, iI_add, iI_neg, Nat.le_refl, Nat.lt_irrefl, if_true, if_false, ite_true, ite_false, not_true, not_false_eq_true, pa_together_l6, c1, show (6 : Int32) = nI 6 from rfl, c2, show (3 : Int32) = nI 3 from rfl]
      by_cases e0 : k % 3 = 0
      · rw [if_pos e0] at i1
        simp (disch := omega) only [x_bd_s, x_bi_s, x_lt_e, x_rd_n, x_wr_n, x_ra_n, x_dv_n, s_lt, s_le, s_eq, s_lt0, s_le0, s_0lt, s_0le, s_eq0, s_sub, s_rem, s_div, s_in, bI_0, bI_1, x_gb_b, x_gb_0, x_gb_1, nI_add, nI_1, s_size, s_abs, s_max, iI_mul, iI_add, iI_neg, Nat.le_refl, Nat.lt_irrefl, if_true, if_false, ite_true, ite_false, not_true, not_false_eq_true, e0]
        exact i1
      · rw [if_neg e0] at i1
        by_cases e1 : k % 3 = 1
        · rw [if_pos e1] at i1
          have q : (nI 1 = (1 : Int32)) = True := by decide
          simp (disch := omega) only [x_bd_s, x_bi_s, x_lt_e, x_rd_n, x_wr_n, x_ra_n, x_dv_n, s_lt, s_le, s_eq, s_lt0, s_le0, s_0lt, s_0le, s_eq0, s_sub, s_rem, s_div, s_in, bI_0, bI_1, x_gb_b, x_gb_0, x_gb_1, nI_add, nI_1, s_size, s_abs, s_max, iI_mul, iI_add, iI_neg, Nat.le_refl, Nat.lt_irrefl, if_true, if_false, ite_true, ite_false, not_true, not_false_eq_true, e1, q, show ((1 : Nat) = 0) = False by decide]
          exact i1
        · rw [if_neg e1] at i1
          have q : (nI (k % 3) = (1 : Int32)) = False := by
            rw [show (1 : Int32) = nI 1 from rfl, s_eq (by omega) (by omega)]
            exact eq_false e1
          simp (disch := omega) only [x_bd_s, x_bi_s, x_lt_e, x_rd_n, x_wr_n, x_ra_n, x_dv_n, s_lt, s_le, s_eq, s_lt0, s_le0, s_0lt, s_0le, s_eq0, s_sub, s_rem, s_div, s_in, bI_0, bI_1, x_gb_b, x_gb_0, x_gb_1, nI_add, nI_1, s_size, s_abs, s_max, iI_mul, iI_add, iI_neg, Nat.le_refl, Nat.lt_irrefl, if_true, if_false, ite_true, ite_false, not_true, not_false_eq_true, e0, q]
          exact i1
  have := e_Fge
  have k1 := key m 0 e_F (by omega) (by omega)
  simp only [tgN, nI_0] at k1
  exact k1
theorem md_sum_ok {m a b c : Nat} (w : Int32) (hm : m ≤ 6) : md_come_l78 (nI m) (nI a) (nI b) (nI c) w M e_F 0 0 = md_come_b120 (nI m) w (nI (tgN a b c m)) M := by
  have key : ∀ (d k F : Nat), k + d = m → d < F → md_come_l78 (nI m) (nI a) (nI b) (nI c) w M F (nI (tgN a b c k)) (nI k) = md_come_b120 (nI m) w (nI (tgN a b c m)) M := by
    intro d
    induction d with
    | zero =>
      intro k F h1 h2
      obtain ⟨F, rfl⟩ : ∃ F', F = F' + 1 := ⟨F - 1, by omega⟩
      have e : k = m := by omega
      subst e
      simp (disch := omega) only [x_bd_s, x_bi_s, x_lt_e, x_rd_n, x_wr_n, x_ra_n, x_dv_n, s_lt, s_le, s_eq, s_lt0, s_le0, s_0lt, s_0le, s_eq0, s_sub, s_rem, s_div, s_in, bI_0, bI_1, x_gb_b, x_gb_0, x_gb_1, nI_add, nI_1, s_size, s_abs, s_max, iI_mul, iI_add, iI_neg, Nat.le_refl, Nat.lt_irrefl, if_true, if_false, ite_true, ite_false, not_true, not_false_eq_true, md_come_l78]
    | succ d ih =>
      intro k F h1 h2
      obtain ⟨F, rfl⟩ : ∃ F', F = F' + 1 := ⟨F - 1, by omega⟩
      have c1 : ¬ m ≤ k := by omega
      have i1 := ih (k + 1) F (by omega) (by omega)
      simp only [tgN] at i1
      simp (disch := omega) only [x_bd_s, x_bi_s, x_lt_e, x_rd_n, x_wr_n, x_ra_n, x_dv_n, s_lt, s_le, s_eq, s_lt0, s_le0, s_0lt, s_0le, s_eq0, s_sub, s_rem, s_div, s_in, bI_0, bI_1, x_gb_b, x_gb_0, x_gb_1, nI_add, nI_1, s_size, s_abs, s_max, iI_mul, iI_add, iI_neg, Nat.le_refl, Nat.lt_irrefl, if_true, if_false, ite_true, ite_false, not_true, not_false_eq_true, md_come_l78, c1, show (3 : Int32) = nI 3 from rfl]
      by_cases e0 : k % 3 = 0
      · rw [if_pos e0] at i1
        simp (disch := omega) only [x_bd_s, x_bi_s, x_lt_e, x_rd_n, x_wr_n, x_ra_n, x_dv_n, s_lt, s_le, s_eq, s_lt0, s_le0, s_0lt, s_0le, s_eq0, s_sub, s_rem, s_div, s_in, bI_0, bI_1, x_gb_b, x_gb_0, x_gb_1, nI_add, nI_1, s_size, s_abs, s_max, iI_mul, iI_add, iI_neg, Nat.le_refl, Nat.lt_irrefl, if_true, if_false, ite_true, ite_false, not_true, not_false_eq_true, e0]
        exact i1
      · rw [if_neg e0] at i1
        by_cases e1 : k % 3 = 1
        · rw [if_pos e1] at i1
          have q : (nI 1 = (1 : Int32)) = True := by decide
          simp (disch := omega) only [x_bd_s, x_bi_s, x_lt_e, x_rd_n, x_wr_n, x_ra_n, x_dv_n, s_lt, s_le, s_eq, s_lt0, s_le0, s_0lt, s_0le, s_eq0, s_sub, s_rem, s_div, s_in, bI_0, bI_1, x_gb_b, x_gb_0, x_gb_1, nI_add, nI_1, s_size, s_abs, s_max, iI_mul, iI_add, iI_neg, Nat.le_refl, Nat.lt_irrefl, if_true, if_false, ite_true, ite_false, not_true, not_false_eq_true, e1, q, show ((1 : Nat) = 0) = False by decide]
          exact i1
        · rw [if_neg e1] at i1
          have q : (nI (k % 3) = (1 : Int32)) = False := by
            rw [show (1 : Int32) = nI 1 from rfl, s_eq (by omega) (by omega)]
            exact eq_false e1
          simp (disch := omega) only [x_bd_s, x_bi_s, x_lt_e, x_rd_n, x_wr_n, x_ra_n, x_dv_n, s_lt, s_le, s_eq, s_lt0, s_le0, s_0lt, s_0le, s_eq0, s_sub, s_rem, s_div, s_in, bI_0, bI_1, x_gb_b, x_gb_0, x_gb_1, nI_add, nI_1, s_size, s_abs, s_max, iI_mul, iI_add, iI_neg, Nat.le_refl, Nat.lt_irrefl, if_true, if_false, ite_true, ite_false, not_true, not_false_eq_true, e0, q]
          exact i1
  have := e_Fge
  have k1 := key m 0 e_F (by omega) (by omega)
  simp only [tgN, nI_0] at k1
  exact k1
theorem s_5 : (5 : Int32) = iI 5 := by decide
theorem s_150 : (150 : Int32) = iI 150 := by decide
theorem s_6 : (6 : Int32) = iI 6 := by decide
theorem s_3 : (3 : Int32) = iI 3 := by decide
theorem s_1 : (1 : Int32) = iI 1 := by decide
theorem weighs_ok {x : Int} (h1 : -2147483648 ≤ x) (h2 : x < 2147483648) : pa_weighs (iI x) M = some (bI (5 ≤ x ∧ x ≤ 150)) := by
  unfold pa_weighs bI
  rw [s_5, s_150]
  simp (disch := omega) only [iI_lt]
  by_cases a : x < 5
  · rw [if_pos a, if_neg (by omega)]
  · by_cases b : 150 < x
    · rw [if_neg a, if_pos b, if_neg (by omega)]
    · rw [if_neg a, if_neg b, if_pos (by omega)]
theorem isWeight_ok {x : Int} (h1 : -2147483648 ≤ x) (h2 : x < 2147483648) : md_isWeight (iI x) M = some (bI (5 ≤ x ∧ x ≤ 150)) := by
  have i1 := in_gen (M := M) (x := iI x) (a := 5) (b := 150) (by omega) (by omega) (by omega) (by omega)
  rw [iI_toInt h1 h2, ← s_5, ← s_150] at i1
  simp only [md_isWeight, i1, x_bd_s, x_gb_b]
theorem allows_ok {m a b c w : Int} (m1 : -2147483648 ≤ m) (m2 : m < 2147483648) (a1 : -2147483648 ≤ a) (a2 : a < 2147483648) (b1 : -2147483648 ≤ b) (b2 : b < 2147483648) (c1 : -2147483648 ≤ c) (c2 : c < 2147483648) (w1 : -2147483648 ≤ w) (w2 : w < 2147483648) :
    pa_allows (iI m) (iI a) (iI b) (iI c) (iI w) M = some (bI ((1 ≤ m ∧ m ≤ 6) ∧ (5 ≤ a ∧ a ≤ 150) ∧ (5 ≤ b ∧ b ≤ 150) ∧ (5 ≤ c ∧ c ≤ 150) ∧ 0 ≤ w ∧ w ≤ 3)) := by
  unfold pa_allows
  simp (disch := omega) only [weighs_ok, x_bd_s, bI_0, iI_lt0]
  simp (disch := omega) only [show ∀ x : Int32, (x < (1 : Int32)) = (x < iI 1) from fun x => by rw [s_1], show ∀ x : Int32, ((6 : Int32) < x) = (iI 6 < x) from fun x => by rw [s_6], show ∀ x : Int32, ((3 : Int32) < x) = (iI 3 < x) from fun x => by rw [s_3], iI_lt]
  unfold bI
  by_cases h1 : m < 1
  · rw [if_pos h1, if_neg (by omega)]
  rw [if_neg h1]
  by_cases h2 : 6 < m
  · rw [if_pos h2, if_neg (by omega)]
  rw [if_neg h2]
  by_cases h3 : 5 ≤ a ∧ a ≤ 150
  · rw [if_neg (not_not_intro h3)]
    by_cases h4 : 5 ≤ b ∧ b ≤ 150
    · rw [if_neg (not_not_intro h4)]
      by_cases h5 : 5 ≤ c ∧ c ≤ 150
      · rw [if_neg (not_not_intro h5)]
        by_cases h6 : w < 0
        · rw [if_pos h6, if_neg (by omega)]
        rw [if_neg h6]
        by_cases h7 : 3 < w
        · rw [if_pos h7, if_neg (by omega)]
        · rw [if_neg h7, if_pos (by omega)]
      · rw [if_pos h5, if_neg (fun q => h5 q.2.2.2.1)]
    · rw [if_pos h4, if_neg (fun q => h4 q.2.2.1)]
  · rw [if_pos h3, if_neg (fun q => h3 q.2.1)]
theorem md_come_in {m a b c w : Int} (m1 : -2147483648 ≤ m) (m2 : m < 2147483648) (a1 : -2147483648 ≤ a) (a2 : a < 2147483648) (b1 : -2147483648 ≤ b) (b2 : b < 2147483648) (c1 : -2147483648 ≤ c) (c2 : c < 2147483648) (w1 : -2147483648 ≤ w) (w2 : w < 2147483648) :
    md_come (iI m) (iI a) (iI b) (iI c) (iI w) M = if ((1 ≤ m ∧ m ≤ 6) ∧ (5 ≤ a ∧ a ≤ 150) ∧ (5 ≤ b ∧ b ≤ 150) ∧ (5 ≤ c ∧ c ≤ 150) ∧ 0 ≤ w ∧ w ≤ 3) then (if M 182 19 = 30 then some (-104, M) else if M 182 12 = 200 then some (-104, M) else md_come_l78 (iI m) (iI a) (iI b) (iI c) (iI w) M e_F 0 0) else some (-102, M) := by
  have i1 := in_gen (M := M) (x := iI m) (a := 1) (b := 6) (by omega) (by omega) (by omega) (by omega)
  have i5 := in_gen (M := M) (x := iI w) (a := 0) (b := 3) (by omega) (by omega) (by omega) (by omega)
  rw [iI_toInt m1 m2, ← s_1, ← s_6] at i1
  rw [iI_toInt w1 w2, ← s_3, show iI 0 = (0 : Int32) from rfl] at i5
  simp only [md_come, i1, isWeight_ok a1 a2, isWeight_ok b1 b2, isWeight_ok c1 c2, i5, x_bd_s, bI_0]
  by_cases h1 : 1 ≤ m ∧ m ≤ 6
  · rw [if_neg (not_not_intro h1)]
    by_cases h2 : 5 ≤ a ∧ a ≤ 150
    · rw [if_neg (not_not_intro h2)]
      by_cases h3 : 5 ≤ b ∧ b ≤ 150
      · rw [if_neg (not_not_intro h3)]
        by_cases h4 : 5 ≤ c ∧ c ≤ 150
        · rw [if_neg (not_not_intro h4)]
          by_cases h5 : 0 ≤ w ∧ w ≤ 3
          · have hv : (1 ≤ m ∧ m ≤ 6) ∧ (5 ≤ a ∧ a ≤ 150) ∧ (5 ≤ b ∧ b ≤ 150) ∧ (5 ≤ c ∧ c ≤ 150) ∧ 0 ≤ w ∧ w ≤ 3 := ⟨h1, h2, h3, h4, h5⟩
            rw [if_neg (not_not_intro h5), if_pos hv]
          · rw [if_pos h5, if_neg (fun q => h5 q.2.2.2.2)]
        · rw [if_pos h4, if_neg (fun q => h4 q.2.2.2.1)]
      · rw [if_pos h3, if_neg (fun q => h3 q.2.2.1)]
    · rw [if_pos h2, if_neg (fun q => h2 q.2.1)]
  · rw [if_pos h1, if_neg (fun q => h1 q.1)]
theorem l_come (h : Inv M) (x1 x2 x3 x4 x5 : Int32) : ∃ r M1 M2, ew_come x1 x2 x3 x4 x5 M = some (r, M1) ∧ md_come x1 x2 x3 x4 x5 M1 = some (r, M2) ∧ Inv M2 := by
  obtain ⟨m, rfl, m1, m2⟩ := iI_of x1
  obtain ⟨a, rfl, a1, a2⟩ := iI_of x2
  obtain ⟨b, rfl, b1, b2⟩ := iI_of x3
  obtain ⟨c, rfl, c1, c2⟩ := iI_of x4
  obtain ⟨w, rfl, w1, w2⟩ := iI_of x5
  have al := allows_ok (M := M) m1 m2 a1 a2 b1 b2 c1 c2 w1 w2
  by_cases hv : (1 ≤ m ∧ m ≤ 6) ∧ (5 ≤ a ∧ a ≤ 150) ∧ (5 ≤ b ∧ b ≤ 150) ∧ (5 ≤ c ∧ c ≤ 150) ∧ 0 ≤ w ∧ w ≤ 3
  · rw [bI_t hv] at al
    obtain ⟨n, t, ld, hW, ⟨wm, s0, d, hG⟩, ⟨bb, u, cc, p, hU⟩, ⟨kn, s, q, hN⟩, ⟨k, r, v, mm, hR⟩, ⟨lo, hi, hH⟩, ⟨k9, hO⟩, np, pe, we, wi, wh, se, pa, l, ln, sc, cb, hP, hQ, hwf⟩ := id h
    have hnp := hwf.1
    have hl30 := hwf.2.1
    obtain ⟨⟨r1, r2, r3, r4, r5, r6⟩, r7, r8, r9, r10, r11⟩ := hP
    by_cases hf : l < 30 ∧ np < 200
    · obtain ⟨hf1, hf2⟩ := hf
      have ym : iI m = nI m.toNat := nI_of_iI (by omega)
      have ya : iI a = nI a.toNat := nI_of_iI (by omega)
      have yb : iI b = nI b.toNat := nI_of_iI (by omega)
      have yc : iI c = nI c.toNat := nI_of_iI (by omega)
      have yw : iI w = nI w.toNat := nI_of_iI (by omega)
      have tgb := tgN_b (a := a.toNat) (b := b.toNat) (c := c.toNat) (by omega) (by omega) (by omega) m.toNat
      have e1 : ∃ M1, ew_come (iI m) (iI a) (iI b) (iI c) (iI w) M = some (nI np, M1) ∧ (M1 10 1 = nI (np + 1) ∧ M1 12 1 = nI (np + 1) ∧ M1 14 1 = nI (np + 1) ∧ M1 16 1 = nI (np + 1) ∧ M1 18 1 = nI (np + 1) ∧ M1 20 1 = nI (np + 1)) ∧ M1 22 1 = nI (l + 1) ∧
          (∀ z, M1 11 z = if z = np then nI m.toNat else M 11 z) ∧ (∀ z, M1 13 z = if z = np then nI (tgN a.toNat b.toNat c.toNat m.toNat) else M 13 z) ∧ (∀ z, M1 15 z = if z = np then nI w.toNat else M 15 z) ∧ (∀ z, M1 17 z = if z = np then nI 100 else M 17 z) ∧ (∀ z, M1 19 z = if z = np then nI 0 else M 19 z) ∧ (∀ z, M1 21 z = if z = np then 0 else M 21 z) ∧ (∀ z, M1 23 z = if z = l then nI np else M 23 z) ∧
          ∀ i j, ¬ (10 ≤ i ∧ i ≤ 23) → M1 i j = M i j := by
        have q1 := ro_append_ok (M := M) (x := iI m) cap_200.1 r1 hf2 (by omega)
        generalize hA1 : e_up (e_up M (10 + 1) np (iI m)) 10 1 (nI (np + 1)) = A1 at q1
        have q2 := ro_append_ok (M := A1) (x := nI (tgN a.toNat b.toNat c.toNat m.toNat)) cap_200.2.1 (m := np) (by rw [← hA1]; simp (disch := omega) only [e_up_o, r2]) hf2 (by omega)
        generalize hA2 : e_up (e_up A1 (12 + 1) np (nI (tgN a.toNat b.toNat c.toNat m.toNat))) 12 1 (nI (np + 1)) = A2 at q2
        have q3 := ro_append_ok (M := A2) (x := iI w) cap_200.2.2.1 (m := np) (by rw [← hA2, ← hA1]; simp (disch := omega) only [e_up_o, r3]) hf2 (by omega)
        generalize hA3 : e_up (e_up A2 (14 + 1) np (iI w)) 14 1 (nI (np + 1)) = A3 at q3
        have q4 := ro_append_ok (M := A3) (x := (100 : Int32)) cap_200.2.2.2.1 (m := np) (by rw [← hA3, ← hA2, ← hA1]; simp (disch := omega) only [e_up_o, r4]) hf2 (by omega)
        generalize hA4 : e_up (e_up A3 (16 + 1) np (100 : Int32)) 16 1 (nI (np + 1)) = A4 at q4
        have q5 := ro_append_ok (M := A4) (x := (0 : Int32)) cap_200.2.2.2.2.1 (m := np) (by rw [← hA4, ← hA3, ← hA2, ← hA1]; simp (disch := omega) only [e_up_o, r5]) hf2 (by omega)
        generalize hA5 : e_up (e_up A4 (18 + 1) np (0 : Int32)) 18 1 (nI (np + 1)) = A5 at q5
        have q6 := ro_append_ok (M := A5) (x := (0 : Int32)) cap_200.2.2.2.2.2 (m := np) (by rw [← hA5, ← hA4, ← hA3, ← hA2, ← hA1]; simp (disch := omega) only [e_up_o, r6]) hf2 (by omega)
        generalize hA6 : e_up (e_up A5 (20 + 1) np (0 : Int32)) 20 1 (nI (np + 1)) = A6 at q6
        have q7 := ro_append_ok (M := A6) (x := nI np) cap_22 (m := l) (by rw [← hA6, ← hA5, ← hA4, ← hA3, ← hA2, ← hA1]; simp (disch := omega) only [e_up_o, r8]) hf1 (by omega)
        have tg := together_ok (M := M) (m := m.toNat) (a := a.toNat) (b := b.toNat) (c := c.toNat) (by omega)
        rw [← ym, ← ya, ← yb, ← yc] at tg
        refine ⟨_, by simp (disch := omega) only [x_bd_s, x_bi_s, x_lt_e, x_rd_n, x_wr_n, x_ra_n, x_dv_n, s_lt, s_le, s_eq, s_lt0, s_le0, s_0lt, s_0le, s_eq0, s_sub, s_rem, s_div, s_in, bI_0, bI_1, x_gb_b, x_gb_0, x_gb_1, nI_add, nI_1, s_size, s_abs, s_max, iI_mul, iI_add, iI_neg, Nat.le_refl, Nat.lt_irrefl, if_true, if_false, ite_true, ite_false, not_true, not_false_eq_true, ew_come, al, s_10, ri_takesMore, ro_hasRoom_ok cap_22 r8 hl30 (show 30 ≤ 1000 by omega), hf1, pa_hasRoom, ro_hasRoom_ok cap_200.1 r1 hnp (show 200 ≤ 1000 by omega), hf2, tg, ri_queueUp, pa_add, pa_count, ro_count_ok cap_200.1, r1, q1, q2, q3, q4, q5, q6, q7]; rfl, ⟨?_, ?_, ?_, ?_, ?_, ?_⟩, ?_, ?_, ?_, ?_, ?_, ?_, ?_, ?_, ?_⟩
        all_goals rw [← hA6, ← hA5, ← hA4, ← hA3, ← hA2, ← hA1]
        · simp (disch := omega) only [e_up_o, e_up_e]
        · simp (disch := omega) only [e_up_o, e_up_e]
        · simp (disch := omega) only [e_up_o, e_up_e]
        · simp (disch := omega) only [e_up_o, e_up_e]
        · simp (disch := omega) only [e_up_o, e_up_e]
        · simp (disch := omega) only [e_up_o, e_up_e]
        · simp (disch := omega) only [e_up_o, e_up_e]
        · intro z
          by_cases e : z = np
          · subst e; rw [if_pos rfl]; simp (disch := omega) only [e_up_o, e_up_e, ym]
          · rw [if_neg e]; simp (disch := omega) only [e_up_o]
        · intro z
          by_cases e : z = np
          · subst e; rw [if_pos rfl]; simp (disch := omega) only [e_up_o, e_up_e]
          · rw [if_neg e]; simp (disch := omega) only [e_up_o]
        · intro z
          by_cases e : z = np
          · subst e; rw [if_pos rfl]; simp (disch := omega) only [e_up_o, e_up_e, yw]
          · rw [if_neg e]; simp (disch := omega) only [e_up_o]
        · intro z
          by_cases e : z = np
          · subst e; rw [if_pos rfl]; simp (disch := omega) only [e_up_o, e_up_e]; rfl
          · rw [if_neg e]; simp (disch := omega) only [e_up_o]
        · intro z
          by_cases e : z = np
          · subst e; rw [if_pos rfl]; simp (disch := omega) only [e_up_o, e_up_e]; rfl
          · rw [if_neg e]; simp (disch := omega) only [e_up_o]
        · intro z
          by_cases e : z = np
          · subst e; rw [if_pos rfl]; simp (disch := omega) only [e_up_o, e_up_e]
          · rw [if_neg e]; simp (disch := omega) only [e_up_o]
        · intro z
          by_cases e : z = l
          · subst e; rw [if_pos rfl]; simp (disch := omega) only [e_up_o, e_up_e]
          · rw [if_neg e]; simp (disch := omega) only [e_up_o]
        · intro i j hij
          simp (disch := omega) only [e_up_o]
      obtain ⟨M1, e1, f1, f2, f3, f4, f5, f6, f7, f8, f9, f10⟩ := e1
      have d19 : M1 182 19 = nI l := by rw [f10 182 19 (by omega), hQ.2.2.1]
      have d12 : M1 182 12 = nI np := by rw [f10 182 12 (by omega), hQ.1]
      have e0 : (0 : Int32) &&& 1 = 0 := by decide
      have e2 : md_come (iI m) (iI a) (iI b) (iI c) (iI w) M1 = some (nI np, e_up (e_up (e_up (e_up (e_up (e_up (e_up (e_up (e_up M1 186 np (nI m.toNat)) 187 np (nI (tgN a.toNat b.toNat c.toNat m.toNat))) 188 np (nI w.toNat)) 189 np 100) 190 np 0) 191 np 0) 192 l (nI np)) 182 19 (nI (l + 1))) 182 12 (nI (np + 1))) := by
        rw [md_come_in m1 m2 a1 a2 b1 b2 c1 c2 w1 w2, if_pos hv, d19, d12, if_neg (by rw [show (30 : Int32) = nI 30 from rfl, s_eq (by omega) (by omega)]; omega), if_neg (by rw [show (200 : Int32) = nI 200 from rfl, s_eq (by omega) (by omega)]; omega), ym, ya, yb, yc, yw, md_sum_ok _ (by omega)]
        simp (disch := omega) only [md_come_b120, x_wr_n, x_lt_e, e0, e_up_o, e_up_e, d12, d19, nI_1, nI_pred]
      refine ⟨nI np, M1, _, e1, e2, ?_⟩
      generalize hM2 : e_up (e_up (e_up (e_up (e_up (e_up (e_up (e_up (e_up M1 186 np (nI m.toNat)) 187 np (nI (tgN a.toNat b.toNat c.toNat m.toNat))) 188 np (nI w.toNat)) 189 np 100) 190 np 0) 191 np 0) 192 l (nI np)) 182 19 (nI (l + 1))) 182 12 (nI (np + 1)) = M2
      have hs1 : ∀ i j, i < 182 → M2 i j = M1 i j := fun i j hij => by
        rw [← hM2]
        simp (disch := omega) only [e_up_o]
      have hs : ∀ i j, ¬ ((10 ≤ i ∧ i ≤ 23) ∨ (i = 182 ∧ (j = 12 ∨ j = 19)) ∨ (186 ≤ i ∧ i ≤ 192)) → M2 i j = M i j := fun i j hij => by
        rw [← hM2]
        simp (disch := omega) only [e_up_o]
        exact f10 i j (by omega)
      obtain ⟨h1, h2, h3, h4, h5, h6, h7, h8, h9, h10⟩ := hwf
      refine ⟨n, t, ld, bW_same (fun a b hk => hs a b (by unfold kW at hk; omega)) hW, ⟨wm, s0, d, bG_same (fun a b hk => hs a b (by unfold kG at hk; omega)) hG⟩, ⟨bb, u, cc, p, bU_same (fun a b hk => hs a b (by unfold kU at hk; omega)) hU⟩, ⟨kn, s, q, bN_same (fun i j hk => hs i j (by unfold kN at hk; omega)) hN⟩, ⟨k, r, v, mm, bR_same (fun i j hk => hs i j (by unfold kR at hk; omega)) hR⟩, ⟨lo, hi, bH_same (fun i j hk => hs i j (by unfold kH at hk; omega)) hH⟩, ⟨k9, bO_same (fun i j hk => hs i j (by unfold kO at hk; omega)) hO⟩,
        np + 1, upn pe np m.toNat, upn we np (tgN a.toNat b.toNat c.toNat m.toNat), upn wi np w.toNat, upn wh np 100, upn se np 0, upn pa np 0, l + 1, upn ln l np, sc, cb, ⟨?_, ?_, ?_, ?_, ?_, ?_⟩, ⟨?_, ?_, ?_, ?_, ?_, ?_⟩, ?_⟩
      · rw [hs1 _ _ (by omega), hs1 _ _ (by omega), hs1 _ _ (by omega), hs1 _ _ (by omega), hs1 _ _ (by omega), hs1 _ _ (by omega)]
        exact f1
      · intro z hz
        rw [hs1 _ _ (by omega), hs1 _ _ (by omega), hs1 _ _ (by omega), hs1 _ _ (by omega), hs1 _ _ (by omega), hs1 _ _ (by omega), f3, f4, f5, f6, f7, f8]
        by_cases e : z = np
        · subst e
          simp only [upn_e, if_true]
          exact ⟨trivial, trivial, trivial, trivial, trivial, trivial⟩
        · simp only [e, if_false, upn_o e]
          exact r7 z (by omega)
      · rw [hs1 _ _ (by omega), f2]
      · intro z hz
        rw [hs1 _ _ (by omega), f9]
        by_cases e : z = l
        · subst e
          rw [if_pos rfl, upn_e]
        · rw [if_neg e, upn_o e]
          exact r9 z (by omega)
      · intro z hz
        rw [hs _ _ (by omega), r10 z hz]
      · intro z hz i hi
        rw [hs _ _ (by omega), r11 z hz i hi]
      · rw [← hM2, e_up_e]
      · intro z hz
        rw [← hM2]
        by_cases e : z = np
        · subst e
          simp (disch := omega) only [e_up_o, e_up_e, upn_e]
          exact ⟨trivial, trivial, trivial, rfl, rfl, trivial⟩
        · simp (disch := omega) only [e_up_o, upn_o e]
          rw [f10 186 z (by omega), f10 187 z (by omega), f10 188 z (by omega), f10 189 z (by omega), f10 190 z (by omega), f10 191 z (by omega)]
          exact hQ.2.1 z (by omega)
      · rw [← hM2, e_up_o (by omega), e_up_e]
      · intro z hz
        rw [← hM2]
        by_cases e : z = l
        · subst e
          simp (disch := omega) only [e_up_o, e_up_e, upn_e]
        · simp (disch := omega) only [e_up_o, upn_o e]
          rw [f10 192 z (by omega)]
          exact hQ.2.2.2.1 z (by omega)
      · intro z hz
        rw [hs _ _ (by omega), hQ.2.2.2.2.1 z hz]
      · intro z hz i hi
        rw [hs _ _ (by omega), hQ.2.2.2.2.2 z hz i hi]
      · have lt : ∀ z, z < np → z ≠ np := fun z hz => by omega
        refine ⟨by omega, by omega, fun z hz => ?_, fun z hz => ?_, fun i j hi hj hij => ?_, fun z hz i hi => ?_, h7, fun z hz hz2 => ?_, fun z hz => ?_, h10⟩
        · by_cases e : z = np
          · subst e
            simp only [upn_e]
            refine ⟨by omega, by omega, by omega, by omega, by omega, by omega, by omega⟩
          · simp only [upn_o e]
            exact h3 z (by omega)
        · by_cases e : z = l
          · subst e
            simp only [upn_e]
            exact ⟨by omega, trivial⟩
          · simp only [upn_o e]
            have := h4 z (by omega)
            rw [upn_o (lt _ this.1)]
            exact ⟨by omega, this.2⟩
        · by_cases e : i = l <;> by_cases e2 : j = l
          · omega
          · rw [e, upn_e, upn_o e2] at hij
            have := (h4 j (by omega)).1
            omega
          · rw [e2, upn_e, upn_o e] at hij
            have := (h4 i (by omega)).1
            omega
          · rw [upn_o e, upn_o e2] at hij
            exact h5 i j (by omega) (by omega) hij
        · have := h6 z hz i hi
          rw [upn_o (lt _ this.1)]
          exact ⟨by omega, this.2⟩
        · by_cases e : z = np
          · subst e
            rw [upn_e] at hz2
            omega
          · rw [upn_o e] at hz2 ⊢
            exact h8 z (by omega) hz2
        · obtain ⟨g1, g2⟩ := h9 z hz
          refine ⟨?_, ?_⟩
          · rw [g1]
            exact smN_cong (fun i hi => (upn_o (lt _ (h6 z hz i hi).1)).symm)
          · rw [smN_cong (g := fun i => pe (cb z i)) (fun i hi => upn_o (lt _ (h6 z hz i hi).1))]
            exact g2
    · refine ⟨-104, M, M, ?_, ?_, h⟩
      · by_cases g1 : l < 30
        · have g2 : ¬ np < 200 := by omega
          simp (disch := omega) only [x_bd_s, x_bi_s, x_lt_e, x_rd_n, x_wr_n, x_ra_n, x_dv_n, s_lt, s_le, s_eq, s_lt0, s_le0, s_0lt, s_0le, s_eq0, s_sub, s_rem, s_div, s_in, bI_0, bI_1, x_gb_b, x_gb_0, x_gb_1, nI_add, nI_1, s_size, s_abs, s_max, iI_mul, iI_add, iI_neg, Nat.le_refl, Nat.lt_irrefl, if_true, if_false, ite_true, ite_false, not_true, not_false_eq_true, ew_come, al, s_10, ri_takesMore, ro_hasRoom_ok cap_22 r8 hl30 (show 30 ≤ 1000 by omega), g1, pa_hasRoom, ro_hasRoom_ok cap_200.1 r1 hnp (show 200 ≤ 1000 by omega), g2]
        · simp (disch := omega) only [x_bd_s, x_bi_s, x_lt_e, x_rd_n, x_wr_n, x_ra_n, x_dv_n, s_lt, s_le, s_eq, s_lt0, s_le0, s_0lt, s_0le, s_eq0, s_sub, s_rem, s_div, s_in, bI_0, bI_1, x_gb_b, x_gb_0, x_gb_1, nI_add, nI_1, s_size, s_abs, s_max, iI_mul, iI_add, iI_neg, Nat.le_refl, Nat.lt_irrefl, if_true, if_false, ite_true, ite_false, not_true, not_false_eq_true, ew_come, al, s_10, ri_takesMore, ro_hasRoom_ok cap_22 r8 hl30 (show 30 ≤ 1000 by omega), g1]
      · rw [md_come_in m1 m2 a1 a2 b1 b2 c1 c2 w1 w2, if_pos hv, hQ.2.2.1, hQ.1]
        by_cases g1 : l = 30
        · rw [if_pos (by rw [g1]; rfl)]
        · rw [if_neg (by rw [show (30 : Int32) = nI 30 from rfl, s_eq (by omega) (by omega)]; omega), if_pos (by rw [show np = 200 by omega]; rfl)]
  · rw [bI_f hv] at al
    refine ⟨-102, M, M, by simp (disch := omega) only [x_bd_s, x_bi_s, x_lt_e, x_rd_n, x_wr_n, x_ra_n, x_dv_n, s_lt, s_le, s_eq, s_lt0, s_le0, s_0lt, s_0le, s_eq0, s_sub, s_rem, s_div, s_in, bI_0, bI_1, x_gb_b, x_gb_0, x_gb_1, nI_add, nI_1, s_size, s_abs, s_max, iI_mul, iI_add, iI_neg, Nat.le_refl, Nat.lt_irrefl, if_true, if_false, ite_true, ite_false, not_true, not_false_eq_true, ew_come, al], ?_, h⟩
    rw [md_come_in m1 m2 a1 a2 b1 b2 c1 c2 w1 w2, if_neg hv]
/-! THE LINE without its k-th -/
def cutF (f : Nat → Nat) (k : Nat) : Nat → Nat := fun j => if j < k then f j else f (j + 1)
theorem takeOut_ok {l k : Nat} {ln : Nat → Nat} (hl : l ≤ 30) (hk : k < l) (h1 : M 182 19 = nI l) (h2 : ∀ j, j < l → M 192 j = nI (ln j)) :
    ∃ M', md_takeOut (nI k) M = some M' ∧ M' 182 19 = nI (l - 1) ∧ (∀ j, j < l - 1 → M' 192 j = nI (cutF ln k j)) ∧ ∀ a b, ¬ (a = 192 ∨ (a = 182 ∧ b = 19)) → M' a b = M a b := by
  have key : ∀ (d j F : Nat) (M1 : e_Me), j + d = l - 1 → d < F → k ≤ j → M1 182 19 = nI (l - 1) → (∀ q, q < j → M1 192 q = nI (cutF ln k q)) → (∀ q, j ≤ q → q < l → M1 192 q = nI (ln q)) → (∀ a b, ¬ (a = 192 ∨ (a = 182 ∧ b = 19)) → M1 a b = M a b) →
      ∃ M', md_takeOut_l12 F (nI j) M1 = some M' ∧ M' 182 19 = nI (l - 1) ∧ (∀ j, j < l - 1 → M' 192 j = nI (cutF ln k j)) ∧ ∀ a b, ¬ (a = 192 ∨ (a = 182 ∧ b = 19)) → M' a b = M a b := by
    intro d
    induction d with
    | zero =>
      intro j F M1 g1 g2 g3 g4 g5 g6 g7
      obtain ⟨F, rfl⟩ : ∃ F', F = F' + 1 := ⟨F - 1, by omega⟩
      have c1 : l - 1 ≤ j := by omega
      exact ⟨M1, by simp (disch := omega) only [x_bd_s, x_bi_s, x_lt_e, x_rd_n, x_wr_n, x_ra_n, x_dv_n, s_lt, s_le, s_eq, s_lt0, s_le0, s_0lt, s_0le, s_eq0, s_sub, s_rem, s_div, s_in, bI_0, bI_1, x_gb_b, x_gb_0, x_gb_1, nI_add, nI_1, s_size, s_abs, s_max, iI_mul, iI_add, iI_neg, Nat.le_refl, Nat.lt_irrefl, if_true, if_false, ite_true, ite_false, not_true, not_false_eq_true, md_takeOut_l12, g4, c1], g4, fun q hq => g5 q (by omega), g7⟩
    | succ d ih =>
      intro j F M1 g1 g2 g3 g4 g5 g6 g7
      obtain ⟨F, rfl⟩ : ∃ F', F = F' + 1 := ⟨F - 1, by omega⟩
      have c1 : ¬ l - 1 ≤ j := by omega
      simp (disch := omega) only [x_bd_s, x_bi_s, x_lt_e, x_rd_n, x_wr_n, x_ra_n, x_dv_n, s_lt, s_le, s_eq, s_lt0, s_le0, s_0lt, s_0le, s_eq0, s_sub, s_rem, s_div, s_in, bI_0, bI_1, x_gb_b, x_gb_0, x_gb_1, nI_add, nI_1, s_size, s_abs, s_max, iI_mul, iI_add, iI_neg, Nat.le_refl, Nat.lt_irrefl, if_true, if_false, ite_true, ite_false, not_true, not_false_eq_true, md_takeOut_l12, g4, c1, g6 (j + 1) (by omega) (by omega)]
      refine ih (j + 1) F _ (by omega) (by omega) (by omega) (by rw [e_up_o (by omega), g4]) (fun q hq => ?_) (fun q a b => by rw [e_up_o (by omega), g6 q (by omega) b]) (fun a b hab => by rw [e_up_o (by omega), g7 a b hab])
      by_cases e : q = j
      · subst e
        rw [e_up_e]
        unfold cutF
        rw [if_neg (by omega)]
      · rw [e_up_o (by omega), g5 q (by omega)]
  have := e_Fge
  obtain ⟨M', p1, p2⟩ := key (l - 1 - k) k e_F (e_up M 182 19 (nI (l - 1))) (by omega) (by omega) (by omega) (e_up_e _ _ _ _) (fun q hq => by rw [e_up_o (by omega), h2 q (by omega), cutF, if_pos hq]) (fun q a b => by rw [e_up_o (by omega), h2 q b]) (fun a b hab => e_up_o (by omega))
  refine ⟨M', ?_, p2⟩
  have e1 : nI l - 1 = nI (l - 1) := s_sub (b := 1) (by omega)
  simp (disch := omega) only [x_bd_s, x_bi_s, x_lt_e, x_rd_n, x_wr_n, x_ra_n, x_dv_n, s_lt, s_le, s_eq, s_lt0, s_le0, s_0lt, s_0le, s_eq0, s_sub, s_rem, s_div, s_in, bI_0, bI_1, x_gb_b, x_gb_0, x_gb_1, nI_add, nI_1, s_size, s_abs, s_max, iI_mul, iI_add, iI_neg, Nat.le_refl, Nat.lt_irrefl, if_true, if_false, ite_true, ite_false, not_true, not_false_eq_true, md_takeOut, h1, e1]
  exact p1
theorem cut_line {np l k : Nat} {ln wh : Nat → Nat} (hk : k < l) (h4 : ∀ k, k < l → ln k < np ∧ wh (ln k) = 100) (h5 : ∀ j k, j < l → k < l → ln j = ln k → j = k) (v : Nat) :
    (∀ j, j < l - 1 → cutF ln k j < np ∧ upn wh (ln k) v (cutF ln k j) = 100) ∧ (∀ i j, i < l - 1 → j < l - 1 → cutF ln k i = cutF ln k j → i = j) := by
  refine ⟨fun j hj => ?_, fun i j hi hj e => ?_⟩
  · unfold cutF
    split
    · have := h4 j (by omega)
      have hne : ln j ≠ ln k := fun e => by
        have := h5 j k (by omega) hk e
        omega
      rw [upn_o hne]
      exact this
    · have := h4 (j + 1) (by omega)
      have hne : ln (j + 1) ≠ ln k := fun e => by
        have := h5 (j + 1) k (by omega) hk e
        omega
      rw [upn_o hne]
      exact this
  · unfold cutF at e
    split at e
    · split at e
      · exact h5 i j (by omega) (by omega) e
      · have := h5 i (j + 1) (by omega) (by omega) e
        omega
    · split at e
      · have := h5 (i + 1) j (by omega) (by omega) e
        omega
      · have := h5 (i + 1) (j + 1) (by omega) (by omega) e
        omega
theorem l_tire (h : Inv M) (x : Int32) : ∃ r M1 M2, ew_tire x M = some (r, M1) ∧ md_tire x M1 = some (r, M2) ∧ Inv M2 := by
  obtain ⟨n, t, ld, hW, ⟨wm, s0, d, hG⟩, ⟨bb, u, cc, p, hU⟩, ⟨kn, s, q, hN⟩, ⟨k9, r, v, mm, hR⟩, ⟨lo, hi, hH⟩, ⟨k8, hO⟩, np, pe, we, wi, wh, se, pa, l, ln, sc, cb, hP, hQ, hwf⟩ := id h
  have hnp := hwf.1
  have hl30 := hwf.2.1
  have hl2 : l < 2147483648 := by omega
  rcases pk_ix x (n := l) (by omega) with g | g | ⟨k, hk, rfl⟩
  · exact ⟨-101, M, M, by simp (disch := omega) only [x_bd_s, x_bi_s, x_lt_e, x_rd_n, x_wr_n, x_ra_n, x_dv_n, s_lt, s_le, s_eq, s_lt0, s_le0, s_0lt, s_0le, s_eq0, s_sub, s_rem, s_div, s_in, bI_0, bI_1, x_gb_b, x_gb_0, x_gb_1, nI_add, nI_1, s_size, s_abs, s_max, iI_mul, iI_add, iI_neg, Nat.le_refl, Nat.lt_irrefl, if_true, if_false, ite_true, ite_false, not_true, not_false_eq_true, ew_tire, ri_waiting, ro_at_no cap_22 hP.2.2.1 (Or.inl g)], by simp (disch := omega) only [x_bd_s, x_bi_s, x_lt_e, x_rd_n, x_wr_n, x_ra_n, x_dv_n, s_lt, s_le, s_eq, s_lt0, s_le0, s_0lt, s_0le, s_eq0, s_sub, s_rem, s_div, s_in, bI_0, bI_1, x_gb_b, x_gb_0, x_gb_1, nI_add, nI_1, s_size, s_abs, s_max, iI_mul, iI_add, iI_neg, Nat.le_refl, Nat.lt_irrefl, if_true, if_false, ite_true, ite_false, not_true, not_false_eq_true, md_tire, hQ.2.2.1, in_no (M := M) hl2 (Or.inl g)], h⟩
  · exact ⟨-101, M, M, by simp (disch := omega) only [x_bd_s, x_bi_s, x_lt_e, x_rd_n, x_wr_n, x_ra_n, x_dv_n, s_lt, s_le, s_eq, s_lt0, s_le0, s_0lt, s_0le, s_eq0, s_sub, s_rem, s_div, s_in, bI_0, bI_1, x_gb_b, x_gb_0, x_gb_1, nI_add, nI_1, s_size, s_abs, s_max, iI_mul, iI_add, iI_neg, Nat.le_refl, Nat.lt_irrefl, if_true, if_false, ite_true, ite_false, not_true, not_false_eq_true, ew_tire, ri_waiting, ro_at_no cap_22 hP.2.2.1 (Or.inr g)], by simp (disch := omega) only [x_bd_s, x_bi_s, x_lt_e, x_rd_n, x_wr_n, x_ra_n, x_dv_n, s_lt, s_le, s_eq, s_lt0, s_le0, s_0lt, s_0le, s_eq0, s_sub, s_rem, s_div, s_in, bI_0, bI_1, x_gb_b, x_gb_0, x_gb_1, nI_add, nI_1, s_size, s_abs, s_max, iI_mul, iI_add, iI_neg, Nat.le_refl, Nat.lt_irrefl, if_true, if_false, ite_true, ite_false, not_true, not_false_eq_true, md_tire, hQ.2.2.1, in_no (M := M) hl2 (Or.inr g)], h⟩
  · have hp := (hwf.2.2.2.1 k hk).1
    have e4 := ro_at_ok cap_22 hP.2.2.1 hl30 (show 30 ≤ 1000 by omega) hk
    rw [show 22 + 1 = 23 from rfl, hP.2.2.2.1 k hk] at e4
    have e3 : (nI (ln k) = (-1 : Int32)) = False := by
      rw [nI_iI, ← iI_m1, iI_eq (by omega) (by omega) (by omega) (by omega)]
      exact eq_false (by omega)
    obtain ⟨A, a1, a2, a3, a4⟩ := ro_cut_ok cap_22 hP.2.2.1 hl30 (show 30 ≤ 1000 by omega) hk
    have b1 := ro_set_ok (M := A) (x := (101 : Int32)) cap_200.2.2.2.1 (m := np) (by rw [a4 16 1 (by omega), hP.1.2.2.2.1]) hnp (by omega) hp
    have x1 : ew_tire (nI k) M = some (nI (ln k), e_up A (16 + 1) (ln k) 101) := by
      simp (disch := omega) only [x_bd_s, x_bi_s, x_lt_e, x_rd_n, x_wr_n, x_ra_n, x_dv_n, s_lt, s_le, s_eq, s_lt0, s_le0, s_0lt, s_0le, s_eq0, s_sub, s_rem, s_div, s_in, bI_0, bI_1, x_gb_b, x_gb_0, x_gb_1, nI_add, nI_1, s_size, s_abs, s_max, iI_mul, iI_add, iI_neg, Nat.le_refl, Nat.lt_irrefl, if_true, if_false, ite_true, ite_false, not_true, not_false_eq_true, ew_tire, ri_waiting, e4, e3, ri_sendAway, a1, pa_moveTo, b1]
    generalize hM1 : e_up A (16 + 1) (ln k) (101 : Int32) = M1 at x1
    have f1 : ∀ a b, ¬ (a = 17 ∨ a = 23 ∨ (a = 22 ∧ b = 1)) → M1 a b = M a b := fun a b hab => by
      rw [← hM1, e_up_o (by omega), a4 a b (by omega)]
    obtain ⟨B, c1, c2, c3, c4⟩ := takeOut_ok (M := M1) hl30 hk (by rw [f1 182 19 (by omega), hQ.2.2.1]) (fun j hj => by rw [f1 192 j (by omega), hQ.2.2.2.1 j hj])
    have x2 : md_tire (nI k) M1 = some (nI (ln k), e_up B 189 (ln k) 101) := by
      simp (disch := omega) only [x_bd_s, x_bi_s, x_lt_e, x_rd_n, x_wr_n, x_ra_n, x_dv_n, s_lt, s_le, s_eq, s_lt0, s_le0, s_0lt, s_0le, s_eq0, s_sub, s_rem, s_div, s_in, bI_0, bI_1, x_gb_b, x_gb_0, x_gb_1, nI_add, nI_1, s_size, s_abs, s_max, iI_mul, iI_add, iI_neg, Nat.le_refl, Nat.lt_irrefl, if_true, if_false, ite_true, ite_false, not_true, not_false_eq_true, md_tire, f1 182 19 (by omega), hQ.2.2.1, in_yes (M := M1) hk hl2, s_10, f1 192 k (by omega), hQ.2.2.2.1 k hk, c1]
    refine ⟨nI (ln k), M1, _, x1, x2, ?_⟩
    generalize hM2 : e_up B 189 (ln k) (101 : Int32) = M2
    have hs1 : ∀ i j, i < 182 → M2 i j = M1 i j := fun i j hij => by
      rw [← hM2, e_up_o (by omega), c4 i j (by omega)]
    have hs : ∀ i j, ¬ (i = 17 ∨ i = 23 ∨ (i = 22 ∧ j = 1) ∨ i = 192 ∨ (i = 182 ∧ j = 19) ∨ i = 189) → M2 i j = M i j := fun i j hij => by
      rw [← hM2, e_up_o (by omega), c4 i j (by omega), f1 i j (by omega)]
    obtain ⟨⟨r1, r2, r3, r4, r5, r6⟩, r7, r8, r9, r10, r11⟩ := hP
    obtain ⟨h1, h2, h3, h4, h5, h6, h7, h8, h9, h10⟩ := hwf
    obtain ⟨w1, w2⟩ := cut_line hk h4 h5 101
    have nec : ∀ c, c < 30 → ∀ i, i < sc c → cb c i ≠ ln k := fun c hc i hi e => by
      have := (h6 c hc i hi).2
      rw [e, (h4 k hk).2] at this
      omega
    refine ⟨n, t, ld, bW_same (fun a b hk => hs a b (by unfold kW at hk; omega)) hW, ⟨wm, s0, d, bG_same (fun a b hk => hs a b (by unfold kG at hk; omega)) hG⟩, ⟨bb, u, cc, p, bU_same (fun a b hk => hs a b (by unfold kU at hk; omega)) hU⟩, ⟨kn, s, q, bN_same (fun i j hk => hs i j (by unfold kN at hk; omega)) hN⟩, ⟨k9, r, v, mm, bR_same (fun i j hk => hs i j (by unfold kR at hk; omega)) hR⟩, ⟨lo, hi, bH_same (fun i j hk => hs i j (by unfold kH at hk; omega)) hH⟩, ⟨k8, bO_same (fun i j hk => hs i j (by unfold kO at hk; omega)) hO⟩,
      np, pe, we, wi, upn wh (ln k) 101, se, pa, l - 1, cutF ln k, sc, cb, ⟨?_, ?_, ?_, ?_, ?_, ?_⟩, ⟨?_, ?_, ?_, ?_, ?_, ?_⟩, ?_⟩
    · rw [hs _ _ (by omega), hs _ _ (by omega), hs _ _ (by omega), hs _ _ (by omega), hs _ _ (by omega), hs _ _ (by omega)]
      exact ⟨r1, r2, r3, r4, r5, r6⟩
    · intro z hz
      rw [hs 11 z (by omega), hs 13 z (by omega), hs 15 z (by omega), hs 19 z (by omega), hs 21 z (by omega), hs1 17 z (by omega), ← hM1]
      by_cases e : z = ln k
      · rw [e, upn_e, show 17 = 16 + 1 from rfl, e_up_e, ← e]
        obtain ⟨y1, y2, y3, y4, y5, y6⟩ := r7 z hz
        exact ⟨y1, y2, y3, rfl, y5, y6⟩
      · rw [upn_o e, e_up_o (by omega), a4 17 z (by omega)]
        exact r7 z hz
    · rw [hs1 _ _ (by omega), ← hM1, e_up_o (by omega), a2]
    · intro j hj
      rw [hs1 _ _ (by omega), ← hM1, e_up_o (by omega), show 23 = 22 + 1 from rfl, a3 j hj]
      unfold cutF
      split
      · exact r9 j (by omega)
      · exact r9 (j + 1) (by omega)
    · intro z hz
      rw [hs _ _ (by omega), r10 z hz]
    · intro z hz i hi
      rw [hs _ _ (by omega), r11 z hz i hi]
    · rw [hs _ _ (by omega), hQ.1]
    · intro z hz
      rw [hs 186 z (by omega), hs 187 z (by omega), hs 188 z (by omega), hs 190 z (by omega), hs 191 z (by omega), ← hM2]
      by_cases e : z = ln k
      · rw [e, upn_e, e_up_e, ← e]
        obtain ⟨y1, y2, y3, y4, y5, y6⟩ := hQ.2.1 z hz
        exact ⟨y1, y2, y3, rfl, y5, y6⟩
      · rw [upn_o e, e_up_o (by omega), c4 189 z (by omega), f1 189 z (by omega)]
        exact hQ.2.1 z hz
    · rw [← hM2, e_up_o (by omega), c2]
    · intro j hj
      rw [← hM2, e_up_o (by omega), c3 j hj]
    · intro z hz
      rw [hs _ _ (by omega), hQ.2.2.2.2.1 z hz]
    · intro z hz i hi
      rw [hs _ _ (by omega), hQ.2.2.2.2.2 z hz i hi]
    · refine ⟨h1, by omega, fun z hz => ?_, w1, w2, fun z hz i hi => ?_, h7, fun z hz hz2 => ?_, h9, h10⟩
      · obtain ⟨y1, y2, y3, y4, y5, y6, y7⟩ := h3 z hz
        refine ⟨y1, y2, y3, y4, y5, y6, ?_⟩
        unfold upn
        split
        · omega
        · exact y7
      · rw [upn_o (nec z hz i hi)]
        exact h6 z hz i hi
      · by_cases e : z = ln k
        · rw [e, upn_e] at hz2
          omega
        · rw [upn_o e] at hz2 ⊢
          exact h8 z hz hz2
end
