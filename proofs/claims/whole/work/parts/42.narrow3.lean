/-! NARROWED by the reference -/
theorem nbI_cong {n : Nat} {a : Nat → Int32} {v m : Int32} : ∀ (d c : Nat) (lo hi lo' hi' : Nat → Int32), c + d = n → (∀ j, j < n → lo j = lo' j ∧ hi j = hi' j) →
    (nbI n a v m d c lo hi).1 = (nbI n a v m d c lo' hi').1 ∧ ∀ j, j < n → (nbI n a v m d c lo hi).2.1 j = (nbI n a v m d c lo' hi').2.1 j ∧ (nbI n a v m d c lo hi).2.2 j = (nbI n a v m d c lo' hi').2.2 j := by
  intro d
  induction d with
  | zero => intro c lo hi lo' hi' hcn h; exact ⟨rfl, h⟩
  | succ d ih =>
    intro c lo hi lo' hi' hcn h
    have e1 : smX n c (msI a lo hi) = smX n c (msI a lo' hi') := smI_cong (fun j hj => by
      by_cases e : j = c
      · rw [if_pos e, if_pos e]
      · rw [if_neg e, if_neg e]
        simp only [msI, (h j hj).1, (h j hj).2])
    have e2 : smX n c (lsI a lo hi) = smX n c (lsI a lo' hi') := smI_cong (fun j hj => by
      by_cases e : j = c
      · rw [if_pos e, if_pos e]
      · rw [if_neg e, if_neg e]
        simp only [lsI, (h j hj).1, (h j hj).2])
    simp only [nbI]
    rw [e1, e2, (h c (by omega)).1, (h c (by omega)).2]
    generalize ncI (a c) (v - m - smX n c (msI a lo' hi')) (v + m - smX n c (lsI a lo' hi')) (lo' c) (hi' c) = res
    have hu : ∀ j, j < n → upF lo c res.1 j = upF lo' c res.1 j ∧ upF hi c res.2.1 j = upF hi' c res.2.1 j := fun j hj => by
      unfold upF
      by_cases e : j = c
      · simp only [e, if_true]; exact ⟨trivial, trivial⟩
      · simp only [e, if_false]
        exact h j hj
    by_cases g : res.2.2 = true
    · rw [if_pos g, if_pos g]
      exact ih (c + 1) _ _ _ _ (by omega) hu
    · rw [if_neg g, if_neg g]
      exact ⟨rfl, hu⟩
theorem nrI_cong {n : Nat} {r : Nat → Nat} {v m : Nat → Int32} : ∀ (d i : Nat) (lo hi lo' hi' : Nat → Int32), (∀ j, j < n → lo j = lo' j ∧ hi j = hi' j) →
    (nrI n r v m d i lo hi).1 = (nrI n r v m d i lo' hi').1 ∧ ∀ j, j < n → (nrI n r v m d i lo hi).2.1 j = (nrI n r v m d i lo' hi').2.1 j ∧ (nrI n r v m d i lo hi).2.2 j = (nrI n r v m d i lo' hi').2.2 j := by
  intro d
  induction d with
  | zero => intro i lo hi lo' hi' h; exact ⟨rfl, h⟩
  | succ d ih =>
    intro i lo hi lo' hi' h
    obtain ⟨h1, h2⟩ := nbI_cong (a := fun c => iI (armZ n ((c + r i) % n))) (v := v i) (m := m i) n 0 lo hi lo' hi' (by omega) h
    simp only [nrI]
    rw [h1]
    by_cases g : (nbI n (fun c => iI (armZ n ((c + r i) % n))) (v i) (m i) n 0 lo' hi').1 = true
    · rw [if_pos g, if_pos g]
      exact ih (i + 1) _ _ _ _ h2
    · rw [if_neg g, if_neg g]
      exact ⟨rfl, h2⟩
/-- the reference's READINGS -/
def mR (M : e_Me) (n k : Nat) (r : Nat → Nat) (v m : Nat → Int32) : Prop := k ≤ 12 ∧ M 182 38 = nI k ∧ ∀ i, i < k → M 203 i = nI (r i) ∧ M 204 i = v i ∧ M 205 i = m i ∧ r i < n
section
variable {M : e_Me} {n : Nat}
theorem md_narrow_ok {k i c : Nat} {r : Nat → Nat} {v m : Nat → Int32} {lo hi : Nat → Int32} (hk : okn n) (hn : M 182 0 = nI n) (hR : mR M n k r v m) (hi' : i < k) (hcn : c < n) (hl : ∀ j, j < n → M 206 j = lo j ∧ M 207 j = hi j) :
    md_narrow (nI c) (nI i) M = some (bB (ncI (iI (armZ n ((c + r i) % n))) (v i - m i - smX n c (msI (fun c => iI (armZ n ((c + r i) % n))) lo hi)) (v i + m i - smX n c (lsI (fun c => iI (armZ n ((c + r i) % n))) lo hi)) (lo c) (hi c)).2.2,
      upN M 206 207 c (ncI (iI (armZ n ((c + r i) % n))) (v i - m i - smX n c (msI (fun c => iI (armZ n ((c + r i) % n))) lo hi)) (v i + m i - smX n c (lsI (fun c => iI (armZ n ((c + r i) % n))) lo hi)) (lo c) (hi c))) := by
  have hb := okn_b hk
  obtain ⟨k0, k1, k2⟩ := hR
  obtain ⟨q1, q2, q3, q4⟩ := k2 i hi'
  have arm : ∀ d, d < n → md_armOf (nI ((d + r i) % n)) M = some (iI (armZ n ((d + r i) % n))) := fun d hd => md_armOf_ok hk hn (Nat.mod_lt _ (by omega))
  have key : ∀ (d j F : Nat), j + d = n → d < F → md_narrow_l32 (nI c) (nI i) M F (v i - m i - smI j (fun q => if q = c then 0 else msI (fun c => iI (armZ n ((c + r i) % n))) lo hi q)) (v i + m i - smI j (fun q => if q = c then 0 else lsI (fun c => iI (armZ n ((c + r i) % n))) lo hi q)) (nI j) =
      md_narrow_b137 (nI c) (nI i) (v i - m i - smX n c (msI (fun c => iI (armZ n ((c + r i) % n))) lo hi)) (v i + m i - smX n c (lsI (fun c => iI (armZ n ((c + r i) % n))) lo hi)) M := by
    intro d
    induction d with
    | zero =>
      intro j F h1 h2
      obtain ⟨F, rfl⟩ : ∃ F', F = F' + 1 := ⟨F - 1, by omega⟩
      have e : j = n := by omega
      subst e
      simp (disch := omega) only [x_bd_s, x_bi_s, x_lt_e, x_rd_n, x_wr_n, x_ra_n, x_dv_n, s_lt, s_le, s_eq, s_lt0, s_le0, s_0lt, s_0le, s_eq0, s_sub, s_rem, s_div, s_in, bI_0, bI_1, x_gb_b, x_gb_0, x_gb_1, nI_add, nI_1, s_size, s_abs, s_max, iI_mul, iI_add, iI_neg, Nat.le_refl, Nat.lt_irrefl, if_true, if_false, ite_true, ite_false, not_true, not_false_eq_true, md_narrow_l32, hn]
      rfl
    | succ d ih =>
      intro j F h1 h2
      obtain ⟨F, rfl⟩ : ∃ F', F = F' + 1 := ⟨F - 1, by omega⟩
      have c1 : ¬ n ≤ j := by omega
      have hj : j < n := by omega
      have i1 := ih (j + 1) F (by omega) (by omega)
      by_cases e : j = c
      · rw [smI, smI, if_pos e, if_pos e] at i1
        rw [show ∀ x : Int32, x + 0 = x from fun x => Int32.add_zero x, show ∀ x : Int32, x + 0 = x from fun x => Int32.add_zero x] at i1
        have c2 : nI j = nI c := by rw [e]
        have e3 : (nI j = nI c) = True := eq_true c2
        simp (disch := omega) only [x_bd_s, x_bi_s, x_lt_e, x_rd_n, x_wr_n, x_ra_n, x_dv_n, s_lt, s_le, s_eq, s_lt0, s_le0, s_0lt, s_0le, s_eq0, s_sub, s_rem, s_div, s_in, bI_0, bI_1, x_gb_b, x_gb_0, x_gb_1, nI_add, nI_1, s_size, s_abs, s_max, iI_mul, iI_add, iI_neg, Nat.le_refl, Nat.lt_irrefl, if_true, if_false, ite_true, ite_false, not_true, not_false_eq_true, md_narrow_l32, hn, c1, e]
        rw [e] at i1
        have c1' : ¬ n ≤ c := by omega
        simp only [c1', if_false]
        exact i1
      · rw [smI, smI, if_neg e, if_neg e] at i1
        have hm : (j + r i) % n < n := Nat.mod_lt _ (by omega)
        have sub3 : ∀ x y z : Int32, x - y - z = x - (y + z) := fun x y z => by grind
        generalize v i - m i = x0 at i1 ⊢
        generalize v i + m i = y0 at i1 ⊢
        simp (disch := omega) only [x_bd_s, x_bi_s, x_lt_e, x_rd_n, x_wr_n, x_ra_n, x_dv_n, s_lt, s_le, s_eq, s_lt0, s_le0, s_0lt, s_0le, s_eq0, s_sub, s_rem, s_div, s_in, bI_0, bI_1, x_gb_b, x_gb_0, x_gb_1, nI_add, nI_1, s_size, s_abs, s_max, iI_mul, iI_add, iI_neg, Nat.le_refl, Nat.lt_irrefl, if_true, if_false, ite_true, ite_false, not_true, not_false_eq_true, md_narrow_l32, hn, c1, e, q1, arm j hj, (hl j hj).1, (hl j hj).2]
        by_cases g : iI (armZ n ((j + r i) % n)) ≤ 0
        · rw [if_pos g]
          simp (disch := omega) only [x_bd_s, x_bi_s, x_lt_e, x_rd_n, x_wr_n, x_ra_n, x_dv_n, s_lt, s_le, s_eq, s_lt0, s_le0, s_0lt, s_0le, s_eq0, s_sub, s_rem, s_div, s_in, bI_0, bI_1, x_gb_b, x_gb_0, x_gb_1, nI_add, nI_1, s_size, s_abs, s_max, iI_mul, iI_add, iI_neg, Nat.le_refl, Nat.lt_irrefl, if_true, if_false, ite_true, ite_false, not_true, not_false_eq_true, md_narrow_b96, g, (hl j hj).1, (hl j hj).2, sub3]
          have l1 : lsI (fun c => iI (armZ n ((c + r i) % n))) lo hi j = iI (armZ n ((j + r i) % n)) * hi j := by
            simp only [lsI, g, if_true]
          have l2 : msI (fun c => iI (armZ n ((c + r i) % n))) lo hi j = iI (armZ n ((j + r i) % n)) * lo j := by
            simp only [msI, g, if_true]
          rw [l1, l2] at i1
          exact i1
        · rw [if_neg g]
          simp (disch := omega) only [x_bd_s, x_bi_s, x_lt_e, x_rd_n, x_wr_n, x_ra_n, x_dv_n, s_lt, s_le, s_eq, s_lt0, s_le0, s_0lt, s_0le, s_eq0, s_sub, s_rem, s_div, s_in, bI_0, bI_1, x_gb_b, x_gb_0, x_gb_1, nI_add, nI_1, s_size, s_abs, s_max, iI_mul, iI_add, iI_neg, Nat.le_refl, Nat.lt_irrefl, if_true, if_false, ite_true, ite_false, not_true, not_false_eq_true, md_narrow_b96, g, (hl j hj).1, (hl j hj).2, sub3]
          have l1 : lsI (fun c => iI (armZ n ((c + r i) % n))) lo hi j = iI (armZ n ((j + r i) % n)) * lo j := by
            simp only [lsI, g, if_false]
          have l2 : msI (fun c => iI (armZ n ((c + r i) % n))) lo hi j = iI (armZ n ((j + r i) % n)) * hi j := by
            simp only [msI, g, if_false]
          rw [l1, l2] at i1
          exact i1
  have := e_Fge
  have k9 := key n 0 e_F (by omega) (by omega)
  rw [nI_0] at k9
  have z0 : ∀ x : Int32, x - smI 0 (fun q => if q = c then 0 else msI (fun c => iI (armZ n ((c + r i) % n))) lo hi q) = x := fun x => Int32.sub_zero x
  have z1 : ∀ x : Int32, x - smI 0 (fun q => if q = c then 0 else lsI (fun c => iI (armZ n ((c + r i) % n))) lo hi q) = x := fun x => Int32.sub_zero x
  rw [z0, z1] at k9
  have hm : (c + r i) % n < n := Nat.mod_lt _ (by omega)
  generalize hf : v i - m i - smX n c (msI (fun c => iI (armZ n ((c + r i) % n))) lo hi) = f at k9
  generalize ht : v i + m i - smX n c (lsI (fun c => iI (armZ n ((c + r i) % n))) lo hi) = t at k9
  have start : md_narrow (nI c) (nI i) M = md_narrow_b137 (nI c) (nI i) f t M := by
    simp (disch := omega) only [x_bd_s, x_bi_s, x_lt_e, x_rd_n, x_wr_n, x_ra_n, x_dv_n, s_lt, s_le, s_eq, s_lt0, s_le0, s_0lt, s_0le, s_eq0, s_sub, s_rem, s_div, s_in, bI_0, bI_1, x_gb_b, x_gb_0, x_gb_1, nI_add, nI_1, s_size, s_abs, s_max, iI_mul, iI_add, iI_neg, Nat.le_refl, Nat.lt_irrefl, if_true, if_false, ite_true, ite_false, not_true, not_false_eq_true, md_narrow, q2, q3]
    exact k9
  rw [start]
  have a0 := arm c hcn
  generalize iI (armZ n ((c + r i) % n)) = a at a0
  have hlc := hl c hcn
  unfold ncI
  by_cases ha : a = 0
  · rw [if_pos ha]
    have hu : upN M 206 207 c (lo c, hi c, decide (f ≤ 0) && decide (0 ≤ t)) = M := by
      rw [upN, ← hlc.1, ← hlc.2]
      exact upd_self M 206 207 c
    rw [hu]
    simp (disch := omega) only [x_bd_s, x_bi_s, x_lt_e, x_rd_n, x_wr_n, x_ra_n, x_dv_n, s_lt, s_le, s_eq, s_lt0, s_le0, s_0lt, s_0le, s_eq0, s_sub, s_rem, s_div, s_in, bI_0, bI_1, x_gb_b, x_gb_0, x_gb_1, nI_add, nI_1, s_size, s_abs, s_max, iI_mul, iI_add, iI_neg, Nat.le_refl, Nat.lt_irrefl, if_true, if_false, ite_true, ite_false, not_true, not_false_eq_true, md_narrow_b137, q1, hn, a0, ha]
    by_cases h1 : 0 < f
    · rw [if_pos h1, decide_eq_false (Int32.not_le.mpr h1)]
      rfl
    · rw [if_neg h1, decide_eq_true (Int32.not_lt.mp h1)]
      by_cases h2 : t < 0
      · rw [if_pos h2, decide_eq_false (Int32.not_le.mpr h2)]
        rfl
      · rw [if_neg h2, decide_eq_true (Int32.not_lt.mp h2)]
        rfl
  · rw [if_neg ha]
    have fin : ∀ (x y : Int32), (if y < x then some ((0 : Int32), upN M 206 207 c (x, y, decide (x ≤ y))) else some ((1 : Int32), upN M 206 207 c (x, y, decide (x ≤ y)))) = some (bB (decide (x ≤ y)), upN M 206 207 c (x, y, decide (x ≤ y))) := by
      intro x y
      by_cases h : y < x
      · rw [if_pos h, decide_eq_false (Int32.not_le.mpr h)]
        rfl
      · rw [if_neg h, decide_eq_true (Int32.not_lt.mp h)]
        rfl
    have tail : ∀ (fr tt : Int32), md_narrow_b220 (nI c) fr tt M = some (bB (decide (mxI (lo c) fr ≤ mnI (hi c) tt)), upN M 206 207 c (mxI (lo c) fr, mnI (hi c) tt, decide (mxI (lo c) fr ≤ mnI (hi c) tt))) := by
      intro fr tt
      have e277 : ∀ (M1 : e_Me) (x : Int32), M1 206 c = x → (∀ y, e_up M1 207 c y = upN M 206 207 c (x, y, decide (x ≤ y))) → ∀ y, md_narrow_b277 (nI c) y (nI c) M1 = some (bB (decide (x ≤ y)), upN M 206 207 c (x, y, decide (x ≤ y))) := by
        intro M1 x h1 h2 y
        have g1 : e_up M1 207 c y 206 c = x := by rw [e_up_o (by omega), h1]
        simp (disch := omega) only [x_bd_s, x_bi_s, x_lt_e, x_rd_n, x_wr_n, x_ra_n, x_dv_n, s_lt, s_le, s_eq, s_lt0, s_le0, s_0lt, s_0le, s_eq0, s_sub, s_rem, s_div, s_in, bI_0, bI_1, x_gb_b, x_gb_0, x_gb_1, nI_add, nI_1, s_size, s_abs, s_max, iI_mul, iI_add, iI_neg, Nat.le_refl, Nat.lt_irrefl, if_true, if_false, ite_true, ite_false, not_true, not_false_eq_true, md_narrow_b277, g1, e_up_e]
        rw [h2 y]
        exact fin x y
      have e249 : ∀ x, md_narrow_b249 (nI c) tt x (nI c) M = some (bB (decide (x ≤ mnI (hi c) tt)), upN M 206 207 c (x, mnI (hi c) tt, decide (x ≤ mnI (hi c) tt))) := by
        intro x
        have g1 : e_up M 206 c x 207 c = hi c := by rw [e_up_o (by omega), hlc.2]
        have hh := e277 (e_up M 206 c x) x (e_up_e _ _ _ _) (fun y => rfl)
        simp (disch := omega) only [x_bd_s, x_bi_s, x_lt_e, x_rd_n, x_wr_n, x_ra_n, x_dv_n, s_lt, s_le, s_eq, s_lt0, s_le0, s_0lt, s_0le, s_eq0, s_sub, s_rem, s_div, s_in, bI_0, bI_1, x_gb_b, x_gb_0, x_gb_1, nI_add, nI_1, s_size, s_abs, s_max, iI_mul, iI_add, iI_neg, Nat.le_refl, Nat.lt_irrefl, if_true, if_false, ite_true, ite_false, not_true, not_false_eq_true, md_narrow_b249, g1]
        unfold mnI
        by_cases g : hi c ≤ tt
        · have g2 : ¬ tt < hi c := Int32.not_lt.mpr g
          rw [if_pos g, if_neg g2]
          exact hh _
        · have g2 : tt < hi c := Int32.not_le.mp g
          rw [if_neg g, if_pos g2]
          exact hh _
      simp (disch := omega) only [x_bd_s, x_bi_s, x_lt_e, x_rd_n, x_wr_n, x_ra_n, x_dv_n, s_lt, s_le, s_eq, s_lt0, s_le0, s_0lt, s_0le, s_eq0, s_sub, s_rem, s_div, s_in, bI_0, bI_1, x_gb_b, x_gb_0, x_gb_1, nI_add, nI_1, s_size, s_abs, s_max, iI_mul, iI_add, iI_neg, Nat.le_refl, Nat.lt_irrefl, if_true, if_false, ite_true, ite_false, not_true, not_false_eq_true, md_narrow_b220, hlc.1]
      by_cases g : fr ≤ lo c
      · have g2 : ¬ lo c < fr := Int32.not_lt.mpr g
        rw [if_pos g, e249]
        simp only [mxI, g2, if_false]
      · have g2 : lo c < fr := Int32.not_le.mp g
        rw [if_neg g, e249]
        simp only [mxI, g2, if_true]
    by_cases h1 : a ≤ 0
    · rw [if_pos h1, if_pos h1]
      simp (disch := omega) only [x_bd_s, x_bi_s, x_lt_e, x_rd_n, x_wr_n, x_ra_n, x_dv_n, s_lt, s_le, s_eq, s_lt0, s_le0, s_0lt, s_0le, s_eq0, s_sub, s_rem, s_div, s_in, bI_0, bI_1, x_gb_b, x_gb_0, x_gb_1, nI_add, nI_1, s_size, s_abs, s_max, iI_mul, iI_add, iI_neg, Nat.le_refl, Nat.lt_irrefl, if_true, if_false, ite_true, ite_false, not_true, not_false_eq_true, md_narrow_b137, q1, hn, a0, ha, h1, up_ok ha, md_narrow_b197, down_ok ha]
      exact tail _ _
    · rw [if_neg h1, if_neg h1]
      simp (disch := omega) only [x_bd_s, x_bi_s, x_lt_e, x_rd_n, x_wr_n, x_ra_n, x_dv_n, s_lt, s_le, s_eq, s_lt0, s_le0, s_0lt, s_0le, s_eq0, s_sub, s_rem, s_div, s_in, bI_0, bI_1, x_gb_b, x_gb_0, x_gb_1, nI_add, nI_1, s_size, s_abs, s_max, iI_mul, iI_add, iI_neg, Nat.le_refl, Nat.lt_irrefl, if_true, if_false, ite_true, ite_false, not_true, not_false_eq_true, md_narrow_b137, q1, hn, a0, ha, h1, up_ok ha, md_narrow_b197, down_ok ha]
      exact tail _ _
theorem md_all_ok {k : Nat} {r : Nat → Nat} {v m : Nat → Int32} (hk : okn n) (hn : M 182 0 = nI n) (hR : mR M n k r v m) :
    ∃ M', md_narrowAll M = some (ixI (nrI n r v m k 0 (M 201) (M 202)).1, M') ∧ (∀ j, j < n → M' 206 j = (nrI n r v m k 0 (M 201) (M 202)).2.1 j ∧ M' 207 j = (nrI n r v m k 0 (M 201) (M 202)).2.2 j) ∧ ∀ u, u ≠ 206 → u ≠ 207 → M' u = M u := by
  have hb := okn_b hk
  have hk12 := hR.1
  have one : ∀ (k42 : Int32 → e_Me → Option (Int32 × e_Me)) (i : Nat), i < k → ∀ (d c F : Nat) (M1 : e_Me) (lo hi : Nat → Int32), c + d = n → d < F → (∀ u, u ≠ 206 → u ≠ 207 → M1 u = M u) → (∀ j, j < n → M1 206 j = lo j ∧ M1 207 j = hi j) →
      ∃ M', (md_narrowAll_l52 k42 (nI i) F (nI c) M1 = if (nbI n (fun c => iI (armZ n ((c + r i) % n))) (v i) (m i) d c lo hi).1 = true then k42 (nI (i + 1)) M' else some (nI i, M')) ∧
        (∀ j, j < n → M' 206 j = (nbI n (fun c => iI (armZ n ((c + r i) % n))) (v i) (m i) d c lo hi).2.1 j ∧ M' 207 j = (nbI n (fun c => iI (armZ n ((c + r i) % n))) (v i) (m i) d c lo hi).2.2 j) ∧ ∀ u, u ≠ 206 → u ≠ 207 → M' u = M u := by
    intro k42 i hi' d
    induction d with
    | zero =>
      intro c F M1 lo hi h1 h2 h3 h4
      obtain ⟨F, rfl⟩ : ∃ F', F = F' + 1 := ⟨F - 1, by omega⟩
      have e : c = n := by omega
      subst e
      refine ⟨M1, ?_, h4, h3⟩
      simp (disch := omega) only [x_bd_s, x_bi_s, x_lt_e, x_rd_n, x_wr_n, x_ra_n, x_dv_n, s_lt, s_le, s_eq, s_lt0, s_le0, s_0lt, s_0le, s_eq0, s_sub, s_rem, s_div, s_in, bI_0, bI_1, x_gb_b, x_gb_0, x_gb_1, nI_add, nI_1, s_size, s_abs, s_max, iI_mul, iI_add, iI_neg, Nat.le_refl, Nat.lt_irrefl, if_true, if_false, ite_true, ite_false, not_true, not_false_eq_true, md_narrowAll_l52, h3 182 (by omega) (by omega), hn, nbI]
    | succ d ih =>
      intro c F M1 lo hi h1 h2 h3 h4
      obtain ⟨F, rfl⟩ : ∃ F', F = F' + 1 := ⟨F - 1, by omega⟩
      have c1 : ¬ n ≤ c := by omega
      have hn1 : M1 182 0 = nI n := by rw [h3 182 (by omega) (by omega), hn]
      have hR1 : mR M1 n k r v m := by
        unfold mR
        rw [h3 182 (by omega) (by omega), h3 203 (by omega) (by omega), h3 204 (by omega) (by omega), h3 205 (by omega) (by omega)]
        exact hR
      have hcab := md_narrow_ok hk hn1 hR1 hi' (show c < n by omega) h4
      simp only [nbI]
      generalize ncI (iI (armZ n ((c + r i) % n))) (v i - m i - smX n c (msI (fun c => iI (armZ n ((c + r i) % n))) lo hi)) (v i + m i - smX n c (lsI (fun c => iI (armZ n ((c + r i) % n))) lo hi)) (lo c) (hi c) = res at hcab ⊢
      have h3' : ∀ u, u ≠ 206 → u ≠ 207 → upN M1 206 207 c res u = M u := fun u g1 g2 => by
        funext w
        rw [upN, e_up_o (by omega), e_up_o (by omega), h3 u g1 g2]
      have h4' : ∀ j, j < n → upN M1 206 207 c res 206 j = upF lo c res.1 j ∧ upN M1 206 207 c res 207 j = upF hi c res.2.1 j := fun j hj => by
        unfold upN upF
        by_cases e : j = c
        · subst e
          simp only [if_true]
          exact ⟨by rw [e_up_o (by omega), e_up_e], by rw [e_up_e]⟩
        · simp only [e, if_false]
          exact ⟨by rw [e_up_o (by omega), e_up_o (by omega), (h4 j hj).1], by rw [e_up_o (by omega), e_up_o (by omega), (h4 j hj).2]⟩
      have e0 : md_narrowAll_l52 k42 (nI i) (F + 1) (nI c) M1 = if res.2.2 = true then md_narrowAll_l52 k42 (nI i) F (nI (c + 1)) (upN M1 206 207 c res) else some (nI i, upN M1 206 207 c res) := by
        simp (disch := omega) only [x_bd_s, x_bi_s, x_lt_e, x_rd_n, x_wr_n, x_ra_n, x_dv_n, s_lt, s_le, s_eq, s_lt0, s_le0, s_0lt, s_0le, s_eq0, s_sub, s_rem, s_div, s_in, bI_0, bI_1, x_gb_b, x_gb_0, x_gb_1, nI_add, nI_1, s_size, s_abs, s_max, iI_mul, iI_add, iI_neg, Nat.le_refl, Nat.lt_irrefl, if_true, if_false, ite_true, ite_false, not_true, not_false_eq_true, md_narrowAll_l52, hn1, c1, hcab, bB_0]
        cases res.2.2
        · rfl
        · rfl
      rw [e0]
      by_cases g : res.2.2 = true
      · rw [if_pos g, if_pos g]
        exact ih (c + 1) F _ _ _ (by omega) (by omega) h3' h4'
      · rw [if_neg g, if_neg g]
        refine ⟨upN M1 206 207 c res, ?_, h4', h3'⟩
        rw [if_neg (by simp)]
  have all : ∀ (d i F : Nat) (M1 : e_Me) (lo hi : Nat → Int32), i + d = k → d < F → (∀ u, u ≠ 206 → u ≠ 207 → M1 u = M u) → (∀ j, j < n → M1 206 j = lo j ∧ M1 207 j = hi j) →
      ∃ M', md_narrowAll_l42 F (nI i) M1 = some (ixI (nrI n r v m d i lo hi).1, M') ∧ (∀ j, j < n → M' 206 j = (nrI n r v m d i lo hi).2.1 j ∧ M' 207 j = (nrI n r v m d i lo hi).2.2 j) ∧ ∀ u, u ≠ 206 → u ≠ 207 → M' u = M u := by
    intro d
    induction d with
    | zero =>
      intro i F M1 lo hi h1 h2 h3 h4
      obtain ⟨F, rfl⟩ : ∃ F', F = F' + 1 := ⟨F - 1, by omega⟩
      have e : i = k := by omega
      subst e
      exact ⟨M1, by simp (disch := omega) only [x_bd_s, x_bi_s, x_lt_e, x_rd_n, x_wr_n, x_ra_n, x_dv_n, s_lt, s_le, s_eq, s_lt0, s_le0, s_0lt, s_0le, s_eq0, s_sub, s_rem, s_div, s_in, bI_0, bI_1, x_gb_b, x_gb_0, x_gb_1, nI_add, nI_1, s_size, s_abs, s_max, iI_mul, iI_add, iI_neg, Nat.le_refl, Nat.lt_irrefl, if_true, if_false, ite_true, ite_false, not_true, not_false_eq_true, md_narrowAll_l42, h3 182 (by omega) (by omega), hR.2.1]; rfl, h4, h3⟩
    | succ d ih =>
      intro i F M1 lo hi h1 h2 h3 h4
      obtain ⟨F, rfl⟩ : ∃ F', F = F' + 1 := ⟨F - 1, by omega⟩
      have c1 : ¬ k ≤ i := by omega
      have := e_Fge
      obtain ⟨M2, p1, p2, p3⟩ := one (md_narrowAll_l42 F) i (by omega) n 0 e_F M1 lo hi (by omega) (by omega) h3 h4
      rw [nI_0] at p1
      have e0 : md_narrowAll_l42 (F + 1) (nI i) M1 = md_narrowAll_l52 (md_narrowAll_l42 F) (nI i) e_F 0 M1 := by
        simp (disch := omega) only [x_bd_s, x_bi_s, x_lt_e, x_rd_n, x_wr_n, x_ra_n, x_dv_n, s_lt, s_le, s_eq, s_lt0, s_le0, s_0lt, s_0le, s_eq0, s_sub, s_rem, s_div, s_in, bI_0, bI_1, x_gb_b, x_gb_0, x_gb_1, nI_add, nI_1, s_size, s_abs, s_max, iI_mul, iI_add, iI_neg, Nat.le_refl, Nat.lt_irrefl, if_true, if_false, ite_true, ite_false, not_true, not_false_eq_true, md_narrowAll_l42, h3 182 (by omega) (by omega), hR.2.1, c1]
      rw [e0, p1]
      simp only [nrI]
      by_cases g : (nbI n (fun c => iI (armZ n ((c + r i) % n))) (v i) (m i) n 0 lo hi).1 = true
      · rw [if_pos g, if_pos g]
        exact ih (i + 1) F M2 _ _ (by omega) (by omega) p3 p2
      · rw [if_neg g, if_neg g]
        exact ⟨M2, rfl, p2, p3⟩
  have copy : ∀ (d c F : Nat) (M1 : e_Me), c + d = n → d < F → (∀ u, u ≠ 206 → u ≠ 207 → M1 u = M u) → (∀ j, j < c → M1 206 j = M 201 j ∧ M1 207 j = M 202 j) →
      ∃ M', md_narrowAll_l2 F (nI c) M1 = md_narrowAll_l42 e_F 0 M' ∧ (∀ j, j < n → M' 206 j = M 201 j ∧ M' 207 j = M 202 j) ∧ ∀ u, u ≠ 206 → u ≠ 207 → M' u = M u := by
    intro d
    induction d with
    | zero =>
      intro c F M1 h1 h2 h3 h4
      obtain ⟨F, rfl⟩ : ∃ F', F = F' + 1 := ⟨F - 1, by omega⟩
      have e : c = n := by omega
      subst e
      exact ⟨M1, by simp (disch := omega) only [x_bd_s, x_bi_s, x_lt_e, x_rd_n, x_wr_n, x_ra_n, x_dv_n, s_lt, s_le, s_eq, s_lt0, s_le0, s_0lt, s_0le, s_eq0, s_sub, s_rem, s_div, s_in, bI_0, bI_1, x_gb_b, x_gb_0, x_gb_1, nI_add, nI_1, s_size, s_abs, s_max, iI_mul, iI_add, iI_neg, Nat.le_refl, Nat.lt_irrefl, if_true, if_false, ite_true, ite_false, not_true, not_false_eq_true, md_narrowAll_l2, h3 182 (by omega) (by omega), hn], h4, h3⟩
    | succ d ih =>
      intro c F M1 h1 h2 h3 h4
      obtain ⟨F, rfl⟩ : ∃ F', F = F' + 1 := ⟨F - 1, by omega⟩
      have c1 : ¬ n ≤ c := by omega
      have a1 : e_up M1 206 c (M 201 c) 202 c = M 202 c := by rw [e_up_o (by omega), h3 202 (by omega) (by omega)]
      obtain ⟨M', p1, p2, p3⟩ := ih (c + 1) F (e_up (e_up M1 206 c (M 201 c)) 207 c (M 202 c)) (by omega) (by omega) (fun u g1 g2 => by
        funext w
        rw [e_up_o (by omega), e_up_o (by omega), h3 u g1 g2]) (fun j hj => by
        by_cases e : j = c
        · subst e
          exact ⟨by rw [e_up_o (by omega), e_up_e], by rw [e_up_e]⟩
        · exact ⟨by rw [e_up_o (by omega), e_up_o (by omega), (h4 j (by omega)).1], by rw [e_up_o (by omega), e_up_o (by omega), (h4 j (by omega)).2]⟩)
      refine ⟨M', ?_, p2, p3⟩
      simp (disch := omega) only [x_bd_s, x_bi_s, x_lt_e, x_rd_n, x_wr_n, x_ra_n, x_dv_n, s_lt, s_le, s_eq, s_lt0, s_le0, s_0lt, s_0le, s_eq0, s_sub, s_rem, s_div, s_in, bI_0, bI_1, x_gb_b, x_gb_0, x_gb_1, nI_add, nI_1, s_size, s_abs, s_max, iI_mul, iI_add, iI_neg, Nat.le_refl, Nat.lt_irrefl, if_true, if_false, ite_true, ite_false, not_true, not_false_eq_true, md_narrowAll_l2, h3 182 (by omega) (by omega), hn, c1, h3 201 (by omega) (by omega), a1]
      exact p1
  have := e_Fge
  obtain ⟨M2, p1, p2, p3⟩ := copy n 0 e_F M (by omega) (by omega) (fun _ _ _ => rfl) (fun j hj => by omega)
  obtain ⟨M', q1, q2, q3⟩ := all k 0 e_F M2 (M 201) (M 202) (by omega) (by omega) p3 p2
  refine ⟨M', ?_, q2, q3⟩
  rw [nI_0] at p1 q1
  rw [← q1, ← p1]
  rfl
end
