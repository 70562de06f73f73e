/-! NARROWED by a READING, by all -/
def upF (f : Nat → Int32) (c : Nat) (x : Int32) : Nat → Int32 := fun j => if j = c then x else f j
def nbI (n : Nat) (a : Nat → Int32) (v m : Int32) : Nat → Nat → (Nat → Int32) → (Nat → Int32) → Bool × (Nat → Int32) × (Nat → Int32)
  | 0, _, lo, hi => (true, lo, hi)
  | d + 1, c, lo, hi => if (ncI (a c) (v - m - smX n c (msI a lo hi)) (v + m - smX n c (lsI a lo hi)) (lo c) (hi c)).2.2 = true
      then nbI n a v m d (c + 1) (upF lo c (ncI (a c) (v - m - smX n c (msI a lo hi)) (v + m - smX n c (lsI a lo hi)) (lo c) (hi c)).1) (upF hi c (ncI (a c) (v - m - smX n c (msI a lo hi)) (v + m - smX n c (lsI a lo hi)) (lo c) (hi c)).2.1)
      else (false, upF lo c (ncI (a c) (v - m - smX n c (msI a lo hi)) (v + m - smX n c (lsI a lo hi)) (lo c) (hi c)).1, upF hi c (ncI (a c) (v - m - smX n c (msI a lo hi)) (v + m - smX n c (lsI a lo hi)) (lo c) (hi c)).2.1)
def nrI (n : Nat) (r : Nat → Nat) (v m : Nat → Int32) : Nat → Nat → (Nat → Int32) → (Nat → Int32) → Option Nat × (Nat → Int32) × (Nat → Int32)
  | 0, _, lo, hi => (none, lo, hi)
  | d + 1, i, lo, hi => if (nbI n (fun c => iI (armZ n ((c + r i) % n))) (v i) (m i) n 0 lo hi).1 = true
      then nrI n r v m d (i + 1) (nbI n (fun c => iI (armZ n ((c + r i) % n))) (v i) (m i) n 0 lo hi).2.1 (nbI n (fun c => iI (armZ n ((c + r i) % n))) (v i) (m i) n 0 lo hi).2.2
      else (some i, (nbI n (fun c => iI (armZ n ((c + r i) % n))) (v i) (m i) n 0 lo hi).2.1, (nbI n (fun c => iI (armZ n ((c + r i) % n))) (v i) (m i) n 0 lo hi).2.2)
def ixI (o : Option Nat) : Int32 := match o with
  | none => -1
  | some i => nI i
theorem lsI_upF {a lo hi : Nat → Int32} {c d : Nat} {x y : Int32} (h : d ≠ c) : lsI a (upF lo c x) (upF hi c y) d = lsI a lo hi d := by
  simp only [lsI, upF, h, if_false]
theorem msI_upF {a lo hi : Nat → Int32} {c d : Nat} {x y : Int32} (h : d ≠ c) : msI a (upF lo c x) (upF hi c y) d = msI a lo hi d := by
  simp only [msI, upF, h, if_false]
theorem smX_ls {n c : Nat} {a lo hi : Nat → Int32} {x y : Int32} : smX n c (lsI a (upF lo c x) (upF hi c y)) = smX n c (lsI a lo hi) := by
  unfold smX
  refine smI_cong (fun d _ => ?_)
  by_cases h : d = c
  · rw [if_pos h, if_pos h]
  · rw [if_neg h, if_neg h, lsI_upF h]
theorem smX_ms {n c : Nat} {a lo hi : Nat → Int32} {x y : Int32} : smX n c (msI a (upF lo c x) (upF hi c y)) = smX n c (msI a lo hi) := by
  unfold smX
  refine smI_cong (fun d _ => ?_)
  by_cases h : d = c
  · rw [if_pos h, if_pos h]
  · rw [if_neg h, if_neg h, msI_upF h]
/-- the class's READINGS -/
def cR (M : e_Me) (n k : Nat) (r : Nat → Nat) (v m : Nat → Int32) : Prop := k ≤ 12 ∧ M 176 1 = nI k ∧ M 178 1 = nI k ∧ M 180 1 = nI k ∧ ∀ i, i < k → M 177 i = nI (r i) ∧ M 179 i = v i ∧ M 181 i = m i ∧ r i < n
section
variable {M : e_Me} {n t : Nat} {ld : Nat → Nat}
theorem least_ok {c r : Nat} {lo hi : Nat → Int32} (hc : cW M n t ld) (h1 : c < n) (h2 : r < n) (hl : ∀ j, j < n → M 174 j = lo j ∧ M 175 j = hi j) : re_leastOf (nI c) (nI r) M = some (lsI (fun c => iI (armZ n ((c + r) % n))) lo hi c) := by
  have hb := okn_b hc.1
  unfold re_leastOf lsI
  simp only [wh_armOf_ok hc h1 h2, x_bd_s, lowOf_ok (M := M) (show c < 30 by omega), highOf_ok (M := M) (show c < 30 by omega), (hl c h1).1, (hl c h1).2]
  split <;> rfl
theorem most_ok {c r : Nat} {lo hi : Nat → Int32} (hc : cW M n t ld) (h1 : c < n) (h2 : r < n) (hl : ∀ j, j < n → M 174 j = lo j ∧ M 175 j = hi j) : re_mostOf (nI c) (nI r) M = some (msI (fun c => iI (armZ n ((c + r) % n))) lo hi c) := by
  have hb := okn_b hc.1
  unfold re_mostOf msI
  simp only [wh_armOf_ok hc h1 h2, x_bd_s, lowOf_ok (M := M) (show c < 30 by omega), highOf_ok (M := M) (show c < 30 by omega), (hl c h1).1, (hl c h1).2]
  split <;> rfl
theorem by_l60 {k i : Nat} {r : Nat → Nat} {v m : Nat → Int32} (hc : cW M n t ld) (hR : cR M n k r v m) (hi : i < k) :
    ∀ (d c F : Nat) (M1 : e_Me) (lo hi : Nat → Int32), c + d = n → d < F → (∀ u, u ≠ 174 → u ≠ 175 → M1 u = M u) → (∀ j, j < n → M1 174 j = lo j ∧ M1 175 j = hi j) →
      ∃ M', re_narrowBy_l60 (nI i) (nI (r i)) F (smI n (lsI (fun c => iI (armZ n ((c + r i) % n))) lo hi)) (smI n (msI (fun c => iI (armZ n ((c + r i) % n))) lo hi)) (nI c) M1 = some (bB (nbI n (fun c => iI (armZ n ((c + r i) % n))) (v i) (m i) d c lo hi).1, M') ∧
        (∀ j, j < n → M' 174 j = (nbI n (fun c => iI (armZ n ((c + r i) % n))) (v i) (m i) d c lo hi).2.1 j ∧ M' 175 j = (nbI n (fun c => iI (armZ n ((c + r i) % n))) (v i) (m i) d c lo hi).2.2 j) ∧ ∀ u, u ≠ 174 → u ≠ 175 → M' u = M u := by
  have hb := okn_b hc.1
  obtain ⟨k0, k1, k2, k3, k4⟩ := hR
  obtain ⟨q1, q2, q3, q4⟩ := k4 i hi
  intro d
  induction d with
  | zero =>
    intro c F M1 lo hi' h1 h2 h3 h4
    obtain ⟨F, rfl⟩ : ∃ F', F = F' + 1 := ⟨F - 1, by omega⟩
    have e : c = n := by omega
    subst e
    exact ⟨M1, by simp (disch := omega) only [x_bd_s, x_bi_s, x_lt_e, x_rd_n, x_wr_n, x_ra_n, x_dv_n, s_lt, s_le, s_eq, s_lt0, s_le0, s_0lt, s_0le, s_eq0, s_sub, s_rem, s_div, s_in, bI_0, bI_1, x_gb_b, x_gb_0, x_gb_1, nI_add, nI_1, s_size, s_abs, s_max, iI_mul, iI_add, iI_neg, Nat.le_refl, Nat.lt_irrefl, if_true, if_false, ite_true, ite_false, not_true, not_false_eq_true, re_narrowBy_l60, wh_count, h3 3 (by omega) (by omega), hc.2.2.1]; rfl, h4, h3⟩
  | succ d ih =>
    intro c F M1 lo hi' h1 h2 h3 h4
    obtain ⟨F, rfl⟩ : ∃ F', F = F' + 1 := ⟨F - 1, by omega⟩
    have hW : cW M1 n t ld := cW_frame hc (h3 3 (by omega) (by omega)) (h3 4 (by omega) (by omega)) (h3 5 (by omega) (by omega)) (h3 6 (by omega) (by omega))
    have c1 : ¬ n ≤ c := by omega
    have hcn : c < n := by omega
    have a1 : ro_at 178 (nI i) M1 = some (v i) := by
      rw [ro_at_ok cap_12.2.1 (by rw [h3 178 (by omega) (by omega), k2]) (by omega) (by omega) hi, h3 179 (by omega) (by omega), q2]
    have a2 : ro_at 180 (nI i) M1 = some (m i) := by
      rw [ro_at_ok cap_12.2.2 (by rw [h3 180 (by omega) (by omega), k3]) (by omega) (by omega) hi, h3 181 (by omega) (by omega), q3]
    generalize hr : ncI ((fun c => iI (armZ n ((c + r i) % n))) c) (v i - m i - smX n c (msI (fun c => iI (armZ n ((c + r i) % n))) lo hi')) (v i + m i - smX n c (lsI (fun c => iI (armZ n ((c + r i) % n))) lo hi')) (lo c) (hi' c) = res
    have hcab := cabin_ok (M := M1) (show c < 30 by omega) (iI (armZ n ((c + r i) % n))) (v i - m i - smX n c (msI (fun c => iI (armZ n ((c + r i) % n))) lo hi')) (v i + m i - smX n c (lsI (fun c => iI (armZ n ((c + r i) % n))) lo hi'))
    rw [(h4 c hcn).1, (h4 c hcn).2] at hcab
    simp only at hr
    rw [hr] at hcab
    have h3' : ∀ u, u ≠ 174 → u ≠ 175 → upN M1 174 175 c res u = M u := fun u g1 g2 => by
      funext w
      rw [upN, e_up_o (by omega), e_up_o (by omega), h3 u g1 g2]
    have h4' : ∀ j, j < n → upN M1 174 175 c res 174 j = upF lo c res.1 j ∧ upN M1 174 175 c res 175 j = upF hi' c res.2.1 j := fun j hj => by
      unfold upN upF
      by_cases e : j = c
      · subst e
        simp only [if_true]
        exact ⟨by rw [e_up_o (by omega), e_up_e], by rw [e_up_e]⟩
      · simp only [e, if_false]
        exact ⟨by rw [e_up_o (by omega), e_up_o (by omega), (h4 j hj).1], by rw [e_up_o (by omega), e_up_o (by omega), (h4 j hj).2]⟩
    have hW' : cW (upN M1 174 175 c res) n t ld := cW_frame hc (h3' 3 (by omega) (by omega)) (h3' 4 (by omega) (by omega)) (h3' 5 (by omega) (by omega)) (h3' 6 (by omega) (by omega))
    have s1 : smI n (lsI (fun c => iI (armZ n ((c + r i) % n))) lo hi') - lsI (fun c => iI (armZ n ((c + r i) % n))) lo hi' c = smX n c (lsI (fun c => iI (armZ n ((c + r i) % n))) lo hi') := (smX_all hcn).symm
    have s2 : smI n (msI (fun c => iI (armZ n ((c + r i) % n))) lo hi') - msI (fun c => iI (armZ n ((c + r i) % n))) lo hi' c = smX n c (msI (fun c => iI (armZ n ((c + r i) % n))) lo hi') := (smX_all hcn).symm
    have s3 : smX n c (lsI (fun c => iI (armZ n ((c + r i) % n))) lo hi') + lsI (fun c => iI (armZ n ((c + r i) % n))) (upF lo c res.1) (upF hi' c res.2.1) c = smI n (lsI (fun c => iI (armZ n ((c + r i) % n))) (upF lo c res.1) (upF hi' c res.2.1)) := by
      rw [← smX_ls (x := res.1) (y := res.2.1), smX_all hcn, Int32.sub_add_cancel]
    have s4 : smX n c (msI (fun c => iI (armZ n ((c + r i) % n))) lo hi') + msI (fun c => iI (armZ n ((c + r i) % n))) (upF lo c res.1) (upF hi' c res.2.1) c = smI n (msI (fun c => iI (armZ n ((c + r i) % n))) (upF lo c res.1) (upF hi' c res.2.1)) := by
      rw [← smX_ms (x := res.1) (y := res.2.1), smX_all hcn, Int32.sub_add_cancel]
    have e0 : re_narrowBy_l60 (nI i) (nI (r i)) (F + 1) (smI n (lsI (fun c => iI (armZ n ((c + r i) % n))) lo hi')) (smI n (msI (fun c => iI (armZ n ((c + r i) % n))) lo hi')) (nI c) M1 = if res.2.2 = true then re_narrowBy_l60 (nI i) (nI (r i)) F (smI n (lsI (fun c => iI (armZ n ((c + r i) % n))) (upF lo c res.1) (upF hi' c res.2.1))) (smI n (msI (fun c => iI (armZ n ((c + r i) % n))) (upF lo c res.1) (upF hi' c res.2.1))) (nI (c + 1)) (upN M1 174 175 c res) else some (0, upN M1 174 175 c res) := by
      simp (disch := omega) only [x_bd_s, x_bi_s, x_lt_e, x_rd_n, x_wr_n, x_ra_n, x_dv_n, s_lt, s_le, s_eq, s_lt0, s_le0, s_0lt, s_0le, s_eq0, s_sub, s_rem, s_div, s_in, bI_0, bI_1, x_gb_b, x_gb_0, x_gb_1, nI_add, nI_1, s_size, s_abs, s_max, iI_mul, iI_add, iI_neg, Nat.le_refl, Nat.lt_irrefl, if_true, if_false, ite_true, ite_false, not_true, not_false_eq_true, re_narrowBy_l60, wh_count, hW.2.2.1, c1, least_ok hW hcn q4 h4, most_ok hW hcn q4 h4, s1, s2, a1, a2, wh_armOf_ok hW hcn q4, hcab, bB_0, least_ok hW' hcn q4 h4', most_ok hW' hcn q4 h4', s3, s4]
      cases res.2.2
      · rfl
      · rfl
    rw [e0]
    simp only [nbI]
    simp only [hr]
    by_cases g : res.2.2 = true
    · rw [if_pos g, if_pos g]
      exact ih (c + 1) F _ _ _ (by omega) (by omega) h3' h4'
    · rw [if_neg g, if_neg g]
      exact ⟨_, rfl, h4', h3'⟩
theorem by_ok {k i : Nat} {r : Nat → Nat} {v m : Nat → Int32} {lo hi : Nat → Int32} (hc : cW M n t ld) (hR : cR M n k r v m) (hi' : i < k) (hl : ∀ j, j < n → M 174 j = lo j ∧ M 175 j = hi j) :
    ∃ M', re_narrowBy (nI i) M = some (bB (nbI n (fun c => iI (armZ n ((c + r i) % n))) (v i) (m i) n 0 lo hi).1, M') ∧
      (∀ j, j < n → M' 174 j = (nbI n (fun c => iI (armZ n ((c + r i) % n))) (v i) (m i) n 0 lo hi).2.1 j ∧ M' 175 j = (nbI n (fun c => iI (armZ n ((c + r i) % n))) (v i) (m i) n 0 lo hi).2.2 j) ∧ ∀ u, u ≠ 174 → u ≠ 175 → M' u = M u := by
  have hb := okn_b hc.1
  have hR' := hR
  obtain ⟨k0, k1, k2, k3, k4⟩ := hR
  obtain ⟨q1, q2, q3, q4⟩ := k4 i hi'
  have := e_Fge
  obtain ⟨M', p1, p2, p3⟩ := by_l60 hc hR' hi' n 0 e_F M lo hi (by omega) (by omega) (fun _ _ _ => rfl) hl
  rw [nI_0] at p1
  have key : ∀ (d c F : Nat), c + d = n → d < F → re_narrowBy_l17 (nI i) (nI (r i)) M F (smI c (lsI (fun c => iI (armZ n ((c + r i) % n))) lo hi)) (smI c (msI (fun c => iI (armZ n ((c + r i) % n))) lo hi)) (nI c) = re_narrowBy_l60 (nI i) (nI (r i)) e_F (smI n (lsI (fun c => iI (armZ n ((c + r i) % n))) lo hi)) (smI n (msI (fun c => iI (armZ n ((c + r i) % n))) lo hi)) 0 M := by
    intro d
    induction d with
    | zero =>
      intro c F h1 h2
      obtain ⟨F, rfl⟩ : ∃ F', F = F' + 1 := ⟨F - 1, by omega⟩
      have e : c = n := by omega
      subst e
      simp (disch := omega) only [x_bd_s, x_bi_s, x_lt_e, x_rd_n, x_wr_n, x_ra_n, x_dv_n, s_lt, s_le, s_eq, s_lt0, s_le0, s_0lt, s_0le, s_eq0, s_sub, s_rem, s_div, s_in, bI_0, bI_1, x_gb_b, x_gb_0, x_gb_1, nI_add, nI_1, s_size, s_abs, s_max, iI_mul, iI_add, iI_neg, Nat.le_refl, Nat.lt_irrefl, if_true, if_false, ite_true, ite_false, not_true, not_false_eq_true, re_narrowBy_l17, wh_count, hc.2.2.1]
    | succ d ih =>
      intro c F h1 h2
      obtain ⟨F, rfl⟩ : ∃ F', F = F' + 1 := ⟨F - 1, by omega⟩
      have c1 : ¬ n ≤ c := by omega
      simp (disch := omega) only [x_bd_s, x_bi_s, x_lt_e, x_rd_n, x_wr_n, x_ra_n, x_dv_n, s_lt, s_le, s_eq, s_lt0, s_le0, s_0lt, s_0le, s_eq0, s_sub, s_rem, s_div, s_in, bI_0, bI_1, x_gb_b, x_gb_0, x_gb_1, nI_add, nI_1, s_size, s_abs, s_max, iI_mul, iI_add, iI_neg, Nat.le_refl, Nat.lt_irrefl, if_true, if_false, ite_true, ite_false, not_true, not_false_eq_true, re_narrowBy_l17, wh_count, hc.2.2.1, c1, least_ok hc (show c < n by omega) q4 hl, most_ok hc (show c < n by omega) q4 hl]
      exact ih (c + 1) F (by omega) (by omega)
  refine ⟨M', ?_, p2, p3⟩
  have k9 := key n 0 e_F (by omega) (by omega)
  rw [nI_0] at k9
  simp (disch := omega) only [x_bd_s, x_bi_s, x_lt_e, x_rd_n, x_wr_n, x_ra_n, x_dv_n, s_lt, s_le, s_eq, s_lt0, s_le0, s_0lt, s_0le, s_eq0, s_sub, s_rem, s_div, s_in, bI_0, bI_1, x_gb_b, x_gb_0, x_gb_1, nI_add, nI_1, s_size, s_abs, s_max, iI_mul, iI_add, iI_neg, Nat.le_refl, Nat.lt_irrefl, if_true, if_false, ite_true, ite_false, not_true, not_false_eq_true, re_narrowBy, ro_at_ok cap_12.1 k1 (show k ≤ 12 by omega) (show 12 ≤ 1000 by omega) hi', q1]
  rw [← p1]
  exact k9
theorem narrow_ok {k : Nat} {r : Nat → Nat} {v m : Nat → Int32} (hc : cW M n t ld) (hR : cR M n k r v m) :
    ∃ M', re_narrow M = some (ixI (nrI n r v m k 0 (M 172) (M 173)).1, M') ∧ (∀ j, j < n → M' 174 j = (nrI n r v m k 0 (M 172) (M 173)).2.1 j ∧ M' 175 j = (nrI n r v m k 0 (M 172) (M 173)).2.2 j) ∧ ∀ u, u ≠ 174 → u ≠ 175 → M' u = M u := by
  have hb := okn_b hc.1
  have hR' := hR
  obtain ⟨k0, k1, k2, k3, k4⟩ := hR
  have key : ∀ (d i F : Nat) (M1 : e_Me) (lo hi : Nat → Int32), i + d = k → d < F → (∀ u, u ≠ 174 → u ≠ 175 → M1 u = M u) → (∀ j, j < n → M1 174 j = lo j ∧ M1 175 j = hi j) →
      ∃ M', re_narrow_l32 F (nI i) M1 = some (ixI (nrI n r v m d i lo hi).1, M') ∧ (∀ j, j < n → M' 174 j = (nrI n r v m d i lo hi).2.1 j ∧ M' 175 j = (nrI n r v m d i lo hi).2.2 j) ∧ ∀ u, u ≠ 174 → u ≠ 175 → M' u = M u := by
    intro d
    induction d with
    | zero =>
      intro i F M1 lo hi h1 h2 h3 h4
      obtain ⟨F, rfl⟩ : ∃ F', F = F' + 1 := ⟨F - 1, by omega⟩
      have e : i = k := by omega
      subst e
      exact ⟨M1, by simp (disch := omega) only [x_bd_s, x_bi_s, x_lt_e, x_rd_n, x_wr_n, x_ra_n, x_dv_n, s_lt, s_le, s_eq, s_lt0, s_le0, s_0lt, s_0le, s_eq0, s_sub, s_rem, s_div, s_in, bI_0, bI_1, x_gb_b, x_gb_0, x_gb_1, nI_add, nI_1, s_size, s_abs, s_max, iI_mul, iI_add, iI_neg, Nat.le_refl, Nat.lt_irrefl, if_true, if_false, ite_true, ite_false, not_true, not_false_eq_true, re_narrow_l32, ro_count_ok cap_12.1, h3 176 (by omega) (by omega), k1]; rfl, h4, h3⟩
    | succ d ih =>
      intro i F M1 lo hi h1 h2 h3 h4
      obtain ⟨F, rfl⟩ : ∃ F', F = F' + 1 := ⟨F - 1, by omega⟩
      have c1 : ¬ k ≤ i := by omega
      have hW : cW M1 n t ld := cW_frame hc (h3 3 (by omega) (by omega)) (h3 4 (by omega) (by omega)) (h3 5 (by omega) (by omega)) (h3 6 (by omega) (by omega))
      have hR1 : cR M1 n k r v m := by
        unfold cR
        rw [h3 176 (by omega) (by omega), h3 177 (by omega) (by omega), h3 178 (by omega) (by omega), h3 179 (by omega) (by omega), h3 180 (by omega) (by omega), h3 181 (by omega) (by omega)]
        exact hR'
      obtain ⟨M2, p1, p2, p3⟩ := by_ok hW hR1 (show i < k by omega) h4
      have h3' : ∀ u, u ≠ 174 → u ≠ 175 → M2 u = M u := fun u a b => by rw [p3 u a b, h3 u a b]
      have e0 : re_narrow_l32 (F + 1) (nI i) M1 = if (nbI n (fun c => iI (armZ n ((c + r i) % n))) (v i) (m i) n 0 lo hi).1 = true then re_narrow_l32 F (nI (i + 1)) M2 else some (nI i, M2) := by
        simp (disch := omega) only [x_bd_s, x_bi_s, x_lt_e, x_rd_n, x_wr_n, x_ra_n, x_dv_n, s_lt, s_le, s_eq, s_lt0, s_le0, s_0lt, s_0le, s_eq0, s_sub, s_rem, s_div, s_in, bI_0, bI_1, x_gb_b, x_gb_0, x_gb_1, nI_add, nI_1, s_size, s_abs, s_max, iI_mul, iI_add, iI_neg, Nat.le_refl, Nat.lt_irrefl, if_true, if_false, ite_true, ite_false, not_true, not_false_eq_true, re_narrow_l32, ro_count_ok cap_12.1, h3 176 (by omega) (by omega), k1, c1, p1, bB_0]
        cases (nbI n (fun c => iI (armZ n ((c + r i) % n))) (v i) (m i) n 0 lo hi).1
        · rfl
        · rfl
      rw [e0]
      simp only [nrI]
      by_cases g : (nbI n (fun c => iI (armZ n ((c + r i) % n))) (v i) (m i) n 0 lo hi).1 = true
      · rw [if_pos g, if_pos g]
        exact ih (i + 1) F M2 _ _ (by omega) (by omega) h3' p2
      · rw [if_neg g, if_neg g]
        exact ⟨M2, rfl, p2, h3'⟩
  have := e_Fge
  have e30 : ((30 : Int32)).toNatClampNeg = 30 := by decide
  obtain ⟨M', p1, p2⟩ := key k 0 e_F (e_row (e_row M 174 (fun b => if b < ((30 : Int32)).toNatClampNeg then M 172 b else M 174 b)) 175 (fun b => if b < ((30 : Int32)).toNatClampNeg then e_row M 174 (fun b => if b < ((30 : Int32)).toNatClampNeg then M 172 b else M 174 b) 173 b else e_row M 174 (fun b => if b < ((30 : Int32)).toNatClampNeg then M 172 b else M 174 b) 175 b)) (M 172) (M 173) (by omega) (by omega) (fun u a b => by
    funext w
    rw [e_row_o b, e_row_o a]) (fun j hj => by
    refine ⟨?_, ?_⟩
    · rw [e_row_o (by omega), e_row_e, if_pos (by rw [e30]; omega)]
    · rw [e_row_e, if_pos (by rw [e30]; omega), e_row_o (by omega)])
  refine ⟨M', ?_, p2⟩
  rw [nI_0] at p1
  simp only [re_narrow, x_lt_e]
  exact p1
end
