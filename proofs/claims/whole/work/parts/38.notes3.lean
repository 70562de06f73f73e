/-! notes: what may be UP, by the reference -/
def acB (st : Option (Int × Int)) (f by' x : Int) : Bool := match st with
  | none => false
  | some (p, r) => decide (f < by') && decide (f + p ≤ x) && decide (x - r < by')
def nxS (Z f tt : Int) (st : Option (Int × Int)) : Option (Int × Int) := match st with
  | none => none
  | some (p, r) => if max 0 (p + f) ≤ min Z (r + tt) then some (max 0 (p + f), min Z (r + tt)) else none
theorem ac_nx {Z f tt x : Int} {st : Option (Int × Int)} (hf : f ≤ tt) (h0 : 0 ≤ x) (hx : x ≤ Z) : acB st f (tt + 1) x = memB (nxS Z f tt st) x := by
  match st with
  | none => rfl
  | some (p, r) =>
    simp only [acB, nxS]
    by_cases g : max 0 (p + f) ≤ min Z (r + tt)
    · rw [if_pos g]
      simp only [memB]
      by_cases g1 : f + p ≤ x <;> by_cases g2 : x ≤ r + tt
      · simp only [decide_eq_true (show f < tt + 1 by omega), decide_eq_true g1, decide_eq_true (show x - r < tt + 1 by omega), decide_eq_true (show max 0 (p + f) ≤ x by omega), decide_eq_true (show x ≤ min Z (r + tt) by omega)]
        rfl
      · simp only [decide_eq_true (show f < tt + 1 by omega), decide_eq_true g1, decide_eq_false (show ¬ x - r < tt + 1 by omega), decide_eq_false (show ¬ x ≤ min Z (r + tt) by omega), Bool.and_false]
      · simp only [decide_eq_true (show f < tt + 1 by omega), decide_eq_false g1, decide_eq_false (show ¬ max 0 (p + f) ≤ x by omega), Bool.and_false, Bool.false_and]
      · simp only [decide_eq_true (show f < tt + 1 by omega), decide_eq_false g1, decide_eq_false (show ¬ max 0 (p + f) ≤ x by omega), Bool.and_false, Bool.false_and]
    · rw [if_neg g]
      simp only [memB]
      by_cases g1 : f + p ≤ x
      · simp only [decide_eq_true g1, decide_eq_false (show ¬ x - r < tt + 1 by omega), Bool.and_false]
      · simp only [decide_eq_false g1, Bool.and_false, Bool.false_and]
def folS (Z : Int) (s q : Nat → Nat) : Nat → Nat → Option (Int × Int) → Option (Int × Int)
  | 0, _, st => st
  | d + 1, i, st => folS Z s q d (i + 1) (nxS Z (frZ (s i) (q i)) (toZ (s i) (q i)) st)
theorem folS_none {Z : Int} {s q : Nat → Nat} : ∀ (d i : Nat), folS Z s q d i none = none
  | 0, _ => rfl
  | d + 1, i => by
    simp only [folS, nxS]
    exact folS_none d (i + 1)
theorem folS_eq {Z : Int} {s q : Nat → Nat} : ∀ (d i : Nat) (lo hi : Int), folS Z s q d i (some (lo, hi)) = folN Z s q d i lo hi
  | 0, _, _, _ => rfl
  | d + 1, i, lo, hi => by
    simp only [folS, nxS, folN]
    split
    · exact folS_eq d (i + 1) _ _
    · exact folS_none d (i + 1)
/-- the interval lies on the wheel -/
def inS (Z : Int) (st : Option (Int × Int)) : Prop := ∀ p r, st = some (p, r) → 0 ≤ p ∧ p ≤ r ∧ r ≤ Z
theorem inS_nx {Z f tt : Int} {st : Option (Int × Int)} : inS Z (nxS Z f tt st) := by
  intro p r h
  match st with
  | none => cases h
  | some (a, b) =>
    simp only [nxS] at h
    split at h
    · cases h
      omega
    · cases h
section
variable {n Z : Nat}
theorem fl_in (hZ : Z ≤ 180) : ∀ {M : e_Me} {x : Nat} {b : Int}, x ≤ 180 → -36 ≤ b → b ≤ 37 → md_in (nI x - iI b).toInt64 (0 : Int32).toInt64 (nI Z).toInt64 M = some (bI (0 ≤ (x : Int) - b ∧ (x : Int) - b ≤ Z)) := by
  intro M x b h1 h2 h3
  rw [s_in, nI_iI, nI_iI, iI_sub]
  congr 1
  unfold bI
  simp only [iI_0le (show -2147483648 ≤ (x : Int) - b by omega) (by omega), iI_le (show -2147483648 ≤ (x : Int) - b by omega) (by omega) (show -2147483648 ≤ (Z : Int) by omega) (by omega)]
theorem fl_129 (hZ : Z ≤ 180) (k39 k111 : Int32 → e_Me → Option e_Me) (a3 : Int32) {f tt : Int} (hf : -36 ≤ f) (hft : f ≤ tt) (ht : tt ≤ 36) {st : Option (Int × Int)} {x : Nat} (hx : x ≤ Z) (hst : inS Z st) :
    ∀ (d : Nat) (b : Int) (F : Nat) (M1 : e_Me), b + d = tt + 1 → f ≤ b → d < F → (∀ j : Nat, j ≤ Z → M1 199 j = bB (memB st j)) → M1 200 x = bB (acB st f b x) →
      ∃ M', md_follow_l129 k39 k111 (nI Z) a3 (iI f) (iI tt) (nI x) F (iI b) M1 = k111 (nI (x + 1)) M' ∧ M' 200 x = bB (acB st f (tt + 1) x) ∧ ∀ u v, ¬ (u = 200 ∧ v = x) → M' u v = M1 u v := by
  intro d
  induction d with
  | zero =>
    intro b F M1 g1 g2 g3 g4 g5
    obtain ⟨F, rfl⟩ : ∃ F', F = F' + 1 := ⟨F - 1, by omega⟩
    have e : b = tt + 1 := by omega
    subst e
    have c1 : tt < tt + 1 := by omega
    exact ⟨M1, by simp (disch := omega) only [x_bd_s, x_bi_s, x_lt_e, x_rd_n, x_wr_n, x_ra_n, x_dv_n, s_lt, s_le, s_eq, s_lt0, s_le0, s_0lt, s_0le, s_eq0, s_sub, s_rem, s_div, s_in, bI_0, bI_1, x_gb_b, x_gb_0, x_gb_1, nI_add, nI_1, s_size, s_abs, s_max, iI_mul, iI_add, iI_neg, Nat.le_refl, Nat.lt_irrefl, if_true, if_false, ite_true, ite_false, not_true, not_false_eq_true, md_follow_l129, iI_lt, c1], g5, fun _ _ _ => rfl⟩
  | succ d ih =>
    intro b F M1 g1 g2 g3 g4 g5
    obtain ⟨F, rfl⟩ : ∃ F', F = F' + 1 := ⟨F - 1, by omega⟩
    have c1 : ¬ tt < b := by omega
    have e1 : iI b + (1 : Int32) = iI (b + 1) := by rw [show (1 : Int32) = iI 1 from rfl, iI_add]
    have go : ∀ v : Bool, acB st f (b + 1) x = v → ∃ M', md_follow_b185 k39 k111 (md_follow_l129 k39 k111 (nI Z) a3 (iI f) (iI tt) (nI x) F) (nI Z) a3 (iI f) (iI tt) (nI x) (iI b) (bB v) (nI x) M1 = k111 (nI (x + 1)) M' ∧ M' 200 x = bB (acB st f (tt + 1) x) ∧ ∀ u w, ¬ (u = 200 ∧ w = x) → M' u w = M1 u w := by
      intro v hv
      obtain ⟨M', h1, h2, h3⟩ := ih (b + 1) F (e_up M1 200 x (bB v)) (by omega) (by omega) (by omega) (fun j hj => by rw [e_up_o (by omega), g4 j hj]) (by rw [e_up_e, hv])
      refine ⟨M', ?_, h2, fun u w huw => by rw [h3 u w huw, e_up_o (by omega)]⟩
      simp (disch := omega) only [x_bd_s, x_bi_s, x_lt_e, x_rd_n, x_wr_n, x_ra_n, x_dv_n, s_lt, s_le, s_eq, s_lt0, s_le0, s_0lt, s_0le, s_eq0, s_sub, s_rem, s_div, s_in, bI_0, bI_1, x_gb_b, x_gb_0, x_gb_1, nI_add, nI_1, s_size, s_abs, s_max, iI_mul, iI_add, iI_neg, Nat.le_refl, Nat.lt_irrefl, if_true, if_false, ite_true, ite_false, not_true, not_false_eq_true, md_follow_b185, bB_and, e1]
      exact h1
    have gt := go true
    have gf := go false
    simp only [bB, if_true, show (false = true) = False from by simp, if_false] at gt gf
    cases hac : acB st f b x with
    | true =>
      have : acB st f (b + 1) x = true := by
        match st, hac with
        | some (p, r), hac =>
          simp only [acB, Bool.and_eq_true, decide_eq_true_eq] at hac ⊢
          omega
      have e2 : ¬ bB true = 0 := by decide
      simp (disch := omega) only [x_bd_s, x_bi_s, x_lt_e, x_rd_n, x_wr_n, x_ra_n, x_dv_n, s_lt, s_le, s_eq, s_lt0, s_le0, s_0lt, s_0le, s_eq0, s_sub, s_rem, s_div, s_in, bI_0, bI_1, x_gb_b, x_gb_0, x_gb_1, nI_add, nI_1, s_size, s_abs, s_max, iI_mul, iI_add, iI_neg, Nat.le_refl, Nat.lt_irrefl, if_true, if_false, ite_true, ite_false, not_true, not_false_eq_true, md_follow_l129, iI_lt, c1, g5, hac, e2]
      exact gt this
    | false =>
      have e2 : bB false = 0 := by decide
      by_cases g : 0 ≤ (x : Int) - b ∧ (x : Int) - b ≤ Z
      · have e3 : nI x - iI b = nI ((x : Int) - b).toNat := by
          rw [nI_iI, iI_sub, nI_of_iI (by omega)]
        have e4 := g4 ((x : Int) - b).toNat (by omega)
        rw [show ((((x : Int) - b).toNat : Nat) : Int) = (x : Int) - b by omega] at e4
        have e5 := fl_in hZ (M := M1) (x := x) (b := b) (by omega) (by omega) (by omega)
        rw [bI_t g] at e5
        have hv : acB st f (b + 1) x = memB st ((x : Int) - b) := by
          match st, hac with
          | none, _ => rfl
          | some (p, r), hac =>
            have hpr := hst p r rfl
            simp only [acB, memB] at hac ⊢
            have n1 : ¬ (f < b ∧ f + p ≤ (x : Int) ∧ (x : Int) - r < b) := by
              rintro ⟨w1, w2, w3⟩
              rw [decide_eq_true w1, decide_eq_true w2, decide_eq_true w3] at hac
              cases hac
            by_cases w2 : f + p ≤ (x : Int) <;> by_cases w3 : (x : Int) - r < b + 1
            · rw [decide_eq_true (show f < b + 1 by omega), decide_eq_true w2, decide_eq_true w3, decide_eq_true (show p ≤ (x : Int) - b by omega), decide_eq_true (show (x : Int) - b ≤ r by omega)]
              rfl
            · rw [decide_eq_true (show f < b + 1 by omega), decide_eq_true w2, decide_eq_false w3, decide_eq_false (show ¬ (x : Int) - b ≤ r by omega), Bool.and_false, Bool.and_false]
            · rw [decide_eq_false w2, decide_eq_false (show ¬ p ≤ (x : Int) - b by omega), Bool.and_false, Bool.false_and, Bool.false_and]
            · rw [decide_eq_false w2, decide_eq_false (show ¬ p ≤ (x : Int) - b by omega), Bool.and_false, Bool.false_and, Bool.false_and]
        cases hm : memB st ((x : Int) - b) with
        | true =>
          have e6 : ¬ bB true = 0 := by decide
          rw [hm] at hv e4
          simp (disch := omega) only [x_bd_s, x_bi_s, x_lt_e, x_rd_n, x_wr_n, x_ra_n, x_dv_n, s_lt, s_le, s_eq, s_lt0, s_le0, s_0lt, s_0le, s_eq0, s_sub, s_rem, s_div, s_in, bI_0, bI_1, x_gb_b, x_gb_0, x_gb_1, nI_add, nI_1, s_size, s_abs, s_max, iI_mul, iI_add, iI_neg, Nat.le_refl, Nat.lt_irrefl, if_true, if_false, ite_true, ite_false, not_true, not_false_eq_true, md_follow_l129, iI_lt, c1, g5, hac, e2, s_10, e3, e4, e6, show ((x : Int) - b).toNat ≤ Z by omega, true_and]
          exact gt hv
        | false =>
          rw [hm] at hv e4
          simp (disch := omega) only [x_bd_s, x_bi_s, x_lt_e, x_rd_n, x_wr_n, x_ra_n, x_dv_n, s_lt, s_le, s_eq, s_lt0, s_le0, s_0lt, s_0le, s_eq0, s_sub, s_rem, s_div, s_in, bI_0, bI_1, x_gb_b, x_gb_0, x_gb_1, nI_add, nI_1, s_size, s_abs, s_max, iI_mul, iI_add, iI_neg, Nat.le_refl, Nat.lt_irrefl, if_true, if_false, ite_true, ite_false, not_true, not_false_eq_true, md_follow_l129, iI_lt, c1, g5, hac, e2, s_10, e3, e4, show ((x : Int) - b).toNat ≤ Z by omega, true_and]
          exact gf hv
      · have e5 := fl_in hZ (M := M1) (x := x) (b := b) (by omega) (by omega) (by omega)
        rw [bI_f g] at e5
        have hv : acB st f (b + 1) x = false := by
          match st, hac with
          | none, _ => rfl
          | some (p, r), hac =>
            have hpr := hst p r rfl
            simp only [acB] at hac ⊢
            have n1 : ¬ (f < b ∧ f + p ≤ (x : Int) ∧ (x : Int) - r < b) := by
              rintro ⟨w1, w2, w3⟩
              rw [decide_eq_true w1, decide_eq_true w2, decide_eq_true w3] at hac
              cases hac
            by_cases w2 : f + p ≤ (x : Int)
            · rw [decide_eq_false (show ¬ (x : Int) - r < b + 1 by omega), Bool.and_false]
            · rw [decide_eq_false w2, Bool.and_false, Bool.false_and]
        simp (disch := omega) only [x_bd_s, x_bi_s, x_lt_e, x_rd_n, x_wr_n, x_ra_n, x_dv_n, s_lt, s_le, s_eq, s_lt0, s_le0, s_0lt, s_0le, s_eq0, s_sub, s_rem, s_div, s_in, bI_0, bI_1, x_gb_b, x_gb_0, x_gb_1, nI_add, nI_1, s_size, s_abs, s_max, iI_mul, iI_add, iI_neg, Nat.le_refl, Nat.lt_irrefl, if_true, if_false, ite_true, ite_false, not_true, not_false_eq_true, md_follow_l129, iI_lt, c1, g5, hac, e2, e5]
        exact gf hv
theorem fl_201 (hZ : Z ≤ 180) (k39 : Int32 → e_Me → Option e_Me) (a3 : Int32) (g : Nat → Bool) :
    ∀ (d x F : Nat) (M1 : e_Me), x + d = Z + 1 → d < F → (∀ j, j ≤ Z → M1 200 j = bB (g j)) → (∀ j, j < x → M1 199 j = bB (g j)) →
      ∃ M', md_follow_l201 k39 (nI Z) a3 F (nI x) M1 = k39 (a3 + 1) M' ∧ (∀ j, j ≤ Z → M' 199 j = bB (g j)) ∧ ∀ u v, u ≠ 199 → M' u v = M1 u v := by
  intro d
  induction d with
  | zero =>
    intro x F M1 h1 h2 h3 h4
    obtain ⟨F, rfl⟩ : ∃ F', F = F' + 1 := ⟨F - 1, by omega⟩
    have c1 : Z < x := by omega
    exact ⟨M1, by simp (disch := omega) only [x_bd_s, x_bi_s, x_lt_e, x_rd_n, x_wr_n, x_ra_n, x_dv_n, s_lt, s_le, s_eq, s_lt0, s_le0, s_0lt, s_0le, s_eq0, s_sub, s_rem, s_div, s_in, bI_0, bI_1, x_gb_b, x_gb_0, x_gb_1, nI_add, nI_1, s_size, s_abs, s_max, iI_mul, iI_add, iI_neg, Nat.le_refl, Nat.lt_irrefl, if_true, if_false, ite_true, ite_false, not_true, not_false_eq_true, md_follow_l201, c1], fun j hj => h4 j (by omega), fun _ _ _ => rfl⟩
  | succ d ih =>
    intro x F M1 h1 h2 h3 h4
    obtain ⟨F, rfl⟩ : ∃ F', F = F' + 1 := ⟨F - 1, by omega⟩
    have c1 : ¬ Z < x := by omega
    obtain ⟨M', k1, k2, k3⟩ := ih (x + 1) F (e_up M1 199 x (bB (g x))) (by omega) (by omega) (fun j hj => by rw [e_up_o (by omega), h3 j hj]) (fun j hj => by
      by_cases e : j = x
      · subst e
        rw [e_up_e]
      · rw [e_up_o (by omega), h4 j (by omega)])
    refine ⟨M', ?_, k2, fun u v hu => by rw [k3 u v hu, e_up_o (by omega)]⟩
    simp (disch := omega) only [x_bd_s, x_bi_s, x_lt_e, x_rd_n, x_wr_n, x_ra_n, x_dv_n, s_lt, s_le, s_eq, s_lt0, s_le0, s_0lt, s_0le, s_eq0, s_sub, s_rem, s_div, s_in, bI_0, bI_1, x_gb_b, x_gb_0, x_gb_1, nI_add, nI_1, s_size, s_abs, s_max, iI_mul, iI_add, iI_neg, Nat.le_refl, Nat.lt_irrefl, if_true, if_false, ite_true, ite_false, not_true, not_false_eq_true, md_follow_l201, c1, h3 x (by omega), bB_and]
    exact k1
theorem fl_111 (hZ : Z ≤ 180) (k39 : Int32 → e_Me → Option e_Me) (a3 : Int32) {f tt : Int} (hf : -36 ≤ f) (hft : f ≤ tt) (ht : tt ≤ 36) {st : Option (Int × Int)} (hst : inS Z st) :
    ∀ (d x F : Nat) (M1 : e_Me), x + d = Z + 1 → d < F → (∀ j : Nat, j ≤ Z → M1 199 j = bB (memB st j)) → (∀ j : Nat, j < x → M1 200 j = bB (acB st f (tt + 1) j)) →
      ∃ M', md_follow_l111 k39 (nI Z) a3 (iI f) (iI tt) F (nI x) M1 = k39 (a3 + 1) M' ∧ (∀ j : Nat, j ≤ Z → M' 199 j = bB (memB (nxS Z f tt st) j)) ∧ ∀ u v, ¬ (u = 199 ∨ u = 200) → M' u v = M1 u v := by
  intro d
  induction d with
  | zero =>
    intro x F M1 h1 h2 h3 h4
    obtain ⟨F, rfl⟩ : ∃ F', F = F' + 1 := ⟨F - 1, by omega⟩
    have c1 : Z < x := by omega
    have := e_Fge
    obtain ⟨M', k1, k2, k3⟩ := fl_201 hZ k39 a3 (fun j => acB st f (tt + 1) j) (Z + 1) 0 e_F M1 (by omega) (by omega) (fun j hj => h4 j (by omega)) (fun j hj => by omega)
    refine ⟨M', ?_, fun j hj => by rw [k2 j hj, ac_nx (Z := Z) hft (by omega) (by omega)], fun u v hu => k3 u v (by omega)⟩
    simp (disch := omega) only [x_bd_s, x_bi_s, x_lt_e, x_rd_n, x_wr_n, x_ra_n, x_dv_n, s_lt, s_le, s_eq, s_lt0, s_le0, s_0lt, s_0le, s_eq0, s_sub, s_rem, s_div, s_in, bI_0, bI_1, x_gb_b, x_gb_0, x_gb_1, nI_add, nI_1, s_size, s_abs, s_max, iI_mul, iI_add, iI_neg, Nat.le_refl, Nat.lt_irrefl, if_true, if_false, ite_true, ite_false, not_true, not_false_eq_true, md_follow_l111, c1]
    rw [nI_0] at k1
    exact k1
  | succ d ih =>
    intro x F M1 h1 h2 h3 h4
    obtain ⟨F, rfl⟩ : ∃ F', F = F' + 1 := ⟨F - 1, by omega⟩
    have c1 : ¬ Z < x := by omega
    have := e_Fge
    have e0 : (0 : Int32) &&& 1 = 0 := by decide
    obtain ⟨M2, k1, k2, k3⟩ := fl_129 hZ k39 (md_follow_l111 k39 (nI Z) a3 (iI f) (iI tt) F) a3 hf hft ht (x := x) (by omega) hst (tt + 1 - f).toNat f e_F (e_up M1 200 x 0) (by omega) (by omega) (by omega) (fun j hj => by rw [e_up_o (by omega), h3 j hj]) (by
      rw [e_up_e]
      match st with
      | none => rfl
      | some (p, r) =>
        simp only [acB]
        rw [decide_eq_false (show ¬ f < f by omega), Bool.false_and, Bool.false_and]
        rfl)
    obtain ⟨M', p1, p2, p3⟩ := ih (x + 1) F M2 (by omega) (by omega) (fun j hj => by rw [k3 _ _ (by omega), e_up_o (by omega), h3 j hj]) (fun j hj => by
      by_cases e : j = x
      · subst e
        exact k2
      · rw [k3 _ _ (by omega), e_up_o (by omega), h4 j (by omega)])
    refine ⟨M', ?_, p2, fun u v hu => by rw [p3 u v hu, k3 u v (by omega), e_up_o (by omega)]⟩
    simp (disch := omega) only [x_bd_s, x_bi_s, x_lt_e, x_rd_n, x_wr_n, x_ra_n, x_dv_n, s_lt, s_le, s_eq, s_lt0, s_le0, s_0lt, s_0le, s_eq0, s_sub, s_rem, s_div, s_in, bI_0, bI_1, x_gb_b, x_gb_0, x_gb_1, nI_add, nI_1, s_size, s_abs, s_max, iI_mul, iI_add, iI_neg, Nat.le_refl, Nat.lt_irrefl, if_true, if_false, ite_true, ite_false, not_true, not_false_eq_true, md_follow_l111, c1, e0]
    rw [k1]
    exact p1
/-- the reference's NOTES -/
def mN (M : e_Me) (k : Nat) (s q : Nat → Nat) : Prop := k ≤ 40 ∧ M 182 31 = nI k ∧ ∀ i, i < k → M 197 i = nI (s i) ∧ M 198 i = nI (q i) ∧ s i ≤ 2 ∧ q i ≤ 36
theorem fl_39 (hZ : Z ≤ 180) {k : Nat} {s q : Nat → Nat} :
    ∀ (d i F : Nat) (M1 : e_Me) (st : Option (Int × Int)), mN M1 k s q → i + d = k → d < F → inS Z st → (∀ j : Nat, j ≤ Z → M1 199 j = bB (memB st j)) →
      ∃ M', md_follow_l39 (nI Z) F (nI i) M1 = some M' ∧ (∀ j : Nat, j ≤ Z → M' 199 j = bB (memB (folS Z s q d i st) j)) ∧ ∀ u v, ¬ (u = 199 ∨ u = 200) → M' u v = M1 u v := by
  intro d
  induction d with
  | zero =>
    intro i F M1 st hN h1 h2 h3 h4
    obtain ⟨F, rfl⟩ : ∃ F', F = F' + 1 := ⟨F - 1, by omega⟩
    have c1 : k ≤ i := by omega
    have c2 := hN.1
    exact ⟨M1, by simp (disch := omega) only [x_bd_s, x_bi_s, x_lt_e, x_rd_n, x_wr_n, x_ra_n, x_dv_n, s_lt, s_le, s_eq, s_lt0, s_le0, s_0lt, s_0le, s_eq0, s_sub, s_rem, s_div, s_in, bI_0, bI_1, x_gb_b, x_gb_0, x_gb_1, nI_add, nI_1, s_size, s_abs, s_max, iI_mul, iI_add, iI_neg, Nat.le_refl, Nat.lt_irrefl, if_true, if_false, ite_true, ite_false, not_true, not_false_eq_true, md_follow_l39, hN.2.1, c1], h4, fun _ _ _ => rfl⟩
  | succ d ih =>
    intro i F M1 st hN h1 h2 h3 h4
    obtain ⟨F, rfl⟩ : ∃ F', F = F' + 1 := ⟨F - 1, by omega⟩
    have c1 : ¬ k ≤ i := by omega
    have c2 := hN.1
    obtain ⟨j1, j2, j3, j4⟩ := hN.2.2 i (by omega)
    have := e_Fge
    have ff := fr_to (s := s i) j4
    have go : md_follow_l39 (nI Z) (F + 1) (nI i) M1 = md_follow_l111 (md_follow_l39 (nI Z) F) (nI Z) (nI i) (iI (frZ (s i) (q i))) (iI (toZ (s i) (q i))) e_F (nI 0) M1 := by
      obtain e | e | e : s i = 0 ∨ s i = 1 ∨ s i = 2 := by omega
      · rw [e] at j1
        simp (disch := omega) only [x_bd_s, x_bi_s, x_lt_e, x_rd_n, x_wr_n, x_ra_n, x_dv_n, s_lt, s_le, s_eq, s_lt0, s_le0, s_0lt, s_0le, s_eq0, s_sub, s_rem, s_div, s_in, bI_0, bI_1, x_gb_b, x_gb_0, x_gb_1, nI_add, nI_1, s_size, s_abs, s_max, iI_mul, iI_add, iI_neg, Nat.le_refl, Nat.lt_irrefl, if_true, if_false, ite_true, ite_false, not_true, not_false_eq_true, md_follow_l39, hN.2.1, c1, j1, j2, show nI 0 = (0 : Int32) from rfl, q_00, q_02, md_follow_b87, e, frZ, toZ, show nI (q i) = iI ((q i : Nat) : Int) from nI_iI _]
      · rw [e] at j1
        simp (disch := omega) only [x_bd_s, x_bi_s, x_lt_e, x_rd_n, x_wr_n, x_ra_n, x_dv_n, s_lt, s_le, s_eq, s_lt0, s_le0, s_0lt, s_0le, s_eq0, s_sub, s_rem, s_div, s_in, bI_0, bI_1, x_gb_b, x_gb_0, x_gb_1, nI_add, nI_1, s_size, s_abs, s_max, iI_mul, iI_add, iI_neg, Nat.le_refl, Nat.lt_irrefl, if_true, if_false, ite_true, ite_false, not_true, not_false_eq_true, md_follow_l39, hN.2.1, c1, j1, j2, show nI 1 = (1 : Int32) from rfl, q_10, q_11, q_12, md_follow_b87, e, frZ, toZ, show ((1 : Nat) = 0) = False by decide, show -nI (q i) = iI (-((q i : Nat) : Int)) by rw [nI_iI, iI_neg], nI_0]
      · rw [e] at j1
        simp (disch := omega) only [x_bd_s, x_bi_s, x_lt_e, x_rd_n, x_wr_n, x_ra_n, x_dv_n, s_lt, s_le, s_eq, s_lt0, s_le0, s_0lt, s_0le, s_eq0, s_sub, s_rem, s_div, s_in, bI_0, bI_1, x_gb_b, x_gb_0, x_gb_1, nI_add, nI_1, s_size, s_abs, s_max, iI_mul, iI_add, iI_neg, Nat.le_refl, Nat.lt_irrefl, if_true, if_false, ite_true, ite_false, not_true, not_false_eq_true, md_follow_l39, hN.2.1, c1, j1, j2, show nI 2 = (2 : Int32) from rfl, q_20, q_21, q_22, md_follow_b87, e, frZ, toZ, show ((2 : Nat) = 0) = False by decide, show ((2 : Nat) = 1) = False by decide, nI_0, s_36]
    obtain ⟨M2, p1, p2, p3⟩ := fl_111 hZ (md_follow_l39 (nI Z) F) (nI i) (f := frZ (s i) (q i)) (tt := toZ (s i) (q i)) (by omega) (by omega) (by omega) h3 (Z + 1) 0 e_F M1 (by omega) (by omega) h4 (fun j hj => by omega)
    have hN2 : mN M2 k s q := by
      refine ⟨hN.1, by rw [p3 182 31 (by omega), hN.2.1], fun i hi => ?_⟩
      rw [p3 197 i (by omega), p3 198 i (by omega)]
      exact hN.2.2 i hi
    obtain ⟨M', q1, q2, q3⟩ := ih (i + 1) F M2 _ hN2 (by omega) (by omega) inS_nx p2
    refine ⟨M', ?_, q2, fun u v hu => by rw [q3 u v hu, p3 u v hu]⟩
    rw [go, p1, nI_1]
    exact q1
end
section
variable {M : e_Me} {n t : Nat}
theorem md_follow_ok {k : Nat} {s q : Nat → Nat} {b : Nat} (hN : mN M k s q) (hn : M 182 0 = nI n) (hn3 : n ≤ 30) (hb : b ≤ 6 * n) :
    ∃ M', md_follow (nI b) M = some M' ∧ (∀ j : Nat, j ≤ 6 * n → M' 199 j = bB (memB (folN ((6 * n : Nat) : Int) s q k 0 b b) j)) ∧ ∀ u v, ¬ (u = 199 ∨ u = 200) → M' u v = M u v := by
  have hk := hN.1
  have key : ∀ (d x F : Nat) (M1 : e_Me), x + d = 6 * n + 1 → d < F → (∀ u v, ¬ (u = 199 ∨ u = 200) → M1 u v = M u v) → (∀ j : Nat, j < x → M1 199 j = bB (memB (some ((b : Int), (b : Int))) j)) →
      ∃ M', md_follow_l10 (nI b) (nI (6 * n)) F (nI x) M1 = some M' ∧ (∀ j : Nat, j ≤ 6 * n → M' 199 j = bB (memB (folN ((6 * n : Nat) : Int) s q k 0 b b) j)) ∧ ∀ u v, ¬ (u = 199 ∨ u = 200) → M' u v = M u v := by
    intro d
    induction d with
    | zero =>
      intro x F M1 h1 h2 h3 h4
      obtain ⟨F, rfl⟩ : ∃ F', F = F' + 1 := ⟨F - 1, by omega⟩
      have c1 : 6 * n < x := by omega
      have hN2 : mN M1 k s q := by
        refine ⟨hN.1, by rw [h3 182 31 (by omega), hN.2.1], fun i hi => ?_⟩
        rw [h3 197 i (by omega), h3 198 i (by omega)]
        exact hN.2.2 i hi
      have := e_Fge
      obtain ⟨M', k1, k2, k3⟩ := fl_39 (Z := 6 * n) (by omega) k 0 e_F M1 (some ((b : Int), (b : Int))) hN2 (by omega) (by omega) (fun p r e => by cases e; omega) (fun j hj => h4 j (by omega))
      rw [folS_eq] at k2
      refine ⟨M', ?_, k2, fun u v hu => by rw [k3 u v hu, h3 u v hu]⟩
      simp (disch := omega) only [x_bd_s, x_bi_s, x_lt_e, x_rd_n, x_wr_n, x_ra_n, x_dv_n, s_lt, s_le, s_eq, s_lt0, s_le0, s_0lt, s_0le, s_eq0, s_sub, s_rem, s_div, s_in, bI_0, bI_1, x_gb_b, x_gb_0, x_gb_1, nI_add, nI_1, s_size, s_abs, s_max, iI_mul, iI_add, iI_neg, Nat.le_refl, Nat.lt_irrefl, if_true, if_false, ite_true, ite_false, not_true, not_false_eq_true, md_follow_l10, c1]
      rw [nI_0] at k1
      exact k1
    | succ d ih =>
      intro x F M1 h1 h2 h3 h4
      obtain ⟨F, rfl⟩ : ∃ F', F = F' + 1 := ⟨F - 1, by omega⟩
      have c1 : ¬ 6 * n < x := by omega
      have go : ∀ v : Bool, v = memB (some ((b : Int), (b : Int))) (x : Int) → ∃ M', md_follow_b30 (md_follow_l10 (nI b) (nI (6 * n)) F) (nI b) (nI (6 * n)) (nI x) (bB v) (nI x) M1 = some M' ∧ (∀ j : Nat, j ≤ 6 * n → M' 199 j = bB (memB (folN ((6 * n : Nat) : Int) s q k 0 b b) j)) ∧ ∀ u v, ¬ (u = 199 ∨ u = 200) → M' u v = M u v := by
        intro v hv
        obtain ⟨M', k1, k2⟩ := ih (x + 1) F (e_up M1 199 x (bB v)) (by omega) (by omega) (fun u w hu => by rw [e_up_o (by omega), h3 u w hu]) (fun j hj => by
          by_cases e : j = x
          · subst e
            rw [e_up_e, hv]
          · rw [e_up_o (by omega), h4 j (by omega)])
        refine ⟨M', ?_, k2⟩
        simp (disch := omega) only [x_bd_s, x_bi_s, x_lt_e, x_rd_n, x_wr_n, x_ra_n, x_dv_n, s_lt, s_le, s_eq, s_lt0, s_le0, s_0lt, s_0le, s_eq0, s_sub, s_rem, s_div, s_in, bI_0, bI_1, x_gb_b, x_gb_0, x_gb_1, nI_add, nI_1, s_size, s_abs, s_max, iI_mul, iI_add, iI_neg, Nat.le_refl, Nat.lt_irrefl, if_true, if_false, ite_true, ite_false, not_true, not_false_eq_true, md_follow_b30, bB_and]
        exact k1
      by_cases e : x = b
      · have hv : true = memB (some ((b : Int), (b : Int))) (x : Int) := by
          subst e
          simp [memB]
        have c2 : ¬ 6 * n < b := by omega
        simp (disch := omega) only [x_bd_s, x_bi_s, x_lt_e, x_rd_n, x_wr_n, x_ra_n, x_dv_n, s_lt, s_le, s_eq, s_lt0, s_le0, s_0lt, s_0le, s_eq0, s_sub, s_rem, s_div, s_in, bI_0, bI_1, x_gb_b, x_gb_0, x_gb_1, nI_add, nI_1, s_size, s_abs, s_max, iI_mul, iI_add, iI_neg, Nat.le_refl, Nat.lt_irrefl, if_true, if_false, ite_true, ite_false, not_true, not_false_eq_true, md_follow_l10, c2, e]
        rw [e] at go hv
        exact go true hv
      · have hv : false = memB (some ((b : Int), (b : Int))) (x : Int) := by
          simp only [memB]
          by_cases g : (b : Int) ≤ x
          · rw [decide_eq_false (show ¬ (x : Int) ≤ b by omega), Bool.and_false]
          · rw [decide_eq_false g, Bool.false_and]
        simp (disch := omega) only [x_bd_s, x_bi_s, x_lt_e, x_rd_n, x_wr_n, x_ra_n, x_dv_n, s_lt, s_le, s_eq, s_lt0, s_le0, s_0lt, s_0le, s_eq0, s_sub, s_rem, s_div, s_in, bI_0, bI_1, x_gb_b, x_gb_0, x_gb_1, nI_add, nI_1, s_size, s_abs, s_max, iI_mul, iI_add, iI_neg, Nat.le_refl, Nat.lt_irrefl, if_true, if_false, ite_true, ite_false, not_true, not_false_eq_true, md_follow_l10, c1, e]
        exact go false hv
  have := e_Fge
  have e6 : (6 : Int32) * nI n = nI (6 * n) := by rw [show (6 : Int32) = nI 6 from rfl, pk_mul]
  obtain ⟨M', k1, k2⟩ := key (6 * n + 1) 0 e_F M (by omega) (by omega) (fun _ _ _ => rfl) (fun j hj => by omega)
  refine ⟨M', ?_, k2⟩
  simp (disch := omega) only [x_bd_s, x_bi_s, x_lt_e, x_rd_n, x_wr_n, x_ra_n, x_dv_n, s_lt, s_le, s_eq, s_lt0, s_le0, s_0lt, s_0le, s_eq0, s_sub, s_rem, s_div, s_in, bI_0, bI_1, x_gb_b, x_gb_0, x_gb_1, nI_add, nI_1, s_size, s_abs, s_max, iI_mul, iI_add, iI_neg, Nat.le_refl, Nat.lt_irrefl, if_true, if_false, ite_true, ite_false, not_true, not_false_eq_true, md_follow, hn, e6]
  rw [nI_0] at k1
  exact k1
end
