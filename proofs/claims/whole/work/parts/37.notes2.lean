/-! notes: how many begins; the reference -/
section
variable {M : e_Me} {n t : Nat}
theorem turned_ok {s : Nat} (hs : s ≤ 2) : ∃ s', no_turnedBack (nI s) M = some (nI s') ∧ s' ≤ 2 ∧ ∀ q, frZ s' q = -toZ s q ∧ toZ s' q = -frZ s q := by
  obtain rfl | rfl | rfl : s = 0 ∨ s = 1 ∨ s = 2 := by omega
  · refine ⟨1, ?_, by omega, fun q => by simp [frZ, toZ]⟩
    simp only [no_turnedBack, show nI 0 = (0 : Int32) from rfl, q_02, q_00, if_true, if_false, show nI 1 = (1 : Int32) from rfl]
  · refine ⟨0, ?_, by omega, fun q => by simp [frZ, toZ]⟩
    simp only [no_turnedBack, show nI 0 = (0 : Int32) from rfl, q_12, q_10, if_true, if_false, show nI 1 = (1 : Int32) from rfl]
  · refine ⟨2, ?_, by omega, fun q => by simp [frZ, toZ]⟩
    simp only [no_turnedBack, show nI 2 = (2 : Int32) from rfl, q_22, if_true]
theorem no_begins_ok {k : Nat} {s q : Nat → Nat} (hN : cN M k s q) (hn : M 3 3 = nI n) (hn3 : n ≤ 30) :
    ∃ M', (∀ a c, ¬ (a = 166 ∧ (c = 3 ∨ c = 4)) → M' a c = M a c) ∧ no_countBegins M = some (match bckN (6 * n) s q k 0 with
      | none => 0
      | some (p, r) => iI (r - p + 1), M') := by
  obtain ⟨hk, k1, k2, k3⟩ := hN
  have key : ∀ (i d F : Nat) (M1 : e_Me) (lo hi : Int), i + d = k → i < F → bckN (6 * n) s q d i = some (lo, hi) → M1 166 3 = iI lo → M1 166 4 = iI hi → (∀ a c, ¬ (a = 166 ∧ (c = 3 ∨ c = 4)) → M1 a c = M a c) →
      ∃ M', (∀ a c, ¬ (a = 166 ∧ (c = 3 ∨ c = 4)) → M' a c = M a c) ∧ no_countBegins_l23 F (iI ((i : Int) - 1)) M1 = some (match bckN (6 * n) s q k 0 with
        | none => 0
        | some (p, r) => iI (r - p + 1), M') := by
    intro i
    induction i with
    | zero =>
      intro d F M1 lo hi g1 g2 g3 g4 g5 g6
      obtain ⟨F, rfl⟩ : ∃ F', F = F' + 1 := ⟨F - 1, by omega⟩
      have e : d = k := by omega
      subst e
      refine ⟨M1, g6, ?_⟩
      rw [g3]
      have c1 : ((0 : Nat) : Int) - 1 < 0 := by omega
      have b := bck_b (show (0 : Int) ≤ 6 * n by omega) _ _ _ _ g3
      have e2 : iI hi - iI lo + 1 = iI (hi - lo + 1) := by rw [iI_sub, show (1 : Int32) = iI 1 from rfl, iI_add]
      simp (disch := omega) only [x_bd_s, x_bi_s, x_lt_e, x_rd_n, x_wr_n, x_ra_n, x_dv_n, s_lt, s_le, s_eq, s_lt0, s_le0, s_0lt, s_0le, s_eq0, s_sub, s_rem, s_div, s_in, bI_0, bI_1, x_gb_b, x_gb_0, x_gb_1, nI_add, nI_1, s_size, s_abs, s_max, iI_mul, iI_add, iI_neg, Nat.le_refl, Nat.lt_irrefl, if_true, if_false, ite_true, ite_false, not_true, not_false_eq_true, no_countBegins_l23, iI_lt0, c1, no_countBegins_b61, g4, g5, e2]
    | succ i ih =>
      intro d F M1 lo hi g1 g2 g3 g4 g5 g6
      obtain ⟨F, rfl⟩ : ∃ F', F = F' + 1 := ⟨F - 1, by omega⟩
      have e1 : M1 167 1 = nI k := by rw [g6 167 1 (by omega), k1]
      have e2 : M1 169 1 = nI k := by rw [g6 169 1 (by omega), k2]
      obtain ⟨j1, j2, j3, j4⟩ := k3 i (by omega)
      have e3 : M1 (167 + 1) i = nI (s i) := by rw [g6 168 i (by omega), j1]
      have e4 : M1 (169 + 1) i = nI (q i) := by rw [g6 170 i (by omega), j2]
      have b := bck_b (show (0 : Int) ≤ 6 * n by omega) _ _ _ _ g3
      obtain ⟨s', t1, t2, t3⟩ := turned_ok (M := M1) j3
      obtain ⟨M2, p1, p2, p3, p4⟩ := no_pass_ok (M := M1) (s := s') (q := q i) (by rw [g6 3 3 (by omega), hn]) hn3 t2 j4 g4 g5 (by omega) (by omega) (by omega) (by omega)
      have hs : ∀ a c, ¬ (a = 166 ∧ (c = 3 ∨ c = 4)) → M2 a c = M a c := fun a c h => by rw [p4 a c h, g6 a c h]
      rw [(t3 (q i)).1, (t3 (q i)).2] at p1
      rw [(t3 (q i)).1] at p2
      rw [(t3 (q i)).2] at p3
      have c1 : ¬ (((i + 1 : Nat) : Int) - 1 < 0) := by omega
      have e5 : iI (((i + 1 : Nat) : Int) - 1) = nI i := by
        rw [nI_iI]
        congr 1
        omega
      have e6 : nI i + (-1 : Int32) = iI ((i : Int) - 1) := by
        rw [s_m1, nI_iI, iI_add]
        rfl
      have c2 : ¬ nI i < 0 := nI_pos (by omega)
      have hb : bckN (6 * n) s q (d + 1) i = if max 0 (lo - toZ (s i) (q i)) ≤ min (6 * (n : Int)) (hi - frZ (s i) (q i)) then some (max 0 (lo - toZ (s i) (q i)), min (6 * (n : Int)) (hi - frZ (s i) (q i))) else none := by
        simp only [bckN, g3]
      have step : no_countBegins_l23 (F + 1) (iI (((i + 1 : Nat) : Int) - 1)) M1 = if max 0 (lo - toZ (s i) (q i)) ≤ min (6 * (n : Int)) (hi - frZ (s i) (q i)) then no_countBegins_l23 F (iI ((i : Int) - 1)) M2 else some (0, M2) := by
        rw [e5]
        simp (disch := omega) only [x_bd_s, x_bi_s, x_lt_e, x_rd_n, x_wr_n, x_ra_n, x_dv_n, s_lt, s_le, s_eq, s_lt0, s_le0, s_0lt, s_0le, s_eq0, s_sub, s_rem, s_div, s_in, bI_0, bI_1, x_gb_b, x_gb_0, x_gb_1, nI_add, nI_1, s_size, s_abs, s_max, iI_mul, iI_add, iI_neg, Nat.le_refl, Nat.lt_irrefl, if_true, if_false, ite_true, ite_false, not_true, not_false_eq_true, no_countBegins_l23, c2, ro_at_ok cap_40.1 e1 (show k ≤ 40 by omega) (show 40 ≤ 1000 by omega) (show i < k by omega), ro_at_ok cap_40.2 e2 (show k ≤ 40 by omega) (show 40 ≤ 1000 by omega) (show i < k by omega), e3, e4, t1, p1, e6]
        by_cases g : max 0 (lo + -toZ (s i) (q i)) ≤ min (6 * (n : Int)) (hi + -frZ (s i) (q i))
        · simp only [g, not_true, if_true, if_false]
          rw [if_pos (by omega)]
        · simp only [g, not_false_eq_true, if_true, if_false]
          rw [if_neg (by omega)]
      rw [step]
      by_cases g : max 0 (lo - toZ (s i) (q i)) ≤ min (6 * (n : Int)) (hi - frZ (s i) (q i))
      · rw [if_pos g]
        rw [if_pos g] at hb
        exact ih (d + 1) F M2 _ _ (by omega) (by omega) hb (by rw [p2]; rfl) (by rw [p3]; rfl) hs
      · rw [if_neg g]
        rw [if_neg g] at hb
        refine ⟨M2, hs, ?_⟩
        have none_up : ∀ (j d : Nat), bckN (6 * n) s q d j = none → bckN (6 * n) s q (d + j) 0 = none := by
          intro j
          induction j with
          | zero => intro d h; exact h
          | succ j ihj =>
            intro d h
            have : bckN (6 * n) s q (d + 1) j = none := by simp only [bckN, h]
            have := ihj (d + 1) this
            rw [show d + 1 + j = d + (j + 1) by omega] at this
            exact this
        have := none_up i (d + 1) hb
        rw [show d + 1 + i = k by omega] at this
        rw [this]
  have := e_Fge
  have m0 : no_mostUpEver (e_up M 166 3 0) = some (iI (6 * n)) := no_most_ok (by rw [e_up_o (by omega), hn])
  obtain ⟨M', h1, h2⟩ := key k 0 e_F (e_up (e_up M 166 3 0) 166 4 (iI (6 * n))) 0 (6 * n) (by omega) (by omega) rfl (by rw [e_up_o (by omega), e_up_e]; rfl) (by rw [e_up_e]) (fun a c h => by rw [e_up_o (by omega), e_up_o (by omega)])
  refine ⟨M', h1, ?_⟩
  have e1 : e_up (e_up M 166 3 0) 166 4 (iI (6 * n)) 167 1 = nI k := by rw [e_up_o (by omega), e_up_o (by omega), k1]
  simp (disch := omega) only [x_bd_s, x_bi_s, x_lt_e, x_rd_n, x_wr_n, x_ra_n, x_dv_n, s_lt, s_le, s_eq, s_lt0, s_le0, s_0lt, s_0le, s_eq0, s_sub, s_rem, s_div, s_in, bI_0, bI_1, x_gb_b, x_gb_0, x_gb_1, nI_add, nI_1, s_size, s_abs, s_max, iI_mul, iI_add, iI_neg, Nat.le_refl, Nat.lt_irrefl, if_true, if_false, ite_true, ite_false, not_true, not_false_eq_true, no_countBegins, m0, ro_count_ok cap_40.1, e1, nI_m1]
  exact h2
/-- may be UP -/
def memZ (st : Option (Int × Int)) (x : Int) : Prop := ∃ p r, st = some (p, r) ∧ p ≤ x ∧ x ≤ r
def memB (st : Option (Int × Int)) (x : Int) : Bool := match st with
  | none => false
  | some (p, r) => decide (p ≤ x) && decide (x ≤ r)
def bB (b : Bool) : Int32 := if b = true then 1 else 0
theorem bB_and (b : Bool) : bB b &&& 1 = bB b := by cases b <;> decide
theorem bB_0 (b : Bool) : (bB b = 0) = (b = false) := by cases b <;> simp [bB]
end
