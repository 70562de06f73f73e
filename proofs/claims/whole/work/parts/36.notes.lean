/-! notes -/
/-- what a NOTE adds, at least and at most -/
def frZ (s q : Nat) : Int := if s = 0 then (q : Int) else if s = 1 then -(q : Int) else -36
def toZ (s q : Nat) : Int := if s = 0 then (q : Int) else if s = 1 then -(q : Int) else 36
theorem fr_to {s q : Nat} (hq : q ≤ 36) : -36 ≤ frZ s q ∧ frZ s q ≤ toZ s q ∧ toZ s q ≤ 36 := by
  unfold frZ toZ
  split
  · omega
  · split <;> omega
/-- UP from an interval on, by d NOTES from the i-th on -/
def folN (Z : Int) (s q : Nat → Nat) : Nat → Nat → Int → Int → Option (Int × Int)
  | 0, _, lo, hi => some (lo, hi)
  | d + 1, i, lo, hi => if max 0 (lo + frZ (s i) (q i)) ≤ min Z (hi + toZ (s i) (q i)) then folN Z s q d (i + 1) (max 0 (lo + frZ (s i) (q i))) (min Z (hi + toZ (s i) (q i))) else none
/-- from where on something may be UP -/
def bckN (Z : Int) (s q : Nat → Nat) : Nat → Nat → Option (Int × Int)
  | 0, _ => some (0, Z)
  | d + 1, i => match bckN Z s q d (i + 1) with
    | none => none
    | some (p, r) => if max 0 (p - toZ (s i) (q i)) ≤ min Z (r - frZ (s i) (q i)) then some (max 0 (p - toZ (s i) (q i)), min Z (r - frZ (s i) (q i))) else none
theorem bck_b {Z : Int} {s q : Nat → Nat} (hZ : 0 ≤ Z) : ∀ (d i : Nat) (p r : Int), bckN Z s q d i = some (p, r) → 0 ≤ p ∧ p ≤ r ∧ r ≤ Z
  | 0, i, p, r, h => by
    cases h
    omega
  | d + 1, i, p, r, h => by
    simp only [bckN] at h
    split at h
    · cases h
    · split at h
      · cases h
        omega
      · cases h
theorem fol_b {Z : Int} {s q : Nat → Nat} : ∀ (d i : Nat) (lo hi p r : Int), 0 ≤ lo → lo ≤ hi → hi ≤ Z → folN Z s q d i lo hi = some (p, r) → 0 ≤ p ∧ p ≤ r ∧ r ≤ Z
  | 0, i, lo, hi, p, r, h0, h1, h2, h => by
    cases h
    omega
  | d + 1, i, lo, hi, p, r, h0, h1, h2, h => by
    simp only [folN] at h
    split at h
    · exact fol_b d (i + 1) _ _ p r (by omega) (by assumption) (by omega) h
    · cases h
theorem fol_bck {Z : Int} {s q : Nat → Nat} (hZ : 0 ≤ Z) : ∀ (d i : Nat) (lo hi : Int), (∀ j, i ≤ j → j < i + d → q j ≤ 36) → 0 ≤ lo → lo ≤ hi → hi ≤ Z → ((folN Z s q d i lo hi = none) ↔ ¬ ∃ p r, bckN Z s q d i = some (p, r) ∧ lo ≤ r ∧ p ≤ hi)
  | 0, i, lo, hi, _, h0, h1, h2 => by
    simp only [folN, bckN]
    constructor
    · intro h; cases h
    · intro h
      exact absurd ⟨0, Z, rfl, by omega, by omega⟩ h
  | d + 1, i, lo, hi, hq, h0, h1, h2 => by
    have f := fr_to (s := s i) (hq i (by omega) (by omega))
    simp only [folN, bckN]
    by_cases g : max 0 (lo + frZ (s i) (q i)) ≤ min Z (hi + toZ (s i) (q i))
    · rw [if_pos g, fol_bck hZ d (i + 1) _ _ (fun j a b => hq j (by omega) (by omega)) (by omega) g (by omega)]
      refine not_congr ⟨?_, ?_⟩
      · rintro ⟨p, r, e, a, b⟩
        have := bck_b hZ d (i + 1) p r e
        simp only [e]
        rw [if_pos (by omega)]
        exact ⟨_, _, rfl, by omega, by omega⟩
      · rintro ⟨p, r, e, a, b⟩
        cases e2 : bckN Z s q d (i + 1) with
        | none =>
          rw [e2] at e
          cases e
        | some x =>
          obtain ⟨p', r'⟩ := x
          have := bck_b hZ d (i + 1) p' r' e2
          simp only [e2] at e
          split at e
          · cases e
            exact ⟨p', r', rfl, by omega, by omega⟩
          · cases e
    · rw [if_neg g]
      refine iff_of_true rfl ?_
      rintro ⟨p, r, e, a, b⟩
      cases e2 : bckN Z s q d (i + 1) with
      | none =>
        rw [e2] at e
        cases e
      | some x =>
        obtain ⟨p', r'⟩ := x
        have := bck_b hZ d (i + 1) p' r' e2
        simp only [e2] at e
        split at e
        · cases e
          omega
        · cases e
section
variable {M : e_Me} {n t : Nat} {ld : Nat → Nat}
theorem s_m36 : (-36 : Int32) = iI (-36) := by decide
theorem s_36 : (36 : Int32) = iI 36 := by decide
theorem s_max0' {z : Int} (h1 : -2147483648 ≤ z) (h2 : z < 2147483648) : ma_max 0 (iI z) M = some (iI (max 0 z)) := by
  rw [s_max0 h1 h2, nI_iI]
  congr 2
  omega
theorem s_min {a b : Int} (h1 : -2147483648 ≤ a) (h2 : a < 2147483648) (h3 : -2147483648 ≤ b) (h4 : b < 2147483648) : ma_min (iI a) (iI b) M = some (iI (min a b)) := by
  unfold ma_min
  simp only [iI_lt h3 h4 h1 h2]
  split
  · rw [Int.min_eq_right (by omega)]
  · rw [Int.min_eq_left (by omega)]
theorem no_most_ok (hn : M 3 3 = nI n) : no_mostUpEver M = some (iI (6 * n)) := by
  simp (disch := omega) only [x_bd_s, x_bi_s, x_lt_e, x_rd_n, x_wr_n, x_ra_n, x_dv_n, s_lt, s_le, s_eq, s_lt0, s_le0, s_0lt, s_0le, s_eq0, s_sub, s_rem, s_div, s_in, bI_0, bI_1, x_gb_b, x_gb_0, x_gb_1, nI_add, nI_1, s_size, s_abs, s_max, iI_mul, iI_add, iI_neg, Nat.le_refl, Nat.lt_irrefl, if_true, if_false, ite_true, ite_false, not_true, not_false_eq_true, no_mostUpEver, wh_count, hn]
  rw [nI_iI, show (6 : Int32) = iI 6 from rfl, iI_mul]
theorem no_pass_ok {s q : Nat} {lo hi : Int} (hn : M 3 3 = nI n) (hn3 : n ≤ 30) (hs : s ≤ 2) (hq : q ≤ 36) (h1 : M 166 3 = iI lo) (h2 : M 166 4 = iI hi) (h0 : 0 ≤ lo) (h4 : lo ≤ 180) (h3 : 0 ≤ hi) (h5 : hi ≤ 180) :
    ∃ M', no_pass (nI s) (nI q) M = some (bI (max 0 (lo + frZ s q) ≤ min (6 * (n : Int)) (hi + toZ s q)), M') ∧ M' 166 3 = iI (max 0 (lo + frZ s q)) ∧ M' 166 4 = iI (min (6 * (n : Int)) (hi + toZ s q)) ∧ ∀ a b, ¬ (a = 166 ∧ (b = 3 ∨ b = 4)) → M' a b = M a b := by
  have last : ∀ (M1 : e_Me) (x y : Int), -40 ≤ x → x ≤ 300 → -40 ≤ y → y ≤ 300 → M1 166 3 = iI x → M1 3 3 = nI n → ∀ (u v : Int32), u + v = iI y → (∀ a b, ¬ (a = 166 ∧ (b = 3 ∨ b = 4)) → M1 a b = M a b) → ∃ M', no_pass_b54 v u M1 = some (bI (max 0 x ≤ min (6 * (n : Int)) y), M') ∧ M' 166 3 = iI (max 0 x) ∧ M' 166 4 = iI (min (6 * (n : Int)) y) ∧ ∀ a b, ¬ (a = 166 ∧ (b = 3 ∨ b = 4)) → M' a b = M a b := by
    intro M1 x y hx1 hx2 hy1 hy2 e1 e2 u v e3 hs
    refine ⟨e_up (e_up (e_up M1 166 4 (iI y)) 166 3 (iI (max 0 x))) 166 4 (iI (min (6 * (n : Int)) y)), ?_, ?_, ?_, ?_⟩
    · have a1 : e_up M1 166 4 (iI y) 166 3 = iI x := by rw [e_up_o (by omega), e1]
      have a2 : e_up (e_up M1 166 4 (iI y)) 166 3 (iI (max 0 x)) 3 3 = nI n := by rw [e_up_o (by omega), e_up_o (by omega), e2]
      have a3 : e_up (e_up M1 166 4 (iI y)) 166 3 (iI (max 0 x)) 166 4 = iI y := by rw [e_up_o (by omega), e_up_e]
      have a4 : e_up (e_up (e_up M1 166 4 (iI y)) 166 3 (iI (max 0 x))) 166 4 (iI (min (6 * (n : Int)) y)) 166 3 = iI (max 0 x) := by rw [e_up_o (by omega), e_up_e]
      simp (disch := omega) only [x_bd_s, x_bi_s, x_lt_e, x_rd_n, x_wr_n, x_ra_n, x_dv_n, s_lt, s_le, s_eq, s_lt0, s_le0, s_0lt, s_0le, s_eq0, s_sub, s_rem, s_div, s_in, bI_0, bI_1, x_gb_b, x_gb_0, x_gb_1, nI_add, nI_1, s_size, s_abs, s_max, iI_mul, iI_add, iI_neg, Nat.le_refl, Nat.lt_irrefl, if_true, if_false, ite_true, ite_false, not_true, not_false_eq_true, no_pass_b54, e3, a1, s_max0', no_most_ok a2, a3, s_min, e_up_e, a4, iI_lt]
      unfold bI
      by_cases g : max 0 x ≤ min (6 * (n : Int)) y
      · rw [if_neg (by omega), if_pos g]
      · rw [if_pos (by omega), if_neg g]
    · rw [e_up_o (by omega), e_up_e]
    · rw [e_up_e]
    · intro a b hab
      rw [e_up_o (by omega), e_up_o (by omega), e_up_o (by omega), hs a b hab]
  have mid : ∀ (x : Int32) (z y : Int), x = iI z → -36 ≤ z → z ≤ 36 → -36 ≤ y → y ≤ 36 → (∀ (M1 : e_Me), M1 166 4 = iI hi → no_pass_b25 (nI s) (nI q) x (M 166 3) M = (x_lt (e_up M 166 3 (iI (lo + z))) fun M1 => no_pass_b54 (iI y) (M1 166 4) M1)) → ∃ M', no_pass_b25 (nI s) (nI q) x (M 166 3) M = some (bI (max 0 (lo + z) ≤ min (6 * (n : Int)) (hi + y)), M') ∧ M' 166 3 = iI (max 0 (lo + z)) ∧ M' 166 4 = iI (min (6 * (n : Int)) (hi + y)) ∧ ∀ a b, ¬ (a = 166 ∧ (b = 3 ∨ b = 4)) → M' a b = M a b := by
    intro x z y hx hz1 hz2 hy1 hy2 e
    rw [e M h2, x_lt_e]
    exact last (e_up M 166 3 (iI (lo + z))) (lo + z) (hi + y) (by omega) (by omega) (by omega) (by omega) (e_up_e _ _ _ _) (by rw [e_up_o (by omega), hn]) _ _ (by rw [e_up_o (by omega), h2, iI_add]) (fun a b hab => by rw [e_up_o (by omega)])
  unfold frZ toZ
  obtain rfl | rfl | rfl : s = 0 ∨ s = 1 ∨ s = 2 := by omega
  · have := mid (nI q) q q (nI_iI q) (by omega) (by omega) (by omega) (by omega) (fun M1 _ => by simp only [no_pass_b25, show nI 0 = (0 : Int32) from rfl, q_00, if_true, h1, nI_iI, iI_add])
    simp only [no_pass, show nI 0 = (0 : Int32) from rfl, q_00, if_true] at this ⊢
    exact this
  · have := mid (-nI q) (-(q : Int)) (-(q : Int)) (by rw [nI_iI, iI_neg]) (by omega) (by omega) (by omega) (by omega) (fun M1 _ => by simp only [no_pass_b25, show nI 1 = (1 : Int32) from rfl, q_10, q_11, if_true, if_false, h1, nI_iI, iI_add, iI_neg])
    simp only [no_pass, show nI 1 = (1 : Int32) from rfl, q_10, q_11, if_true, if_false, show ((1 : Nat) = 0) = False by decide] at this ⊢
    exact this
  · have := mid (-36 : Int32) (-36) 36 s_m36 (by omega) (by omega) (by omega) (by omega) (fun M1 _ => by simp only [no_pass_b25, show nI 2 = (2 : Int32) from rfl, q_20, q_21, if_false, h1, s_36, iI_neg, iI_add])
    simp only [no_pass, show nI 2 = (2 : Int32) from rfl, q_20, q_21, if_false, show ((2 : Nat) = 0) = False by decide, show ((2 : Nat) = 1) = False by decide] at this ⊢
    exact this
/-- the class's NOTES -/
def cN (M : e_Me) (k : Nat) (s q : Nat → Nat) : Prop := k ≤ 40 ∧ M 167 1 = nI k ∧ M 169 1 = nI k ∧ ∀ i, i < k → M 168 i = nI (s i) ∧ M 170 i = nI (q i) ∧ s i ≤ 2 ∧ q i ≤ 36
theorem no_follow_ok {k : Nat} {s q : Nat → Nat} {b : Nat} (hN : cN M k s q) (hn : M 3 3 = nI n) (hn3 : n ≤ 30) (hb : b ≤ 6 * n) :
    ∃ M', (∀ a c, ¬ (a = 166 ∧ (c = 3 ∨ c = 4)) → M' a c = M a c) ∧ match folN (6 * n) s q k 0 b b with
      | none => no_follow (nI b) M = some (0, M')
      | some (p, r) => no_follow (nI b) M = some (1, M') ∧ M' 166 3 = iI p ∧ M' 166 4 = iI r := by
  obtain ⟨hk, k1, k2, k3⟩ := hN
  have key : ∀ (d i F : Nat) (M1 : e_Me) (lo hi : Int), i + d = k → d < F → 0 ≤ lo → lo ≤ hi → hi ≤ 6 * n → M1 166 3 = iI lo → M1 166 4 = iI hi → (∀ a c, ¬ (a = 166 ∧ (c = 3 ∨ c = 4)) → M1 a c = M a c) →
      ∃ M', (∀ a c, ¬ (a = 166 ∧ (c = 3 ∨ c = 4)) → M' a c = M a c) ∧ match folN (6 * n) s q d i lo hi with
        | none => no_follow_l12 F (nI i) M1 = some (0, M')
        | some (p, r) => no_follow_l12 F (nI i) M1 = some (1, M') ∧ M' 166 3 = iI p ∧ M' 166 4 = iI r := by
    intro d
    induction d with
    | zero =>
      intro i F M1 lo hi g1 g2 g3 g4 g5 g6 g7 g8
      obtain ⟨F, rfl⟩ : ∃ F', F = F' + 1 := ⟨F - 1, by omega⟩
      have e1 : M1 167 1 = nI k := by rw [g8 167 1 (by omega), k1]
      have c1 : k ≤ i := by omega
      refine ⟨M1, g8, ?_, g6, g7⟩
      simp (disch := omega) only [x_bd_s, x_bi_s, x_lt_e, x_rd_n, x_wr_n, x_ra_n, x_dv_n, s_lt, s_le, s_eq, s_lt0, s_le0, s_0lt, s_0le, s_eq0, s_sub, s_rem, s_div, s_in, bI_0, bI_1, x_gb_b, x_gb_0, x_gb_1, nI_add, nI_1, s_size, s_abs, s_max, iI_mul, iI_add, iI_neg, Nat.le_refl, Nat.lt_irrefl, if_true, if_false, ite_true, ite_false, not_true, not_false_eq_true, no_follow_l12, ro_count_ok cap_40.1, e1, c1]
    | succ d ih =>
      intro i F M1 lo hi g1 g2 g3 g4 g5 g6 g7 g8
      obtain ⟨F, rfl⟩ : ∃ F', F = F' + 1 := ⟨F - 1, by omega⟩
      have e1 : M1 167 1 = nI k := by rw [g8 167 1 (by omega), k1]
      have e2 : M1 169 1 = nI k := by rw [g8 169 1 (by omega), k2]
      have c1 : ¬ k ≤ i := by omega
      obtain ⟨j1, j2, j3, j4⟩ := k3 i (by omega)
      have e3 : M1 (167 + 1) i = nI (s i) := by rw [g8 168 i (by omega), j1]
      have e4 : M1 (169 + 1) i = nI (q i) := by rw [g8 170 i (by omega), j2]
      obtain ⟨M2, p1, p2, p3, p4⟩ := no_pass_ok (M := M1) (s := s i) (q := q i) (by rw [g8 3 3 (by omega), hn]) hn3 j3 j4 g6 g7 g3 (by omega) (by omega) (by omega)
      have hs : ∀ a c, ¬ (a = 166 ∧ (c = 3 ∨ c = 4)) → M2 a c = M a c := fun a c h => by rw [p4 a c h, g8 a c h]
      have step : no_follow_l12 (F + 1) (nI i) M1 = if max 0 (lo + frZ (s i) (q i)) ≤ min (6 * (n : Int)) (hi + toZ (s i) (q i)) then no_follow_l12 F (nI (i + 1)) M2 else some (0, M2) := by
        simp (disch := omega) only [x_bd_s, x_bi_s, x_lt_e, x_rd_n, x_wr_n, x_ra_n, x_dv_n, s_lt, s_le, s_eq, s_lt0, s_le0, s_0lt, s_0le, s_eq0, s_sub, s_rem, s_div, s_in, bI_0, bI_1, x_gb_b, x_gb_0, x_gb_1, nI_add, nI_1, s_size, s_abs, s_max, iI_mul, iI_add, iI_neg, Nat.le_refl, Nat.lt_irrefl, if_true, if_false, ite_true, ite_false, not_true, not_false_eq_true, no_follow_l12, ro_count_ok cap_40.1, e1, c1, ro_at_ok cap_40.1 e1 (show k ≤ 40 by omega) (show 40 ≤ 1000 by omega) (show i < k by omega), ro_at_ok cap_40.2 e2 (show k ≤ 40 by omega) (show 40 ≤ 1000 by omega) (show i < k by omega), e3, e4, p1]
        by_cases g : max 0 (lo + frZ (s i) (q i)) ≤ min (6 * (n : Int)) (hi + toZ (s i) (q i))
        · simp only [g, not_true, if_true, if_false]
        · simp only [g, not_false_eq_true, if_true, if_false]
      simp only [folN]
      rw [step]
      by_cases g : max 0 (lo + frZ (s i) (q i)) ≤ min (6 * (n : Int)) (hi + toZ (s i) (q i))
      · rw [if_pos g, if_pos g]
        exact ih (i + 1) F M2 _ _ (by omega) (by omega) (by omega) g (by omega) p2 p3 hs
      · rw [if_neg g, if_neg g]
        exact ⟨M2, hs, rfl⟩
  have := e_Fge
  obtain ⟨M', h1, h2⟩ := key k 0 e_F (e_up (e_up M 166 3 (nI b)) 166 4 (nI b)) b b (by omega) (by omega) (by omega) (by omega) (by omega) (by rw [e_up_o (by omega), e_up_e, nI_iI]) (by rw [e_up_e, nI_iI]) (fun a c h => by rw [e_up_o (by omega), e_up_o (by omega)])
  refine ⟨M', h1, ?_⟩
  have e : no_follow (nI b) M = no_follow_l12 e_F (nI 0) (e_up (e_up M 166 3 (nI b)) 166 4 (nI b)) := by
    simp only [no_follow, x_lt_e, nI_0]
  rw [e]
  exact h2
end
