/-! ROLLING -/
/-- m places at most, from a TURN on; g: LEAN at each TURN -/
def rlF (n : Nat) (g : Nat → Int) : Nat → Nat → Int32 → Int32 × Nat
  | 0, t, w => (w, t)
  | m + 1, t, w => if g t = 0 then (w, t) else if 0 < g t then (if g ((t + n - 1) % n) < 0 then (w, t) else rlF n g m ((t + n - 1) % n) (w + -1)) else (if 0 < g ((t + 1) % n) then (w, t) else rlF n g m ((t + 1) % n) (w + 1))
def rest (n : Nat) (g : Nat → Int) (t : Nat) : Prop := g t = 0 ∨ (0 < g t ∧ g ((t + n - 1) % n) < 0) ∨ (g t < 0 ∧ 0 < g ((t + 1) % n))
theorem rlF_rest {n : Nat} {g : Nat → Int} {t : Nat} (h : rest n g t) : ∀ (m : Nat) (w : Int32), rlF n g m t w = (w, t)
  | 0, w => rfl
  | m + 1, w => by
    rw [rlF]
    rcases h with h | ⟨h1, h2⟩ | ⟨h1, h2⟩
    · rw [if_pos h]
    · rw [if_neg (by omega), if_pos h1, if_pos h2]
    · rw [if_neg (by omega), if_neg (by omega), if_pos h2]
theorem rlF_lt {n : Nat} {g : Nat → Int} (hn : 0 < n) : ∀ (m t : Nat) (w : Int32), t < n → (rlF n g m t w).2 < n
  | 0, t, w, h => h
  | m + 1, t, w, h => by
    rw [rlF]
    split
    · exact h
    · split
      · split
        · exact h
        · exact rlF_lt hn m _ _ (Nat.mod_lt _ hn)
      · split
        · exact h
        · exact rlF_lt hn m _ _ (Nat.mod_lt _ hn)
theorem rlF_way {n : Nat} {g : Nat → Int} : ∀ (m t : Nat) (w v : Int32), (rlF n g m t w).2 = (rlF n g m t v).2
  | 0, t, w, v => rfl
  | m + 1, t, w, v => by
    rw [rlF, rlF]
    split
    · rfl
    · split
      · split
        · rfl
        · exact rlF_way m _ _ _
      · split
        · rfl
        · exact rlF_way m _ _ _
theorem rl_back {n : Nat} {g : Nat → Int} (hn : 0 < n) : ∀ (m t : Nat) (w : Int32), m ≤ n → t < n → 0 < g t → rest n g (rlF n g m t w).2 ∨ ∀ j, j ≤ m → 0 < g ((t + n - j) % n)
  | 0, t, w, _, ht, h => by
    right
    intro j hj
    obtain rfl : j = 0 := by omega
    rw [Nat.sub_zero, Nat.add_mod_right, Nat.mod_eq_of_lt ht]
    exact h
  | m + 1, t, w, hm, ht, h => by
    rw [rlF, if_neg (by omega), if_pos h]
    by_cases g1 : g ((t + n - 1) % n) < 0
    · rw [if_pos g1]
      exact Or.inl (Or.inr (Or.inl ⟨h, g1⟩))
    · rw [if_neg g1]
      have ht2 : (t + n - 1) % n < n := Nat.mod_lt _ hn
      by_cases g2 : g ((t + n - 1) % n) = 0
      · left
        rw [rlF_rest (Or.inl g2)]
        exact Or.inl g2
      · rcases rl_back (g := g) hn m _ (w + -1) (by omega) ht2 (by omega) with k | k
        · exact Or.inl k
        · right
          intro j hj
          by_cases e : j = 0
          · subst e
            rw [Nat.sub_zero, Nat.add_mod_right, Nat.mod_eq_of_lt ht]
            exact h
          · have := k (j - 1) (by omega)
            rw [md2 (show t + n - 1 < n + n by omega)] at this
            split at this
            · obtain rfl : t = 0 := by omega
              rw [md2 (show 0 + n - 1 + n - (j - 1) < n + n by omega)] at this
              rw [md2 (show 0 + n - j < n + n by omega), if_pos (by omega)]
              split at this
              · omega
              · rw [show 0 + n - 1 + n - (j - 1) - n = 0 + n - j by omega] at this
                exact this
            · rw [show t + n - 1 - n + n - (j - 1) = t + n - j by omega] at this
              exact this
theorem rl_forth {n : Nat} {g : Nat → Int} (hn : 0 < n) : ∀ (m t : Nat) (w : Int32), m ≤ n → t < n → g t < 0 → rest n g (rlF n g m t w).2 ∨ ∀ j, j ≤ m → g ((t + j) % n) < 0
  | 0, t, w, _, ht, h => by
    right
    intro j hj
    obtain rfl : j = 0 := by omega
    rw [Nat.add_zero, Nat.mod_eq_of_lt ht]
    exact h
  | m + 1, t, w, hm, ht, h => by
    rw [rlF, if_neg (by omega), if_neg (by omega)]
    by_cases g1 : 0 < g ((t + 1) % n)
    · rw [if_pos g1]
      exact Or.inl (Or.inr (Or.inr ⟨h, g1⟩))
    · rw [if_neg g1]
      have ht2 : (t + 1) % n < n := Nat.mod_lt _ hn
      by_cases g2 : g ((t + 1) % n) = 0
      · left
        rw [rlF_rest (Or.inl g2)]
        exact Or.inl g2
      · rcases rl_forth (g := g) hn m _ (w + 1) (by omega) ht2 (by omega) with k | k
        · exact Or.inl k
        · right
          intro j hj
          by_cases e : j = 0
          · subst e
            rw [Nat.add_zero, Nat.mod_eq_of_lt ht]
            exact h
          · have := k (j - 1) (by omega)
            rw [Nat.mod_add_mod, show t + 1 + (j - 1) = t + j by omega] at this
            exact this
/-! of all TURNS together nothing leans -/
theorem smZ_0 : ∀ k : Nat, smZ k (fun _ => 0) = 0
  | 0 => rfl
  | k + 1 => by
    simp only [smZ]
    rw [smZ_0 k]
    rfl
theorem smZ_mul (a : Int) (f : Nat → Int) : ∀ k : Nat, smZ k (fun c => a * f c) = a * smZ k f
  | 0 => by simp [smZ]
  | k + 1 => by
    simp only [smZ]
    rw [smZ_mul a f k, Int.mul_add]
theorem smZ_swap (f : Nat → Nat → Int) (m : Nat) : ∀ k : Nat, smZ k (fun c => smZ m (fun r => f c r)) = smZ m (fun r => smZ k (fun c => f c r))
  | 0 => by
    simp only [smZ]
    rw [smZ_0]
  | k + 1 => by
    simp only [smZ]
    rw [smZ_swap f m k, ← smZ_add]
theorem arm_sum : ∀ n ∈ [6, 10, 12, 20, 30], ∀ c, c < n → smZ n (fun r => armZ n ((c + r) % n)) = 0 := by decide +kernel
theorem lean_sum {n : Nat} {f : Nat → Int} (hk : okn n) : smZ n (fun r => lnZ n f r) = 0 := by
  unfold lnZ
  rw [smZ_swap (fun r c => f c * armZ n ((c + r) % n)) n n]
  rw [smZ_cong (g := fun _ => 0) (fun c hc => by
    rw [smZ_mul, arm_sum n (okn_in hk) c hc, Int.mul_zero])]
  exact smZ_0 n
theorem smZ_pos {f : Nat → Int} : ∀ {k : Nat}, (∀ r, r < k → 0 < f r) → 0 < k → 0 < smZ k f
  | 0, _, h => by omega
  | k + 1, h, _ => by
    rw [smZ]
    have h1 := h k (by omega)
    rcases Nat.eq_zero_or_pos k with e | e
    · subst e
      simp only [smZ]
      omega
    · have := smZ_pos (f := f) (k := k) (fun r hr => h r (by omega)) e
      omega
theorem smZ_neg {f : Nat → Int} : ∀ {k : Nat}, (∀ r, r < k → f r < 0) → 0 < k → smZ k f < 0
  | 0, _, h => by omega
  | k + 1, h, _ => by
    rw [smZ]
    have h1 := h k (by omega)
    rcases Nat.eq_zero_or_pos k with e | e
    · subst e
      simp only [smZ]
      omega
    · have := smZ_neg (f := f) (k := k) (fun r hr => h r (by omega)) e
      omega
theorem rest_ok {n t : Nat} {f : Nat → Int} (hk : okn n) (ht : t < n) (w : Int32) : rest n (lnZ n f) (rlF n (lnZ n f) n t w).2 := by
  have hb := okn_b hk
  have hs := lean_sum (f := f) hk
  rcases Int.lt_trichotomy (lnZ n f t) 0 with h | h | h
  · rcases rl_forth (g := lnZ n f) (show 0 < n by omega) n t w (Nat.le_refl _) ht h with k | k
    · exact k
    · exfalso
      have := smZ_neg (f := fun r => lnZ n f r) (k := n) (fun r hr => by
        by_cases e : t ≤ r
        · have := k (r - t) (by omega)
          rw [show t + (r - t) = r by omega, Nat.mod_eq_of_lt hr] at this
          exact this
        · have := k (r + n - t) (by omega)
          rw [show t + (r + n - t) = r + n by omega, Nat.add_mod_right, Nat.mod_eq_of_lt hr] at this
          exact this) (by omega)
      omega
  · rw [rlF_rest (Or.inl h)]
    exact Or.inl h
  · rcases rl_back (g := lnZ n f) (show 0 < n by omega) n t w (Nat.le_refl _) ht h with k | k
    · exact k
    · exfalso
      have := smZ_pos (f := fun r => lnZ n f r) (k := n) (fun r hr => by
        by_cases e : r ≤ t
        · have := k (t - r) (by omega)
          rw [show t + n - (t - r) = r + n by omega, Nat.add_mod_right, Nat.mod_eq_of_lt hr] at this
          exact this
        · have := k (t + n - r) (by omega)
          rw [show t + n - (t + n - r) = r by omega, Nat.mod_eq_of_lt hr] at this
          exact this) (by omega)
      omega
/-! the class rolls -/
section
variable {n t0 : Nat} {ld : Nat → Nat} {g : Nat → Int}
theorem rl_leanAt_ok {M : e_Me} {r : Nat} (hr : r < 30) (h : ∀ r, r < n → M 163 r = iI (g r)) (hr2 : r < n) : rl_leanAt (nI r) M = some (iI (g r)) := by
  have c1 : ¬ 30 ≤ r := by omega
  simp (disch := omega) only [x_bd_s, x_bi_s, x_lt_e, x_rd_n, x_wr_n, x_ra_n, x_dv_n, s_lt, s_le, s_eq, s_lt0, s_le0, s_0lt, s_0le, s_eq0, s_sub, s_rem, s_div, s_in, bI_0, bI_1, x_gb_b, x_gb_0, x_gb_1, nI_add, nI_1, s_size, s_abs, s_max, iI_mul, iI_add, iI_neg, Nat.le_refl, Nat.lt_irrefl, if_true, if_false, ite_true, ite_false, not_true, not_false_eq_true, rl_leanAt, c1, h r hr2]
theorem toRestC (hB : ∀ r, r < n → -10000000 ≤ g r ∧ g r ≤ 10000000) : ∀ (m i F : Nat) (M : e_Me) (t : Nat) (w : Int32), i + m = n → m < F → cW M n t0 ld → (∀ r, r < n → M 163 r = iI (g r)) → M 162 4 = nI t → t < n →
    ∃ M', rl_toRest_l4 F w (nI i) M = some ((rlF n g m t w).1, M') ∧ M' 162 4 = nI (rlF n g m t w).2 ∧ ∀ a b, ¬ (a = 162 ∧ b = 4) → M' a b = M a b := by
  intro m
  induction m with
  | zero =>
    intro i F M t w e1 e2 hc h1 h2 ht
    obtain ⟨F, rfl⟩ : ∃ F', F = F' + 1 := ⟨F - 1, by omega⟩
    have hb := okn_b hc.1
    have e : i = n := by omega
    subst e
    exact ⟨M, by simp (disch := omega) only [x_bd_s, x_bi_s, x_lt_e, x_rd_n, x_wr_n, x_ra_n, x_dv_n, s_lt, s_le, s_eq, s_lt0, s_le0, s_0lt, s_0le, s_eq0, s_sub, s_rem, s_div, s_in, bI_0, bI_1, x_gb_b, x_gb_0, x_gb_1, nI_add, nI_1, s_size, s_abs, s_max, iI_mul, iI_add, iI_neg, Nat.le_refl, Nat.lt_irrefl, if_true, if_false, ite_true, ite_false, not_true, not_false_eq_true, rl_toRest_l4, wh_count, hc.2.2.1]; rfl, h2, fun a b _ => rfl⟩
  | succ m ih =>
    intro i F M t w e1 e2 hc h1 h2 ht
    obtain ⟨F, rfl⟩ : ∃ F', F = F' + 1 := ⟨F - 1, by omega⟩
    have hb := okn_b hc.1
    have c1 : ¬ n ≤ i := by omega
    have hbt := hB t ht
    have a1 := rl_leanAt_ok (M := M) (show t < 30 by omega) h1 ht
    rw [rlF]
    by_cases z0 : g t = 0
    · rw [if_pos z0]
      refine ⟨M, ?_, h2, fun a b _ => rfl⟩
      simp (disch := omega) only [x_bd_s, x_bi_s, x_lt_e, x_rd_n, x_wr_n, x_ra_n, x_dv_n, s_lt, s_le, s_eq, s_lt0, s_le0, s_0lt, s_0le, s_eq0, s_sub, s_rem, s_div, s_in, bI_0, bI_1, x_gb_b, x_gb_0, x_gb_1, nI_add, nI_1, s_size, s_abs, s_max, iI_mul, iI_add, iI_neg, Nat.le_refl, Nat.lt_irrefl, if_true, if_false, ite_true, ite_false, not_true, not_false_eq_true, rl_toRest_l4, wh_count, hc.2.2.1, c1, h2, a1, iI_eq0, z0]
    · rw [if_neg z0]
      by_cases z1 : 0 < g t
      · rw [if_pos z1]
        have z2 : ¬ g t ≤ 0 := by omega
        have hto : (t + n - 1) % n < n := Nat.mod_lt _ (by omega)
        have a2 := rl_leanAt_ok (M := M) (show (t + n - 1) % n < 30 by omega) h1 hto
        have a3 := wh_turnAhead_ok hc ht
        have hbt2 := hB _ hto
        by_cases z3 : g ((t + n - 1) % n) < 0
        · rw [if_pos z3]
          have z4 : ¬ 0 ≤ g ((t + n - 1) % n) := by omega
          refine ⟨M, ?_, h2, fun a b _ => rfl⟩
          simp (disch := omega) only [x_bd_s, x_bi_s, x_lt_e, x_rd_n, x_wr_n, x_ra_n, x_dv_n, s_lt, s_le, s_eq, s_lt0, s_le0, s_0lt, s_0le, s_eq0, s_sub, s_rem, s_div, s_in, bI_0, bI_1, x_gb_b, x_gb_0, x_gb_1, nI_add, nI_1, s_size, s_abs, s_max, iI_mul, iI_add, iI_neg, Nat.le_refl, Nat.lt_irrefl, if_true, if_false, ite_true, ite_false, not_true, not_false_eq_true, rl_toRest_l4, wh_count, hc.2.2.1, c1, h2, a1, iI_eq0, z0, iI_le0, z2, rl_toRest_b42, s_10, a3, rl_toRest_b72, a2, iI_0le, z4]
        · rw [if_neg z3]
          have z4 : 0 ≤ g ((t + n - 1) % n) := by omega
          obtain ⟨M', k1, k2, k3⟩ := ih (i + 1) F (e_up M 162 4 (nI ((t + n - 1) % n))) ((t + n - 1) % n) (w + -1) (by omega) (by omega) (cW_frame hc (by funext j; simp [e_up_a]) (by funext j; simp [e_up_a]) (by funext j; simp [e_up_a]) (by funext j; simp [e_up_a])) (fun r hr => by rw [e_up_o (by omega), h1 r hr]) (e_up_e _ _ _ _) hto
          refine ⟨M', ?_, k2, fun a b hab => by rw [k3 a b hab, e_up_o (by omega)]⟩
          simp (disch := omega) only [x_bd_s, x_bi_s, x_lt_e, x_rd_n, x_wr_n, x_ra_n, x_dv_n, s_lt, s_le, s_eq, s_lt0, s_le0, s_0lt, s_0le, s_eq0, s_sub, s_rem, s_div, s_in, bI_0, bI_1, x_gb_b, x_gb_0, x_gb_1, nI_add, nI_1, s_size, s_abs, s_max, iI_mul, iI_add, iI_neg, Nat.le_refl, Nat.lt_irrefl, if_true, if_false, ite_true, ite_false, not_true, not_false_eq_true, rl_toRest_l4, wh_count, hc.2.2.1, c1, h2, a1, iI_eq0, z0, iI_le0, z2, rl_toRest_b42, s_10, a3, rl_toRest_b72, a2, iI_0le, z4, rl_toRest_b101]
          exact k1
      · rw [if_neg z1]
        have z2 : g t ≤ 0 := by omega
        have hto : (t + 1) % n < n := Nat.mod_lt _ (by omega)
        have a2 := rl_leanAt_ok (M := M) (show (t + 1) % n < 30 by omega) h1 hto
        have a3 := wh_turnBehind_ok hc ht
        have hbt2 := hB _ hto
        by_cases z3 : 0 < g ((t + 1) % n)
        · rw [if_pos z3]
          have z4 : ¬ g ((t + 1) % n) ≤ 0 := by omega
          refine ⟨M, ?_, h2, fun a b _ => rfl⟩
          simp (disch := omega) only [x_bd_s, x_bi_s, x_lt_e, x_rd_n, x_wr_n, x_ra_n, x_dv_n, s_lt, s_le, s_eq, s_lt0, s_le0, s_0lt, s_0le, s_eq0, s_sub, s_rem, s_div, s_in, bI_0, bI_1, x_gb_b, x_gb_0, x_gb_1, nI_add, nI_1, s_size, s_abs, s_max, iI_mul, iI_add, iI_neg, Nat.le_refl, Nat.lt_irrefl, if_true, if_false, ite_true, ite_false, not_true, not_false_eq_true, rl_toRest_l4, wh_count, hc.2.2.1, c1, h2, a1, iI_eq0, z0, iI_le0, z2, rl_toRest_b42, q_00, a3, rl_toRest_b72, a2, z4]
        · rw [if_neg z3]
          have z4 : g ((t + 1) % n) ≤ 0 := by omega
          obtain ⟨M', k1, k2, k3⟩ := ih (i + 1) F (e_up M 162 4 (nI ((t + 1) % n))) ((t + 1) % n) (w + 1) (by omega) (by omega) (cW_frame hc (by funext j; simp [e_up_a]) (by funext j; simp [e_up_a]) (by funext j; simp [e_up_a]) (by funext j; simp [e_up_a])) (fun r hr => by rw [e_up_o (by omega), h1 r hr]) (e_up_e _ _ _ _) hto
          refine ⟨M', ?_, k2, fun a b hab => by rw [k3 a b hab, e_up_o (by omega)]⟩
          simp (disch := omega) only [x_bd_s, x_bi_s, x_lt_e, x_rd_n, x_wr_n, x_ra_n, x_dv_n, s_lt, s_le, s_eq, s_lt0, s_le0, s_0lt, s_0le, s_eq0, s_sub, s_rem, s_div, s_in, bI_0, bI_1, x_gb_b, x_gb_0, x_gb_1, nI_add, nI_1, s_size, s_abs, s_max, iI_mul, iI_add, iI_neg, Nat.le_refl, Nat.lt_irrefl, if_true, if_false, ite_true, ite_false, not_true, not_false_eq_true, rl_toRest_l4, wh_count, hc.2.2.1, c1, h2, a1, iI_eq0, z0, iI_le0, z2, rl_toRest_b42, q_00, a3, rl_toRest_b72, a2, z4, rl_toRest_b101]
          exact k1
end
theorem copy_ok {M : e_Me} {n t : Nat} {ld : Nat → Nat} (hc : cW M n t ld) : ∃ M', rl_copyWheel M = some M' ∧ M' 162 4 = nI t ∧ (∀ r, r < n → M' 163 r = iI (lnZ n (fun c => (ld c : Int)) r)) ∧ ∀ a b, ¬ (a = 163 ∨ (a = 162 ∧ b = 4)) → M' a b = M a b := by
  have hb := okn_b hc.1
  have key : ∀ (d r F : Nat) (M1 : e_Me), r + d = n → d < F → cW M1 n t ld → (∀ q, q < r → M1 163 q = iI (lnZ n (fun c => (ld c : Int)) q)) → ∃ M', rl_copyWheel_l13 F (nI r) M1 = some M' ∧ (∀ q, q < n → M' 163 q = iI (lnZ n (fun c => (ld c : Int)) q)) ∧ ∀ a b, a ≠ 163 → M' a b = M1 a b := by
    intro d
    induction d with
    | zero =>
      intro r F M1 g1 g2 g3 g4
      obtain ⟨F, rfl⟩ : ∃ F', F = F' + 1 := ⟨F - 1, by omega⟩
      have e : r = n := by omega
      subst e
      exact ⟨M1, by simp (disch := omega) only [x_bd_s, x_bi_s, x_lt_e, x_rd_n, x_wr_n, x_ra_n, x_dv_n, s_lt, s_le, s_eq, s_lt0, s_le0, s_0lt, s_0le, s_eq0, s_sub, s_rem, s_div, s_in, bI_0, bI_1, x_gb_b, x_gb_0, x_gb_1, nI_add, nI_1, s_size, s_abs, s_max, iI_mul, iI_add, iI_neg, Nat.le_refl, Nat.lt_irrefl, if_true, if_false, ite_true, ite_false, not_true, not_false_eq_true, rl_copyWheel_l13, wh_count, g3.2.2.1], g4, fun a b _ => rfl⟩
    | succ d ih =>
      intro r F M1 g1 g2 g3 g4
      obtain ⟨F, rfl⟩ : ∃ F', F = F' + 1 := ⟨F - 1, by omega⟩
      have c1 : ¬ n ≤ r := by omega
      have c2 : ¬ 30 ≤ r := by omega
      obtain ⟨M', k1, k2, k3⟩ := ih (r + 1) F (e_up M1 163 r (iI (lnZ n (fun c => (ld c : Int)) r))) (by omega) (by omega) (cW_frame g3 (by funext j; simp [e_up_a]) (by funext j; simp [e_up_a]) (by funext j; simp [e_up_a]) (by funext j; simp [e_up_a])) (fun q hq => by
        by_cases e : q = r
        · subst e
          rw [e_up_e]
        · rw [e_up_o (by omega), g4 q (by omega)])
      refine ⟨M', ?_, k2, fun a b hab => by rw [k3 a b hab, e_up_o (by omega)]⟩
      simp (disch := omega) only [x_bd_s, x_bi_s, x_lt_e, x_rd_n, x_wr_n, x_ra_n, x_dv_n, s_lt, s_le, s_eq, s_lt0, s_le0, s_0lt, s_0le, s_eq0, s_sub, s_rem, s_div, s_in, bI_0, bI_1, x_gb_b, x_gb_0, x_gb_1, nI_add, nI_1, s_size, s_abs, s_max, iI_mul, iI_add, iI_neg, Nat.le_refl, Nat.lt_irrefl, if_true, if_false, ite_true, ite_false, not_true, not_false_eq_true, rl_copyWheel_l13, wh_count, g3.2.2.1, c1, c2, wh_leanAt_ok g3 (show r < n by omega)]
      exact k1
  obtain ⟨M', k1, k2, k3⟩ := key n 0 e_F (e_up M 162 4 (nI t)) (by omega) (by have := e_Fge; omega) (cW_frame hc (by funext j; simp [e_up_a]) (by funext j; simp [e_up_a]) (by funext j; simp [e_up_a]) (by funext j; simp [e_up_a])) (fun q hq => by omega)
  rw [nI_0] at k1
  refine ⟨M', ?_, by rw [k3 _ _ (by omega), e_up_e], k2, fun a b hab => by rw [k3 _ _ (by omega), e_up_o (by omega)]⟩
  simp only [rl_copyWheel, wh_turnNow, hc.2.2.2.1, x_bd_s, x_lt_e, k1]
/-! the reference rolls -/
section
variable {n : Nat} {f : Nat → Int}
theorem rollM (hk : okn n) (hB : ∀ c, c < n → -2000 ≤ f c ∧ f c ≤ 2000) : ∀ (m F : Nat) (M : e_Me) (t : Nat) (w : Int32), m + 1 < F → t < n → M 182 0 = nI n → M 182 1 = nI t → (∀ c, c < n → M 185 c = iI (f c)) → rest n (lnZ n f) (rlF n (lnZ n f) m t w).2 →
    ∃ M', md_rollOn_l4 F w 1 M = some ((rlF n (lnZ n f) m t w).1, M') ∧ M' 182 1 = nI (rlF n (lnZ n f) m t w).2 ∧ ∀ a b, ¬ (a = 182 ∧ b = 1) → M' a b = M a b := by
  have hb := okn_b hk
  have stop : ∀ (F : Nat) (M : e_Me) (t : Nat) (w : Int32), 1 < F → t < n → M 182 0 = nI n → M 182 1 = nI t → (∀ c, c < n → M 185 c = iI (f c)) → rest n (lnZ n f) t → md_rollOn_l4 F w 1 M = some (w, M) := by
    intro F M t w hF ht h0 h1 h2 hr
    obtain ⟨F, rfl⟩ : ∃ F', F = F' + 1 := ⟨F - 1, by omega⟩
    have e1 := md_leanOf_ok hk h0 h2 ht
    have b1 := lnZ_b (r := t) hk hB
    have ha : (t + n - 1) % n < n := Nat.mod_lt _ (by omega)
    have hf : (t + 1) % n < n := Nat.mod_lt _ (by omega)
    have e2 := md_leanOf_ok hk h0 h2 ha
    have e3 := md_leanOf_ok hk h0 h2 hf
    have b2 := lnZ_b (r := (t + n - 1) % n) hk hB
    have b3 := lnZ_b (r := (t + 1) % n) hk hB
    have es : nI (t + n) - 1 = nI (t + n - 1) := s_sub (b := 1) (by omega)
    have last : md_rollOn_l4 F w 0 M = some (w, M) := by
      obtain ⟨F, rfl⟩ : ∃ F', F = F' + 1 := ⟨F - 1, by omega⟩
      rw [md_rollOn_l4, if_pos rfl]
    rcases hr with z | ⟨z1, z2⟩ | ⟨z1, z2⟩
    · have y1 : lnZ n f t ≤ 0 := by omega
      have y3 : 0 ≤ lnZ n f t := by omega
      simp (disch := omega) only [x_bd_s, x_bi_s, x_lt_e, x_rd_n, x_wr_n, x_ra_n, x_dv_n, s_lt, s_le, s_eq, s_lt0, s_le0, s_0lt, s_0le, s_eq0, s_sub, s_rem, s_div, s_in, bI_0, bI_1, x_gb_b, x_gb_0, x_gb_1, nI_add, nI_1, s_size, s_abs, s_max, iI_mul, iI_add, iI_neg, Nat.le_refl, Nat.lt_irrefl, if_true, if_false, ite_true, ite_false, not_true, not_false_eq_true, md_rollOn_l4, s_10, h1, h0, e1, es, y1, y3, iI_le0, md_rollOn_b61, iI_0le, md_rollOn_b79, q_00, last]
    · have y1 : ¬ lnZ n f t ≤ 0 := by omega
      have y2 : ¬ 0 ≤ lnZ n f ((t + n - 1) % n) := by omega
      have y3 : 0 ≤ lnZ n f t := by omega
      simp (disch := omega) only [x_bd_s, x_bi_s, x_lt_e, x_rd_n, x_wr_n, x_ra_n, x_dv_n, s_lt, s_le, s_eq, s_lt0, s_le0, s_0lt, s_0le, s_eq0, s_sub, s_rem, s_div, s_in, bI_0, bI_1, x_gb_b, x_gb_0, x_gb_1, nI_add, nI_1, s_size, s_abs, s_max, iI_mul, iI_add, iI_neg, Nat.le_refl, Nat.lt_irrefl, if_true, if_false, ite_true, ite_false, not_true, not_false_eq_true, md_rollOn_l4, s_10, h1, h0, e1, es, y1, e2, y2, iI_le0, md_rollOn_b61, iI_0le, y3, md_rollOn_b79, q_00, last]
    · have y1 : lnZ n f t ≤ 0 := by omega
      have y3 : ¬ 0 ≤ lnZ n f t := by omega
      simp (disch := omega) only [x_bd_s, x_bi_s, x_lt_e, x_rd_n, x_wr_n, x_ra_n, x_dv_n, s_lt, s_le, s_eq, s_lt0, s_le0, s_0lt, s_0le, s_eq0, s_sub, s_rem, s_div, s_in, bI_0, bI_1, x_gb_b, x_gb_0, x_gb_1, nI_add, nI_1, s_size, s_abs, s_max, iI_mul, iI_add, iI_neg, Nat.le_refl, Nat.lt_irrefl, if_true, if_false, ite_true, ite_false, not_true, not_false_eq_true, md_rollOn_l4, s_10, h1, h0, e1, es, y1, iI_le0, md_rollOn_b61, iI_0le, y3, e3, iI_0lt, z2, md_rollOn_b79, q_00, last]
  intro m
  induction m with
  | zero =>
    intro F M t w hF ht h0 h1 h2 hr
    exact ⟨M, stop F M t w (by omega) ht h0 h1 h2 hr, h1, fun a b _ => rfl⟩
  | succ m ih =>
    intro F M t w hF ht h0 h1 h2 hr
    by_cases hrt : rest n (lnZ n f) t
    · rw [rlF_rest hrt] at hr ⊢
      exact ⟨M, stop F M t w (by omega) ht h0 h1 h2 hr, h1, fun a b _ => rfl⟩
    · obtain ⟨F, rfl⟩ : ∃ F', F = F' + 1 := ⟨F - 1, by omega⟩
      have e1 := md_leanOf_ok hk h0 h2 ht
      have b1 := lnZ_b (r := t) hk hB
      have ha : (t + n - 1) % n < n := Nat.mod_lt _ (by omega)
      have hf : (t + 1) % n < n := Nat.mod_lt _ (by omega)
      have e2 := md_leanOf_ok hk h0 h2 ha
      have e3 := md_leanOf_ok hk h0 h2 hf
      have b2 := lnZ_b (r := (t + n - 1) % n) hk hB
      have b3 := lnZ_b (r := (t + 1) % n) hk hB
      have es : nI (t + n) - 1 = nI (t + n - 1) := s_sub (b := 1) (by omega)
      have n1 : lnZ n f t ≠ 0 := fun z => hrt (Or.inl z)
      by_cases z1 : 0 < lnZ n f t
      · have z2 : ¬ lnZ n f ((t + n - 1) % n) < 0 := fun z => hrt (Or.inr (Or.inl ⟨z1, z⟩))
        have er : ∀ w, rlF n (lnZ n f) (m + 1) t w = rlF n (lnZ n f) m ((t + n - 1) % n) (w + -1) := fun w => by rw [rlF, if_neg n1, if_pos z1, if_neg z2]
        rw [er] at hr ⊢
        have y1 : ¬ lnZ n f t ≤ 0 := by omega
        have y2 : 0 ≤ lnZ n f ((t + n - 1) % n) := by omega
        obtain ⟨M', k1, k2, k3⟩ := ih F (e_up M 182 1 (nI ((t + n - 1) % n))) ((t + n - 1) % n) (w + -1) (by omega) ha (by rw [e_up_o (by omega), h0]) (e_up_e _ _ _ _) (fun c hc => by rw [e_up_o (by omega), h2 c hc]) hr
        refine ⟨M', ?_, k2, fun a b hab => by rw [k3 a b hab, e_up_o (by omega)]⟩
        simp (disch := omega) only [x_bd_s, x_bi_s, x_lt_e, x_rd_n, x_wr_n, x_ra_n, x_dv_n, s_lt, s_le, s_eq, s_lt0, s_le0, s_0lt, s_0le, s_eq0, s_sub, s_rem, s_div, s_in, bI_0, bI_1, x_gb_b, x_gb_0, x_gb_1, nI_add, nI_1, s_size, s_abs, s_max, iI_mul, iI_add, iI_neg, Nat.le_refl, Nat.lt_irrefl, if_true, if_false, ite_true, ite_false, not_true, not_false_eq_true, md_rollOn_l4, s_10, h1, h0, e1, es, y1, e2, y2, iI_le0, iI_0le, md_rollOn_b79, md_rollOn_b96]
        exact k1
      · have z0 : lnZ n f t < 0 := by omega
        have z2 : ¬ 0 < lnZ n f ((t + 1) % n) := fun z => hrt (Or.inr (Or.inr ⟨z0, z⟩))
        have er : ∀ w, rlF n (lnZ n f) (m + 1) t w = rlF n (lnZ n f) m ((t + 1) % n) (w + 1) := fun w => by rw [rlF, if_neg n1, if_neg z1, if_neg z2]
        rw [er] at hr ⊢
        have y1 : lnZ n f t ≤ 0 := by omega
        have y3 : ¬ 0 ≤ lnZ n f t := by omega
        obtain ⟨M', k1, k2, k3⟩ := ih F (e_up M 182 1 (nI ((t + 1) % n))) ((t + 1) % n) (w + 1) (by omega) hf (by rw [e_up_o (by omega), h0]) (e_up_e _ _ _ _) (fun c hc => by rw [e_up_o (by omega), h2 c hc]) hr
        refine ⟨M', ?_, k2, fun a b hab => by rw [k3 a b hab, e_up_o (by omega)]⟩
        simp (disch := omega) only [x_bd_s, x_bi_s, x_lt_e, x_rd_n, x_wr_n, x_ra_n, x_dv_n, s_lt, s_le, s_eq, s_lt0, s_le0, s_0lt, s_0le, s_eq0, s_sub, s_rem, s_div, s_in, bI_0, bI_1, x_gb_b, x_gb_0, x_gb_1, nI_add, nI_1, s_size, s_abs, s_max, iI_mul, iI_add, iI_neg, Nat.le_refl, Nat.lt_irrefl, if_true, if_false, ite_true, ite_false, not_true, not_false_eq_true, md_rollOn_l4, s_10, h1, h0, e1, es, y1, iI_le0, md_rollOn_b61, iI_0le, y3, e3, iI_0lt, z2, md_rollOn_b79, md_rollOn_b96]
        exact k1
theorem rollOn_ok {M : e_Me} {t : Nat} (hk : okn n) (hB : ∀ c, c < n → -2000 ≤ f c ∧ f c ≤ 2000) (ht : t < n) (h0 : M 182 0 = nI n) (h1 : M 182 1 = nI t) (h2 : ∀ c, c < n → M 185 c = iI (f c)) :
    ∃ M', md_rollOn M = some ((rlF n (lnZ n f) n t 0).1, M') ∧ M' 182 1 = nI (rlF n (lnZ n f) n t 0).2 ∧ ∀ a b, ¬ (a = 182 ∧ b = 1) → M' a b = M a b := rollM hk hB n e_F M t 0 (by have := okn_b hk; have := e_Fge; omega) ht h0 h1 h2 (rest_ok hk ht 0)
theorem toRest_ok {M : e_Me} {t t0 : Nat} {ld ld2 : Nat → Nat} (hc : cW M n t0 ld) (h9 : ∀ c, c < n → ld2 c ≤ 900) (h1 : ∀ r, r < n → M 163 r = iI (lnZ n (fun c => (ld2 c : Int)) r)) (h2 : M 162 4 = nI t) (ht : t < n) :
    ∃ M', rl_toRest M = some ((rlF n (lnZ n (fun c => (ld2 c : Int))) n t 0).1, M') ∧ M' 162 4 = nI (rlF n (lnZ n (fun c => (ld2 c : Int))) n t 0).2 ∧ ∀ a b, ¬ (a = 162 ∧ b = 4) → M' a b = M a b := by
  have hb := okn_b hc.1
  have k := toRestC (g := lnZ n (fun c => (ld2 c : Int))) (fun r _ => by
    have := lnZ_b (r := r) hc.1 (f := fun c => (ld2 c : Int)) (fun c hc => by have := h9 c hc; show -2000 ≤ (ld2 c : Int) ∧ (ld2 c : Int) ≤ 2000; omega)
    omega) n 0 e_F M t 0 (by omega) (by have := e_Fge; omega) hc h1 h2 ht
  rw [nI_0] at k
  exact k
end
/-- the invariant again, where THE TURN too is new -/
theorem turn_inv {M M1 M2 : e_Me} {n t : Nat} {np : Nat} {pe we wi se : Nat → Nat} {y : bS} (hc : cW M1 n t y.1) (hP : cPx M1 np pe we wi se y) (f1 : ∀ i j, ¬ ((3 ≤ i ∧ i ≤ 6) ∨ i = 17 ∨ (21 ≤ i ∧ i ≤ 23) ∨ (27 ≤ i ∧ i ≤ 86) ∨ (162 ≤ i ∧ i ≤ 165)) → M1 i j = M i j) (hm : mW M2 n t y.1) (hQ : mPx M2 np pe we wi se y) (f2 : ∀ i j, ¬ (i = 183 ∨ i = 184 ∨ i = 185 ∨ i = 189 ∨ i = 191 ∨ i = 192 ∨ i = 193 ∨ (i = 182 ∧ (j = 1 ∨ j = 19))) → M2 i j = M1 i j) (hw : wPx n np pe we wi se y)
    (hG : ∃ w s d, bG M w s d) (hU : ∃ b h c p, bU M b h c p) (hN : ∃ k s q, bN M k s q) (hR : ∃ k r v m, bR M n k r v m) (hH : ∃ lo hi, bH M lo hi) (hO : ∃ k, bO M k) : Inv M2 := by
  have f : ∀ i j, ¬ ((3 ≤ i ∧ i ≤ 6) ∨ i = 17 ∨ (21 ≤ i ∧ i ≤ 23) ∨ (27 ≤ i ∧ i ≤ 86) ∨ (162 ≤ i ∧ i ≤ 165) ∨ i = 183 ∨ i = 184 ∨ i = 185 ∨ i = 189 ∨ i = 191 ∨ i = 192 ∨ i = 193 ∨ (i = 182 ∧ (j = 1 ∨ j = 19))) → M2 i j = M i j := fun i j hn => by rw [f2 i j (by omega), f1 i j (by omega)]
  obtain ⟨ld, pa, wh, l, ln, sc, cb⟩ := y
  obtain ⟨w, s, d, hG⟩ := hG
  obtain ⟨b, h, c, p, hU⟩ := hU
  obtain ⟨k, s', q, hN⟩ := hN
  obtain ⟨k2, r, v, m2, hR⟩ := hR
  obtain ⟨lo, hi, hH⟩ := hH
  obtain ⟨k3, hO⟩ := hO
  exact ⟨n, t, ld, ⟨cW_frame hc (funext fun j => f2 3 j (by omega)) (funext fun j => f2 4 j (by omega)) (funext fun j => f2 5 j (by omega)) (funext fun j => f2 6 j (by omega)), hm⟩, ⟨w, s, d, bG_same (fun i j hk => f i j (by unfold kG at hk; omega)) hG⟩, ⟨b, h, c, p, bU_same (fun i j hk => f i j (by unfold kU at hk; omega)) hU⟩, ⟨k, s', q, bN_same (fun i j hk => f i j (by unfold kN at hk; omega)) hN⟩, ⟨k2, r, v, m2, bR_same (fun i j hk => f i j (by unfold kR at hk; omega)) hR⟩, ⟨lo, hi, bH_same (fun i j hk => f i j (by unfold kH at hk; omega)) hH⟩, ⟨k3, bO_same (fun i j hk => f i j (by unfold kO at hk; omega)) hO⟩, np, pe, we, wi, wh, se, pa, l, ln, sc, cb, cP_same (fun i j h1 h2 => f2 i j (by omega)) hP, hQ, hw⟩
section
variable {M : e_Me}
theorem l_roll (h : Inv M) : ∃ r M1 M2, ew_roll M = some (r, M1) ∧ md_roll M1 = some (r, M2) ∧ Inv M2 := by
  obtain ⟨n, t, ld, ⟨hc, hn, ht, hl⟩, hG, hU, hN, hR, hH, hO, np, pe, we, wi, wh, se, pa, l, ln, sc, cb, hP, hQ, hwf⟩ := id h
  have hb := okn_b hc.1
  obtain ⟨A, a1, a2, a3, a4⟩ := copy_ok hc
  have hcA : cW A n t ld := cW_frame hc (funext fun j => a4 3 j (by omega)) (funext fun j => a4 4 j (by omega)) (funext fun j => a4 5 j (by omega)) (funext fun j => a4 6 j (by omega))
  obtain ⟨B, b1, b2, b3⟩ := toRest_ok hcA (fun c hc2 => hc.2.2.2.2.2.2.2 c (by omega)) a3 a2 hc.2.1
  have hcB : cW B n t ld := cW_frame hcA (funext fun j => b3 3 j (by omega)) (funext fun j => b3 4 j (by omega)) (funext fun j => b3 5 j (by omega)) (funext fun j => b3 6 j (by omega))
  have hlt := rlF_lt (g := lnZ n (fun c => (ld c : Int))) (show 0 < n by omega) n t 0 hc.2.1
  obtain ⟨C, c1, c2, c3⟩ := wh_turnTo_ok hcB hlt
  have fC : ∀ i j, ¬ (i = 3 ∨ i = 163 ∨ (i = 162 ∧ j = 4)) → C i j = M i j := fun i j hij => by rw [c3 i (by omega), b3 _ _ (by omega), a4 _ _ (by omega)]
  obtain ⟨D, d1, d2, d3⟩ := rollOn_ok (M := C) (t := t) (f := fun c => (ld c : Int)) hc.1 (cW_ld hc) hc.2.1 (by rw [fC _ _ (by omega), hn]) (by rw [fC _ _ (by omega), ht]) (fun c hc => by rw [fC _ _ (by omega), hl c (by omega)]; rfl)
  have x1 : ew_roll M = some ((rlF n (lnZ n (fun c => (ld c : Int))) n t 0).1, C) := by
    simp only [ew_roll, rl_rollNow, a1, x_bd_s, b1, x_bi_s, b2, c1]
  have x2 : md_roll C = some ((rlF n (lnZ n (fun c => (ld c : Int))) n t 0).1, D) := by
    simp only [md_roll, d1, x_bi_s]
  exact ⟨_, C, D, x1, x2, turn_inv (M := M) (M1 := C) (y := (ld, pa, wh, l, ln, sc, cb)) c2 (cP_same (fun i j h1 h2 => fC i j (by omega)) hP) (fun i j hij => fC i j (by omega)) ⟨by rw [d3 _ _ (by omega), fC _ _ (by omega), hn], d2, fun c hc => by rw [d3 _ _ (by omega), fC _ _ (by omega)]; exact hl c hc⟩ (mP_same (fun i j hij => by rw [d3 _ _ (by omega), fC _ _ (by omega)]) hQ) (fun i j hij => d3 i j (by omega)) hwf hG hU hN hR hH hO⟩
end
