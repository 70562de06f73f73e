/-! which CABINS have a LOAD; LEAN by what is left: the class; the reference -/
section
variable {n tt : Nat} {ld : Nat → Nat}
theorem gaC (h9 : ∀ c, c < 30 → ld c ≤ 900) : ∀ (d c F : Nat) (M : e_Me), c + d = n → d < F → cW M n tt ld → M 88 1 = nI (cnL c ld) → M 90 1 = nI (cnL c ld) → cnL c ld ≤ 6 → (∀ i, i < cnL c ld → M 89 i = nI (loA ld c i) ∧ M 91 i = nI i) →
    (6 < cnL n ld ∧ ∃ M', em_gather_l16 F (nI c) M = some (0, M') ∧ ∀ a b, ¬ (a = 89 ∨ a = 91 ∨ ((a = 88 ∨ a = 90) ∧ b = 1)) → M' a b = M a b) ∨
    (cnL n ld ≤ 6 ∧ ∃ M', em_gather_l16 F (nI c) M = em_gather_b81 M' ∧ M' 88 1 = nI (cnL n ld) ∧ M' 90 1 = nI (cnL n ld) ∧ (∀ i, i < cnL n ld → M' 89 i = nI (loA ld n i) ∧ M' 91 i = nI i) ∧ ∀ a b, ¬ (a = 89 ∨ a = 91 ∨ ((a = 88 ∨ a = 90) ∧ b = 1)) → M' a b = M a b) := by
  intro d
  induction d with
  | zero =>
    intro c F M e1 e2 hc h1 h2 h3 h4
    obtain ⟨F, rfl⟩ : ∃ F', F = F' + 1 := ⟨F - 1, by omega⟩
    have hb := okn_b hc.1
    have e : c = n := by omega
    subst e
    exact Or.inr ⟨h3, M, by simp (disch := omega) only [x_bd_s, x_bi_s, x_lt_e, x_rd_n, x_wr_n, x_ra_n, x_dv_n, s_lt, s_le, s_eq, s_lt0, s_le0, s_0lt, s_0le, s_eq0, s_sub, s_rem, s_div, s_in, bI_0, bI_1, x_gb_b, x_gb_0, x_gb_1, nI_add, nI_1, s_size, s_abs, s_max, iI_mul, iI_add, iI_neg, Nat.le_refl, Nat.lt_irrefl, if_true, if_false, ite_true, ite_false, not_true, not_false_eq_true, em_gather_l16, wh_count, hc.2.2.1], h1, h2, h4, fun a b _ => rfl⟩
  | succ d ih =>
    intro c F M e1 e2 hc h1 h2 h3 h4
    obtain ⟨F, rfl⟩ : ∃ F', F = F' + 1 := ⟨F - 1, by omega⟩
    have hb := okn_b hc.1
    have c1 : ¬ n ≤ c := by omega
    have hl := wh_loadOf_ok hc (show c < n by omega)
    have hl9 := h9 c (by omega)
    by_cases z : ld c = 0
    · have es : cnL (c + 1) ld = cnL c ld := by rw [cnL_s, if_pos z, Nat.add_zero]
      have ea : loA ld (c + 1) = loA ld c := by rw [loA, if_pos z]
      have i1 := ih (c + 1) F M (by omega) (by omega) hc (by rw [es, h1]) (by rw [es, h2]) (by rw [es]; exact h3) (by rw [es, ea]; exact h4)
      have e0 : em_gather_l16 (F + 1) (nI c) M = em_gather_l16 F (nI (c + 1)) M := by
        simp (disch := omega) only [x_bd_s, x_bi_s, x_lt_e, x_rd_n, x_wr_n, x_ra_n, x_dv_n, s_lt, s_le, s_eq, s_lt0, s_le0, s_0lt, s_0le, s_eq0, s_sub, s_rem, s_div, s_in, bI_0, bI_1, x_gb_b, x_gb_0, x_gb_1, nI_add, nI_1, s_size, s_abs, s_max, iI_mul, iI_add, iI_neg, Nat.le_refl, Nat.lt_irrefl, if_true, if_false, ite_true, ite_false, not_true, not_false_eq_true, em_gather_l16, wh_count, hc.2.2.1, c1, hl, z]
      rw [e0]
      exact i1
    · have es : cnL (c + 1) ld = cnL c ld + 1 := by rw [cnL_s, if_neg z]
      have ea : loA ld (c + 1) = upn (loA ld c) (cnL c ld) c := by rw [loA, if_neg z]
      have rm := ro_hasRoom_ok (M := M) cap_em.1 h1 h3 (by omega)
      by_cases g : cnL c ld < 6
      · have a1 := ro_append_ok (M := M) (x := nI (cnL c ld)) cap_em.2.1 h2 g (by omega)
        generalize hA : e_up (e_up M (90 + 1) (cnL c ld) (nI (cnL c ld))) 90 1 (nI (cnL c ld + 1)) = A at a1
        have b1 := ro_append_ok (M := A) (x := nI c) cap_em.1 (m := cnL c ld) (by rw [← hA, e_up_o (by omega), e_up_o (by omega), h1]) g (by omega)
        generalize hB : e_up (e_up A (88 + 1) (cnL c ld) (nI c)) 88 1 (nI (cnL c ld + 1)) = B at b1
        have fB : ∀ a b, ¬ (a = 89 ∨ a = 91 ∨ ((a = 88 ∨ a = 90) ∧ b = 1)) → B a b = M a b := fun a b hab => by
          rw [← hB, e_up_o (by omega), e_up_o (by omega), ← hA, e_up_o (by omega), e_up_o (by omega)]
        have e0 : em_gather_l16 (F + 1) (nI c) M = em_gather_l16 F (nI (c + 1)) B := by
          simp (disch := omega) only [x_bd_s, x_bi_s, x_lt_e, x_rd_n, x_wr_n, x_ra_n, x_dv_n, s_lt, s_le, s_eq, s_lt0, s_le0, s_0lt, s_0le, s_eq0, s_sub, s_rem, s_div, s_in, bI_0, bI_1, x_gb_b, x_gb_0, x_gb_1, nI_add, nI_1, s_size, s_abs, s_max, iI_mul, iI_add, iI_neg, Nat.le_refl, Nat.lt_irrefl, if_true, if_false, ite_true, ite_false, not_true, not_false_eq_true, em_gather_l16, wh_count, hc.2.2.1, c1, hl, z, rm, g, ro_count_ok cap_em.1, h1, a1, b1]
        have i1 := ih (c + 1) F B (by omega) (by omega) (cW_frame hc (funext fun j => fB 3 j (by omega)) (funext fun j => fB 4 j (by omega)) (funext fun j => fB 5 j (by omega)) (funext fun j => fB 6 j (by omega))) (by rw [es, ← hB, e_up_e]) (by rw [es, ← hB, e_up_o (by omega), e_up_o (by omega), ← hA, e_up_e]) (by omega) (fun i hi => by
          rw [es] at hi
          rw [ea, ← hB, e_up_o (a := 89) (by omega), e_up_o (i := 88) (a := 91) (by omega), e_up_o (i := 88 + 1) (a := 91) (by omega), ← hA, e_up_o (i := 90) (a := 91) (by omega)]
          by_cases e : i = cnL c ld
          · rw [e, show 89 = 88 + 1 from rfl, show 91 = 90 + 1 from rfl, e_up_e, e_up_e, upn_e]
            exact ⟨rfl, rfl⟩
          · rw [e_up_o (a := 89) (by omega), e_up_o (a := 91) (by omega), e_up_o (a := 89) (by omega), e_up_o (a := 89) (by omega), upn_o e]
            exact h4 i (by omega))
        rw [e0]
        rcases i1 with ⟨x1, M', x2, x3⟩ | ⟨x1, M', x2, x3, x4, x5, x6⟩
        · exact Or.inl ⟨x1, M', x2, fun a b hab => by rw [x3 a b hab, fB a b hab]⟩
        · exact Or.inr ⟨x1, M', x2, x3, x4, x5, fun a b hab => by rw [x6 a b hab, fB a b hab]⟩
      · left
        have := cnL_mono (ld := ld) (a := c + 1) (b := n) (by omega)
        refine ⟨by omega, M, ?_, fun a b _ => rfl⟩
        simp (disch := omega) only [x_bd_s, x_bi_s, x_lt_e, x_rd_n, x_wr_n, x_ra_n, x_dv_n, s_lt, s_le, s_eq, s_lt0, s_le0, s_0lt, s_0le, s_eq0, s_sub, s_rem, s_div, s_in, bI_0, bI_1, x_gb_b, x_gb_0, x_gb_1, nI_add, nI_1, s_size, s_abs, s_max, iI_mul, iI_add, iI_neg, Nat.le_refl, Nat.lt_irrefl, if_true, if_false, ite_true, ite_false, not_true, not_false_eq_true, em_gather_l16, wh_count, hc.2.2.1, c1, hl, z, rm, g]
theorem l78_ok {k2 k35 : Int32 → e_Me → Option e_Me} {a1 a3 : Int32} {P t : Nat} {w : Int} (hP : P ≤ 32) (ht : t < 30) : ∀ (d r F : Nat) (M : e_Me), r + d = P → d < F →
    ∃ M', em_weighRests_l78 k2 k35 a1 (nI P) a3 (nI t) (iI w) F (nI r) M = k35 (nI (t + 1)) M' ∧ (∀ q, r ≤ q → q < P → M' (95 + P + q) t = M (95 + q) t + iI w) ∧ ∀ a b, ¬ (95 + P + r ≤ a ∧ a < 95 + P + P ∧ b = t) → M' a b = M a b := by
  intro d
  induction d with
  | zero =>
    intro r F M e1 e2
    obtain ⟨F, rfl⟩ : ∃ F', F = F' + 1 := ⟨F - 1, by omega⟩
    have e : r = P := by omega
    subst e
    exact ⟨M, by simp (disch := omega) only [x_bd_s, x_bi_s, x_lt_e, x_rd_n, x_wr_n, x_ra_n, x_dv_n, s_lt, s_le, s_eq, s_lt0, s_le0, s_0lt, s_0le, s_eq0, s_sub, s_rem, s_div, s_in, bI_0, bI_1, x_gb_b, x_gb_0, x_gb_1, nI_add, nI_1, s_size, s_abs, s_max, iI_mul, iI_add, iI_neg, Nat.le_refl, Nat.lt_irrefl, if_true, if_false, ite_true, ite_false, not_true, not_false_eq_true, em_weighRests_l78], fun q h1 h2 => by omega, fun a b _ => rfl⟩
  | succ d ih =>
    intro r F M e1 e2
    obtain ⟨F, rfl⟩ : ∃ F', F = F' + 1 := ⟨F - 1, by omega⟩
    have c1 : ¬ P ≤ r := by omega
    obtain ⟨M', k1, k2', k3⟩ := ih (r + 1) F (e_up M (95 + (r + P)) t (M (95 + r) t + iI w)) (by omega) (by omega)
    refine ⟨M', ?_, fun q h1 h2 => ?_, fun a b hab => by rw [k3 a b (by omega), e_up_o (by omega)]⟩
    · simp (disch := omega) only [x_bd_s, x_bi_s, x_lt_e, x_rd_n, x_wr_n, x_ra_n, x_dv_n, s_lt, s_le, s_eq, s_lt0, s_le0, s_0lt, s_0le, s_eq0, s_sub, s_rem, s_div, s_in, bI_0, bI_1, x_gb_b, x_gb_0, x_gb_1, nI_add, nI_1, s_size, s_abs, s_max, iI_mul, iI_add, iI_neg, Nat.le_refl, Nat.lt_irrefl, if_true, if_false, ite_true, ite_false, not_true, not_false_eq_true, em_weighRests_l78, c1, arl_95 (r + P) (show r + P < 64 by omega), arl_95 r (show r < 64 by omega)]
      exact k1
    · by_cases e : q = r
      · subst e
        rw [k3 _ _ (by omega), show 95 + P + q = 95 + (q + P) by omega, e_up_e]
      · rw [k2' q (by omega) h2, e_up_o (by omega)]
theorem l35_ok {k2 : Int32 → e_Me → Option e_Me} {k0 P c : Nat} (hk0 : k0 < 100) (hP : P ≤ 32) (hcn : c < n) : ∀ (d t F : Nat) (M : e_Me), t + d = n → d < F → cW M n tt ld →
    ∃ M', em_weighRests_l35 k2 (nI k0) (nI P) (nI c) F (nI t) M = k2 (nI (k0 + 1)) M' ∧ (∀ q, q < P → ∀ τ, t ≤ τ → τ < n → M' (95 + P + q) τ = M (95 + q) τ + iI ((ld c : Int) * armZ n ((c + τ) % n))) ∧ ∀ a b, ¬ (95 + P ≤ a ∧ a < 95 + P + P ∧ t ≤ b) → M' a b = M a b := by
  intro d
  induction d with
  | zero =>
    intro t F M e1 e2 hc
    obtain ⟨F, rfl⟩ : ∃ F', F = F' + 1 := ⟨F - 1, by omega⟩
    have hb := okn_b hc.1
    have e : t = n := by omega
    subst e
    exact ⟨M, by simp (disch := omega) only [x_bd_s, x_bi_s, x_lt_e, x_rd_n, x_wr_n, x_ra_n, x_dv_n, s_lt, s_le, s_eq, s_lt0, s_le0, s_0lt, s_0le, s_eq0, s_sub, s_rem, s_div, s_in, bI_0, bI_1, x_gb_b, x_gb_0, x_gb_1, nI_add, nI_1, s_size, s_abs, s_max, iI_mul, iI_add, iI_neg, Nat.le_refl, Nat.lt_irrefl, if_true, if_false, ite_true, ite_false, not_true, not_false_eq_true, em_weighRests_l35, wh_count, hc.2.2.1], fun q _ τ h1 h2 => by omega, fun a b _ => rfl⟩
  | succ d ih =>
    intro t F M e1 e2 hc
    obtain ⟨F, rfl⟩ : ∃ F', F = F' + 1 := ⟨F - 1, by omega⟩
    have hb := okn_b hc.1
    have c1 : ¬ n ≤ t := by omega
    have c2 : ¬ 30 ≤ t := by omega
    have e3 : nI (ld c) * iI (armZ n ((c + t) % n)) = iI ((ld c : Int) * armZ n ((c + t) % n)) := by rw [nI_iI, iI_mul]
    obtain ⟨A, a1, a2, a3⟩ := l78_ok (k2 := k2) (k35 := em_weighRests_l35 k2 (nI k0) (nI P) (nI c) F) (a1 := nI k0) (a3 := nI c) (w := (ld c : Int) * armZ n ((c + t) % n)) hP (show t < 30 by omega) P 0 e_F M (by omega) (by have := e_Fge; omega)
    rw [nI_0] at a1
    obtain ⟨M', k1, k2', k3⟩ := ih (t + 1) F A (by omega) (by omega) (cW_frame hc (funext fun j => a3 3 j (by omega)) (funext fun j => a3 4 j (by omega)) (funext fun j => a3 5 j (by omega)) (funext fun j => a3 6 j (by omega)))
    refine ⟨M', ?_, fun q hq τ h1 h2 => ?_, fun a b hab => by rw [k3 a b (by omega), a3 a b (by omega)]⟩
    · simp (disch := omega) only [x_bd_s, x_bi_s, x_lt_e, x_rd_n, x_wr_n, x_ra_n, x_dv_n, s_lt, s_le, s_eq, s_lt0, s_le0, s_0lt, s_0le, s_eq0, s_sub, s_rem, s_div, s_in, bI_0, bI_1, x_gb_b, x_gb_0, x_gb_1, nI_add, nI_1, s_size, s_abs, s_max, iI_mul, iI_add, iI_neg, Nat.le_refl, Nat.lt_irrefl, if_true, if_false, ite_true, ite_false, not_true, not_false_eq_true, em_weighRests_l35, wh_count, hc.2.2.1, c1, show (30 : Int32) = nI 30 from rfl, c2, wh_loadOf_ok hc hcn, wh_armOf_ok hc hcn (show t < n by omega), e3]
      rw [nI_iI, iI_mul] at *
      rw [a1]
      exact k1
    · by_cases e : τ = t
      · subst e
        rw [k3 _ _ (by omega), a2 q (by omega) hq]
      · rw [k2' q hq τ (by omega) h2, a3 _ _ (by omega)]
theorem weigh_ok {k : Nat} (hk : k = cnL n ld) (h6 : k ≤ 6) : ∀ (d j F : Nat) (M : e_Me), j + d = k → d < F → cW M n tt ld → M 88 1 = nI k → (∀ i, i < k → M 89 i = nI (loA ld n i)) → (∀ r, r < 2 ^ j → ∀ τ, τ < n → M (95 + r) τ = iI (lnZ n (fun c => (ldR ld r c : Int)) τ)) →
    ∃ M', em_weighRests_l2 F (nI j) M = some M' ∧ (∀ r, r < 2 ^ k → ∀ τ, τ < n → M' (95 + r) τ = iI (lnZ n (fun c => (ldR ld r c : Int)) τ)) ∧ ∀ a b, ¬ (96 ≤ a ∧ a ≤ 158) → M' a b = M a b := by
  intro d
  induction d with
  | zero =>
    intro j F M e1 e2 hc h1 h2 h3
    obtain ⟨F, rfl⟩ : ∃ F', F = F' + 1 := ⟨F - 1, by omega⟩
    have e : j = k := by omega
    subst e
    exact ⟨M, by simp (disch := omega) only [x_bd_s, x_bi_s, x_lt_e, x_rd_n, x_wr_n, x_ra_n, x_dv_n, s_lt, s_le, s_eq, s_lt0, s_le0, s_0lt, s_0le, s_eq0, s_sub, s_rem, s_div, s_in, bI_0, bI_1, x_gb_b, x_gb_0, x_gb_1, nI_add, nI_1, s_size, s_abs, s_max, iI_mul, iI_add, iI_neg, Nat.le_refl, Nat.lt_irrefl, if_true, if_false, ite_true, ite_false, not_true, not_false_eq_true, em_weighRests_l2, ro_count_ok cap_em.1, h1], h3, fun a b _ => rfl⟩
  | succ d ih =>
    intro j F M e1 e2 hc h1 h2 h3
    obtain ⟨F, rfl⟩ : ∃ F', F = F' + 1 := ⟨F - 1, by omega⟩
    have hj : j < k := by omega
    have c1 : ¬ k ≤ j := by omega
    have c2 : ¬ 6 ≤ j := by omega
    have hj5 : j < 6 := by omega
    obtain ⟨q1, q2, q3⟩ := loA_ok (ld := ld) (c := n) (i := j) (by omega)
    have hp := pow_b j (by omega)
    have hp2 : 2 ^ j ≤ 32 := by
      have : ∀ j, j < 6 → 2 ^ j ≤ 32 := by decide
      exact this j hj5
    have at1 := ro_at_ok (M := M) cap_em.1 h1 h6 (show 6 ≤ 1000 by omega) hj
    rw [show 88 + 1 = 89 from rfl, h2 j hj] at at1
    obtain ⟨A, a1, a2, a3⟩ := l35_ok (k2 := em_weighRests_l2 F) (k0 := j) (P := 2 ^ j) (c := loA ld n j) (tt := tt) (ld := ld) (n := n) (by omega) hp2 q1 n 0 e_F M (by omega) (by have := okn_b hc.1; have := e_Fge; omega) hc
    rw [nI_0] at a1
    have hps : 2 ^ (j + 1) = 2 ^ j + 2 ^ j := by rw [Nat.pow_succ]; omega
    obtain ⟨M', k1, k2, k3⟩ := ih (j + 1) F A (by omega) (by omega) (cW_frame hc (funext fun i => a3 3 i (by omega)) (funext fun i => a3 4 i (by omega)) (funext fun i => a3 5 i (by omega)) (funext fun i => a3 6 i (by omega))) (by rw [a3 _ _ (by omega), h1]) (fun i hi => by rw [a3 _ _ (by omega), h2 i hi]) (fun r hr τ hτ => by
      rw [hps] at hr
      by_cases g : r < 2 ^ j
      · rw [a3 _ _ (by omega), h3 r g τ hτ]
      · have e := a2 (r - 2 ^ j) (by omega) τ (by omega) hτ
        rw [show 95 + 2 ^ j + (r - 2 ^ j) = 95 + r by omega, h3 _ (by omega) τ hτ, iI_add] at e
        rw [e, ← lnZ_upd q1]
        congr 1
        refine lnZ_cong (fun c hc2 => ?_)
        have e2 := ldR_add (ld := ld) (n := n) (k := j) (r := r - 2 ^ j) (c := loA ld n j) (d := c) (by omega) hc2 hj5 (by omega) q2 q3
        rw [show r - 2 ^ j + 2 ^ j = r by omega] at e2
        rw [e2]
        by_cases e3 : c = loA ld n j
        · simp [e3]
        · simp [e3])
    refine ⟨M', ?_, k2, fun a b hab => by rw [k3 a b hab, a3 _ _ (by omega)]⟩
    simp (disch := omega) only [em_weighRests_l2, ro_count_ok cap_em.1, h1, x_bd_s, s_le, c1, if_false, show (6 : Int32) = nI 6 from rfl, c2, x_lt_e, pow_i j (by omega), at1, a1]
    exact k1
/-- all that gathering leaves -/
def gC (M : e_Me) (n : Nat) (ld f : Nat → Nat) : Prop := M 88 1 = nI (cnL n ld) ∧ M 90 1 = nI (cnL n ld) ∧ (∀ i, i < cnL n ld → M 89 i = nI (loA ld n i) ∧ M 91 i = nI (f i)) ∧ ∀ r, r < 2 ^ cnL n ld → ∀ τ, τ < n → M (95 + r) τ = iI (lnZ n (fun c => (ldR ld r c : Int)) τ)
theorem gatherC {M : e_Me} (hc : cW M n tt ld) (h95 : ∀ t, t < 30 → M 95 t = 0) :
    (6 < cnL n ld ∧ ∃ M', em_gather M = some (0, M') ∧ ∀ a b, ¬ (88 ≤ a ∧ a ≤ 91) → M' a b = M a b) ∨
    (cnL n ld ≤ 6 ∧ ∃ M', em_gather M = some (1, M') ∧ gC M' n ld (fun i => i) ∧ ∀ a b, ¬ ((88 ≤ a ∧ a ≤ 91) ∨ (96 ≤ a ∧ a ≤ 158)) → M' a b = M a b) := by
  have hb := okn_b hc.1
  have h9 := hc.2.2.2.2.2.2.2
  generalize hA : e_up (e_up M 88 1 0) 90 1 0 = A
  have fA : ∀ a b, ¬ (88 ≤ a ∧ a ≤ 91) → A a b = M a b := fun a b hab => by rw [← hA, e_up_o (by omega), e_up_o (by omega)]
  have e0 : em_gather M = em_gather_l16 e_F 0 A := by
    simp only [em_gather, ro_clear_ok cap_em.1, ro_clear_ok cap_em.2.1, x_bd_s]
    rw [hA]
  have hcA : cW A n tt ld := cW_frame hc (funext fun j => fA 3 j (by omega)) (funext fun j => fA 4 j (by omega)) (funext fun j => fA 5 j (by omega)) (funext fun j => fA 6 j (by omega))
  have k := gaC h9 n 0 e_F A (by omega) (by have := e_Fge; omega) hcA (by rw [← hA, e_up_o (by omega), e_up_e]; rfl) (by rw [← hA, e_up_e]; rfl) (Nat.zero_le _) (fun i hi => absurd hi (Nat.not_lt_zero _))
  rw [nI_0] at k
  rcases k with ⟨x1, M', x2, x3⟩ | ⟨x1, M', x2, x3, x4, x5, x6⟩
  · exact Or.inl ⟨x1, M', by rw [e0, x2], fun a b hab => by rw [x3 a b (by omega), fA a b hab]⟩
  · right
    refine ⟨x1, ?_⟩
    have fM : ∀ a b, ¬ (88 ≤ a ∧ a ≤ 91) → M' a b = M a b := fun a b hab => by rw [x6 a b (by omega), fA a b hab]
    obtain ⟨B, b1, b2, b3⟩ := weigh_ok (tt := tt) rfl x1 (cnL n ld) 0 e_F M' (by omega) (by have := e_Fge; omega) (cW_frame hc (funext fun j => fM 3 j (by omega)) (funext fun j => fM 4 j (by omega)) (funext fun j => fM 5 j (by omega)) (funext fun j => fM 6 j (by omega))) x3 (fun i hi => (x5 i hi).1) (fun r hr τ hτ => by
      have e : r = 0 := by
        have : r < 1 := hr
        omega
      subst e
      have e1 : lnZ n (fun c => (ldR ld 0 c : Int)) τ = 0 := by
        rw [lnZ_cong (g := fun _ => ((0 : Nat) : Int)) (fun c _ => by rw [ldR_0])]
        exact lnZ_0
      rw [e1, fM _ _ (by omega), h95 τ (by omega)]
      rfl)
    rw [nI_0] at b1
    refine ⟨B, ?_, ⟨by rw [b3 _ _ (by omega), x3], by rw [b3 _ _ (by omega), x4], fun i hi => ?_, b2⟩, fun a b hab => by rw [b3 _ _ (by omega), fM _ _ (by omega)]⟩
    · rw [e0, x2]
      simp only [em_gather_b81, em_weighRests, b1, x_bd_s]
    · rw [b3 _ _ (by omega), b3 _ _ (by omega)]
      exact x5 i hi
/-- what the reference finds -/
def gM (M : e_Me) (n : Nat) (ld : Nat → Nat) : Prop := M 182 24 = nI (cnL n ld) ∧ (∀ i, i < cnL n ld → M 194 i = nI (loA ld n i)) ∧ ∀ q, q < n → M 193 q = nI (ld q)
theorem findM {M : e_Me} (hn : n ≤ 30) (h9 : ∀ c, c < n → ld c ≤ 900) (h0 : M 182 0 = nI n) (hl : ∀ c, c < n → M 185 c = nI (ld c)) : ∃ M', md_findLoaded M = some M' ∧ gM M' n ld ∧ ∀ a b, ¬ (a = 193 ∨ a = 194 ∨ (a = 182 ∧ b = 24)) → M' a b = M a b := by
  have key : ∀ (d c F : Nat) (M1 : e_Me), c + d = n → d < F → M1 182 24 = nI (cnL c ld) → (∀ i, i < cnL c ld → M1 194 i = nI (loA ld c i)) → (∀ q, q < c → M1 193 q = nI (ld q)) → (∀ a b, ¬ (a = 193 ∨ a = 194 ∨ (a = 182 ∧ b = 24)) → M1 a b = M a b) →
      ∃ M', md_findLoaded_l7 F (nI c) M1 = some M' ∧ gM M' n ld ∧ ∀ a b, ¬ (a = 193 ∨ a = 194 ∨ (a = 182 ∧ b = 24)) → M' a b = M a b := by
    intro d
    induction d with
    | zero =>
      intro c F M1 e1 e2 h1 h2 h3 h4
      obtain ⟨F, rfl⟩ : ∃ F', F = F' + 1 := ⟨F - 1, by omega⟩
      have e : c = n := by omega
      subst e
      exact ⟨M1, by simp (disch := omega) only [x_bd_s, x_bi_s, x_lt_e, x_rd_n, x_wr_n, x_ra_n, x_dv_n, s_lt, s_le, s_eq, s_lt0, s_le0, s_0lt, s_0le, s_eq0, s_sub, s_rem, s_div, s_in, bI_0, bI_1, x_gb_b, x_gb_0, x_gb_1, nI_add, nI_1, s_size, s_abs, s_max, iI_mul, iI_add, iI_neg, Nat.le_refl, Nat.lt_irrefl, if_true, if_false, ite_true, ite_false, not_true, not_false_eq_true, md_findLoaded_l7, h4 182 0 (by omega), h0], ⟨h1, h2, h3⟩, h4⟩
    | succ d ih =>
      intro c F M1 e1 e2 h1 h2 h3 h4
      obtain ⟨F, rfl⟩ : ∃ F', F = F' + 1 := ⟨F - 1, by omega⟩
      have c1 : ¬ n ≤ c := by omega
      have hcn : c < n := by omega
      have hl9 := h9 c hcn
      have hcl := cnL_le c ld
      have l185 : M1 185 c = nI (ld c) := by rw [h4 _ _ (by omega), hl c hcn]
      generalize hA : e_up M1 193 c (nI (ld c)) = A
      have fA : ∀ a b, ¬ (a = 193) → A a b = M1 a b := fun a b hab => by rw [← hA, e_up_o (by omega)]
      have f193 : ∀ q, q < c + 1 → A 193 q = nI (ld q) := fun q hq => by
        rw [← hA]
        by_cases e : q = c
        · subst e
          rw [e_up_e]
        · rw [e_up_o (by omega), h3 q (by omega)]
      by_cases z : ld c = 0
      · have es : cnL (c + 1) ld = cnL c ld := by rw [cnL_s, if_pos z, Nat.add_zero]
        have ea : loA ld (c + 1) = loA ld c := by rw [loA, if_pos z]
        obtain ⟨M', k1, k2, k3⟩ := ih (c + 1) F A (by omega) (by omega) (by rw [es, fA _ _ (by omega), h1]) (fun i hi => by rw [es] at hi; rw [ea, fA _ _ (by omega), h2 i hi]) f193 (fun a b hab => by rw [fA _ _ (by omega), h4 a b hab])
        refine ⟨M', ?_, k2, k3⟩
        have e193 : A 185 c = nI (ld c) := by rw [fA _ _ (by omega), l185]
        simp (disch := omega) only [md_findLoaded_l7, h4 182 0 (by omega), h0, s_le, c1, if_false, x_rd_n, l185, x_wr_n]
        rw [hA]
        simp (disch := omega) only [x_bd_s, x_bi_s, x_lt_e, x_rd_n, x_wr_n, x_ra_n, x_dv_n, s_lt, s_le, s_eq, s_lt0, s_le0, s_0lt, s_0le, s_eq0, s_sub, s_rem, s_div, s_in, bI_0, bI_1, x_gb_b, x_gb_0, x_gb_1, nI_add, nI_1, s_size, s_abs, s_max, iI_mul, iI_add, iI_neg, Nat.le_refl, Nat.lt_irrefl, if_true, if_false, ite_true, ite_false, not_true, not_false_eq_true, e193, z]
        exact k1
      · have es : cnL (c + 1) ld = cnL c ld + 1 := by rw [cnL_s, if_neg z]
        have ea : loA ld (c + 1) = upn (loA ld c) (cnL c ld) c := by rw [loA, if_neg z]
        generalize hB : e_up (e_up A 194 (cnL c ld) (nI c)) 182 24 (nI (cnL c ld + 1)) = B
        obtain ⟨M', k1, k2, k3⟩ := ih (c + 1) F B (by omega) (by omega) (by rw [es, ← hB, e_up_e]) (fun i hi => by
          rw [es] at hi
          rw [ea, ← hB, e_up_o (by omega)]
          by_cases e : i = cnL c ld
          · rw [e, e_up_e, upn_e]
          · rw [e_up_o (by omega), fA _ _ (by omega), upn_o e, h2 i (by omega)]) (fun q hq => by rw [← hB, e_up_o (by omega), e_up_o (by omega), f193 q hq]) (fun a b hab => by rw [← hB, e_up_o (by omega), e_up_o (by omega), fA _ _ (by omega), h4 a b hab])
        refine ⟨M', ?_, k2, k3⟩
        have e193 : A 185 c = nI (ld c) := by rw [fA _ _ (by omega), l185]
        have e24 : A 182 24 = nI (cnL c ld) := by rw [fA _ _ (by omega), h1]
        simp (disch := omega) only [md_findLoaded_l7, h4 182 0 (by omega), h0, s_le, c1, if_false, x_rd_n, l185, x_wr_n]
        rw [hA]
        simp (disch := omega) only [x_bd_s, x_bi_s, x_lt_e, x_rd_n, x_wr_n, x_ra_n, x_dv_n, s_lt, s_le, s_eq, s_lt0, s_le0, s_0lt, s_0le, s_eq0, s_sub, s_rem, s_div, s_in, bI_0, bI_1, x_gb_b, x_gb_0, x_gb_1, nI_add, nI_1, s_size, s_abs, s_max, iI_mul, iI_add, iI_neg, Nat.le_refl, Nat.lt_irrefl, if_true, if_false, ite_true, ite_false, not_true, not_false_eq_true, e193, z, e24, e_up_o]
        rw [hB]
        exact k1
  obtain ⟨M', k1, k2, k3⟩ := key n 0 e_F (e_up M 182 24 0) (by omega) (by have := e_Fge; omega) (by rw [e_up_e]; rfl) (fun i hi => absurd hi (Nat.not_lt_zero _)) (fun q hq => by omega) (fun a b hab => e_up_o (by omega))
  rw [nI_0] at k1
  refine ⟨M', ?_, k2, k3⟩
  simp only [md_findLoaded, x_lt_e, k1]
end
