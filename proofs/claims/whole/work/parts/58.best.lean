/-! THE BEST ORDER: the class -/
section
variable {k : Nat} {f : Nat → Nat}
/-- the ORDER that stands in the class's row -/
def odC (M : e_Me) (k : Nat) (f : Nat → Nat) : Prop := M 90 1 = nI k ∧ ∀ q, q < k → M 91 q = nI (f q)
theorem od_at {M : e_Me} (hk : k ≤ 6) (h : odC M k f) {i : Nat} (hi : i < k) : ro_at 90 (nI i) M = some (nI (f i)) := by
  rw [ro_at_ok cap_em.2.1 h.1 hk (show 6 ≤ 1000 by omega) hi, h.2 i hi]
theorem swapC {M : e_Me} (hk : k ≤ 6) (h : odC M k f) {i j : Nat} (hi : i < k) (hj : j < k) : ∃ M', ro_swap 90 (nI i) (nI j) M = some M' ∧ odC M' k (swp f i j) ∧ ∀ a b, a ≠ 91 → M' a b = M a b := by
  have s1 := ro_set_ok (M := M) (x := nI (f j)) cap_em.2.1 h.1 hk (show 6 ≤ 1000 by omega) hi
  have s2 := ro_set_ok (M := e_up M (90 + 1) i (nI (f j))) (x := nI (f i)) cap_em.2.1 (m := k) (by rw [e_up_o (by omega), h.1]) hk (show 6 ≤ 1000 by omega) hj
  refine ⟨e_up (e_up M (90 + 1) i (nI (f j))) (90 + 1) j (nI (f i)), ?_, ⟨by rw [e_up_o (by omega), e_up_o (by omega), h.1], fun q hq => ?_⟩, fun a b hab => by rw [e_up_o (by omega), e_up_o (by omega)]⟩
  · simp only [ro_swap, cap_em.2.1, x_bd_s, od_at hk h hi, od_at hk h hj, s1, s2]
  · unfold swp upn
    by_cases e : q = j
    · rw [if_pos e, e, show 91 = 90 + 1 from rfl, e_up_e]
    · rw [if_neg e, e_up_o (by omega)]
      by_cases e2 : q = i
      · rw [if_pos e2, e2, show 91 = 90 + 1 from rfl, e_up_e]
      · rw [if_neg e2, e_up_o (by omega), h.2 q hq]
theorem l10C {M : e_Me} (hk : k ≤ 6) (h : odC M k f) (hf : ∀ q, q < k → f q < 100) : ∀ (i F : Nat), i < F → i < k → em_toNextOrder_l10 M F (iI ((i : Int) - 1)) = em_toNextOrder_b41 (oI (scI f i)) M := by
  intro i
  induction i with
  | zero =>
    intro F h1 h2
    obtain ⟨F, rfl⟩ : ∃ F', F = F' + 1 := ⟨F - 1, by omega⟩
    have e : (iI ((0 : Nat) - 1 : Int) < 0) = True := by decide
    simp only [em_toNextOrder_l10, e, if_true]
    rfl
  | succ i ih =>
    intro F h1 h2
    obtain ⟨F, rfl⟩ : ∃ F', F = F' + 1 := ⟨F - 1, by omega⟩
    have e1 : iI (((i + 1 : Nat) : Int) - 1) = nI i := by
      rw [nI_iI]
      congr 1
      omega
    have a1 := hf i (by omega)
    have a2 := hf (i + 1) (by omega)
    have e2 : nI i + (-1 : Int32) = iI ((i : Int) - 1) := by
      rw [nI_iI, ← iI_m1, iI_add]
      congr 1
    have ih2 := ih F (by omega) (by omega)
    rw [e1]
    by_cases g : f (i + 1) < f i
    · have g2 : ¬ f i ≤ f (i + 1) := by omega
      have es : scI f (i + 1) = scI f i := by rw [scI, if_pos g]
      rw [es]
      simp (disch := omega) only [em_toNextOrder_l10, s_lt0, if_false, od_at hk h (show i < k by omega), x_bd_s, nI_1, od_at hk h h2, s_le, g2, e2]
      exact ih2
    · have g2 : f i ≤ f (i + 1) := by omega
      have es : scI f (i + 1) = some i := by rw [scI, if_neg g]
      rw [es]
      simp (disch := omega) only [em_toNextOrder_l10, s_lt0, if_false, od_at hk h (show i < k by omega), x_bd_s, nI_1, od_at hk h h2, s_le, g2, if_true]
      rfl
theorem l57C {M : e_Me} (hk : k ≤ 6) (h : odC M k f) (hf : ∀ q, q < k → f q < 100) {i : Nat} (hi : i < k) : ∀ (j F : Nat), j < F → j < k → em_toNextOrder_l57 (nI i) M F (nI j) = em_toNextOrder_b87 (nI i) (nI (scJ f i j)) M := by
  intro j
  induction j with
  | zero =>
    intro F h1 h2
    obtain ⟨F, rfl⟩ : ∃ F', F = F' + 1 := ⟨F - 1, by omega⟩
    have c1 : 0 ≤ i := Nat.zero_le _
    simp (disch := omega) only [em_toNextOrder_l57, s_le, c1, if_true]
    rfl
  | succ j ih =>
    intro F h1 h2
    obtain ⟨F, rfl⟩ : ∃ F', F = F' + 1 := ⟨F - 1, by omega⟩
    have a1 := hf i hi
    have a2 := hf (j + 1) h2
    have ih2 := ih F (by omega) (by omega)
    by_cases g : j + 1 ≤ i
    · have es : scJ f i (j + 1) = j + 1 := by rw [scJ, if_pos g]
      rw [es]
      simp (disch := omega) only [em_toNextOrder_l57, s_le, g, if_true]
    · by_cases g2 : f i ≤ f (j + 1)
      · have es : scJ f i (j + 1) = j + 1 := by rw [scJ, if_neg g, if_pos g2]
        rw [es]
        simp (disch := omega) only [em_toNextOrder_l57, s_le, g, if_false, od_at hk h h2, od_at hk h hi, x_bd_s, g2, if_true]
      · have es : scJ f i (j + 1) = scJ f i j := by rw [scJ, if_neg g, if_neg g2]
        have e2 : nI (j + 1) + (-1 : Int32) = nI j := by
          rw [nI_iI, nI_iI, ← iI_m1, iI_add]
          congr 1
          omega
        rw [es]
        simp (disch := omega) only [em_toNextOrder_l57, s_le, g, if_false, od_at hk h h2, od_at hk h hi, x_bd_s, g2, e2]
        exact ih2
theorem scJ_le {f : Nat → Nat} {i : Nat} : ∀ j, scJ f i j ≤ j
  | 0 => Nat.le_refl _
  | j + 1 => by
    rw [scJ]
    split
    · exact Nat.le_refl _
    · split
      · exact Nat.le_refl _
      · have := scJ_le (f := f) (i := i) j
        omega
theorem scI_lt {f : Nat → Nat} : ∀ {j i : Nat}, scI f j = some i → i < j
  | 0, i, h => by cases h
  | j + 1, i, h => by
    rw [scI] at h
    split at h
    · have := scI_lt h
      omega
    · cases h
      omega
theorem l111C (hk : k ≤ 6) {y : Int32} : ∀ (G a b F : Nat) (M : e_Me) (f : Nat → Nat), b ≤ a + 2 * G → G < F → b < k → a ≤ k → odC M k f → ∃ M', em_toNextOrder_l111 y F (nI a) (nI b) M = some (y, M') ∧ odC M' k (rvF G f a b) ∧ ∀ i j, i ≠ 91 → M' i j = M i j := by
  intro G
  induction G with
  | zero =>
    intro a b F M f h1 h2 h3 h4 h
    obtain ⟨F, rfl⟩ : ∃ F', F = F' + 1 := ⟨F - 1, by omega⟩
    have c1 : b ≤ a := by omega
    exact ⟨M, by simp (disch := omega) only [em_toNextOrder_l111, s_le, c1, if_true], h, fun i j _ => rfl⟩
  | succ G ih =>
    intro a b F M f h1 h2 h3 h4 h
    obtain ⟨F, rfl⟩ : ∃ F', F = F' + 1 := ⟨F - 1, by omega⟩
    by_cases c1 : b ≤ a
    · refine ⟨M, by simp (disch := omega) only [em_toNextOrder_l111, s_le, c1, if_true], ?_, fun i j _ => rfl⟩
      rw [rvF, if_pos c1]
      exact h
    · obtain ⟨A, a1, a2, a3⟩ := swapC hk h (show a < k by omega) h3
      obtain ⟨M', k1, k2, k3⟩ := ih (a + 1) (b - 1) F A (swp f a b) (by omega) (by omega) (by omega) (by omega) a2
      have e2 : nI b + (-1 : Int32) = nI (b - 1) := by
        rw [nI_iI, nI_iI, ← iI_m1, iI_add]
        congr 1
        omega
      refine ⟨M', ?_, by rw [rvF, if_neg c1]; exact k2, fun i j hij => by rw [k3 i j hij, a3 i j hij]⟩
      simp (disch := omega) only [em_toNextOrder_l111, s_le, c1, if_false, a1, x_bd_s, nI_1, e2]
      exact k1
theorem nextO {M : e_Me} (hk : k ≤ 6) (h : odC M k f) (hf : ∀ q, q < k → f q < 100) :
    (nxt k f = none ∧ em_toNextOrder M = some (-1, M)) ∨ ∃ i f' M', nxt k f = some (i, f') ∧ em_toNextOrder M = some (nI i, M') ∧ odC M' k f' ∧ ∀ a b, a ≠ 91 → M' a b = M a b := by
  rcases Nat.eq_zero_or_pos k with z | z
  · subst z
    left
    refine ⟨rfl, ?_⟩
    obtain ⟨F, hF⟩ : ∃ F', e_F = F' + 1 := ⟨e_F - 1, by have := e_Fge; omega⟩
    have e1 : nI 0 - (2 : Int32) = iI (-2) := by decide
    have e2 : (iI (-2) < 0) = True := by decide
    have e3 : (0 ≤ iI (-2)) = False := by decide
    simp only [em_toNextOrder, ro_count_ok cap_em.2.1, h.1, x_bd_s, x_lt_e, e1, hF, em_toNextOrder_l10, e2, if_true, em_toNextOrder_b41, e3, if_false]
  · have e0 : nI k - (2 : Int32) = iI (((k - 1 : Nat) : Int) - 1) := by
      rw [nI_iI, show (2 : Int32) = iI 2 from rfl, iI_sub]
      congr 1
      omega
    have l10 := l10C hk h hf (k - 1) e_F (by have := e_Fge; omega) (by omega)
    have e1 : em_toNextOrder M = em_toNextOrder_b41 (oI (scI f (k - 1))) M := by
      simp only [em_toNextOrder, ro_count_ok cap_em.2.1, h.1, x_bd_s, x_lt_e, e0]
      exact l10
    unfold nxt
    cases hs : scI f (k - 1) with
    | none =>
      left
      refine ⟨rfl, ?_⟩
      rw [e1, hs]
      have e3 : (0 ≤ oI none) = False := by decide
      simp only [em_toNextOrder_b41, e3, if_false]
    | some i =>
      right
      have hi := scI_lt hs
      have hj := scJ_le (f := f) (i := i) (k - 1)
      obtain ⟨A, a1, a2, a3⟩ := swapC hk h (show i < k by omega) (show scJ f i (k - 1) < k by omega)
      obtain ⟨B, b1, b2, b3⟩ := l111C (y := nI i) hk 7 (i + 1) (k - 1) e_F A (swp f i (scJ f i (k - 1))) (by omega) (by have := e_Fge; omega) (by omega) (by omega) a2
      refine ⟨i, _, B, rfl, ?_, b2, fun a b hab => by rw [b3 a b hab, a3 a b hab]⟩
      have l57 := l57C hk h hf (show i < k by omega) (k - 1) e_F (by have := e_Fge; omega) (by omega)
      have e5 : nI k - 1 = nI (k - 1) := s_sub (b := 1) (by omega)
      rw [e1, hs]
      show em_toNextOrder_b41 (nI i) M = _
      simp (disch := omega) only [em_toNextOrder_b41, s_0le, if_true, ro_count_ok cap_em.2.1, h.1, x_bd_s, x_lt_e, e5, l57, em_toNextOrder_b87, a1, a2.1, nI_1, b1]
end
/-! the best of all -/
def btr (n t : Nat) (ld : Nat → Nat) (L B : List Nat) : Bool := decide (csT n t ld (lsF L) (cnL n ld) < csT n t ld (lsF B) (cnL n ld) ∨ (csT n t ld (lsF L) (cnL n ld) = csT n t ld (lsF B) (cnL n ld) ∧ stT n t ld (lsF L) (cnL n ld) < stT n t ld (lsF B) (cnL n ld)))
def bsN (n t : Nat) (ld : Nat → Nat) : Nat → List Nat → List Nat → List Nat
  | 0, _, B => B
  | F + 1, L, B => match nxL (cnL n ld) L with
    | none => B
    | some (_, L') => bsN n t ld F L' (if btr n t ld L' B = true then L' else B)
theorem chk_fac {k : Nat} : ∀ {G j : Nat} {L : List Nat}, chkP k G j L = true → j + 1 ≤ facN k
  | 0, j, L, h => by cases h
  | G + 1, j, L, h => by
    rcases (chk_step h).2 with ⟨-, h2⟩ | ⟨i, L', -, -, -, h2⟩
    · omega
    · have := chk_fac h2
      omega
section
variable {n t : Nat} {ld : Nat → Nat}
/-- what the class keeps as the best -/
def bstC (M : e_Me) (n t : Nat) (ld : Nat → Nat) (B : List Nat) : Prop := M 92 1 = nI (cnL n ld) ∧ (∀ i, i < cnL n ld → M 93 i = nI (lsF B i) ∧ lsF B i < cnL n ld) ∧ M 87 8 = nI (csT n t ld (lsF B) (cnL n ld)) ∧ M 87 9 = nI (stT n t ld (lsF B) (cnL n ld))
theorem wholeC {M : e_Me} {f : Nat → Nat} (hk6 : cnL n ld ≤ 6) (hg : gC M n ld f) (hm : meC M n t ld f (cnL n ld)) : em_wholeCost M = some (nI (csT n t ld f (cnL n ld))) ∧ em_wholeSteps M = some (nI (stT n t ld f (cnL n ld))) := by
  obtain ⟨m1, m2, m3⟩ := hm _ (Nat.le_refl _)
  have c1 : ¬ 7 ≤ cnL n ld := by omega
  refine ⟨?_, ?_⟩
  · simp (disch := omega) only [em_wholeCost, ro_count_ok cap_em.2.1, hg.2.1, x_bd_s, s_le, c1, if_false, x_rd_n, m2]
  · simp (disch := omega) only [em_wholeSteps, ro_count_ok cap_em.2.1, hg.2.1, x_bd_s, s_le, c1, if_false, x_rd_n, m3]
theorem keepC {M : e_Me} {L : List Nat} (hk6 : cnL n ld ≤ 6) (hL : ∀ i, i < cnL n ld → lsF L i < cnL n ld) (hg : gC M n ld (lsF L)) (hm : meC M n t ld (lsF L) (cnL n ld)) : ∃ M', em_keepAsBest M = some M' ∧ bstC M' n t ld L ∧ ∀ a b, ¬ (a = 93 ∨ (a = 92 ∧ b = 1) ∨ (a = 87 ∧ (b = 8 ∨ b = 9))) → M' a b = M a b := by
  obtain ⟨A, a1, a2, a3, a4⟩ := ro_copyFrom_ok (M := M) (r := 92) (q := 90) cap_em.2.2 cap_em.2.1 (by omega) hg.2.1 hk6 hk6 (by omega) (by omega)
  have fA : ∀ a b, ¬ (a = 93 ∨ (a = 92 ∧ b = 1)) → A a b = M a b := fun a b hab => a4 a b (by omega)
  have gA : ∀ (B : e_Me), (∀ a b, 88 ≤ a → a ≤ 91 ∨ (95 ≤ a ∧ a ≤ 161) → B a b = M a b) → gC B n ld (lsF L) ∧ meC B n t ld (lsF L) (cnL n ld) := fun B hB => ⟨⟨by rw [hB _ _ (by omega) (by omega), hg.1], by rw [hB _ _ (by omega) (by omega), hg.2.1], fun q hq => by rw [hB _ _ (by omega) (by omega), hB _ _ (by omega) (by omega)]; exact hg.2.2.1 q hq, fun r hr τ hτ => by
    have hp := (pow_b (cnL n ld) (by omega)).1
    rw [hB _ _ (by omega) (by omega), hg.2.2.2 r hr τ hτ]⟩, fun j hj => by rw [hB _ _ (by omega) (by omega), hB _ _ (by omega) (by omega), hB _ _ (by omega) (by omega)]; exact hm j hj⟩
  obtain ⟨w1, -⟩ := wholeC (t := t) hk6 (gA A (fun a b x y => fA a b (by omega))).1 (gA A (fun a b x y => fA a b (by omega))).2
  generalize hB : e_up A 87 8 (nI (csT n t ld (lsF L) (cnL n ld))) = B
  have fB : ∀ a b, ¬ (a = 87 ∧ b = 8) → B a b = A a b := fun a b hab => by rw [← hB, e_up_o (by omega)]
  obtain ⟨-, w2⟩ := wholeC (t := t) hk6 (gA B (fun a b x y => by rw [fB a b (by omega), fA a b (by omega)])).1 (gA B (fun a b x y => by rw [fB a b (by omega), fA a b (by omega)])).2
  refine ⟨e_up B 87 9 (nI (stT n t ld (lsF L) (cnL n ld))), ?_, ⟨?_, fun i hi => ⟨?_, hL i hi⟩, ?_, e_up_e _ _ _ _⟩, fun a b hab => by rw [e_up_o (by omega), fB _ _ (by omega), fA _ _ (by omega)]⟩
  · simp only [em_keepAsBest, a1, x_bd_s, w1, x_lt_e]
    rw [hB]
    simp only [w2, x_bd_s]
  · rw [e_up_o (by omega), fB _ _ (by omega), a2]
  · rw [e_up_o (by omega), fB _ _ (by omega), show 93 = 92 + 1 from rfl, a3 i hi]
    exact (hg.2.2.1 i hi).2
  · rw [e_up_o (by omega), ← hB, e_up_e]
theorem betterC {M : e_Me} {L B : List Nat} (hk : okn n) (h9 : ∀ c, c < 30 → ld c ≤ 900) (hk6 : cnL n ld ≤ 6) (hg : gC M n ld (lsF L)) (hm : meC M n t ld (lsF L) (cnL n ld)) (hB : bstC M n t ld B) : em_isBetter M = some (bB (btr n t ld L B)) := by
  have hb := okn_b hk
  obtain ⟨w1, w2⟩ := wholeC hk6 hg hm
  have b1 := csT_b (t := t) (f := lsF L) hk h9 (cnL n ld)
  have b2 := csT_b (t := t) (f := lsF B) hk h9 (cnL n ld)
  have b3 := stT_b (t := t) (ld := ld) (f := lsF L) (show 0 < n by omega) hb.2 (cnL n ld)
  have b4 := stT_b (t := t) (ld := ld) (f := lsF B) (show 0 < n by omega) hb.2 (cnL n ld)
  obtain ⟨-, -, q1, q2⟩ := hB
  unfold btr
  by_cases g1 : csT n t ld (lsF L) (cnL n ld) < csT n t ld (lsF B) (cnL n ld)
  · simp (disch := omega) only [em_isBetter, w1, x_bd_s, q1, s_lt, g1, if_true, true_or, decide_true]
    rfl
  · by_cases g2 : csT n t ld (lsF L) (cnL n ld) = csT n t ld (lsF B) (cnL n ld)
    · by_cases g3 : stT n t ld (lsF L) (cnL n ld) < stT n t ld (lsF B) (cnL n ld)
      · have g4 : ¬ stT n t ld (lsF B) (cnL n ld) ≤ stT n t ld (lsF L) (cnL n ld) := by omega
        rw [decide_eq_true (Or.inr ⟨g2, g3⟩)]
        simp (disch := omega) only [em_isBetter, w1, x_bd_s, q1, s_lt, g1, if_false, s_eq, g2, if_true, w2, q2, s_le, g4, Nat.lt_irrefl]
        rfl
      · have g4 : stT n t ld (lsF B) (cnL n ld) ≤ stT n t ld (lsF L) (cnL n ld) := by omega
        rw [decide_eq_false (by omega)]
        simp (disch := omega) only [em_isBetter, w1, x_bd_s, q1, s_lt, g1, if_false, s_eq, g2, if_true, w2, q2, s_le, g4, Nat.lt_irrefl]
        rfl
    · rw [decide_eq_false (by omega)]
      simp (disch := omega) only [em_isBetter, w1, x_bd_s, q1, s_lt, g1, if_false, s_eq, g2]
      rfl
/-- what emptying may change in the class -/
def emF (a b : Nat) : Prop := (a = 87 ∧ (b = 8 ∨ b = 9)) ∨ (88 ≤ a ∧ a ≤ 93) ∨ (96 ≤ a ∧ a ≤ 159) ∨ ((a = 160 ∨ a = 161) ∧ 0 < b)
theorem gC_same {M M' : e_Me} {f : Nat → Nat} (hk6 : cnL n ld ≤ 6) (h : ∀ a b, 88 ≤ a → a ≤ 91 ∨ (95 ≤ a ∧ a ≤ 158) → M' a b = M a b) (hg : gC M n ld f) : gC M' n ld f := ⟨by rw [h _ _ (by omega) (by omega), hg.1], by rw [h _ _ (by omega) (by omega), hg.2.1], fun q hq => by rw [h _ _ (by omega) (by omega), h _ _ (by omega) (by omega)]; exact hg.2.2.1 q hq, fun r hr τ hτ => by
    have hp := (pow_b (cnL n ld) (by omega)).1
    rw [h _ _ (by omega) (by omega), hg.2.2.2 r hr τ hτ]⟩
theorem allC (hk6 : cnL n ld ≤ 6) : ∀ (G j F : Nat) (M : e_Me) (L B : List Nat), chkP (cnL n ld) G j L = true → G < F → cW M n t ld → gC M n ld (lsF L) → meC M n t ld (lsF L) (cnL n ld) → bstC M n t ld B →
    ∃ M', em_findBest_b72 (em_findBest_l44 F) (nI j - 1) M = some (1, M') ∧ bstC M' n t ld (bsN n t ld G L B) ∧ (∃ f, gC M' n ld f) ∧ ∀ a b, ¬ emF a b → M' a b = M a b := by
  intro G
  induction G with
  | zero => intro j F M L B h; cases h
  | succ G ih =>
    intro j F M L B hch hF hc hg hm hB
    obtain ⟨F, rfl⟩ : ∃ F', F = F' + 1 := ⟨F - 1, by omega⟩
    have hb := okn_b hc.1
    have h9 := hc.2.2.2.2.2.2.2
    obtain ⟨ok, alt⟩ := chk_step hch
    obtain ⟨o1, o2, o3⟩ := okL_use ok
    have hfac := fac_b hk6
    have hj := chk_fac hch
    have od : odC M (cnL n ld) (lsF L) := ⟨hg.2.1, fun q hq => (hg.2.2.1 q hq).2⟩
    have ej : nI j - 1 + 1 = nI j := by
      rw [nI_iI, show (1 : Int32) = iI 1 from rfl, iI_sub, iI_add]
      congr 1
      omega
    rcases nextO hk6 od (fun q hq => by have := o2 q hq; omega) with ⟨x1, x2⟩ | ⟨i, f', M1, x1, x2, x3, x4⟩
    · have nl : nxL (cnL n ld) L = none := by
        unfold nxL
        rw [x1]
      have eb : bsN n t ld (G + 1) L B = B := by simp only [bsN, nl]
      rw [eb]
      refine ⟨M, ?_, hB, ⟨_, hg⟩, fun a b _ => rfl⟩
      have c1 : ¬ 720 ≤ j := by omega
      have em1 : ((-1 : Int32) = -1) = True := eq_true rfl
      simp (disch := omega) only [em_findBest_b72, x2, x_bi_s, ej, em_findBest_l44, show (720 : Int32) = nI 720 from rfl, s_le, c1, if_false, em1, if_true]
    · have nl : nxL (cnL n ld) L = some (i, (List.range (cnL n ld)).map f') := by
        unfold nxL
        rw [x1]
      have eb : bsN n t ld (G + 1) L B = bsN n t ld G ((List.range (cnL n ld)).map f') (if btr n t ld ((List.range (cnL n ld)).map f') B = true then (List.range (cnL n ld)).map f' else B) := by simp only [bsN, nl]
      rw [eb]
      rcases alt with ⟨z, -⟩ | ⟨i2, L', z1, z2, z3, z4⟩
      · rw [nl] at z
        cases z
      · rw [nl] at z1
        cases z1
        have hj2 := chk_fac z4
        generalize hL' : (List.range (cnL n ld)).map f' = L' at z2 z4
        have lf : ∀ q, q < cnL n ld → lsF L' q = f' q := fun q hq => by rw [← hL', lsF_map hq]
        obtain ⟨G', rfl⟩ : ∃ G', G = G' + 1 := by
          cases G with
          | zero => cases z4
          | succ G' => exact ⟨G', rfl⟩
        obtain ⟨ok', -⟩ := chk_step z4
        obtain ⟨p1, p2, p3⟩ := okL_use ok'
        have c1 : ¬ 720 ≤ j := by omega
        have en : (nI i = (-1 : Int32)) = False := by
          rw [nI_iI, ← iI_m1, iI_eq (by omega) (by omega) (by omega) (by omega)]
          exact eq_false (by omega)
        have hg1 : gC M1 n ld (lsF L') := ⟨by rw [x4 _ _ (by omega), hg.1], x3.1, fun q hq => ⟨by rw [x4 _ _ (by omega)]; exact (hg.2.2.1 q hq).1, by rw [x3.2 q hq, lf q hq]⟩, fun r hr τ hτ => by rw [x4 _ _ (by omega), hg.2.2.2 r hr τ hτ]⟩
        have hc1 : cW M1 n t ld := cW_frame hc (funext fun j => x4 3 j (by omega)) (funext fun j => x4 4 j (by omega)) (funext fun j => x4 5 j (by omega)) (funext fun j => x4 6 j (by omega))
        obtain ⟨M2, m1, m2, m3⟩ := measF (t := t) (f := lsF L') (i := i) hk6 p2 (by omega) hc1 hg1 (fun hz => by
          have := hm 0 (Nat.zero_le _)
          rw [x4 _ _ (by omega), x4 _ _ (by omega)]
          exact ⟨this.2.1, this.2.2⟩) (fun _ q hq => by
          have := hm q (by omega)
          have cg : ∀ p, p < q → lsF L p = lsF L' p := fun p hp => z2 p (by omega)
          rw [x4 _ _ (by omega), x4 _ _ (by omega), x4 _ _ (by omega), ← rsT_cong cg, ← csT_cong cg, ← stT_cong cg]
          exact this)
        have fM2 : ∀ a b, ¬ (a = 91 ∨ a = 159 ∨ ((a = 160 ∨ a = 161) ∧ 0 < b)) → M2 a b = M a b := fun a b hab => by rw [m3 a b (by omega) (by omega), x4 _ _ (by omega)]
        have hg2 : gC M2 n ld (lsF L') := gC_same hk6 (fun a b y1 y2 => m3 a b (by omega) (by omega)) hg1
        have hc2 : cW M2 n t ld := cW_frame hc (funext fun j => fM2 3 j (by omega)) (funext fun j => fM2 4 j (by omega)) (funext fun j => fM2 5 j (by omega)) (funext fun j => fM2 6 j (by omega))
        have hB2 : bstC M2 n t ld B := ⟨by rw [fM2 _ _ (by omega), hB.1], fun q hq => by rw [fM2 _ _ (by omega)]; exact hB.2.1 q hq, by rw [fM2 _ _ (by omega), hB.2.2.1], by rw [fM2 _ _ (by omega), hB.2.2.2]⟩
        have bt := betterC hc.1 h9 hk6 hg2 m2 hB2
        have ej1 : nI j = nI (j + 1) - 1 := (s_sub (a := j + 1) (b := 1) (by omega)).symm
        cases hbt : btr n t ld L' B with
        | false =>
          rw [hbt] at bt
          have e0 : (bB false = 0) = True := by simp [bB]
          obtain ⟨M', k1, k2, k3, k4⟩ := ih (j + 1) F M2 L' B z4 (by omega) hc2 hg2 m2 hB2
          refine ⟨M', ?_, ?_, k3, fun a b hab => by rw [k4 a b hab, fM2 a b (by unfold emF at hab; omega)]⟩
          · simp (disch := omega) only [em_findBest_b72, x2, x_bi_s, ej, em_findBest_l44, show (720 : Int32) = nI 720 from rfl, s_le, c1, if_false, en, m1, x_bd_s, bt, e0, if_true]
            rw [← ej1] at k1
            simp only [em_findBest_b72] at k1
            exact k1
          · rw [if_neg (by simp)]
            exact k2
        | true =>
          rw [hbt] at bt
          have e0 : (bB true = 0) = False := by simp [bB]
          obtain ⟨M3, y1, y2, y3⟩ := keepC hk6 p2 hg2 m2
          have hg3 : gC M3 n ld (lsF L') := gC_same hk6 (fun a b y1 y2 => y3 a b (by omega)) hg2
          have hc3 : cW M3 n t ld := cW_frame hc2 (funext fun j => y3 3 j (by omega)) (funext fun j => y3 4 j (by omega)) (funext fun j => y3 5 j (by omega)) (funext fun j => y3 6 j (by omega))
          obtain ⟨M', k1, k2, k3, k4⟩ := ih (j + 1) F M3 L' L' z4 (by omega) hc3 hg3 (fun q hq => by rw [y3 _ _ (by omega), y3 _ _ (by omega), y3 _ _ (by omega)]; exact m2 q hq) y2
          refine ⟨M', ?_, ?_, k3, fun a b hab => by rw [k4 a b hab, y3 a b (by unfold emF at hab; omega), fM2 a b (by unfold emF at hab; omega)]⟩
          · simp (disch := omega) only [em_findBest_b72, x2, x_bi_s, ej, em_findBest_l44, show (720 : Int32) = nI 720 from rfl, s_le, c1, if_false, en, m1, x_bd_s, bt, e0, y1]
            rw [← ej1] at k1
            simp only [em_findBest_b72] at k1
            exact k1
          · rw [if_pos rfl]
            exact k2
theorem lsF_range {k i : Nat} (h : i < k) : lsF (List.range k) i = i := by
  unfold lsF
  rw [List.getD_eq_getElem?_getD, List.getElem?_range h]
  rfl
/-- THE BEST ORDER, asked for -/
theorem findC {M : e_Me} {k9 : Nat} (hc : cW M n t ld) (hO : bO M k9) :
    ((k9 = 30 ∨ 6 < cnL n ld) ∧ ∃ M', em_findBest M = some (0, M') ∧ ∀ a b, ¬ emF a b → M' a b = M a b) ∨
    (k9 < 30 ∧ cnL n ld ≤ 6 ∧ ∃ M', em_findBest M = some (1, M') ∧ bstC M' n t ld (bsN n t ld 721 (List.range (cnL n ld)) (List.range (cnL n ld))) ∧ (∃ f, gC M' n ld f) ∧ M' 87 10 = nI (k9 + 1) ∧ ∀ a b, ¬ (emF a b ∨ (a = 87 ∧ b = 10)) → M' a b = M a b) := by
  obtain ⟨o1, o2, o3, o4, o5, o6⟩ := hO
  by_cases g : k9 = 30
  · left
    refine ⟨Or.inl g, M, ?_, fun a b _ => rfl⟩
    have e : ((30 : Int32) ≤ nI k9) = True := by
      rw [g]
      decide
    simp only [em_findBest, o1, e, if_true]
  · have e : ((30 : Int32) ≤ nI k9) = False := by
      rw [show (30 : Int32) = nI 30 from rfl, s_le (by omega) (by omega)]
      exact eq_false (by omega)
    rcases gatherC hc o4 with ⟨x1, M', x2, x3⟩ | ⟨x1, A, x2, x3, x4⟩
    · left
      refine ⟨Or.inr x1, M', ?_, fun a b hab => x3 a b (by unfold emF at hab; omega)⟩
      simp only [em_findBest, o1, e, if_false, x2, x_bi_s, if_true]
    · right
      refine ⟨by omega, x1, ?_⟩
      generalize hB : e_up A 87 10 (nI (k9 + 1)) = B
      have fB : ∀ a b, ¬ ((88 ≤ a ∧ a ≤ 91) ∨ (96 ≤ a ∧ a ≤ 158) ∨ (a = 87 ∧ b = 10)) → B a b = M a b := fun a b hab => by rw [← hB, e_up_o (by omega), x4 a b (by omega)]
      have hcB : cW B n t ld := cW_frame hc (funext fun j => fB 3 j (by omega)) (funext fun j => fB 4 j (by omega)) (funext fun j => fB 5 j (by omega)) (funext fun j => fB 6 j (by omega))
      have hgB : gC B n ld (lsF (List.range (cnL n ld))) := by
        have h0 : gC B n ld (fun i => i) := gC_same x1 (fun a b y1 y2 => by rw [← hB, e_up_o (by omega)]) x3
        exact ⟨h0.1, h0.2.1, fun q hq => ⟨(h0.2.2.1 q hq).1, by rw [(h0.2.2.1 q hq).2, lsF_range hq]⟩, h0.2.2.2⟩
      have hr : ∀ i, i < cnL n ld → lsF (List.range (cnL n ld)) i < cnL n ld := fun i hi => by rw [lsF_range hi]; exact hi
      obtain ⟨C, c1, c2, c3⟩ := measF (t := t) (f := lsF (List.range (cnL n ld))) (i := 0) x1 hr (Nat.zero_le _) hcB hgB (fun _ => by rw [fB _ _ (by omega), fB _ _ (by omega)]; exact ⟨o5, o6⟩) (fun h => by omega)
      rw [nI_0] at c1
      have hgC : gC C n ld (lsF (List.range (cnL n ld))) := gC_same x1 (fun a b y1 y2 => c3 a b (by omega) (by omega)) hgB
      obtain ⟨D, d1, d2, d3⟩ := keepC x1 hr hgC c2
      have hgD : gC D n ld (lsF (List.range (cnL n ld))) := gC_same x1 (fun a b y1 y2 => d3 a b (by omega)) hgC
      have fD : ∀ a b, ¬ (emF a b ∨ (a = 87 ∧ b = 10)) → D a b = M a b := fun a b hab => by
        unfold emF at hab
        rw [d3 a b (by omega), c3 a b (by omega) (by omega), fB a b (by omega)]
      have hcD : cW D n t ld := cW_frame hc (funext fun j => fD 3 j (by unfold emF; omega)) (funext fun j => fD 4 j (by unfold emF; omega)) (funext fun j => fD 5 j (by unfold emF; omega)) (funext fun j => fD 6 j (by unfold emF; omega))
      obtain ⟨E, e1, e2, e3, e4⟩ := allC x1 721 0 e_F D (List.range (cnL n ld)) (List.range (cnL n ld)) (chk_ok _ x1) (by have := e_Fge; omega) hcD hgD (fun q hq => by rw [d3 _ _ (by omega), d3 _ _ (by omega), d3 _ _ (by omega)]; exact c2 q hq) d2
      have e0 : nI 0 - 1 + 1 = (0 : Int32) := by decide
      simp only [em_findBest_b72, e0] at e1
      refine ⟨E, ?_, e2, e3, ?_, fun a b hab => by rw [e4 a b (fun h => hab (Or.inl h)), fD a b hab]⟩
      · have z1 : A 87 10 = nI k9 := by rw [x4 _ _ (by omega), o1]
        simp only [em_findBest, o1, e, if_false, x2, x_bi_s, s_10, z1, nI_1, x_lt_e]
        rw [hB]
        simp only [c1, x_bd_s, d1]
        exact e1
      · rw [e4 _ _ (by unfold emF; omega), d3 _ _ (by omega), c3 _ _ (by omega) (by omega), ← hB, e_up_e]
end
