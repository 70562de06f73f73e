/-! COST and STEPS of an ORDER -/
def rsT (k : Nat) (f : Nat → Nat) : Nat → Nat
  | 0 => 2 ^ k - 1
  | i + 1 => clr (rsT k f i) (f i)
def tnT (n t : Nat) (ld f : Nat → Nat) : Nat → Nat
  | 0 => t
  | i + 1 => (0 + n - loA ld n (f i)) % n
def mxT (g : Nat → Nat) (n t : Nat) : Nat → Nat
  | 0 => 0
  | d + 1 => max (mxT g n t d) (g ((t + (d + 1)) % n))
def dsT (n a e : Nat) : Nat := (e + n - a) % n
def abT (n : Nat) (ld : Nat → Nat) (r τ : Nat) : Nat := (lnZ n (fun c => (ldR ld r c : Int)) τ).natAbs
def csT (n t : Nat) (ld f : Nat → Nat) : Nat → Nat
  | 0 => 0
  | i + 1 => max (csT n t ld f i) (mxT (abT n ld (rsT (cnL n ld) f i)) n (tnT n t ld f i) (dsT n (tnT n t ld f i) (tnT n t ld f (i + 1))))
def stT (n t : Nat) (ld f : Nat → Nat) : Nat → Nat
  | 0 => 0
  | i + 1 => stT n t ld f i + dsT n (tnT n t ld f i) (tnT n t ld f (i + 1))
theorem rsT_cong {k : Nat} {f g : Nat → Nat} : ∀ {i : Nat}, (∀ q, q < i → f q = g q) → rsT k f i = rsT k g i
  | 0, _ => rfl
  | i + 1, h => by rw [rsT, rsT, rsT_cong (fun q hq => h q (by omega)), h i (by omega)]
theorem tnT_cong {n t : Nat} {ld f g : Nat → Nat} : ∀ {i : Nat}, (∀ q, q < i → f q = g q) → tnT n t ld f i = tnT n t ld g i
  | 0, _ => rfl
  | i + 1, h => by rw [tnT, tnT, h i (by omega)]
theorem csT_cong {n t : Nat} {ld f g : Nat → Nat} : ∀ {i : Nat}, (∀ q, q < i → f q = g q) → csT n t ld f i = csT n t ld g i
  | 0, _ => rfl
  | i + 1, h => by
    have h' : ∀ q, q < i → f q = g q := fun q hq => h q (by omega)
    rw [csT, csT, csT_cong h', rsT_cong h', tnT_cong h', tnT_cong (i := i + 1) h]
theorem stT_cong {n t : Nat} {ld f g : Nat → Nat} : ∀ {i : Nat}, (∀ q, q < i → f q = g q) → stT n t ld f i = stT n t ld g i
  | 0, _ => rfl
  | i + 1, h => by
    have h' : ∀ q, q < i → f q = g q := fun q hq => h q (by omega)
    rw [stT, stT, stT_cong h', tnT_cong h', tnT_cong (i := i + 1) h]
theorem rsT_lt {k : Nat} {f : Nat → Nat} (hk : k ≤ 6) : ∀ i, rsT k f i < 2 ^ k
  | 0 => by
    have := (pow_b k (by omega)).2
    show 2 ^ k - 1 < 2 ^ k
    omega
  | i + 1 => by
    have h1 := clr_le (rsT k f i) (f i)
    have h2 := rsT_lt (f := f) hk i
    show clr (rsT k f i) (f i) < 2 ^ k
    omega
theorem tnT_lt {n t : Nat} {ld f : Nat → Nat} (ht : t < n) : ∀ i, tnT n t ld f i < n
  | 0 => ht
  | i + 1 => Nat.mod_lt _ (by omega)
theorem dsT_lt {n a e : Nat} (hn : 0 < n) : dsT n a e < n := Nat.mod_lt _ hn
theorem ds_at {n a e : Nat} (ha : a < n) (he : e < n) : (a + dsT n a e) % n = e := by
  unfold dsT
  rw [md2 (show e + n - a < n + n by omega)]
  split
  · rw [show a + (e + n - a) = e + n by omega, Nat.add_mod_right, Nat.mod_eq_of_lt he]
  · rw [show a + (e + n - a - n) = e by omega, Nat.mod_eq_of_lt he]
theorem ds_ne {n a e j : Nat} (ha : a < n) (he : e < n) (hj : j < dsT n a e) : (a + j) % n ≠ e := by
  have h1 := dsT_lt (n := n) (a := a) (e := e) (by omega)
  unfold dsT at hj h1
  rw [md2 (show e + n - a < n + n by omega)] at hj h1
  rw [md2 (show a + j < n + n by split at hj <;> omega)]
  split at hj
  · split <;> omega
  · split <;> omega
theorem abT_b {n r τ : Nat} {ld : Nat → Nat} (hk : okn n) (h9 : ∀ c, c < 30 → ld c ≤ 900) : abT n ld r τ ≤ 6000000 := by
  have hb := okn_b hk
  have b1 := lnZ_b (r := τ) hk (f := fun c => (ldR ld r c : Int)) (fun c hc => by
    have := ldR_le ld r c
    have := h9 c (by omega)
    show -2000 ≤ (ldR ld r c : Int) ∧ (ldR ld r c : Int) ≤ 2000
    omega)
  unfold abT
  omega
theorem mxT_b {g : Nat → Nat} {n t B : Nat} (h : ∀ τ, g τ ≤ B) : ∀ d, mxT g n t d ≤ B
  | 0 => Nat.zero_le _
  | d + 1 => Nat.max_le.mpr ⟨mxT_b h d, h _⟩
theorem csT_b {n t : Nat} {ld f : Nat → Nat} (hk : okn n) (h9 : ∀ c, c < 30 → ld c ≤ 900) : ∀ i, csT n t ld f i ≤ 6000000
  | 0 => Nat.zero_le _
  | i + 1 => Nat.max_le.mpr ⟨csT_b hk h9 i, mxT_b (fun τ => abT_b hk h9) _⟩
theorem stT_b {n t : Nat} {ld f : Nat → Nat} (hn : 0 < n) (h30 : n ≤ 30) : ∀ i, stT n t ld f i ≤ 30 * i
  | 0 => Nat.le_refl _
  | i + 1 => by
    have h1 := stT_b (t := t) (ld := ld) (f := f) hn h30 i
    have h2 := dsT_lt (n := n) (a := tnT n t ld f i) (e := tnT n t ld f (i + 1)) hn
    rw [stT]
    omega
/-! the class measures -/
section
variable {n t : Nat} {ld f : Nat → Nat}
theorem lor_ok {M : e_Me} (hk6 : cnL n ld ≤ 6) (hn : n ≤ 30) (hg : gC M n ld f) {r τ : Nat} (hr : r < 2 ^ cnL n ld) (hτ : τ < n) : em_leanOfRest (nI r) (nI τ) M = some (iI (lnZ n (fun c => (ldR ld r c : Int)) τ)) := by
  have hp := (pow_b (cnL n ld) (by omega)).1
  have c1 : ¬ 64 ≤ r := by omega
  have c2 : ¬ 30 ≤ τ := by omega
  simp (disch := omega) only [x_bd_s, x_bi_s, x_lt_e, x_rd_n, x_wr_n, x_ra_n, x_dv_n, s_lt, s_le, s_eq, s_lt0, s_le0, s_0lt, s_0le, s_eq0, s_sub, s_rem, s_div, s_in, bI_0, bI_1, x_gb_b, x_gb_0, x_gb_1, nI_add, nI_1, s_size, s_abs, s_max, iI_mul, iI_add, iI_neg, Nat.le_refl, Nat.lt_irrefl, if_true, if_false, ite_true, ite_false, not_true, not_false_eq_true, em_leanOfRest, show (64 : Int32) = nI 64 from rfl, c1, show (30 : Int32) = nI 30 from rfl, c2, em_leanOfRest_b25, s_10, arl_95 r (show r < 64 by omega), hg.2.2.2 r hr τ hτ]
theorem mvC {k23 : Int32 → e_Me → Option e_Me} {M : e_Me} (hk6 : cnL n ld ≤ 6) (hc : cW M n t ld) (hg : gC M n ld f) {i r a e c0 : Nat} (hi : i < 7) (hr : r < 2 ^ cnL n ld) (h159 : M 159 i = nI r) (ha : a < n) (he : e < n) (h0 : c0 ≤ 6000000) : ∀ (d j F : Nat), j + d = dsT n a e → d < F →
    em_measureFrom_l94 k23 (nI i) (nI e) M F (nI ((a + j) % n)) (nI (max c0 (mxT (abT n ld r) n a j))) (nI j) = em_measureFrom_b143 k23 (nI i) (nI (max c0 (mxT (abT n ld r) n a (dsT n a e)))) (nI (dsT n a e)) M := by
  have hb := okn_b hc.1
  have h9 := hc.2.2.2.2.2.2.2
  have hD := dsT_lt (n := n) (a := a) (e := e) (by omega)
  intro d
  induction d with
  | zero =>
    intro j F e1 e2
    obtain ⟨F, rfl⟩ : ∃ F', F = F' + 1 := ⟨F - 1, by omega⟩
    have ej : j = dsT n a e := by omega
    have e3 := ds_at ha he
    rw [← ej] at e3 ⊢
    rw [e3, em_measureFrom_l94, if_pos rfl]
  | succ d ih =>
    intro j F e1 e2
    obtain ⟨F, rfl⟩ : ∃ F', F = F' + 1 := ⟨F - 1, by omega⟩
    have hne := ds_ne ha he (show j < dsT n a e by omega)
    have hlt : (a + j) % n < n := Nat.mod_lt _ (by omega)
    have hlt2 : (a + (j + 1)) % n < n := Nat.mod_lt _ (by omega)
    have c2 : ¬ 30 ≤ j := by omega
    have b1 := mxT_b (n := n) (t := a) (fun τ => abT_b (r := r) (τ := τ) hc.1 h9) j
    have b2 := abT_b (n := n) (ld := ld) (r := r) (τ := (a + (j + 1)) % n) hc.1 h9
    have tb := wh_turnBehind_ok hc hlt
    rw [Nat.mod_add_mod, Nat.add_assoc] at tb
    have lr := lor_ok hk6 hb.2 hg hr hlt2
    have b3 := lnZ_b (r := (a + (j + 1)) % n) hc.1 (f := fun c => (ldR ld r c : Int)) (fun c hc => by
      have := ldR_le ld r c
      have := h9 c (by omega)
      show -2000 ≤ (ldR ld r c : Int) ∧ (ldR ld r c : Int) ≤ 2000
      omega)
    have ih2 := ih (j + 1) F (by omega) (by omega)
    rw [mxT, ← Nat.max_assoc] at ih2
    unfold abT at b1 b2 ih2 ⊢
    simp (disch := omega) only [x_bd_s, x_bi_s, x_lt_e, x_rd_n, x_wr_n, x_ra_n, x_dv_n, s_lt, s_le, s_eq, s_lt0, s_le0, s_0lt, s_0le, s_eq0, s_sub, s_rem, s_div, s_in, bI_0, bI_1, x_gb_b, x_gb_0, x_gb_1, nI_add, nI_1, s_size, s_abs, s_max, iI_mul, iI_add, iI_neg, Nat.le_refl, Nat.lt_irrefl, if_true, if_false, ite_true, ite_false, not_true, not_false_eq_true, em_measureFrom_l94, hne, show (30 : Int32) = nI 30 from rfl, c2, tb, h159, lr]
    exact ih2
theorem turnF_ok {M : e_Me} (hk6 : cnL n ld ≤ 6) (hc : cW M n t ld) (hg : gC M n ld f) {q : Nat} (hq : q < cnL n ld) : em_turnFor (nI q) M = some (nI ((0 + n - loA ld n q) % n)) := by
  have at1 := ro_at_ok (M := M) cap_em.1 hg.1 hk6 (show 6 ≤ 1000 by omega) hq
  rw [show 88 + 1 = 89 from rfl, (hg.2.2.1 q hq).1] at at1
  simp only [em_turnFor, at1, x_bd_s, wh_turnFor_ok hc (loA_ok hq).1]
/-- what stands behind the first places of an ORDER -/
def meC (M : e_Me) (n t : Nat) (ld f : Nat → Nat) (i : Nat) : Prop := ∀ j, j ≤ i → M 159 j = nI (rsT (cnL n ld) f j) ∧ M 160 j = nI (csT n t ld f j) ∧ M 161 j = nI (stT n t ld f j)
theorem measC (hk6 : cnL n ld ≤ 6) (hf : ∀ i, i < cnL n ld → f i < cnL n ld) : ∀ (d i F : Nat) (M : e_Me), i + d = cnL n ld → d < F → cW M n t ld → gC M n ld f → meC M n t ld f i →
    ∃ M', em_measureFrom_l23 F (nI i) M = some M' ∧ meC M' n t ld f (cnL n ld) ∧ ∀ a b, ¬ ((a = 159 ∨ a = 160 ∨ a = 161) ∧ i < b) → M' a b = M a b := by
  intro d
  induction d with
  | zero =>
    intro i F M e1 e2 hc hg hm
    obtain ⟨F, rfl⟩ : ∃ F', F = F' + 1 := ⟨F - 1, by omega⟩
    have e : i = cnL n ld := by omega
    refine ⟨M, ?_, by rw [← e]; exact hm, fun a b _ => rfl⟩
    have c1 : cnL n ld ≤ i := by omega
    simp (disch := omega) only [x_bd_s, x_bi_s, x_lt_e, x_rd_n, x_wr_n, x_ra_n, x_dv_n, s_lt, s_le, s_eq, s_lt0, s_le0, s_0lt, s_0le, s_eq0, s_sub, s_rem, s_div, s_in, bI_0, bI_1, x_gb_b, x_gb_0, x_gb_1, nI_add, nI_1, s_size, s_abs, s_max, iI_mul, iI_add, iI_neg, Nat.le_refl, Nat.lt_irrefl, if_true, if_false, ite_true, ite_false, not_true, not_false_eq_true, em_measureFrom_l23, ro_count_ok cap_em.2.1, hg.2.1, c1]
  | succ d ih =>
    intro i F M e1 e2 hc hg hm
    obtain ⟨F, rfl⟩ : ∃ F', F = F' + 1 := ⟨F - 1, by omega⟩
    have hb := okn_b hc.1
    have hik : i < cnL n ld := by omega
    have c1 : ¬ cnL n ld ≤ i := by omega
    have c2 : ¬ 6 ≤ i := by omega
    have hfi := hf i hik
    have at1 := ro_at_ok (M := M) cap_em.2.1 hg.2.1 hk6 (show 6 ≤ 1000 by omega) hik
    rw [show 90 + 1 = 91 from rfl, (hg.2.2.1 i hik).2] at at1
    obtain ⟨m1, m2, m3⟩ := hm i (Nat.le_refl _)
    have hr := rsT_lt (f := f) hk6 i
    have hp := (pow_b (cnL n ld) (by omega)).1
    have hcs := csT_b (t := t) (f := f) hc.1 hc.2.2.2.2.2.2.2 i
    have hst := stT_b (t := t) (ld := ld) (f := f) (show 0 < n by omega) hb.2 i
    have hta := tnT_lt (ld := ld) (f := f) hc.2.1 i
    have hte := tnT_lt (ld := ld) (f := f) hc.2.1 (i + 1)
    have hD := dsT_lt (n := n) (a := tnT n t ld f i) (e := tnT n t ld f (i + 1)) (by omega)
    have mv := mvC (k23 := em_measureFrom_l23 F) (f := f) hk6 hc hg (show i < 7 by omega) hr m1 hta hte hcs (dsT n (tnT n t ld f i) (tnT n t ld f (i + 1))) 0 e_F (by omega) (by have := e_Fge; omega)
    have ez : (tnT n t ld f i + 0) % n = tnT n t ld f i := Nat.mod_eq_of_lt hta
    rw [ez, show mxT (abT n ld (rsT (cnL n ld) f i)) n (tnT n t ld f i) 0 = 0 from rfl, Nat.max_zero, nI_0, show max (csT n t ld f i) (mxT (abT n ld (rsT (cnL n ld) f i)) n (tnT n t ld f i) (dsT n (tnT n t ld f i) (tnT n t ld f (i + 1)))) = csT n t ld f (i + 1) from rfl] at mv
    have tf := turnF_ok hk6 hc hg hfi
    have b68 : em_measureFrom_b68 (em_measureFrom_l23 F) (nI i) (nI (tnT n t ld f i)) M = em_measureFrom_b143 (em_measureFrom_l23 F) (nI i) (nI (csT n t ld f (i + 1))) (nI (dsT n (tnT n t ld f i) (tnT n t ld f (i + 1)))) M := by
      simp (disch := omega) only [em_measureFrom_b68, at1, x_bd_s, tf, x_rd_n, m2]
      exact mv
    generalize hA : e_up (e_up (e_up M 159 (i + 1) (nI (rsT (cnL n ld) f (i + 1)))) 160 (i + 1) (nI (csT n t ld f (i + 1)))) 161 (i + 1) (nI (stT n t ld f (i + 1))) = A
    have fA : ∀ a b, ¬ ((a = 159 ∨ a = 160 ∨ a = 161) ∧ i < b) → A a b = M a b := fun a b hab => by
      rw [← hA, e_up_o (by omega), e_up_o (by omega), e_up_o (by omega)]
    have ecl : (nI (rsT (cnL n ld) f i) &&& (((1 : Int32) <<< (nI (f i) &&& 31)) ^^^ (-1 : Int32))) = nI (rsT (cnL n ld) f (i + 1)) := clr_i _ (by omega) _ (by omega)
    have b143 : em_measureFrom_b143 (em_measureFrom_l23 F) (nI i) (nI (csT n t ld f (i + 1))) (nI (dsT n (tnT n t ld f i) (tnT n t ld f (i + 1)))) M = em_measureFrom_l23 F (nI (i + 1)) A := by
      simp (disch := omega) only [em_measureFrom_b143, x_rd_n, m1, at1, x_bd_s, ecl, nI_add, nI_1, x_wr_n, e_up_o, m3]
      rw [show nI (stT n t ld f i + dsT n (tnT n t ld f i) (tnT n t ld f (i + 1))) = nI (stT n t ld f (i + 1)) from rfl, hA]
    have e0 : em_measureFrom_l23 (F + 1) (nI i) M = em_measureFrom_l23 F (nI (i + 1)) A := by
      rw [← b143, ← b68]
      by_cases z : i = 0
      · subst z
        have w1 : tnT n t ld f 0 = t := rfl
        simp (disch := omega) only [x_bd_s, x_bi_s, x_lt_e, x_rd_n, x_wr_n, x_ra_n, x_dv_n, s_lt, s_le, s_eq, s_lt0, s_le0, s_0lt, s_0le, s_eq0, s_sub, s_rem, s_div, s_in, bI_0, bI_1, x_gb_b, x_gb_0, x_gb_1, nI_add, nI_1, s_size, s_abs, s_max, iI_mul, iI_add, iI_neg, Nat.le_refl, Nat.lt_irrefl, if_true, if_false, ite_true, ite_false, not_true, not_false_eq_true, em_measureFrom_l23, ro_count_ok cap_em.2.1, hg.2.1, c1, show (6 : Int32) = nI 6 from rfl, c2, wh_turnNow, hc.2.2.2.1, w1]
      · obtain ⟨i', rfl⟩ : ∃ i', i = i' + 1 := ⟨i - 1, by omega⟩
        have at2 := ro_at_ok (M := M) cap_em.2.1 hg.2.1 hk6 (show 6 ≤ 1000 by omega) (show i' < cnL n ld by omega)
        rw [show 90 + 1 = 91 from rfl, (hg.2.2.1 i' (by omega)).2] at at2
        have tf2 := turnF_ok hk6 hc hg (hf i' (by omega))
        have ei : nI (i' + 1) - 1 = nI i' := s_sub (a := i' + 1) (b := 1) (by omega)
        have w1 : tnT n t ld f (i' + 1) = (0 + n - loA ld n (f i')) % n := rfl
        have zz : ¬ i' + 1 = 0 := by omega
        simp (disch := omega) only [em_measureFrom_l23, ro_count_ok cap_em.2.1, hg.2.1, x_bd_s, s_le, c1, if_false, show (6 : Int32) = nI 6 from rfl, c2, s_eq0, zz, ei, at2, tf2, w1]
    have hgA : gC A n ld f := ⟨by rw [fA _ _ (by omega), hg.1], by rw [fA _ _ (by omega), hg.2.1], fun q hq => by rw [fA _ _ (by omega), fA _ _ (by omega)]; exact hg.2.2.1 q hq, fun r hr τ hτ => by rw [fA _ _ (by omega), hg.2.2.2 r hr τ hτ]⟩
    obtain ⟨M', k1, k2, k3⟩ := ih (i + 1) F A (by omega) (by omega) (cW_frame hc (funext fun j => fA 3 j (by omega)) (funext fun j => fA 4 j (by omega)) (funext fun j => fA 5 j (by omega)) (funext fun j => fA 6 j (by omega))) hgA (fun j hj => by
      by_cases e : j = i + 1
      · subst e
        rw [← hA]
        simp (disch := omega) only [e_up_o, e_up_e]
        exact ⟨trivial, trivial, trivial⟩
      · rw [fA _ _ (by omega), fA _ _ (by omega), fA _ _ (by omega)]
        exact hm j (by omega))
    exact ⟨M', by rw [e0, k1], k2, fun a b hab => by rw [k3 a b (by omega), fA a b hab]⟩
theorem measF {M : e_Me} {i : Nat} (hk6 : cnL n ld ≤ 6) (hf : ∀ i, i < cnL n ld → f i < cnL n ld) (hi : i ≤ cnL n ld) (hc : cW M n t ld) (hg : gC M n ld f) (h0 : i = 0 → M 160 0 = 0 ∧ M 161 0 = 0) (hm : 0 < i → meC M n t ld f i) :
    ∃ M', em_measureFrom (nI i) M = some M' ∧ meC M' n t ld f (cnL n ld) ∧ (∀ a b, ¬ ((a = 159 ∨ a = 160 ∨ a = 161) ∧ i < b) → ¬ (a = 159 ∧ b = 0) → M' a b = M a b) := by
  have hp := pow_b (cnL n ld) (by omega)
  generalize hA : e_up M 159 0 (nI (2 ^ cnL n ld - 1)) = A
  have fA : ∀ a b, ¬ (a = 159 ∧ b = 0) → A a b = M a b := fun a b hab => by rw [← hA, e_up_o (by omega)]
  have hgA : gC A n ld f := ⟨by rw [fA _ _ (by omega), hg.1], by rw [fA _ _ (by omega), hg.2.1], fun q hq => by rw [fA _ _ (by omega), fA _ _ (by omega)]; exact hg.2.2.1 q hq, fun r hr τ hτ => by rw [fA _ _ (by omega), hg.2.2.2 r hr τ hτ]⟩
  obtain ⟨M', k1, k2, k3⟩ := measC (t := t) hk6 hf (cnL n ld - i) i e_F A (by omega) (by have := e_Fge; omega) (cW_frame hc (funext fun j => fA 3 j (by omega)) (funext fun j => fA 4 j (by omega)) (funext fun j => fA 5 j (by omega)) (funext fun j => fA 6 j (by omega))) hgA (fun j hj => by
    by_cases z : j = 0
    · subst z
      refine ⟨by rw [← hA, e_up_e]; rfl, ?_, ?_⟩
      · rw [fA _ _ (by omega)]
        by_cases z2 : i = 0
        · rw [(h0 z2).1]
          rfl
        · exact (hm (by omega) 0 (by omega)).2.1
      · rw [fA _ _ (by omega)]
        by_cases z2 : i = 0
        · rw [(h0 z2).2]
          rfl
        · exact (hm (by omega) 0 (by omega)).2.2
    · rw [fA _ _ (by omega), fA _ _ (by omega), fA _ _ (by omega)]
      exact hm (by omega) j hj)
  refine ⟨M', ?_, k2, fun a b hab h2 => by rw [k3 a b hab, fA a b h2]⟩
  have e1 : nI (2 ^ cnL n ld) - 1 = nI (2 ^ cnL n ld - 1) := s_sub (b := 1) hp.2
  have e2 : ∀ A : e_Me, ma_max (0 : Int32) (nI i) A = some (nI i) := fun A => by
    have := s_max (M := A) (a := 0) (b := i) (by omega) (by omega)
    rw [nI_0, Nat.zero_max] at this
    exact this
  have wz : ∀ (w : Int32) (g : e_Me → Option e_Me), x_wr M 159 7 (0 : Int32) w g = g (e_up M 159 0 w) := fun w g => x_wr_n (j := 0) (by omega) (by omega)
  simp only [em_measureFrom, ro_count_ok cap_em.1, hg.1, x_bd_s, pow_i (cnL n ld) (by omega), e1, wz]
  rw [hA]
  simp only [e2, x_bd_s, k1]
/-! the reference tries -/
theorem mvM {k17 : Int32 → Int32 → e_Me → Option e_Me} (hk : okn n) (h9 : ∀ c, c < 30 → ld c ≤ 900) {i r a cab c0 s0 : Nat} (hi : i < 6) (ha : a < n) (hcab : cab < n) (h0 : c0 ≤ 6000000) (hs : s0 ≤ 1000) : ∀ (d j F : Nat) (M : e_Me), j + d = dsT n a ((0 + n - cab) % n) → d < F → M 182 0 = nI n → M 195 i = nI cab → M 182 27 = nI (max c0 (mxT (abT n ld r) n a j)) → M 182 28 = nI (s0 + j) → (∀ c, c < n → M 185 c = nI (ldR ld r c)) →
    ∃ M', md_tryOrder_l25 k17 (nI i) F (nI ((a + j) % n)) M = md_tryOrder_b92 k17 (nI ((0 + n - cab) % n)) (nI i) M' ∧ M' 182 27 = nI (max c0 (mxT (abT n ld r) n a (dsT n a ((0 + n - cab) % n)))) ∧ M' 182 28 = nI (s0 + dsT n a ((0 + n - cab) % n)) ∧ ∀ a b, ¬ (a = 182 ∧ (b = 27 ∨ b = 28)) → M' a b = M a b := by
  have hb := okn_b hk
  have he : (0 + n - cab) % n < n := Nat.mod_lt _ (by omega)
  have hz : ∀ τ, τ < n → ((cab + τ) % n = 0) = (τ = (0 + n - cab) % n) := fun τ hτ => by
    rw [md2 (show cab + τ < n + n by omega), md2 (show 0 + n - cab < n + n by omega)]
    refine propext ?_
    split <;> split <;> constructor <;> intro h <;> omega
  generalize (0 + n - cab) % n = e at he hz
  have hD := dsT_lt (n := n) (a := a) (e := e) (by omega)
  intro d
  induction d with
  | zero =>
    intro j F M e1 e2 h1 h2 h3 h4 h5
    obtain ⟨F, rfl⟩ : ∃ F', F = F' + 1 := ⟨F - 1, by omega⟩
    have ej : j = dsT n a e := by omega
    have e3 := ds_at ha he
    rw [← ej] at e3 ⊢
    rw [e3]
    have e4 := hz e he
    have e5 : (cab + e) % n = 0 := by rw [e4]
    refine ⟨M, ?_, h3, h4, fun a b _ => rfl⟩
    simp (disch := omega) only [x_bd_s, x_bi_s, x_lt_e, x_rd_n, x_wr_n, x_ra_n, x_dv_n, s_lt, s_le, s_eq, s_lt0, s_le0, s_0lt, s_0le, s_eq0, s_sub, s_rem, s_div, s_in, bI_0, bI_1, x_gb_b, x_gb_0, x_gb_1, nI_add, nI_1, s_size, s_abs, s_max, iI_mul, iI_add, iI_neg, Nat.le_refl, Nat.lt_irrefl, if_true, if_false, ite_true, ite_false, not_true, not_false_eq_true, md_tryOrder_l25, h2, h1, e5]
  | succ d ih =>
    intro j F M e1 e2 h1 h2 h3 h4 h5
    obtain ⟨F, rfl⟩ : ∃ F', F = F' + 1 := ⟨F - 1, by omega⟩
    have hne := ds_ne ha he (show j < dsT n a e by omega)
    have hlt : (a + j) % n < n := Nat.mod_lt _ (by omega)
    have hlt2 : (a + (j + 1)) % n < n := Nat.mod_lt _ (by omega)
    have b1 : mxT (abT n ld r) n a j ≤ 6000000 := mxT_b (fun τ => abT_b hk h9) j
    have b2 := abT_b (n := n) (ld := ld) (r := r) (τ := (a + (j + 1)) % n) hk h9
    have hlt3 : (cab + (a + j) % n) % n < n := Nat.mod_lt _ (by omega)
    have e4 : ¬ (cab + (a + j) % n) % n = 0 := by
      rw [hz _ hlt]
      exact hne
    have hL : ∀ c, c < n → -2000 ≤ ((fun c => (ldR ld r c : Int)) c) ∧ ((fun c => (ldR ld r c : Int)) c) ≤ 2000 := fun c hc => by
      have := ldR_le ld r c
      have := h9 c (by omega)
      show -2000 ≤ (ldR ld r c : Int) ∧ (ldR ld r c : Int) ≤ 2000
      omega
    have b3 := lnZ_b (r := (a + (j + 1)) % n) hk hL
    generalize hA : e_up M 182 28 (nI (s0 + (j + 1))) = A
    have fA : ∀ a b, ¬ (a = 182 ∧ b = 28) → A a b = M a b := fun a b hab => by rw [← hA, e_up_o (by omega)]
    have lr := md_leanOf_ok (M := A) (f := fun c => (ldR ld r c : Int)) (r := (a + (j + 1)) % n) hk (by rw [fA _ _ (by omega), h1]) (fun c hc => by rw [fA _ _ (by omega), h5 c hc]; rfl) hlt2
    have ey : ((a + j) % n + 1) % n = (a + (j + 1)) % n := by rw [Nat.mod_add_mod, Nat.add_assoc]
    obtain ⟨M', k1, k2, k3, k4⟩ := ih (j + 1) F (e_up A 182 27 (nI (max c0 (mxT (abT n ld r) n a (j + 1))))) (by omega) (by omega) (by rw [e_up_o (by omega), fA _ _ (by omega), h1]) (by rw [e_up_o (by omega), fA _ _ (by omega), h2]) (e_up_e _ _ _ _) (by rw [e_up_o (by omega), ← hA, e_up_e]) (fun c hc => by rw [e_up_o (by omega), fA _ _ (by omega), h5 c hc])
    refine ⟨M', ?_, k2, k3, fun a b hab => by rw [k4 a b hab, e_up_o (by omega), fA _ _ (by omega)]⟩
    rw [← k1]
    have eA27 : A 182 27 = nI (max c0 (mxT (abT n ld r) n a j)) := by rw [fA _ _ (by omega), h3]
    have emx : mxT (abT n ld r) n a (j + 1) = max (mxT (abT n ld r) n a j) (abT n ld r ((a + (j + 1)) % n)) := rfl
    have eab : (lnZ n (fun c => (ldR ld r c : Int)) ((a + (j + 1)) % n)).natAbs = abT n ld r ((a + (j + 1)) % n) := rfl
    have es1 : nI (s0 + j) + 1 = nI (s0 + (j + 1)) := by rw [nI_1]; rfl
    simp (disch := omega) only [md_tryOrder_l25, x_rd_n, h2, h1, x_dv_n, nI_add, s_rem, s_eq0, e4, if_false, nI_1, ey, x_lt_e, h4, es1]
    rw [hA]
    simp (disch := omega) only [lr, x_bd_s, s_size, eA27, s_le, eab]
    by_cases g : abT n ld r ((a + (j + 1)) % n) ≤ max c0 (mxT (abT n ld r) n a j)
    · rw [if_pos g, emx, ← Nat.max_assoc, Nat.max_eq_left g]
      rfl
    · rw [if_neg g, emx, ← Nat.max_assoc, Nat.max_eq_right (by omega)]
      rfl
theorem restM (hn : n ≤ 30) : ∀ (d c F : Nat) (M : e_Me), c + d = n → d < F → M 182 0 = nI n → (∀ q, q < n → M 193 q = nI (ld q)) → (∀ q, q < c → M 185 q = nI (ld q)) →
    ∃ M', md_tryOrder_l112 F (nI c) M = some M' ∧ (∀ q, q < n → M' 185 q = nI (ld q)) ∧ ∀ a b, ¬ (a = 185 ∧ b < n) → M' a b = M a b := by
  intro d
  induction d with
  | zero =>
    intro c F M h1 h2 h3 h4 h5
    obtain ⟨F, rfl⟩ : ∃ F', F = F' + 1 := ⟨F - 1, by omega⟩
    have e : c = n := by omega
    subst e
    exact ⟨M, by simp (disch := omega) only [x_bd_s, x_bi_s, x_lt_e, x_rd_n, x_wr_n, x_ra_n, x_dv_n, s_lt, s_le, s_eq, s_lt0, s_le0, s_0lt, s_0le, s_eq0, s_sub, s_rem, s_div, s_in, bI_0, bI_1, x_gb_b, x_gb_0, x_gb_1, nI_add, nI_1, s_size, s_abs, s_max, iI_mul, iI_add, iI_neg, Nat.le_refl, Nat.lt_irrefl, if_true, if_false, ite_true, ite_false, not_true, not_false_eq_true, md_tryOrder_l112, h3], h5, fun i j _ => rfl⟩
  | succ d ih =>
    intro c F M h1 h2 h3 h4 h5
    obtain ⟨F, rfl⟩ : ∃ F', F = F' + 1 := ⟨F - 1, by omega⟩
    have c1 : ¬ n ≤ c := by omega
    obtain ⟨M', k1, k2, k3⟩ := ih (c + 1) F (e_up M 185 c (nI (ld c))) (by omega) (by omega) (by rw [e_up_o (by omega), h3]) (fun q hq => by rw [e_up_o (by omega), h4 q hq]) (fun q hq => by
      by_cases e : q = c
      · subst e
        rw [e_up_e]
      · rw [e_up_o (by omega), h5 q (by omega)])
    refine ⟨M', ?_, k2, fun i j hij => by rw [k3 i j hij, e_up_o (by omega)]⟩
    simp (disch := omega) only [x_bd_s, x_bi_s, x_lt_e, x_rd_n, x_wr_n, x_ra_n, x_dv_n, s_lt, s_le, s_eq, s_lt0, s_le0, s_0lt, s_0le, s_eq0, s_sub, s_rem, s_div, s_in, bI_0, bI_1, x_gb_b, x_gb_0, x_gb_1, nI_add, nI_1, s_size, s_abs, s_max, iI_mul, iI_add, iI_neg, Nat.le_refl, Nat.lt_irrefl, if_true, if_false, ite_true, ite_false, not_true, not_false_eq_true, md_tryOrder_l112, h3, c1, h4 c (by omega)]
    exact k1
theorem tryL (hk : okn n) (ht : t < n) (h9 : ∀ c, c < 30 → ld c ≤ 900) (hk6 : cnL n ld ≤ 6) (hf : ∀ i, i < cnL n ld → f i < cnL n ld) : ∀ (d i F : Nat) (M : e_Me), i + d = cnL n ld → d < F → M 182 0 = nI n → M 182 24 = nI (cnL n ld) → (∀ i, i < cnL n ld → M 195 i = nI (loA ld n (f i))) → M 182 27 = nI (csT n t ld f i) → M 182 28 = nI (stT n t ld f i) → (∀ c, c < n → M 185 c = nI (ldR ld (rsT (cnL n ld) f i) c)) →
    ∃ M', md_tryOrder_l17 F (nI (tnT n t ld f i)) (nI i) M = md_tryOrder_l112 e_F 0 M' ∧ M' 182 27 = nI (csT n t ld f (cnL n ld)) ∧ M' 182 28 = nI (stT n t ld f (cnL n ld)) ∧ ∀ a b, ¬ ((a = 182 ∧ (b = 27 ∨ b = 28)) ∨ (a = 185 ∧ b < n)) → M' a b = M a b := by
  have hb := okn_b hk
  intro d
  induction d with
  | zero =>
    intro i F M e1 e2 h1 h2 h3 h4 h5 h6
    obtain ⟨F, rfl⟩ : ∃ F', F = F' + 1 := ⟨F - 1, by omega⟩
    have e : i = cnL n ld := by omega
    rw [e] at h4 h5 ⊢
    exact ⟨M, by simp (disch := omega) only [x_bd_s, x_bi_s, x_lt_e, x_rd_n, x_wr_n, x_ra_n, x_dv_n, s_lt, s_le, s_eq, s_lt0, s_le0, s_0lt, s_0le, s_eq0, s_sub, s_rem, s_div, s_in, bI_0, bI_1, x_gb_b, x_gb_0, x_gb_1, nI_add, nI_1, s_size, s_abs, s_max, iI_mul, iI_add, iI_neg, Nat.le_refl, Nat.lt_irrefl, if_true, if_false, ite_true, ite_false, not_true, not_false_eq_true, md_tryOrder_l17, h2], h4, h5, fun a b _ => rfl⟩
  | succ d ih =>
    intro i F M e1 e2 h1 h2 h3 h4 h5 h6
    obtain ⟨F, rfl⟩ : ∃ F', F = F' + 1 := ⟨F - 1, by omega⟩
    have hik : i < cnL n ld := by omega
    have c1 : ¬ cnL n ld ≤ i := by omega
    have hta := tnT_lt (ld := ld) (f := f) ht i
    obtain ⟨q1, q2, q3⟩ := loA_ok (hf i hik)
    have hcs := csT_b (t := t) (f := f) hk h9 i
    have hst := stT_b (t := t) (ld := ld) (f := f) (show 0 < n by omega) hb.2 i
    have hr := rsT_lt (f := f) hk6 i
    have hp := (pow_b (cnL n ld) (by omega)).1
    obtain ⟨A, a1, a2, a3, a4⟩ := mvM (k17 := md_tryOrder_l17 F) (r := rsT (cnL n ld) f i) (c0 := csT n t ld f i) (s0 := stT n t ld f i) hk h9 (show i < 6 by omega) hta q1 hcs (by omega) (dsT n (tnT n t ld f i) ((0 + n - loA ld n (f i)) % n)) 0 e_F M (by omega) (by have := dsT_lt (n := n) (a := tnT n t ld f i) (e := (0 + n - loA ld n (f i)) % n) (by omega); have := e_Fge; omega) h1 (h3 i hik) (by rw [show mxT (abT n ld (rsT (cnL n ld) f i)) n (tnT n t ld f i) 0 = 0 from rfl, Nat.max_zero, h4]) (by rw [Nat.add_zero, h5]) h6
    have ez : (tnT n t ld f i + 0) % n = tnT n t ld f i := Nat.mod_eq_of_lt hta
    rw [ez] at a1
    generalize hB : e_up A 185 (loA ld n (f i)) 0 = B
    obtain ⟨M', k1, k2, k3, k4⟩ := ih (i + 1) F B (by omega) (by omega) (by rw [← hB, e_up_o (by omega), a4 _ _ (by omega), h1]) (by rw [← hB, e_up_o (by omega), a4 _ _ (by omega), h2]) (fun j hj => by rw [← hB, e_up_o (by omega), a4 _ _ (by omega), h3 j hj]) (by rw [← hB, e_up_o (by omega), a2]; rfl) (by rw [← hB, e_up_o (by omega), a3]; rfl) (fun c hc => by
      rw [show rsT (cnL n ld) f (i + 1) = clr (rsT (cnL n ld) f i) (f i) from rfl, ldR_clr hk6 hc (by omega) (hf i hik), ← hB]
      by_cases e : c = loA ld n (f i)
      · rw [if_pos e, e, e_up_e]
        rfl
      · rw [if_neg e, e_up_o (by omega), a4 _ _ (by omega), h6 c hc])
    refine ⟨M', ?_, k2, k3, fun a b hab => by rw [k4 a b hab, ← hB, e_up_o (by omega), a4 _ _ (by omega)]⟩
    rw [← k1]
    have e195 : A 195 i = nI (loA ld n (f i)) := by rw [a4 _ _ (by omega), h3 i hik]
    simp (disch := omega) only [md_tryOrder_l17, h2, s_le, c1, if_false, a1, md_tryOrder_b92, x_rd_n, e195, x_wr_n, nI_1]
    rw [hB]
    rfl
theorem tryM {M : e_Me} (hk : okn n) (ht : t < n) (h9 : ∀ c, c < 30 → ld c ≤ 900) (hk6 : cnL n ld ≤ 6) (hf : ∀ i, i < cnL n ld → f i < cnL n ld) (h1 : M 182 0 = nI n) (h2 : M 182 1 = nI t) (hg : gM M n ld) (h3 : ∀ i, i < cnL n ld → M 195 i = nI (loA ld n (f i))) (h6 : ∀ c, c < n → M 185 c = nI (ld c)) :
    ∃ M', md_tryOrder M = some M' ∧ M' 182 27 = nI (csT n t ld f (cnL n ld)) ∧ M' 182 28 = nI (stT n t ld f (cnL n ld)) ∧ ∀ a b, ¬ (a = 182 ∧ (b = 27 ∨ b = 28)) → M' a b = M a b := by
  have hb := okn_b hk
  generalize hA : e_up (e_up M 182 27 0) 182 28 0 = A
  have fA : ∀ a b, ¬ (a = 182 ∧ (b = 27 ∨ b = 28)) → A a b = M a b := fun a b hab => by rw [← hA, e_up_o (by omega), e_up_o (by omega)]
  obtain ⟨B, b1, b2, b3, b4⟩ := tryL hk ht h9 hk6 hf (cnL n ld) 0 e_F A (by omega) (by have := e_Fge; omega) (by rw [fA _ _ (by omega), h1]) (by rw [fA _ _ (by omega), hg.1]) (fun i hi => by rw [fA _ _ (by omega), h3 i hi]) (by rw [← hA, e_up_o (by omega), e_up_e]; rfl) (by rw [← hA, e_up_e]; rfl) (fun c hc => by
    rw [fA _ _ (by omega), h6 c hc, show rsT (cnL n ld) f 0 = 2 ^ cnL n ld - 1 from rfl, ldR_all hk6 hc])
  obtain ⟨C, c1, c2, c3⟩ := restM (ld := ld) hb.2 n 0 e_F B (by omega) (by have := e_Fge; omega) (by rw [b4 _ _ (by omega), fA _ _ (by omega), h1]) (fun q hq => by rw [b4 _ _ (by omega), fA _ _ (by omega), hg.2.2 q hq]) (fun q hq => by omega)
  rw [nI_0] at b1 c1
  refine ⟨C, ?_, by rw [c3 _ _ (by omega), b2], by rw [c3 _ _ (by omega), b3], fun a b hab => ?_⟩
  · simp only [md_tryOrder, x_lt_e, h2]
    rw [hA, show nI t = nI (tnT n t ld f 0) from rfl, b1, c1]
  · by_cases z : a = 185 ∧ b < n
    · obtain ⟨rfl, hz⟩ := z
      rw [c2 b hz, h6 b hz]
    · rw [c3 _ _ z, b4 _ _ (by omega), fA _ _ hab]
end
