/-! who is THE NEXT, who boards -/
def nxF (f g : Nat → Bool) : Nat → Nat → Option Nat
  | 0, _ => none
  | d + 1, k => if f k = true then some k else if g k = true then nxF f g d (k + 1) else none
theorem nxF_ok {f g : Nat → Bool} : ∀ {d k j : Nat}, nxF f g d k = some j → k ≤ j ∧ j < k + d ∧ f j = true
  | 0, k, j, h => by cases h
  | d + 1, k, j, h => by
    simp only [nxF] at h
    split at h
    · cases h
      exact ⟨Nat.le_refl _, by omega, by assumption⟩
    · split at h
      · have := nxF_ok h
        exact ⟨by omega, by omega, this.2.2⟩
      · cases h
def oI : Option Nat → Int32
  | none => -1
  | some j => nI j
/-- how often each was PASSED, once those before the k-th are -/
def paF (pa : Nat → Int32) (f : Nat → Nat) : Nat → Nat → Int32
  | 0 => pa
  | k + 1 => upn (paF pa f k) (f k) (paF pa f k (f k) + 1)
/-- LOADS, PASSED, places, THE LINE, CABINS -/
abbrev bS : Type := (Nat → Nat) × (Nat → Int32) × (Nat → Nat) × Nat × (Nat → Nat) × (Nat → Nat) × (Nat → Nat → Nat)
def bdS (n b dr pt : Nat) (pe we wi : Nat → Nat) : bS → Option (Nat × bS)
  | (ld, pa, wh, l, ln, sc, cb) => match nxF (fun k => mbB n ld pe we wi sc cb b dr (ln k)) (fun k => decide (pa (ln k) < nI pt)) l 0 with
    | none => none
    | some k => some (ln k, (fun c => ld c + if c = dr then we (ln k) else 0, paF pa ln k, upn wh (ln k) dr, l - 1, cutF ln k, upn sc dr (sc dr + 1), fun c => if c = dr then upn (cb dr) (sc dr) (ln k) else cb c))
def cPx (M : e_Me) (np : Nat) (pe we wi se : Nat → Nat) (x : bS) : Prop := cP M np pe we wi x.2.2.1 se x.2.1 x.2.2.2.1 x.2.2.2.2.1 x.2.2.2.2.2.1 x.2.2.2.2.2.2
def mPx (M : e_Me) (np : Nat) (pe we wi se : Nat → Nat) (x : bS) : Prop := mP M np pe we wi x.2.2.1 se x.2.1 x.2.2.2.1 x.2.2.2.2.1 x.2.2.2.2.2.1 x.2.2.2.2.2.2
def wPx (n np : Nat) (pe we wi se : Nat → Nat) (x : bS) : Prop := wP n x.1 np pe we wi x.2.2.1 se x.2.2.2.1 x.2.2.2.2.1 x.2.2.2.2.2.1 x.2.2.2.2.2.2
theorem smN_up {f : Nat → Nat} {g : Nat → Nat} {k q : Nat} : smN k (fun i => f (upn g k q i)) = smN k (fun i => f (g i)) := smN_cong (fun i hi => by rw [upn_o (by omega)])
section
variable {np : Nat} {pe we wi se : Nat → Nat} {n b dr pt : Nat} {x y : bS} {q : Nat}
theorem boardW (hdr : dr < n) (hn : n ≤ 30) (hw : wPx n np pe we wi se x) (e : bdS n b dr pt pe we wi x = some (q, y)) : wPx n np pe we wi se y ∧ y.2.2.2.1 + 1 = x.2.2.2.1 ∧ q < np := by
  obtain ⟨ld, pa, wh, l, ln, sc, cb⟩ := x
  simp only [bdS] at e
  split at e
  · cases e
  · rename_i k hk0
    obtain ⟨-, hk, hmb⟩ := nxF_ok hk0
    cases e
    rw [Nat.zero_add] at hk
    simp only [mbB, decide_eq_true_eq] at hmb
    obtain ⟨hm6, -, -⟩ := hmb
    have hw' := hw
    unfold wPx at hw
    simp only at hw
    obtain ⟨h1, h2, h3, h4, h5, h6, h7, h8, h9, h10⟩ := hw
    obtain ⟨w1, w2⟩ := cut_line hk h4 h5 dr
    have hq := (h4 k hk).1
    have nec : ∀ c, c < 30 → ∀ i, i < sc c → cb c i ≠ ln k := fun c hc i hi e => by
      have := (h6 c hc i hi).2
      rw [e, (h4 k hk).2] at this
      omega
    refine ⟨⟨h1, show l - 1 ≤ 30 by omega, fun z hz => ?_, w1, w2, fun c hc i hi => ?_, fun c hc i j hi hj hij => ?_, fun z hz hz2 => ?_, fun c hc => ?_, fun c hc hc2 => ?_⟩, show l - 1 + 1 = l by omega, hq⟩
    · obtain ⟨y1, y2, y3, y4, y5, y6, y7⟩ := h3 z hz
      refine ⟨y1, y2, y3, y4, y5, y6, ?_⟩
      show upn wh (ln k) dr z ≤ 101
      unfold upn
      split
      · omega
      · exact y7
    · simp only at hi ⊢
      by_cases e : c = dr
      · subst e
        rw [upn_e] at hi
        rw [if_pos rfl]
        by_cases e2 : i = sc c
        · subst e2
          rw [upn_e, upn_e]
          exact ⟨hq, rfl⟩
        · rw [upn_o e2, upn_o (nec c hc i (by omega))]
          exact h6 c hc i (by omega)
      · rw [upn_o e] at hi
        rw [if_neg e, upn_o (nec c hc i hi)]
        exact h6 c hc i hi
    · simp only at hi hj hij
      by_cases e : c = dr
      · subst e
        rw [upn_e] at hi hj
        rw [if_pos rfl] at hij
        by_cases e2 : i = sc c <;> by_cases e3 : j = sc c
        · omega
        · rw [e2, upn_e, upn_o e3] at hij
          exact absurd hij.symm (nec c hc j (by omega))
        · rw [e3, upn_e, upn_o e2] at hij
          exact absurd hij (nec c hc i (by omega))
        · rw [upn_o e2, upn_o e3] at hij
          exact h7 c hc i j (by omega) (by omega) hij
      · rw [upn_o e] at hi hj
        rw [if_neg e] at hij
        exact h7 c hc i j hi hj hij
    · simp only at hz2 ⊢
      by_cases e : z = ln k
      · rw [e, upn_e, upn_e]
        exact ⟨sc dr, by omega, by rw [if_pos rfl, upn_e]⟩
      · rw [upn_o e] at hz2 ⊢
        obtain ⟨i, i1, i2⟩ := h8 z hz hz2
        by_cases e2 : wh z = dr
        · rw [e2] at i1 i2 ⊢
          exact ⟨i, by rw [upn_e]; omega, by rw [if_pos rfl, upn_o (by omega)]; exact i2⟩
        · exact ⟨i, by rw [upn_o e2]; exact i1, by rw [if_neg e2]; exact i2⟩
    · simp only
      obtain ⟨g1, g2⟩ := h9 c hc
      by_cases e : c = dr
      · subst e
        rw [upn_e]
        simp only [if_true]
        simp only [smN, upn_e]
        rw [smN_up, smN_up, g1]
        exact ⟨rfl, hm6⟩
      · rw [upn_o e]
        simp only [e, if_false, Nat.add_zero]
        exact ⟨g1, g2⟩
    · simp only
      rw [upn_o (by omega)]
      exact h10 c hc hc2
end
section
variable {M : e_Me} {np : Nat} {pe we wi se : Nat → Nat} {n t b h c pt : Nat}
theorem placeC {wh : Nat → Nat} {pa : Nat → Int32} {l : Nat} {ln sc : Nat → Nat} {cb : Nat → Nat → Nat} {ld : Nat → Nat} (hc : cW M n t ld) (hu : cU M b h c pt) (h7 : b ≤ 1000000) (hP : cP M np pe we wi wh se pa l ln sc cb) (hw : wP n ld np pe we wi wh se l ln sc cb) : ∀ (d k F : Nat), k + d = l → d < F →
    ri_placeOfNext_l11 (nI pt) M F (nI k) = some (oI (nxF (fun k => mbB n ld pe we wi sc cb b ((0 + n - t) % n) (ln k)) (fun k => decide (pa (ln k) < nI pt)) d k)) := by
  have hl30 := hw.2.1
  have hnp := hw.1
  intro d
  induction d with
  | zero =>
    intro k F e1 e2
    obtain ⟨F, rfl⟩ : ∃ F', F = F' + 1 := ⟨F - 1, by omega⟩
    have c1 : l ≤ k := by omega
    simp (disch := omega) only [x_bd_s, x_bi_s, x_lt_e, x_rd_n, x_wr_n, x_ra_n, x_dv_n, s_lt, s_le, s_eq, s_lt0, s_le0, s_0lt, s_0le, s_eq0, s_sub, s_rem, s_div, s_in, bI_0, bI_1, x_gb_b, x_gb_0, x_gb_1, nI_add, nI_1, s_size, s_abs, s_max, iI_mul, iI_add, iI_neg, Nat.le_refl, Nat.lt_irrefl, if_true, if_false, ite_true, ite_false, not_true, not_false_eq_true, ri_placeOfNext_l11, ro_count_ok cap_22, hP.2.2.1, c1]
    rfl
  | succ d ih =>
    intro k F e1 e2
    obtain ⟨F, rfl⟩ : ∃ F', F = F' + 1 := ⟨F - 1, by omega⟩
    have c1 : ¬ l ≤ k := by omega
    have hk : k < l := by omega
    have hp := (hw.2.2.2.1 k hk).1
    have a1 := ro_at_ok cap_22 hP.2.2.1 hl30 (show 30 ≤ 1000 by omega) hk
    rw [show 22 + 1 = 23 from rfl, hP.2.2.2.1 k hk] at a1
    have a2 := mayBoard_ok hc hu h7 hP hw hp
    have a3 := ro_at_ok cap_200.2.2.2.2.2 hP.1.2.2.2.2.2 hnp (show 200 ≤ 1000 by omega) hp
    rw [show 20 + 1 = 21 from rfl, (hP.2.1 _ hp).2.2.2.2.2] at a3
    have ih2 := ih (k + 1) F (by omega) (by omega)
    cases hb : mbB n ld pe we wi sc cb b ((0 + n - t) % n) (ln k) with
    | true =>
      rw [hb] at a2
      have e0 : (bB true = 0) = False := by simp [bB]
      simp (disch := omega) only [x_bd_s, x_bi_s, x_lt_e, x_rd_n, x_wr_n, x_ra_n, x_dv_n, s_lt, s_le, s_eq, s_lt0, s_le0, s_0lt, s_0le, s_eq0, s_sub, s_rem, s_div, s_in, bI_0, bI_1, x_gb_b, x_gb_0, x_gb_1, nI_add, nI_1, s_size, s_abs, s_max, iI_mul, iI_add, iI_neg, Nat.le_refl, Nat.lt_irrefl, if_true, if_false, ite_true, ite_false, not_true, not_false_eq_true, ri_placeOfNext_l11, ro_count_ok cap_22, hP.2.2.1, c1, a1, a2, e0, nxF, hb]
      rfl
    | false =>
      rw [hb] at a2
      have e0 : (bB false = 0) = True := by simp [bB]
      by_cases g : pa (ln k) < nI pt
      · simp (disch := omega) only [x_bd_s, x_bi_s, x_lt_e, x_rd_n, x_wr_n, x_ra_n, x_dv_n, s_lt, s_le, s_eq, s_lt0, s_le0, s_0lt, s_0le, s_eq0, s_sub, s_rem, s_div, s_in, bI_0, bI_1, x_gb_b, x_gb_0, x_gb_1, nI_add, nI_1, s_size, s_abs, s_max, iI_mul, iI_add, iI_neg, Nat.le_refl, Nat.lt_irrefl, if_true, if_false, ite_true, ite_false, not_true, not_false_eq_true, ri_placeOfNext_l11, ro_count_ok cap_22, hP.2.2.1, c1, a1, a2, e0, nxF, hb, pa_timesPassed, a3, g, decide_true]
        rw [if_neg (by decide)]
        exact ih2
      · simp (disch := omega) only [x_bd_s, x_bi_s, x_lt_e, x_rd_n, x_wr_n, x_ra_n, x_dv_n, s_lt, s_le, s_eq, s_lt0, s_le0, s_0lt, s_0le, s_eq0, s_sub, s_rem, s_div, s_in, bI_0, bI_1, x_gb_b, x_gb_0, x_gb_1, nI_add, nI_1, s_size, s_abs, s_max, iI_mul, iI_add, iI_neg, Nat.le_refl, Nat.lt_irrefl, if_true, if_false, ite_true, ite_false, not_true, not_false_eq_true, ri_placeOfNext_l11, ro_count_ok cap_22, hP.2.2.1, c1, a1, a2, e0, nxF, hb, pa_timesPassed, a3, g, decide_false]
        rw [if_neg (by decide), if_neg (by decide)]
        rfl
theorem passC {pa : Nat → Int32} {l : Nat} {ln : Nat → Nat} {k : Nat} (hl : l ≤ 30) (hk : k < l) (hnp : np ≤ 200) (hln : ∀ j, j < l → ln j < np) : ∀ (d i F : Nat) (M : e_Me), i + d = k → d < F → M 22 1 = nI l → (∀ j, j < l → M 23 j = nI (ln j)) → M 20 1 = nI np → (∀ p, p < np → M 21 p = paF pa ln i p) →
    ∃ M', ri_boardNext_l14 (nI k) F (nI i) M = ri_boardNext_b40 (nI k) M' ∧ (∀ p, p < np → M' 21 p = paF pa ln k p) ∧ ∀ a b, a ≠ 21 → M' a b = M a b := by
  intro d
  induction d with
  | zero =>
    intro i F M e1 e2 h1 h2 h3 h4
    obtain ⟨F, rfl⟩ : ∃ F', F = F' + 1 := ⟨F - 1, by omega⟩
    have e : i = k := by omega
    subst e
    exact ⟨M, by simp (disch := omega) only [x_bd_s, x_bi_s, x_lt_e, x_rd_n, x_wr_n, x_ra_n, x_dv_n, s_lt, s_le, s_eq, s_lt0, s_le0, s_0lt, s_0le, s_eq0, s_sub, s_rem, s_div, s_in, bI_0, bI_1, x_gb_b, x_gb_0, x_gb_1, nI_add, nI_1, s_size, s_abs, s_max, iI_mul, iI_add, iI_neg, Nat.le_refl, Nat.lt_irrefl, if_true, if_false, ite_true, ite_false, not_true, not_false_eq_true, ri_boardNext_l14], h4, fun a b _ => rfl⟩
  | succ d ih =>
    intro i F M e1 e2 h1 h2 h3 h4
    obtain ⟨F, rfl⟩ : ∃ F', F = F' + 1 := ⟨F - 1, by omega⟩
    have c1 : ¬ k ≤ i := by omega
    have hi : i < l := by omega
    have a1 := ro_at_ok cap_22 h1 hl (show 30 ≤ 1000 by omega) hi
    rw [show 22 + 1 = 23 from rfl, h2 i hi] at a1
    have a2 := ro_at_ok cap_200.2.2.2.2.2 h3 hnp (show 200 ≤ 1000 by omega) (hln i hi)
    rw [show 20 + 1 = 21 from rfl, h4 _ (hln i hi)] at a2
    have a3 := ro_set_ok (M := M) (x := paF pa ln i (ln i) + 1) cap_200.2.2.2.2.2 h3 hnp (show 200 ≤ 1000 by omega) (hln i hi)
    obtain ⟨M', k1, k2, k3⟩ := ih (i + 1) F (e_up M (20 + 1) (ln i) (paF pa ln i (ln i) + 1)) (by omega) (by omega) (by rw [e_up_o (by omega), h1]) (fun j hj => by rw [e_up_o (by omega), h2 j hj]) (by rw [e_up_o (by omega), h3]) (fun p hp => by
      simp only [paF, upn]
      by_cases e : p = ln i
      · subst e
        rw [if_pos rfl, show 21 = 20 + 1 from rfl, e_up_e]
      · rw [if_neg e, e_up_o (by omega), h4 p hp])
    refine ⟨M', ?_, k2, fun a b hab => by rw [k3 a b hab, e_up_o (by omega)]⟩
    simp (disch := omega) only [x_bd_s, x_bi_s, x_lt_e, x_rd_n, x_wr_n, x_ra_n, x_dv_n, s_lt, s_le, s_eq, s_lt0, s_le0, s_0lt, s_0le, s_eq0, s_sub, s_rem, s_div, s_in, bI_0, bI_1, x_gb_b, x_gb_0, x_gb_1, nI_add, nI_1, s_size, s_abs, s_max, iI_mul, iI_add, iI_neg, Nat.le_refl, Nat.lt_irrefl, if_true, if_false, ite_true, ite_false, not_true, not_false_eq_true, ri_boardNext_l14, c1, a1, pa_passOver, a2, a3]
    exact k1
theorem boardC {x : bS} (hc : cW M n t x.1) (hu : cU M b h c pt) (h7 : b ≤ 1000000) (hP : cPx M np pe we wi se x) (hw : wPx n np pe we wi se x) :
    (bdS n b ((0 + n - t) % n) pt pe we wi x = none ∧ ri_boardNext M = some (-1, M)) ∨ ∃ q y M', bdS n b ((0 + n - t) % n) pt pe we wi x = some (q, y) ∧ ri_boardNext M = some (nI q, M') ∧ cW M' n t y.1 ∧ cPx M' np pe we wi se y ∧
      ∀ i j, ¬ (i = 5 ∨ i = 6 ∨ i = 17 ∨ (21 ≤ i ∧ i ≤ 23) ∨ (27 ≤ i ∧ i ≤ 86)) → M' i j = M i j := by
  have hb := okn_b hc.1
  have hdr : (0 + n - t) % n < n := Nat.mod_lt _ (by omega)
  have hBW := fun q y => boardW (b := b) (pt := pt) (x := x) (y := y) (q := q) hdr hb.2 hw
  obtain ⟨ld, pa, wh, l, ln, sc, cb⟩ := x
  unfold cPx at hP
  unfold wPx at hw
  simp only at hP hw hc
  have v3 : ru_valueOf 3 M = some (nI pt) := by rw [show (3 : Int32) = nI 3 from rfl, ru_valueOf_ok (by omega), hu.2.2.2]
  have hpl := placeC hc hu h7 hP hw l 0 e_F (by omega) (by have := hw.2.1; have := e_Fge; omega)
  have hdoor := wh_atDoor_ok hc
  simp only [bdS] at hBW ⊢
  generalize hdd : (0 + n - t) % n = dr at hdr hpl hBW hdoor
  rw [nI_0] at hpl
  cases hnx : nxF (fun k => mbB n ld pe we wi sc cb b dr (ln k)) (fun k => decide (pa (ln k) < nI pt)) l 0 with
  | none =>
    left
    rw [hnx] at hpl
    have e0 : (oI none = (-1 : Int32)) = True := by simp [oI]
    refine ⟨rfl, ?_⟩
    simp (disch := omega) only [x_bd_s, x_bi_s, x_lt_e, x_rd_n, x_wr_n, x_ra_n, x_dv_n, s_lt, s_le, s_eq, s_lt0, s_le0, s_0lt, s_0le, s_eq0, s_sub, s_rem, s_div, s_in, bI_0, bI_1, x_gb_b, x_gb_0, x_gb_1, nI_add, nI_1, s_size, s_abs, s_max, iI_mul, iI_add, iI_neg, Nat.le_refl, Nat.lt_irrefl, if_true, if_false, ite_true, ite_false, not_true, not_false_eq_true, ri_boardNext, ri_placeOfNext, v3, hpl, e0]
  | some k =>
    right
    rw [hnx] at hpl hBW
    obtain ⟨hW2, -, -⟩ := hBW _ _ rfl
    obtain ⟨-, hk, hmb⟩ := nxF_ok hnx
    rw [Nat.zero_add] at hk
    simp only [mbB, decide_eq_true_eq] at hmb
    have hd30 : dr < 30 := by omega
    obtain ⟨h1, h2, h3, h4, h5, h6, h7', h8, h9, h10⟩ := id hw
    obtain ⟨⟨r1, r2, r3, r4, r5, r6⟩, r7, r8, r9, r10, r11⟩ := id hP
    have hq := (h4 k hk).1
    have hs5 : sc dr < 6 := by
      have z1 := smN_ge (f := fun i => pe (cb dr i)) (k := sc dr) (fun i hi => (h3 _ (h6 dr hd30 i hi).1).1)
      have z2 := (h3 _ hq).1
      have z3 := hmb.1
      omega
    have e0 : (oI (some k) = (-1 : Int32)) = False := by
      show (nI k = (-1 : Int32)) = False
      rw [nI_iI, ← iI_m1, iI_eq (by omega) (by omega) (by omega) (by omega)]
      exact eq_false (by omega)
    obtain ⟨A, a1, a2, a3⟩ := passC (pa := pa) h2 hk h1 (fun j hj => (h4 j hj).1) k 0 e_F M (by omega) (by have := e_Fge; omega) r8 r9 r6 (fun p hp => (r7 p hp).2.2.2.2.2)
    obtain ⟨B, b1, b2, b3, b4⟩ := ro_cut_ok (M := A) cap_22 (m := l) (by rw [a3 _ _ (by omega), r8]) h2 (by omega) hk
    have c1 := ro_append_ok (M := B) (x := nI (ln k)) (cap_cab dr hd30) (m := sc dr) (by rw [b4 _ _ (by omega), a3 _ _ (by omega), r10 dr hd30]) hs5 (by omega)
    generalize hC : e_up (e_up B (27 + 2 * dr + 1) (sc dr) (nI (ln k))) (27 + 2 * dr) 1 (nI (sc dr + 1)) = C at c1
    have fC : ∀ i j, ¬ ((21 ≤ i ∧ i ≤ 23) ∨ (27 ≤ i ∧ i ≤ 86)) → C i j = M i j := fun i j hn => by
      rw [← hC, e_up_o (by omega), e_up_o (by omega), b4 _ _ (by omega), a3 _ _ (by omega)]
    have d1 := ro_set_ok (M := C) (x := nI dr) cap_200.2.2.2.1 (m := np) (by rw [fC _ _ (by omega), r4]) h1 (by omega) hq
    generalize hD : e_up C (16 + 1) (ln k) (nI dr) = D at d1
    have fD : ∀ i j, ¬ (i = 17 ∨ (21 ≤ i ∧ i ≤ 23) ∨ (27 ≤ i ∧ i ≤ 86)) → D i j = M i j := fun i j hn => by
      rw [← hD, e_up_o (by omega), fC _ _ (by omega)]
    have w1 := ro_at_ok (M := D) cap_200.2.1 (m := np) (by rw [fD _ _ (by omega), r2]) h1 (by omega) hq
    rw [show 12 + 1 = 13 from rfl, fD 13 _ (by omega), (r7 _ hq).2.1] at w1
    have hcD : cW D n t ld := cW_frame hc (funext fun j => fD 3 j (by omega)) (funext fun j => fD 4 j (by omega)) (funext fun j => fD 5 j (by omega)) (funext fun j => fD 6 j (by omega))
    obtain ⟨E, e1, e2, e3⟩ := wh_addLoad_ok (w := (we (ln k) : Int)) (ld' := fun c => ld c + if c = dr then we (ln k) else 0) hcD hdr (fun d hd => by
      by_cases e : d = dr
      · simp [e]
      · simp [e]) (fun d hd => wP_ld hW2 hd)
    rw [← nI_iI] at e1
    have hal := ro_at_ok cap_22 (M := A) (m := l) (by rw [a3 _ _ (by omega), r8]) h2 (show 30 ≤ 1000 by omega) hk
    rw [show 22 + 1 = 23 from rfl, a3 23 _ (by omega), r9 k hk] at hal
    have hcA : cW A n t ld := cW_frame hc (funext fun j => a3 3 j (by omega)) (funext fun j => a3 4 j (by omega)) (funext fun j => a3 5 j (by omega)) (funext fun j => a3 6 j (by omega))
    have hdA := wh_atDoor_ok hcA
    rw [hdd] at hdA
    have hx : ri_boardNext M = some (nI (ln k), E) := by
      simp only [ri_boardNext, ri_placeOfNext, v3, x_bd_s, hpl, e0, if_false]
      show ri_boardNext_l14 (nI k) e_F 0 M = _
      rw [nI_0] at a1
      rw [a1]
      simp (disch := omega) only [x_bd_s, x_bi_s, x_lt_e, x_rd_n, x_wr_n, x_ra_n, x_dv_n, s_lt, s_le, s_eq, s_lt0, s_le0, s_0lt, s_0le, s_eq0, s_sub, s_rem, s_div, s_in, bI_0, bI_1, x_gb_b, x_gb_0, x_gb_1, nI_add, nI_1, s_size, s_abs, s_max, iI_mul, iI_add, iI_neg, Nat.le_refl, Nat.lt_irrefl, if_true, if_false, ite_true, ite_false, not_true, not_false_eq_true, ri_boardNext_b40, hal, hdA, b1, insideOf_ok hd30, cap_cab dr hd30, c1, pa_moveTo, d1, pa_weightOf, w1, e1]
    have fE : ∀ i j, i ≠ 5 → i ≠ 6 → E i j = D i j := fun i j i1 i2 => by rw [e3 i i1 i2]
    have fM : ∀ i j, ¬ (i = 5 ∨ i = 6 ∨ i = 17 ∨ (21 ≤ i ∧ i ≤ 23) ∨ (27 ≤ i ∧ i ≤ 86)) → E i j = M i j := fun i j hn => by
      rw [fE _ _ (by omega) (by omega), fD _ _ (by omega)]
    refine ⟨ln k, _, E, rfl, hx, e2, ⟨?_, fun p hp => ?_, ?_, fun j hj => ?_, fun c hc => ?_, fun c hc i hi => ?_⟩, fM⟩
    · rw [fM _ _ (by omega), fM _ _ (by omega), fM _ _ (by omega), fM _ _ (by omega), fM _ _ (by omega), fM _ _ (by omega)]
      exact ⟨r1, r2, r3, r4, r5, r6⟩
    · rw [fM 11 _ (by omega), fM 13 _ (by omega), fM 15 _ (by omega), fM 19 _ (by omega), fE 17 _ (by omega) (by omega), fE 21 _ (by omega) (by omega)]
      obtain ⟨y1, y2, y3, y4, y5, y6⟩ := r7 p hp
      have z21 : D 21 p = paF pa ln k p := by
        rw [← hD, e_up_o (by omega), ← hC, e_up_o (by omega), e_up_o (by omega), b4 _ _ (by omega), a2 p hp]
      refine ⟨y1, y2, y3, ?_, y5, z21⟩
      show D 17 p = nI (upn wh (ln k) dr p)
      rw [← hD]
      by_cases e : p = ln k
      · rw [e, upn_e, show 17 = 16 + 1 from rfl, e_up_e]
      · rw [upn_o e, e_up_o (by omega), fC _ _ (by omega), y4]
    · show E 22 1 = nI (l - 1)
      rw [fE _ _ (by omega) (by omega), ← hD, e_up_o (by omega), ← hC, e_up_o (by omega), e_up_o (by omega), b2]
    · show E 23 j = nI (cutF ln k j)
      have hj' : j < l - 1 := hj
      rw [fE _ _ (by omega) (by omega), ← hD, e_up_o (by omega), ← hC, e_up_o (by omega), e_up_o (by omega), show 23 = 22 + 1 from rfl, b3 j hj']
      unfold cutF
      split
      · rw [a3 _ _ (by omega)]
        exact r9 j (by omega)
      · rw [a3 _ _ (by omega)]
        exact r9 (j + 1) (by omega)
    · show E (27 + 2 * c) 1 = nI (upn sc dr (sc dr + 1) c)
      rw [fE _ _ (by omega) (by omega), ← hD, e_up_o (by omega), ← hC]
      by_cases e : c = dr
      · subst e
        rw [upn_e, e_up_e]
      · rw [upn_o e, e_up_o (by omega), e_up_o (by omega), b4 _ _ (by omega), a3 _ _ (by omega), r10 c hc]
    · have hi' : i < upn sc dr (sc dr + 1) c := hi
      show E (27 + 2 * c + 1) i = nI ((if c = dr then upn (cb dr) (sc dr) (ln k) else cb c) i)
      rw [fE _ _ (by omega) (by omega), ← hD, e_up_o (by omega), ← hC]
      by_cases e : c = dr
      · subst e
        rw [upn_e] at hi'
        rw [if_pos rfl, e_up_o (by omega)]
        by_cases e2 : i = sc c
        · subst e2
          rw [e_up_e, upn_e]
        · rw [upn_o e2, e_up_o (by omega), b4 _ _ (by omega), a3 _ _ (by omega), r11 c hc i (by omega)]
      · rw [upn_o e] at hi'
        rw [if_neg e, e_up_o (by omega), e_up_o (by omega), b4 _ _ (by omega), a3 _ _ (by omega), r11 c hc i hi']
/-! the reference -/
theorem passM {pa : Nat → Int32} {l : Nat} {ln : Nat → Nat} {k : Nat} {y : Int32} (hl : l ≤ 30) (hk : k < l) (hnp : np ≤ 200) (hln : ∀ j, j < l → ln j < np) : ∀ (d i F : Nat) (M : e_Me), i + d = k → d < F → (∀ j, j < l → M 192 j = nI (ln j)) → (∀ p, p < np → M 191 p = paF pa ln i p) →
    ∃ M', md_board_l27 (nI k) y F (nI i) M = md_board_b53 (nI k) y M' ∧ (∀ p, p < np → M' 191 p = paF pa ln k p) ∧ ∀ a b, a ≠ 191 → M' a b = M a b := by
  intro d
  induction d with
  | zero =>
    intro i F M e1 e2 h2 h4
    obtain ⟨F, rfl⟩ : ∃ F', F = F' + 1 := ⟨F - 1, by omega⟩
    have e : i = k := by omega
    subst e
    exact ⟨M, by simp (disch := omega) only [x_bd_s, x_bi_s, x_lt_e, x_rd_n, x_wr_n, x_ra_n, x_dv_n, s_lt, s_le, s_eq, s_lt0, s_le0, s_0lt, s_0le, s_eq0, s_sub, s_rem, s_div, s_in, bI_0, bI_1, x_gb_b, x_gb_0, x_gb_1, nI_add, nI_1, s_size, s_abs, s_max, iI_mul, iI_add, iI_neg, Nat.le_refl, Nat.lt_irrefl, if_true, if_false, ite_true, ite_false, not_true, not_false_eq_true, md_board_l27], h4, fun a b _ => rfl⟩
  | succ d ih =>
    intro i F M e1 e2 h2 h4
    obtain ⟨F, rfl⟩ : ∃ F', F = F' + 1 := ⟨F - 1, by omega⟩
    have c1 : ¬ k ≤ i := by omega
    have hi : i < l := by omega
    have hp := hln i hi
    obtain ⟨M', k1, k2, k3⟩ := ih (i + 1) F (e_up M 191 (ln i) (paF pa ln i (ln i) + 1)) (by omega) (by omega) (fun j hj => by rw [e_up_o (by omega), h2 j hj]) (fun p hp => by
      simp only [paF, upn]
      by_cases e : p = ln i
      · subst e
        rw [if_pos rfl, e_up_e]
      · rw [if_neg e, e_up_o (by omega), h4 p hp])
    refine ⟨M', ?_, k2, fun a b hab => by rw [k3 a b hab, e_up_o (by omega)]⟩
    simp (disch := omega) only [x_bd_s, x_bi_s, x_lt_e, x_rd_n, x_wr_n, x_ra_n, x_dv_n, s_lt, s_le, s_eq, s_lt0, s_le0, s_0lt, s_0le, s_eq0, s_sub, s_rem, s_div, s_in, bI_0, bI_1, x_gb_b, x_gb_0, x_gb_1, nI_add, nI_1, s_size, s_abs, s_max, iI_mul, iI_add, iI_neg, Nat.le_refl, Nat.lt_irrefl, if_true, if_false, ite_true, ite_false, not_true, not_false_eq_true, md_board_l27, c1, h2 i hi, h4 _ hp]
    exact k1
theorem placeM {wh : Nat → Nat} {pa : Nat → Int32} {l : Nat} {ln sc : Nat → Nat} {cb : Nat → Nat → Nat} {ld : Nat → Nat} (hk : okn n) (ht : t < n) (hm : mW M n t ld) (hu : mU M b h c pt) (h7 : b ≤ 1000000) (hP : mP M np pe we wi wh se pa l ln sc cb) (hw : wP n ld np pe we wi wh se l ln sc cb) : ∀ (d k F : Nat), k + d = l → d < F →
    md_board_l2 F (nI k) M = (match nxF (fun k => mbB n ld pe we wi sc cb b ((0 + n - t) % n) (ln k)) (fun k => decide (pa (ln k) < nI pt)) d k with
      | none => some (-1, M)
      | some j => md_board_l27 (nI j) (nI (ln j)) e_F 0 M) := by
  have hl30 := hw.2.1
  have hnp := hw.1
  intro d
  induction d with
  | zero =>
    intro k F e1 e2
    obtain ⟨F, rfl⟩ : ∃ F', F = F' + 1 := ⟨F - 1, by omega⟩
    have c1 : l ≤ k := by omega
    simp (disch := omega) only [x_bd_s, x_bi_s, x_lt_e, x_rd_n, x_wr_n, x_ra_n, x_dv_n, s_lt, s_le, s_eq, s_lt0, s_le0, s_0lt, s_0le, s_eq0, s_sub, s_rem, s_div, s_in, bI_0, bI_1, x_gb_b, x_gb_0, x_gb_1, nI_add, nI_1, s_size, s_abs, s_max, iI_mul, iI_add, iI_neg, Nat.le_refl, Nat.lt_irrefl, if_true, if_false, ite_true, ite_false, not_true, not_false_eq_true, md_board_l2, hP.2.2.1, c1]
    rfl
  | succ d ih =>
    intro k F e1 e2
    obtain ⟨F, rfl⟩ : ∃ F', F = F' + 1 := ⟨F - 1, by omega⟩
    have c1 : ¬ l ≤ k := by omega
    have hk2 : k < l := by omega
    have hp := (hw.2.2.2.1 k hk2).1
    have a2 := md_mayBoard_ok hk ht hm hu h7 hP hw hp
    have ih2 := ih (k + 1) F (by omega) (by omega)
    cases hb : mbB n ld pe we wi sc cb b ((0 + n - t) % n) (ln k) with
    | true =>
      rw [hb] at a2
      have e0 : (bB true = 0) = False := by simp [bB]
      simp (disch := omega) only [x_bd_s, x_bi_s, x_lt_e, x_rd_n, x_wr_n, x_ra_n, x_dv_n, s_lt, s_le, s_eq, s_lt0, s_le0, s_0lt, s_0le, s_eq0, s_sub, s_rem, s_div, s_in, bI_0, bI_1, x_gb_b, x_gb_0, x_gb_1, nI_add, nI_1, s_size, s_abs, s_max, iI_mul, iI_add, iI_neg, Nat.le_refl, Nat.lt_irrefl, if_true, if_false, ite_true, ite_false, not_true, not_false_eq_true, md_board_l2, hP.2.2.1, c1, hP.2.2.2.1 k hk2, a2, e0, nxF, hb]
    | false =>
      rw [hb] at a2
      have e0 : (bB false = 0) = True := by simp [bB]
      by_cases g : pa (ln k) < nI pt
      · simp (disch := omega) only [x_bd_s, x_bi_s, x_lt_e, x_rd_n, x_wr_n, x_ra_n, x_dv_n, s_lt, s_le, s_eq, s_lt0, s_le0, s_0lt, s_0le, s_eq0, s_sub, s_rem, s_div, s_in, bI_0, bI_1, x_gb_b, x_gb_0, x_gb_1, nI_add, nI_1, s_size, s_abs, s_max, iI_mul, iI_add, iI_neg, Nat.le_refl, Nat.lt_irrefl, if_true, if_false, ite_true, ite_false, not_true, not_false_eq_true, md_board_l2, hP.2.2.1, c1, hP.2.2.2.1 k hk2, a2, e0, nxF, hb, (hP.2.1 _ hp).2.2.2.2.2, hu.2.2.2, g, decide_true]
        rw [ih2]
        simp
      · simp (disch := omega) only [x_bd_s, x_bi_s, x_lt_e, x_rd_n, x_wr_n, x_ra_n, x_dv_n, s_lt, s_le, s_eq, s_lt0, s_le0, s_0lt, s_0le, s_eq0, s_sub, s_rem, s_div, s_in, bI_0, bI_1, x_gb_b, x_gb_0, x_gb_1, nI_add, nI_1, s_size, s_abs, s_max, iI_mul, iI_add, iI_neg, Nat.le_refl, Nat.lt_irrefl, if_true, if_false, ite_true, ite_false, not_true, not_false_eq_true, md_board_l2, hP.2.2.1, c1, hP.2.2.2.1 k hk2, a2, e0, nxF, hb, (hP.2.1 _ hp).2.2.2.2.2, hu.2.2.2, g, decide_false]
        simp
theorem boardM {x : bS} (hk : okn n) (ht : t < n) (hm : mW M n t x.1) (hu : mU M b h c pt) (h7 : b ≤ 1000000) (hP : mPx M np pe we wi se x) (hw : wPx n np pe we wi se x) :
    (bdS n b ((0 + n - t) % n) pt pe we wi x = none ∧ md_board M = some (-1, M)) ∨ ∃ q y M', bdS n b ((0 + n - t) % n) pt pe we wi x = some (q, y) ∧ md_board M = some (nI q, M') ∧ mW M' n t y.1 ∧ mPx M' np pe we wi se y ∧
      ∀ i j, ¬ (i = 183 ∨ i = 184 ∨ i = 185 ∨ i = 189 ∨ i = 191 ∨ i = 192 ∨ (i = 182 ∧ j = 19)) → M' i j = M i j := by
  have hb := okn_b hk
  have hdr : (0 + n - t) % n < n := Nat.mod_lt _ (by omega)
  obtain ⟨ld, pa, wh, l, ln, sc, cb⟩ := x
  unfold mPx at hP
  unfold wPx at hw
  simp only at hP hw hm
  have hpl := placeM hk ht hm hu h7 hP hw l 0 e_F (by omega) (by have := hw.2.1; have := e_Fge; omega)
  simp only [bdS]
  generalize hdd : (0 + n - t) % n = dr at hdr hpl
  rw [nI_0] at hpl
  cases hnx : nxF (fun k => mbB n ld pe we wi sc cb b dr (ln k)) (fun k => decide (pa (ln k) < nI pt)) l 0 with
  | none =>
    left
    rw [hnx] at hpl
    exact ⟨rfl, hpl⟩
  | some k =>
    right
    rw [hnx] at hpl
    simp only at hpl
    obtain ⟨-, hk2, hmb⟩ := nxF_ok hnx
    rw [Nat.zero_add] at hk2
    simp only [mbB, decide_eq_true_eq] at hmb
    have hd30 : dr < 30 := by omega
    obtain ⟨h1, h2, h3, h4, h5, h6, h7', h8, h9, h10⟩ := id hw
    obtain ⟨r1, r7, r8, r9, r10, r11⟩ := id hP
    have hq := (h4 k hk2).1
    have hs5 : sc dr < 6 := by
      have z1 := smN_ge (f := fun i => pe (cb dr i)) (k := sc dr) (fun i hi => (h3 _ (h6 dr hd30 i hi).1).1)
      have z2 := (h3 _ hq).1
      have z3 := hmb.1
      omega
    obtain ⟨A, a1, a2, a3⟩ := passM (pa := pa) (y := nI (ln k)) h2 hk2 h1 (fun j hj => (h4 j hj).1) k 0 e_F M (by omega) (by have := e_Fge; omega) r9 (fun p hp => (r7 p hp).2.2.2.2.2)
    rw [nI_0] at a1
    obtain ⟨B, b1, b2, b3, b4⟩ := takeOut_ok (M := A) h2 hk2 (by rw [a3 _ _ (by omega), r8]) (fun j hj => by rw [a3 _ _ (by omega), r9 j hj])
    have fB : ∀ i j, ¬ (i = 191 ∨ i = 192 ∨ (i = 182 ∧ j = 19)) → B i j = M i j := fun i j hn => by rw [b4 _ _ (by omega), a3 _ _ (by omega)]
    have door := md_atPlace_ok (M := B) (t := t) (p := 0) hk (by rw [fB _ _ (by omega), hm.1]) (by rw [fB _ _ (by omega), hm.2.1]) ht (by omega)
    rw [hdd, nI_0] at door
    have e6 : (6 : Int32) * nI dr = nI (6 * dr) := by rw [show (6 : Int32) = nI 6 from rfl, pk_mul]
    have f184 : B 184 dr = nI (sc dr) := by rw [fB _ _ (by omega), r10 dr hd30]
    have f185 : B 185 dr = nI (ld dr) := by rw [fB _ _ (by omega), hm.2.2 dr hd30]
    have f187 : B 187 (ln k) = nI (we (ln k)) := by rw [fB _ _ (by omega), (r7 _ hq).2.1]
    have hx : md_board M = some (nI (ln k), e_up (e_up (e_up (e_up B 183 (6 * dr + sc dr) (nI (ln k))) 184 dr (nI (sc dr + 1))) 185 dr (nI (ld dr + we (ln k)))) 189 (ln k) (nI dr)) := by
      show md_board_l2 e_F 0 M = _
      rw [hpl, a1]
      simp (disch := omega) only [x_bd_s, x_bi_s, x_lt_e, x_rd_n, x_wr_n, x_ra_n, x_dv_n, s_lt, s_le, s_eq, s_lt0, s_le0, s_0lt, s_0le, s_eq0, s_sub, s_rem, s_div, s_in, bI_0, bI_1, x_gb_b, x_gb_0, x_gb_1, nI_add, nI_1, s_size, s_abs, s_max, iI_mul, iI_add, iI_neg, Nat.le_refl, Nat.lt_irrefl, if_true, if_false, ite_true, ite_false, not_true, not_false_eq_true, md_board_b53, b1, door, f184, e6, e_up_o, e_up_e, f185, f187]
    generalize hE : e_up (e_up (e_up (e_up B 183 (6 * dr + sc dr) (nI (ln k))) 184 dr (nI (sc dr + 1))) 185 dr (nI (ld dr + we (ln k)))) 189 (ln k) (nI dr) = E at hx
    have fE : ∀ i j, ¬ (i = 183 ∨ i = 184 ∨ i = 185 ∨ i = 189) → E i j = B i j := fun i j hn => by
      rw [← hE]
      simp (disch := omega) only [e_up_o]
    have fM : ∀ i j, ¬ (i = 183 ∨ i = 184 ∨ i = 185 ∨ i = 189 ∨ i = 191 ∨ i = 192 ∨ (i = 182 ∧ j = 19)) → E i j = M i j := fun i j hn => by
      rw [fE _ _ (by omega), fB _ _ (by omega)]
    refine ⟨ln k, _, E, rfl, hx, ⟨by rw [fM _ _ (by omega), hm.1], by rw [fM _ _ (by omega), hm.2.1], fun c hc => ?_⟩, ⟨?_, fun p hp => ?_, ?_, fun j hj => ?_, fun c hc => ?_, fun c hc i hi => ?_⟩, fM⟩
    · show E 185 c = nI (ld c + if c = dr then we (ln k) else 0)
      rw [← hE, e_up_o (by omega)]
      by_cases e : c = dr
      · subst e
        rw [if_pos rfl, e_up_e]
      · rw [if_neg e, e_up_o (by omega), e_up_o (by omega), e_up_o (by omega), fB _ _ (by omega), hm.2.2 c hc]
        rfl
    · rw [fM _ _ (by omega), r1]
    · rw [fM 186 _ (by omega), fM 187 _ (by omega), fM 188 _ (by omega), fM 190 _ (by omega), fE 191 _ (by omega)]
      obtain ⟨y1, y2, y3, y4, y5, y6⟩ := r7 p hp
      have z21 : B 191 p = paF pa ln k p := by rw [b4 _ _ (by omega), a2 p hp]
      refine ⟨y1, y2, y3, ?_, y5, z21⟩
      show E 189 p = nI (upn wh (ln k) dr p)
      rw [← hE]
      by_cases e : p = ln k
      · rw [e, upn_e, e_up_e]
      · rw [upn_o e, e_up_o (by omega), e_up_o (by omega), e_up_o (by omega), e_up_o (by omega), fB _ _ (by omega), y4]
    · show E 182 19 = nI (l - 1)
      rw [fE _ _ (by omega), b2]
    · show E 192 j = nI (cutF ln k j)
      have hj' : j < l - 1 := hj
      rw [fE _ _ (by omega), b3 j hj']
    · show E 184 c = nI (upn sc dr (sc dr + 1) c)
      rw [← hE, e_up_o (by omega), e_up_o (by omega)]
      by_cases e : c = dr
      · subst e
        rw [upn_e, e_up_e]
      · rw [upn_o e, e_up_o (by omega), e_up_o (by omega), fB _ _ (by omega), r10 c hc]
    · have hi' : i < upn sc dr (sc dr + 1) c := hi
      show E 183 (6 * c + i) = nI ((if c = dr then upn (cb dr) (sc dr) (ln k) else cb c) i)
      rw [← hE, e_up_o (by omega), e_up_o (by omega), e_up_o (by omega)]
      by_cases e : c = dr
      · subst e
        rw [upn_e] at hi'
        rw [if_pos rfl]
        by_cases e2 : i = sc c
        · subst e2
          rw [e_up_e, upn_e]
        · rw [upn_o e2, e_up_o (by omega), fB _ _ (by omega), r11 c hc i (by omega)]
      · rw [upn_o e] at hi'
        have z6 := wP_sc hw hc
        rw [if_neg e, e_up_o (by omega), fB _ _ (by omega), r11 c hc i hi']
/-- the invariant again -/
theorem board_inv {M1 M2 : e_Me} {y : bS} (hc : cW M1 n t y.1) (hP : cPx M1 np pe we wi se y) (f1 : ∀ i j, ¬ (i = 5 ∨ i = 6 ∨ i = 17 ∨ (21 ≤ i ∧ i ≤ 23) ∨ (27 ≤ i ∧ i ≤ 86)) → M1 i j = M i j) (hm : mW M2 n t y.1) (hQ : mPx M2 np pe we wi se y) (f2 : ∀ i j, ¬ (i = 183 ∨ i = 184 ∨ i = 185 ∨ i = 189 ∨ i = 191 ∨ i = 192 ∨ (i = 182 ∧ j = 19)) → M2 i j = M1 i j) (hw : wPx n np pe we wi se y) (g : Inv M)
    (hG : ∃ w s d, bG M w s d) (hU : ∃ b h c p, bU M b h c p) (hN : ∃ k s q, bN M k s q) (hR : ∃ k r v m, bR M n k r v m) (hH : ∃ lo hi, bH M lo hi) (hO : ∃ k, bO M k) : Inv M2 := by
  have f : ∀ i j, ¬ (i = 5 ∨ i = 6 ∨ i = 17 ∨ (21 ≤ i ∧ i ≤ 23) ∨ (27 ≤ i ∧ i ≤ 86) ∨ i = 183 ∨ i = 184 ∨ i = 185 ∨ i = 189 ∨ i = 191 ∨ i = 192 ∨ (i = 182 ∧ j = 19)) → M2 i j = M i j := fun i j hn => by rw [f2 i j (by omega), f1 i j (by omega)]
  obtain ⟨ld, pa, wh, l, ln, sc, cb⟩ := y
  obtain ⟨w, s, d, hG⟩ := hG
  obtain ⟨b, h, c, p, hU⟩ := hU
  obtain ⟨k, s', q, hN⟩ := hN
  obtain ⟨k2, r, v, m2, hR⟩ := hR
  obtain ⟨lo, hi, hH⟩ := hH
  obtain ⟨k3, hO⟩ := hO
  exact ⟨n, t, ld, ⟨cW_frame hc (funext fun j => f2 3 j (by omega)) (funext fun j => f2 4 j (by omega)) (funext fun j => f2 5 j (by omega)) (funext fun j => f2 6 j (by omega)), hm⟩, ⟨w, s, d, bG_same (fun i j hk => f i j (by unfold kG at hk; omega)) hG⟩, ⟨b, h, c, p, bU_same (fun i j hk => f i j (by unfold kU at hk; omega)) hU⟩, ⟨k, s', q, bN_same (fun i j hk => f i j (by unfold kN at hk; omega)) hN⟩, ⟨k2, r, v, m2, bR_same (fun i j hk => f i j (by unfold kR at hk; omega)) hR⟩, ⟨lo, hi, bH_same (fun i j hk => f i j (by unfold kH at hk; omega)) hH⟩, ⟨k3, bO_same (fun i j hk => f i j (by unfold kO at hk; omega)) hO⟩, np, pe, we, wi, wh, se, pa, l, ln, sc, cb, cP_same (fun i j h1 h2 => f2 i j (by omega)) hP, hQ, hw⟩
end
/-! next, fill -/
def fiS (n b dr pt : Nat) (pe we wi : Nat → Nat) : Nat → bS → Nat × bS
  | 0, x => (0, x)
  | m + 1, x => match bdS n b dr pt pe we wi x with
    | none => (0, x)
    | some (_, y) => ((fiS n b dr pt pe we wi m y).1 + 1, (fiS n b dr pt pe we wi m y).2)
section
variable {np : Nat} {pe we wi se : Nat → Nat} {n t b h c pt : Nat}
theorem fiW {dr : Nat} (hdr : dr < n) (hn : n ≤ 30) : ∀ (m : Nat) (x : bS), wPx n np pe we wi se x → wPx n np pe we wi se (fiS n b dr pt pe we wi m x).2
  | 0, x, hw => hw
  | m + 1, x, hw => by
    simp only [fiS]
    split
    · exact hw
    · rename_i q y e
      exact fiW hdr hn m y (boardW hdr hn hw e).1
theorem fillC (h7 : b ≤ 1000000) : ∀ (m a F : Nat) (M : e_Me) (x : bS), m < F → x.2.2.2.1 < m → a + x.2.2.2.1 ≤ 30 → cW M n t x.1 → cU M b h c pt → cPx M np pe we wi se x → wPx n np pe we wi se x →
    ∃ M', ew_fill_l2 F (nI a) M = some (nI (a + (fiS n b ((0 + n - t) % n) pt pe we wi m x).1), M') ∧ cW M' n t (fiS n b ((0 + n - t) % n) pt pe we wi m x).2.1 ∧ cPx M' np pe we wi se (fiS n b ((0 + n - t) % n) pt pe we wi m x).2 ∧
      ∀ i j, ¬ (i = 5 ∨ i = 6 ∨ i = 17 ∨ (21 ≤ i ∧ i ≤ 23) ∨ (27 ≤ i ∧ i ≤ 86)) → M' i j = M i j := by
  intro m
  induction m with
  | zero => intro a F M x _ h; omega
  | succ m ih =>
    intro a F M x hF hl ha hc hu hP hw
    obtain ⟨F, rfl⟩ : ∃ F', F = F' + 1 := ⟨F - 1, by omega⟩
    have hb := okn_b hc.1
    have hdr : (0 + n - t) % n < n := Nat.mod_lt _ (by omega)
    have c1 : ¬ 200 ≤ a := by omega
    rcases boardC hc hu h7 hP hw with ⟨e1, e2⟩ | ⟨q, y, M1, e1, e2, e3, e4, e5⟩
    · have e0 : fiS n b ((0 + n - t) % n) pt pe we wi (m + 1) x = (0, x) := by simp only [fiS, e1]
      rw [e0]
      exact ⟨M, by simp (disch := omega) only [x_bd_s, x_bi_s, x_lt_e, x_rd_n, x_wr_n, x_ra_n, x_dv_n, s_lt, s_le, s_eq, s_lt0, s_le0, s_0lt, s_0le, s_eq0, s_sub, s_rem, s_div, s_in, bI_0, bI_1, x_gb_b, x_gb_0, x_gb_1, nI_add, nI_1, s_size, s_abs, s_max, iI_mul, iI_add, iI_neg, Nat.le_refl, Nat.lt_irrefl, if_true, if_false, ite_true, ite_false, not_true, not_false_eq_true, ew_fill_l2, show (200 : Int32) = nI 200 from rfl, c1, e2, Nat.add_zero], hc, hP, fun i j _ => rfl⟩
    · have e0 : fiS n b ((0 + n - t) % n) pt pe we wi (m + 1) x = ((fiS n b ((0 + n - t) % n) pt pe we wi m y).1 + 1, (fiS n b ((0 + n - t) % n) pt pe we wi m y).2) := by simp only [fiS, e1]
      obtain ⟨w1, w2, w3⟩ := boardW hdr hb.2 hw e1
      have hnp : np ≤ 200 := hw.1
      have hu' : cU M1 b h c pt := by
        unfold cU at hu ⊢
        rw [e5 _ _ (by omega), e5 _ _ (by omega), e5 _ _ (by omega), e5 _ _ (by omega)]
        exact hu
      obtain ⟨M', k1, k2, k3, k4⟩ := ih (a + 1) F M1 y (by omega) (by omega) (by omega) e3 hu' e4 w1
      rw [e0]
      have eq : (nI q = (-1 : Int32)) = False := by
        rw [nI_iI, ← iI_m1, iI_eq (by omega) (by omega) (by omega) (by omega)]
        exact eq_false (by omega)
      refine ⟨M', ?_, k2, k3, fun i j hn => by rw [k4 i j hn, e5 i j hn]⟩
      simp (disch := omega) only [x_bd_s, x_bi_s, x_lt_e, x_rd_n, x_wr_n, x_ra_n, x_dv_n, s_lt, s_le, s_eq, s_lt0, s_le0, s_0lt, s_0le, s_eq0, s_sub, s_rem, s_div, s_in, bI_0, bI_1, x_gb_b, x_gb_0, x_gb_1, nI_add, nI_1, s_size, s_abs, s_max, iI_mul, iI_add, iI_neg, Nat.le_refl, Nat.lt_irrefl, if_true, if_false, ite_true, ite_false, not_true, not_false_eq_true, ew_fill_l2, show (200 : Int32) = nI 200 from rfl, c1, e2, eq]
      rw [k1]
      congr 3
      omega
theorem fillM (hk : okn n) (ht : t < n) (h7 : b ≤ 1000000) : ∀ (m a F : Nat) (M : e_Me) (x : bS), m < F → x.2.2.2.1 < m → mW M n t x.1 → mU M b h c pt → mPx M np pe we wi se x → wPx n np pe we wi se x →
    ∃ M', md_fill_l2 F (nI a) M = some (nI (a + (fiS n b ((0 + n - t) % n) pt pe we wi m x).1), M') ∧ mW M' n t (fiS n b ((0 + n - t) % n) pt pe we wi m x).2.1 ∧ mPx M' np pe we wi se (fiS n b ((0 + n - t) % n) pt pe we wi m x).2 ∧
      ∀ i j, ¬ (i = 183 ∨ i = 184 ∨ i = 185 ∨ i = 189 ∨ i = 191 ∨ i = 192 ∨ (i = 182 ∧ j = 19)) → M' i j = M i j := by
  intro m
  induction m with
  | zero => intro a F M x _ h; omega
  | succ m ih =>
    intro a F M x hF hl hc hu hP hw
    obtain ⟨F, rfl⟩ : ∃ F', F = F' + 1 := ⟨F - 1, by omega⟩
    have hb := okn_b hk
    have hdr : (0 + n - t) % n < n := Nat.mod_lt _ (by omega)
    rcases boardM hk ht hc hu h7 hP hw with ⟨e1, e2⟩ | ⟨q, y, M1, e1, e2, e3, e4, e5⟩
    · have e0 : fiS n b ((0 + n - t) % n) pt pe we wi (m + 1) x = (0, x) := by simp only [fiS, e1]
      rw [e0]
      exact ⟨M, by simp (disch := omega) only [x_bd_s, x_bi_s, x_lt_e, x_rd_n, x_wr_n, x_ra_n, x_dv_n, s_lt, s_le, s_eq, s_lt0, s_le0, s_0lt, s_0le, s_eq0, s_sub, s_rem, s_div, s_in, bI_0, bI_1, x_gb_b, x_gb_0, x_gb_1, nI_add, nI_1, s_size, s_abs, s_max, iI_mul, iI_add, iI_neg, Nat.le_refl, Nat.lt_irrefl, if_true, if_false, ite_true, ite_false, not_true, not_false_eq_true, md_fill_l2, e2, Nat.add_zero], hc, hP, fun i j _ => rfl⟩
    · have e0 : fiS n b ((0 + n - t) % n) pt pe we wi (m + 1) x = ((fiS n b ((0 + n - t) % n) pt pe we wi m y).1 + 1, (fiS n b ((0 + n - t) % n) pt pe we wi m y).2) := by simp only [fiS, e1]
      obtain ⟨w1, w2, w3⟩ := boardW hdr hb.2 hw e1
      have hnp : np ≤ 200 := hw.1
      have hu' : mU M1 b h c pt := by
        unfold mU at hu ⊢
        rw [e5 _ _ (by omega), e5 _ _ (by omega), e5 _ _ (by omega), e5 _ _ (by omega)]
        exact hu
      obtain ⟨M', k1, k2, k3, k4⟩ := ih (a + 1) F M1 y (by omega) (by omega) e3 hu' e4 w1
      rw [e0]
      have eq : (nI q = (-1 : Int32)) = False := by
        rw [nI_iI, ← iI_m1, iI_eq (by omega) (by omega) (by omega) (by omega)]
        exact eq_false (by omega)
      refine ⟨M', ?_, k2, k3, fun i j hn => by rw [k4 i j hn, e5 i j hn]⟩
      simp (disch := omega) only [x_bd_s, x_bi_s, x_lt_e, x_rd_n, x_wr_n, x_ra_n, x_dv_n, s_lt, s_le, s_eq, s_lt0, s_le0, s_0lt, s_0le, s_eq0, s_sub, s_rem, s_div, s_in, bI_0, bI_1, x_gb_b, x_gb_0, x_gb_1, nI_add, nI_1, s_size, s_abs, s_max, iI_mul, iI_add, iI_neg, Nat.le_refl, Nat.lt_irrefl, if_true, if_false, ite_true, ite_false, not_true, not_false_eq_true, md_fill_l2, e2, eq]
      rw [k1]
      congr 3
      omega
end
section
variable {M : e_Me}
theorem l_next (h : Inv M) : ∃ r M1 M2, ew_next M = some (r, M1) ∧ md_next M1 = some (r, M2) ∧ Inv M2 := by
  obtain ⟨n, t, ld, ⟨hc, hn, ht, hl⟩, hG, ⟨b, h0, c, p, u1, u2, u3, u4, u5, u6, u7, u8, u9, u10, u11, u12⟩, hN, hR, hH, hO, np, pe, we, wi, wh, se, pa, l, ln, sc, cb, hP, hQ, hwf⟩ := id h
  have hb := okn_b hc.1
  have hdr : (0 + n - t) % n < n := Nat.mod_lt _ (by omega)
  have hP0 : cPx M np pe we wi se (ld, pa, wh, l, ln, sc, cb) := hP
  have hQ0 : mPx M np pe we wi se (ld, pa, wh, l, ln, sc, cb) := hQ
  have hw0 : wPx n np pe we wi se (ld, pa, wh, l, ln, sc, cb) := hwf
  rcases boardC (x := (ld, pa, wh, l, ln, sc, cb)) hc ⟨u1, u2, u3, u4⟩ u9 hP0 hw0 with ⟨e1, e2⟩ | ⟨q, y, M1, e1, e2, e3, e4, e5⟩
  · rcases boardM (x := (ld, pa, wh, l, ln, sc, cb)) hc.1 hc.2.1 ⟨hn, ht, hl⟩ ⟨u5, u6, u7, u8⟩ u9 hQ0 hw0 with ⟨d1, d2⟩ | ⟨q, y, M1, d1, -⟩
    · exact ⟨-1, M, M, by simp (disch := omega) only [x_bd_s, x_bi_s, x_lt_e, x_rd_n, x_wr_n, x_ra_n, x_dv_n, s_lt, s_le, s_eq, s_lt0, s_le0, s_0lt, s_0le, s_eq0, s_sub, s_rem, s_div, s_in, bI_0, bI_1, x_gb_b, x_gb_0, x_gb_1, nI_add, nI_1, s_size, s_abs, s_max, iI_mul, iI_add, iI_neg, Nat.le_refl, Nat.lt_irrefl, if_true, if_false, ite_true, ite_false, not_true, not_false_eq_true, ew_next, e2], by simp (disch := omega) only [x_bd_s, x_bi_s, x_lt_e, x_rd_n, x_wr_n, x_ra_n, x_dv_n, s_lt, s_le, s_eq, s_lt0, s_le0, s_0lt, s_0le, s_eq0, s_sub, s_rem, s_div, s_in, bI_0, bI_1, x_gb_b, x_gb_0, x_gb_1, nI_add, nI_1, s_size, s_abs, s_max, iI_mul, iI_add, iI_neg, Nat.le_refl, Nat.lt_irrefl, if_true, if_false, ite_true, ite_false, not_true, not_false_eq_true, md_next, d2], h⟩
    · rw [e1] at d1
      cases d1
  · have hQ1 : mPx M1 np pe we wi se (ld, pa, wh, l, ln, sc, cb) := mP_same (fun i j h1 => e5 i j (by omega)) hQ
    rcases boardM (M := M1) (x := (ld, pa, wh, l, ln, sc, cb)) hc.1 hc.2.1 ⟨by rw [e5 _ _ (by omega), hn], by rw [e5 _ _ (by omega), ht], fun c hc => by rw [e5 _ _ (by omega), hl c hc]⟩ ⟨by rw [e5 _ _ (by omega), u5], by rw [e5 _ _ (by omega), u6], by rw [e5 _ _ (by omega), u7], by rw [e5 _ _ (by omega), u8]⟩ u9 hQ1 hw0 with ⟨d1, d2⟩ | ⟨q', y', M2, d1, d2, d3, d4, d5⟩
    · rw [e1] at d1
      cases d1
    · rw [e1] at d1
      cases d1
      exact ⟨nI q, M1, M2, by simp (disch := omega) only [x_bd_s, x_bi_s, x_lt_e, x_rd_n, x_wr_n, x_ra_n, x_dv_n, s_lt, s_le, s_eq, s_lt0, s_le0, s_0lt, s_0le, s_eq0, s_sub, s_rem, s_div, s_in, bI_0, bI_1, x_gb_b, x_gb_0, x_gb_1, nI_add, nI_1, s_size, s_abs, s_max, iI_mul, iI_add, iI_neg, Nat.le_refl, Nat.lt_irrefl, if_true, if_false, ite_true, ite_false, not_true, not_false_eq_true, ew_next, e2], by simp (disch := omega) only [x_bd_s, x_bi_s, x_lt_e, x_rd_n, x_wr_n, x_ra_n, x_dv_n, s_lt, s_le, s_eq, s_lt0, s_le0, s_0lt, s_0le, s_eq0, s_sub, s_rem, s_div, s_in, bI_0, bI_1, x_gb_b, x_gb_0, x_gb_1, nI_add, nI_1, s_size, s_abs, s_max, iI_mul, iI_add, iI_neg, Nat.le_refl, Nat.lt_irrefl, if_true, if_false, ite_true, ite_false, not_true, not_false_eq_true, md_next, d2], board_inv e3 e4 e5 d3 d4 d5 (boardW hdr hb.2 hw0 e1).1 h hG ⟨b, h0, c, p, u1, u2, u3, u4, u5, u6, u7, u8, u9, u10, u11, u12⟩ hN hR hH hO⟩
theorem l_fill (h : Inv M) : ∃ r M1 M2, ew_fill M = some (r, M1) ∧ md_fill M1 = some (r, M2) ∧ Inv M2 := by
  obtain ⟨n, t, ld, ⟨hc, hn, ht, hl⟩, hG, ⟨b, h0, c, p, u1, u2, u3, u4, u5, u6, u7, u8, u9, u10, u11, u12⟩, hN, hR, hH, hO, np, pe, we, wi, wh, se, pa, l, ln, sc, cb, hP, hQ, hwf⟩ := id h
  have hb := okn_b hc.1
  have hdr : (0 + n - t) % n < n := Nat.mod_lt _ (by omega)
  have hP0 : cPx M np pe we wi se (ld, pa, wh, l, ln, sc, cb) := hP
  have hw0 : wPx n np pe we wi se (ld, pa, wh, l, ln, sc, cb) := hwf
  have hl30 := hwf.2.1
  have hF := e_Fge
  obtain ⟨M1, e1, e3, e4, e5⟩ := fillC (t := t) u9 31 0 e_F M (ld, pa, wh, l, ln, sc, cb) (by omega) (show l < 31 by omega) (show 0 + l ≤ 30 by omega) hc ⟨u1, u2, u3, u4⟩ hP0 hw0
  have hQ1 : mPx M1 np pe we wi se (ld, pa, wh, l, ln, sc, cb) := mP_same (fun i j h1 => e5 i j (by omega)) hQ
  obtain ⟨M2, d1, d3, d4, d5⟩ := fillM (t := t) hc.1 hc.2.1 u9 31 0 e_F M1 (ld, pa, wh, l, ln, sc, cb) (by omega) (show l < 31 by omega) ⟨by rw [e5 _ _ (by omega), hn], by rw [e5 _ _ (by omega), ht], fun c hc => by rw [e5 _ _ (by omega)]; exact hl c hc⟩ ⟨by rw [e5 _ _ (by omega), u5], by rw [e5 _ _ (by omega), u6], by rw [e5 _ _ (by omega), u7], by rw [e5 _ _ (by omega), u8]⟩ hQ1 hw0
  rw [nI_0] at e1 d1
  exact ⟨_, M1, M2, e1, d1, board_inv e3 e4 e5 d3 d4 d5 (fiW hdr hb.2 31 _ hw0) h hG ⟨b, h0, c, p, u1, u2, u3, u4, u5, u6, u7, u8, u9, u10, u11, u12⟩ hN hR hH hO⟩
end
