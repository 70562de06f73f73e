/-! stop -/
/-- how many of m STEPS are done, and where THE TURN and WARMTH are then -/
def goI (n : Nat) (ld : Nat → Nat) (b h c : Nat) (d : Int32) : Nat → Nat × Nat → Nat × (Nat × Nat)
  | 0, x => (0, x)
  | m + 1, x => match goF n ld b h c d x with
    | none => (0, x)
    | some y => ((goI n ld b h c d m y).1 + 1, (goI n ld b h c d m y).2)
section
variable {n : Nat} {ld : Nat → Nat} {b h c p : Nat} {d : Int32}
theorem stopC {m : Nat} (h7 : b ≤ 1000000) (h8 : h ≤ 10000) (h9 : c ≤ 500) (hm : m ≤ 60) : ∀ (e a F : Nat) (M : e_Me) (t w : Nat) (s : Int32), a + e = m → e < F → cW M n t ld → cG M w s d → cU M b h c p → w ≤ 10000 →
    ∃ M', ew_stop_l15 (nI m) F (nI a) M = ew_stop_b36 (nI (a + (goI n ld b h c d e (t, w)).1)) M' ∧ cW M' n (goI n ld b h c d e (t, w)).2.1 ld ∧ cG M' (goI n ld b h c d e (t, w)).2.2 (s + nI (goI n ld b h c d e (t, w)).1) d ∧ (goI n ld b h c d e (t, w)).2.2 ≤ 10000 ∧ stC M M' := by
  intro e
  induction e with
  | zero =>
    intro a F M t w s e1 e2 hc hg hu hw
    obtain ⟨F, rfl⟩ : ∃ F', F = F' + 1 := ⟨F - 1, by omega⟩
    have ea : a = m := by omega
    subst ea
    refine ⟨M, ?_, hc, ?_, hw, fun i _ _ => rfl⟩
    · simp (disch := omega) only [x_bd_s, x_bi_s, x_lt_e, x_rd_n, x_wr_n, x_ra_n, x_dv_n, s_lt, s_le, s_eq, s_lt0, s_le0, s_0lt, s_0le, s_eq0, s_sub, s_rem, s_div, s_in, bI_0, bI_1, x_gb_b, x_gb_0, x_gb_1, nI_add, nI_1, s_size, s_abs, s_max, iI_mul, iI_add, iI_neg, Nat.le_refl, Nat.lt_irrefl, if_true, if_false, ite_true, ite_false, not_true, not_false_eq_true, ew_stop_l15]
      rfl
    · show cG M w (s + nI 0) d
      rw [nI_0, Int32.add_zero]
      exact hg
  | succ e ih =>
    intro a F M t w s e1 e2 hc hg hu hw
    obtain ⟨F, rfl⟩ : ∃ F', F = F' + 1 := ⟨F - 1, by omega⟩
    have c1 : ¬ m ≤ a := by omega
    rcases rg_goOn_ok hc hg hu hw h7 h8 h9 with ⟨a1, a2⟩ | ⟨t', w', M1, a1, a2, a3, a4, a5⟩
    · have e0 : goI n ld b h c d (e + 1) (t, w) = (0, (t, w)) := by simp only [goI, a1]
      rw [e0]
      refine ⟨M, ?_, hc, ?_, hw, fun i _ _ => rfl⟩
      · simp (disch := omega) only [x_bd_s, x_bi_s, x_lt_e, x_rd_n, x_wr_n, x_ra_n, x_dv_n, s_lt, s_le, s_eq, s_lt0, s_le0, s_0lt, s_0le, s_eq0, s_sub, s_rem, s_div, s_in, bI_0, bI_1, x_gb_b, x_gb_0, x_gb_1, nI_add, nI_1, s_size, s_abs, s_max, iI_mul, iI_add, iI_neg, Nat.le_refl, Nat.lt_irrefl, if_true, if_false, ite_true, ite_false, not_true, not_false_eq_true, ew_stop_l15, c1, a2]
        rfl
      · show cG M w (s + nI 0) d
        rw [nI_0, Int32.add_zero]
        exact hg
    · have e0 : goI n ld b h c d (e + 1) (t, w) = ((goI n ld b h c d e (t', w')).1 + 1, (goI n ld b h c d e (t', w')).2) := by simp only [goI, a1]
      have hu' : cU M1 b h c p := by
        unfold cU at hu ⊢
        rw [a5 2 (by omega) (by omega)]
        exact hu
      obtain ⟨M', k1, k2, k3, k4, k5⟩ := ih (a + 1) F M1 t' w' (s + 1) (by omega) (by omega) a3 a4 hu' (goF_w h8 a1)
      rw [e0]
      refine ⟨M', ?_, k2, ?_, k4, fun i i1 i2 => by rw [k5 i i1 i2, a5 i i1 i2]⟩
      · simp (disch := omega) only [x_bd_s, x_bi_s, x_lt_e, x_rd_n, x_wr_n, x_ra_n, x_dv_n, s_lt, s_le, s_eq, s_lt0, s_le0, s_0lt, s_0le, s_eq0, s_sub, s_rem, s_div, s_in, bI_0, bI_1, x_gb_b, x_gb_0, x_gb_1, nI_add, nI_1, s_size, s_abs, s_max, iI_mul, iI_add, iI_neg, Nat.le_refl, Nat.lt_irrefl, if_true, if_false, ite_true, ite_false, not_true, not_false_eq_true, ew_stop_l15, c1, a2, s_10]
        rw [k1]
        congr 2
        omega
      · have e9 : s + 1 + nI (goI n ld b h c d e (t', w')).1 = s + nI ((goI n ld b h c d e (t', w')).1 + 1) := by
          rw [Int32.add_assoc]
          congr 1
          rw [show (1 : Int32) = nI 1 from rfl, nI_iI, nI_iI, nI_iI, iI_add]
          congr 1
          omega
        rw [e9] at k3
        exact k3
theorem stopM {m : Nat} (hk : okn n) (hld : ∀ c, c < n → -2000 ≤ ((fun c => (ld c : Int)) c) ∧ ((fun c => (ld c : Int)) c) ≤ 2000) (h7 : b ≤ 1000000) (h8 : h ≤ 10000) (h9 : c ≤ 500) (hm : m ≤ 60) : ∀ (e a F : Nat) (M : e_Me) (t w : Nat) (s : Int32), a + e = m → e < F → t < n → mW M n t ld → mG M w s d → mU M b h c p → w ≤ 10000 →
    ∃ M', md_stop_l17 (nI m) F (nI a) M = md_stop_b35 (nI (a + (goI n ld b h c d e (t, w)).1)) M' ∧ (goI n ld b h c d e (t, w)).2.1 < n ∧ mW M' n (goI n ld b h c d e (t, w)).2.1 ld ∧ mG M' (goI n ld b h c d e (t, w)).2.2 (s + nI (goI n ld b h c d e (t, w)).1) d ∧ ∀ i j, ¬ (i = 182 ∧ (j = 1 ∨ j = 2 ∨ j = 3)) → M' i j = M i j := by
  intro e
  induction e with
  | zero =>
    intro a F M t w s e1 e2 ht hc hg hu hw
    obtain ⟨F, rfl⟩ : ∃ F', F = F' + 1 := ⟨F - 1, by omega⟩
    have ea : a = m := by omega
    subst ea
    refine ⟨M, ?_, ht, hc, ?_, fun i j _ => rfl⟩
    · simp (disch := omega) only [x_bd_s, x_bi_s, x_lt_e, x_rd_n, x_wr_n, x_ra_n, x_dv_n, s_lt, s_le, s_eq, s_lt0, s_le0, s_0lt, s_0le, s_eq0, s_sub, s_rem, s_div, s_in, bI_0, bI_1, x_gb_b, x_gb_0, x_gb_1, nI_add, nI_1, s_size, s_abs, s_max, iI_mul, iI_add, iI_neg, Nat.le_refl, Nat.lt_irrefl, if_true, if_false, ite_true, ite_false, not_true, not_false_eq_true, md_stop_l17]
      rfl
    · show mG M w (s + nI 0) d
      rw [nI_0, Int32.add_zero]
      exact hg
  | succ e ih =>
    intro a F M t w s e1 e2 ht hc hg hu hw
    obtain ⟨F, rfl⟩ : ∃ F', F = F' + 1 := ⟨F - 1, by omega⟩
    have hb := okn_b hk
    have c1 : ¬ m ≤ a := by omega
    rcases md_goesOn_ok hk ht hld hc hg hu hw h7 h8 h9 with ⟨a1, a2⟩ | ⟨t', w', a1, a2⟩
    · have e0 : goI n ld b h c d (e + 1) (t, w) = (0, (t, w)) := by simp only [goI, a1]
      rw [e0]
      refine ⟨M, ?_, ht, hc, ?_, fun i j _ => rfl⟩
      · simp (disch := omega) only [x_bd_s, x_bi_s, x_lt_e, x_rd_n, x_wr_n, x_ra_n, x_dv_n, s_lt, s_le, s_eq, s_lt0, s_le0, s_0lt, s_0le, s_eq0, s_sub, s_rem, s_div, s_in, bI_0, bI_1, x_gb_b, x_gb_0, x_gb_1, nI_add, nI_1, s_size, s_abs, s_max, iI_mul, iI_add, iI_neg, Nat.le_refl, Nat.lt_irrefl, if_true, if_false, ite_true, ite_false, not_true, not_false_eq_true, md_stop_l17, c1, a2]
        rfl
      · show mG M w (s + nI 0) d
        rw [nI_0, Int32.add_zero]
        exact hg
    · have e0 : goI n ld b h c d (e + 1) (t, w) = ((goI n ld b h c d e (t', w')).1 + 1, (goI n ld b h c d e (t', w')).2) := by simp only [goI, a1]
      have ht' : t' < n := by
        unfold goF at a1
        split at a1
        · cases a1
          exact Nat.mod_lt _ (by omega)
        · cases a1
      generalize hM1 : e_up (e_up (e_up M 182 1 (nI t')) 182 2 (nI w')) 182 3 (s + 1) = M1 at a2
      have fr : ∀ i j, ¬ (i = 182 ∧ (j = 1 ∨ j = 2 ∨ j = 3)) → M1 i j = M i j := fun i j hn => by
        rw [← hM1]
        simp (disch := omega) only [e_up_o]
      have hc' : mW M1 n t' ld := ⟨by rw [fr _ _ (by omega), hc.1], by rw [← hM1]; simp (disch := omega) only [e_up_o, e_up_e], fun c hc2 => by rw [fr _ _ (by omega), hc.2.2 c hc2]⟩
      have hg' : mG M1 w' (s + 1) d := ⟨by rw [← hM1]; simp (disch := omega) only [e_up_o, e_up_e], by rw [← hM1, e_up_e], by rw [fr _ _ (by omega), hg.2.2]⟩
      have hu' : mU M1 b h c p := by
        unfold mU at hu ⊢
        rw [fr _ _ (by omega), fr _ _ (by omega), fr _ _ (by omega), fr _ _ (by omega)]
        exact hu
      obtain ⟨M', k1, k2, k3, k4, k5⟩ := ih (a + 1) F M1 t' w' (s + 1) (by omega) (by omega) ht' hc' hg' hu' (goF_w h8 a1)
      rw [e0]
      refine ⟨M', ?_, k2, k3, ?_, fun i j hn => by rw [k5 i j hn, fr i j hn]⟩
      · simp (disch := omega) only [x_bd_s, x_bi_s, x_lt_e, x_rd_n, x_wr_n, x_ra_n, x_dv_n, s_lt, s_le, s_eq, s_lt0, s_le0, s_0lt, s_0le, s_eq0, s_sub, s_rem, s_div, s_in, bI_0, bI_1, x_gb_b, x_gb_0, x_gb_1, nI_add, nI_1, s_size, s_abs, s_max, iI_mul, iI_add, iI_neg, Nat.le_refl, Nat.lt_irrefl, if_true, if_false, ite_true, ite_false, not_true, not_false_eq_true, md_stop_l17, c1, a2, s_10]
        rw [k1]
        congr 2
        omega
      · have e9 : s + 1 + nI (goI n ld b h c d e (t', w')).1 = s + nI ((goI n ld b h c d e (t', w')).1 + 1) := by
          rw [Int32.add_assoc]
          congr 1
          rw [show (1 : Int32) = nI 1 from rfl, nI_iI, nI_iI, nI_iI, iI_add]
          congr 1
          omega
        rw [e9] at k4
        exact k4
end
/-- who has SEEN the top, with those of a CABIN -/
def seF (se f : Nat → Nat) : Nat → Nat → Nat
  | 0 => se
  | k + 1 => upn (seF se f k) (f k) 1
theorem seF_le {se f : Nat → Nat} {p : Nat} (h : se p ≤ 1) : ∀ k, seF se f k p ≤ 1
  | 0 => h
  | k + 1 => by
    rw [seF]
    unfold upn
    split
    · exact Nat.le_refl _
    · exact seF_le h k
section
variable {np : Nat} {pe we wi wh se : Nat → Nat} {pa : Nat → Int32} {l : Nat} {ln sc : Nat → Nat} {cb : Nat → Nat → Nat} {n : Nat} {ld : Nat → Nat}
theorem showC {c : Nat} (hw : wP n ld np pe we wi wh se l ln sc cb) (hc : c < 30) : ∀ (d i F : Nat) (M : e_Me), i + d = sc c → d < F → M 18 1 = nI np → M (27 + 2 * c) 1 = nI (sc c) → (∀ j, j < sc c → M (27 + 2 * c + 1) j = nI (cb c j)) → (∀ p, p < np → M 19 p = nI (seF se (cb c) i p)) →
    ∃ M', ri_showTop_l14 (27 + 2 * c) 6 F (nI i) M = some M' ∧ (∀ p, p < np → M' 19 p = nI (seF se (cb c) (sc c) p)) ∧ ∀ a b, a ≠ 19 → M' a b = M a b := by
  have h6 := wP_sc hw hc
  have hnp := hw.1
  intro d
  induction d with
  | zero =>
    intro i F M e1 e2 h1 h2 h3 h4
    obtain ⟨F, rfl⟩ : ∃ F', F = F' + 1 := ⟨F - 1, by omega⟩
    have e : i = sc c := by omega
    subst e
    exact ⟨M, by simp (disch := omega) only [x_bd_s, x_bi_s, x_lt_e, x_rd_n, x_wr_n, x_ra_n, x_dv_n, s_lt, s_le, s_eq, s_lt0, s_le0, s_0lt, s_0le, s_eq0, s_sub, s_rem, s_div, s_in, bI_0, bI_1, x_gb_b, x_gb_0, x_gb_1, nI_add, nI_1, s_size, s_abs, s_max, iI_mul, iI_add, iI_neg, Nat.le_refl, Nat.lt_irrefl, if_true, if_false, ite_true, ite_false, not_true, not_false_eq_true, ri_showTop_l14, ro_count_ok (cap_cab c hc), h2], h4, fun a b _ => rfl⟩
  | succ d ih =>
    intro i F M e1 e2 h1 h2 h3 h4
    obtain ⟨F, rfl⟩ : ∃ F', F = F' + 1 := ⟨F - 1, by omega⟩
    have c1 : ¬ sc c ≤ i := by omega
    have hi : i < sc c := by omega
    have hp := (hw.2.2.2.2.2.1 c hc i hi).1
    have a1 := ro_at_ok (cap_cab c hc) h2 h6 (show 6 ≤ 1000 by omega) hi
    rw [h3 i hi] at a1
    have a2 := ro_set_ok (M := M) (x := (1 : Int32)) cap_200.2.2.2.2.1 h1 hnp (show 200 ≤ 1000 by omega) hp
    obtain ⟨M', k1, k2, k3⟩ := ih (i + 1) F (e_up M (18 + 1) (cb c i) 1) (by omega) (by omega) (by rw [e_up_o (by omega), h1]) (by rw [e_up_o (by omega), h2]) (fun j hj => by rw [e_up_o (by omega), h3 j hj]) (fun p hp2 => by
      simp only [seF, upn]
      by_cases e : p = cb c i
      · subst e
        rw [if_pos rfl, show 19 = 18 + 1 from rfl, e_up_e]
        rfl
      · rw [if_neg e, e_up_o (by omega), h4 p hp2])
    refine ⟨M', ?_, k2, fun a b hab => by rw [k3 a b hab, e_up_o (by omega)]⟩
    simp (disch := omega) only [x_bd_s, x_bi_s, x_lt_e, x_rd_n, x_wr_n, x_ra_n, x_dv_n, s_lt, s_le, s_eq, s_lt0, s_le0, s_0lt, s_0le, s_eq0, s_sub, s_rem, s_div, s_in, bI_0, bI_1, x_gb_b, x_gb_0, x_gb_1, nI_add, nI_1, s_size, s_abs, s_max, iI_mul, iI_add, iI_neg, Nat.le_refl, Nat.lt_irrefl, if_true, if_false, ite_true, ite_false, not_true, not_false_eq_true, ri_showTop_l14, ro_count_ok (cap_cab c hc), h2, c1, a1, pa_see, a2]
    exact k1
theorem showM {c : Nat} (y : Int32) (hw : wP n ld np pe we wi wh se l ln sc cb) (hc : c < 30) : ∀ (d i F : Nat) (M : e_Me), i + d = sc c → d < F → M 184 c = nI (sc c) → (∀ j, j < sc c → M 183 (6 * c + j) = nI (cb c j)) → (∀ p, p < np → M 190 p = nI (seF se (cb c) i p)) →
    ∃ M', md_stop_l49 y (nI c) F (nI i) M = some (y, M') ∧ (∀ p, p < np → M' 190 p = nI (seF se (cb c) (sc c) p)) ∧ ∀ a b, a ≠ 190 → M' a b = M a b := by
  have h6 := wP_sc hw hc
  have hnp := hw.1
  have e6 : (6 : Int32) * nI c = nI (6 * c) := by rw [show (6 : Int32) = nI 6 from rfl, pk_mul]
  have e11 : (1 : Int32) &&& 1 = nI 1 := by decide
  intro d
  induction d with
  | zero =>
    intro i F M e1 e2 h2 h3 h4
    obtain ⟨F, rfl⟩ : ∃ F', F = F' + 1 := ⟨F - 1, by omega⟩
    have e : i = sc c := by omega
    subst e
    exact ⟨M, by simp (disch := omega) only [x_bd_s, x_bi_s, x_lt_e, x_rd_n, x_wr_n, x_ra_n, x_dv_n, s_lt, s_le, s_eq, s_lt0, s_le0, s_0lt, s_0le, s_eq0, s_sub, s_rem, s_div, s_in, bI_0, bI_1, x_gb_b, x_gb_0, x_gb_1, nI_add, nI_1, s_size, s_abs, s_max, iI_mul, iI_add, iI_neg, Nat.le_refl, Nat.lt_irrefl, if_true, if_false, ite_true, ite_false, not_true, not_false_eq_true, md_stop_l49, h2], h4, fun a b _ => rfl⟩
  | succ d ih =>
    intro i F M e1 e2 h2 h3 h4
    obtain ⟨F, rfl⟩ : ∃ F', F = F' + 1 := ⟨F - 1, by omega⟩
    have c1 : ¬ sc c ≤ i := by omega
    have hi : i < sc c := by omega
    have hp := (hw.2.2.2.2.2.1 c hc i hi).1
    obtain ⟨M', k1, k2, k3⟩ := ih (i + 1) F (e_up M 190 (cb c i) (nI 1)) (by omega) (by omega) (by rw [e_up_o (by omega), h2]) (fun j hj => by rw [e_up_o (by omega), h3 j hj]) (fun p hp2 => by
      simp only [seF, upn]
      by_cases e : p = cb c i
      · subst e
        rw [if_pos rfl, e_up_e]
      · rw [if_neg e, e_up_o (by omega), h4 p hp2])
    refine ⟨M', ?_, k2, fun a b hab => by rw [k3 a b hab, e_up_o (by omega)]⟩
    simp (disch := omega) only [x_bd_s, x_bi_s, x_lt_e, x_rd_n, x_wr_n, x_ra_n, x_dv_n, s_lt, s_le, s_eq, s_lt0, s_le0, s_0lt, s_0le, s_eq0, s_sub, s_rem, s_div, s_in, bI_0, bI_1, x_gb_b, x_gb_0, x_gb_1, nI_add, nI_1, s_size, s_abs, s_max, iI_mul, iI_add, iI_neg, Nat.le_refl, Nat.lt_irrefl, if_true, if_false, ite_true, ite_false, not_true, not_false_eq_true, md_stop_l49, h2, c1, e6, h3 i hi, e11]
    exact k1
theorem wP_se {se' : Nat → Nat} (hw : wP n ld np pe we wi wh se l ln sc cb) (h : ∀ p, p < np → se' p ≤ 1) : wP n ld np pe we wi wh se' l ln sc cb := by
  obtain ⟨h1, h2, h3, h4⟩ := hw
  refine ⟨h1, h2, fun p hp => ?_, h4⟩
  obtain ⟨a1, a2, a3, a4, a5, a6, a7⟩ := h3 p hp
  exact ⟨a1, a2, a3, a4, a5, h p hp, a7⟩
end
section
variable {M : e_Me}
theorem l_stop (h : Inv M) (x : Int32) : ∃ r M1 M2, ew_stop x M = some (r, M1) ∧ md_stop x M1 = some (r, M2) ∧ Inv M2 := by
  obtain ⟨n, t, ld, ⟨hc, hn, ht, hl⟩, ⟨w, s, d, g1, g2, g3, g4, g5, g6, g7, g8⟩, ⟨b, h0, c, p, u1, u2, u3, u4, u5, u6, u7, u8, u9, u10, u11, u12⟩, ⟨k, s', q, hN⟩, ⟨k2, r, v, m2, hR⟩, ⟨lo, hi, hH⟩, ⟨k3, hO⟩, np, pe, we, wi, wh, se, pa, l, ln, sc, cb, hP, hQ, hwf⟩ := id h
  have hb := okn_b hc.1
  have e60 : nI 61 - 1 = (60 : Int32) := rfl
  rcases pk_ix x (n := 61) (by omega) with g | g | ⟨m, hm, rfl⟩
  · have i1 := in_no (M := M) (n := 61) (by omega) (Or.inl g)
    rw [e60] at i1
    refine ⟨-102, M, M, ?_, by simp (disch := omega) only [x_bd_s, x_bi_s, x_lt_e, x_rd_n, x_wr_n, x_ra_n, x_dv_n, s_lt, s_le, s_eq, s_lt0, s_le0, s_0lt, s_0le, s_eq0, s_sub, s_rem, s_div, s_in, bI_0, bI_1, x_gb_b, x_gb_0, x_gb_1, nI_add, nI_1, s_size, s_abs, s_max, iI_mul, iI_add, iI_neg, Nat.le_refl, Nat.lt_irrefl, if_true, if_false, ite_true, ite_false, not_true, not_false_eq_true, md_stop, i1], h⟩
    simp only [ew_stop]
    rw [if_pos g]
  · have i1 := in_no (M := M) (n := 61) (by omega) (Or.inr g)
    rw [e60] at i1
    refine ⟨-102, M, M, ?_, by simp (disch := omega) only [x_bd_s, x_bi_s, x_lt_e, x_rd_n, x_wr_n, x_ra_n, x_dv_n, s_lt, s_le, s_eq, s_lt0, s_le0, s_0lt, s_0le, s_eq0, s_sub, s_rem, s_div, s_in, bI_0, bI_1, x_gb_b, x_gb_0, x_gb_1, nI_add, nI_1, s_size, s_abs, s_max, iI_mul, iI_add, iI_neg, Nat.le_refl, Nat.lt_irrefl, if_true, if_false, ite_true, ite_false, not_true, not_false_eq_true, md_stop, i1], h⟩
    obtain ⟨z, rfl, z1, z2⟩ := iI_of x
    rw [nI_iI, iI_le (by omega) (by omega) z1 z2] at g
    have f1 : ¬ iI z < 0 := by
      rw [iI_lt0 z1 z2]
      omega
    have f2 : ¬ iI z ≤ (60 : Int32) := by
      rw [show (60 : Int32) = iI 60 from rfl, iI_le z1 z2 (by omega) (by omega)]
      omega
    simp only [ew_stop]
    rw [if_neg f1, if_neg f2]
  · obtain ⟨A, a1, a2, a3, a4, a5⟩ := stopC (p := p) u9 u10 u11 (show m ≤ 60 by omega) m 0 e_F M t w s (by omega) (by have := e_Fge; omega) hc ⟨g1, g2, g3⟩ ⟨u1, u2, u3, u4⟩ g8
    rw [Nat.zero_add] at a1
    generalize hgo : goI n ld b h0 c d m (t, w) = go at a1 a2 a3 a4
    obtain ⟨no, t', w'⟩ := go
    simp only at a1 a2 a3 a4
    have ct : (n / 2 + n - t') % n < n := Nat.mod_lt _ (by omega)
    generalize htop : (n / 2 + n - t') % n = top at ct
    have c30 : top < 30 := by omega
    have fA : ∀ i j, i ≠ 3 → i ≠ 7 → A i j = M i j := fun i j x1 x2 => by rw [a5 i x1 x2]
    have top1 := wh_atTop_ok a2
    rw [htop] at top1
    obtain ⟨⟨r1, r2, r3, r4, r5, r6⟩, r7, r8, r9, r10, r11⟩ := id hP
    obtain ⟨B, b1, b2, b3⟩ := showC hwf c30 (sc top) 0 e_F A (by omega) (by have := wP_sc hwf c30; have := e_Fge; omega) (by rw [fA _ _ (by omega) (by omega), r5]) (by rw [fA _ _ (by omega) (by omega), r10 top c30]) (fun j hj => by rw [fA _ _ (by omega) (by omega), r11 top c30 j hj]) (fun p hp => by rw [fA _ _ (by omega) (by omega), (r7 p hp).2.2.2.2.1]; rfl)
    have x1 : ew_stop (nI m) M = some (nI no, B) := by
      rw [nI_0] at a1 b1
      have f2 : m ≤ 60 := by omega
      simp (disch := omega) only [x_bd_s, x_bi_s, x_lt_e, x_rd_n, x_wr_n, x_ra_n, x_dv_n, s_lt, s_le, s_eq, s_lt0, s_le0, s_0lt, s_0le, s_eq0, s_sub, s_rem, s_div, s_in, bI_0, bI_1, x_gb_b, x_gb_0, x_gb_1, nI_add, nI_1, s_size, s_abs, s_max, iI_mul, iI_add, iI_neg, Nat.le_refl, Nat.lt_irrefl, if_true, if_false, ite_true, ite_false, not_true, not_false_eq_true, ew_stop, show (60 : Int32) = nI 60 from rfl, f2, a1, ew_stop_b36, ri_showTop, top1, insideOf_ok c30, cap_cab top c30, b1]
    have fB : ∀ i j, ¬ (i = 3 ∨ i = 7 ∨ i = 19) → B i j = M i j := fun i j hn => by rw [b3 i j (by omega), fA i j (by omega) (by omega)]
    obtain ⟨C, c1, c2, c3, c4, c5⟩ := stopM (p := p) hc.1 (cW_ld hc) u9 u10 u11 (show m ≤ 60 by omega) m 0 e_F B t w s (by omega) (by have := e_Fge; omega) hc.2.1 ⟨by rw [fB _ _ (by omega), hn], by rw [fB _ _ (by omega), ht], fun c hc => by rw [fB _ _ (by omega), hl c hc]⟩ ⟨by rw [fB _ _ (by omega), g4], by rw [fB _ _ (by omega), g5], by rw [fB _ _ (by omega), g6]⟩ ⟨by rw [fB _ _ (by omega), u5], by rw [fB _ _ (by omega), u6], by rw [fB _ _ (by omega), u7], by rw [fB _ _ (by omega), u8]⟩ g8
    rw [Nat.zero_add] at c1
    rw [hgo] at c1 c2 c3 c4
    simp only at c1 c2 c3 c4
    have fC : ∀ i j, ¬ (i = 3 ∨ i = 7 ∨ i = 19 ∨ (i = 182 ∧ (j = 1 ∨ j = 2 ∨ j = 3))) → C i j = M i j := fun i j hn => by rw [c5 i j (by omega), fB i j (by omega)]
    obtain ⟨D, d1, d2, d3⟩ := showM (nI no) hwf c30 (sc top) 0 e_F C (by omega) (by have := wP_sc hwf c30; have := e_Fge; omega) (by rw [fC _ _ (by omega), hQ.2.2.2.2.1 top c30]) (fun j hj => by rw [fC _ _ (by omega), hQ.2.2.2.2.2 top c30 j hj]) (fun p hp => by rw [fC _ _ (by omega), (hQ.2.1 p hp).2.2.2.2.1]; rfl)
    have top2 := md_atPlace_ok (p := n / 2) hc.1 c3.1 c3.2.1 c2 (by omega)
    rw [htop] at top2
    have x2 : md_stop (nI m) B = some (nI no, D) := by
      have i1 := in_yes (M := B) hm (show 61 < 2147483648 by omega)
      rw [e60] at i1
      have e2 : nI n / 2 = nI (n / 2) := s_div (d := 2) (by omega) (by omega) (by omega)
      rw [nI_0] at c1 d1
      simp (disch := omega) only [x_bd_s, x_bi_s, x_lt_e, x_rd_n, x_wr_n, x_ra_n, x_dv_n, s_lt, s_le, s_eq, s_lt0, s_le0, s_0lt, s_0le, s_eq0, s_sub, s_rem, s_div, s_in, bI_0, bI_1, x_gb_b, x_gb_0, x_gb_1, nI_add, nI_1, s_size, s_abs, s_max, iI_mul, iI_add, iI_neg, Nat.le_refl, Nat.lt_irrefl, if_true, if_false, ite_true, ite_false, not_true, not_false_eq_true, md_stop, i1, s_10, c1, md_stop_b35, c3.1, e2, top2, d1]
    have fD : ∀ i j, ¬ (i = 3 ∨ i = 7 ∨ i = 19 ∨ (i = 182 ∧ (j = 1 ∨ j = 2 ∨ j = 3)) ∨ i = 190) → D i j = M i j := fun i j hn => by rw [d3 i j (by omega), fC i j (by omega)]
    have fD2 : ∀ i j, i < 182 → D i j = B i j := fun i j hn => by rw [d3 i j (by omega), c5 i j (by omega)]
    refine ⟨nI no, B, D, x1, x2, n, t', ld, ⟨cW_frame a2 ?_ ?_ ?_ ?_, ?_, ?_, fun c hc => ?_⟩, ⟨w', s + nI no, d, ?_, ?_, ?_, ?_, ?_, ?_, g7, a4⟩, ⟨b, h0, c, p, bU_same (fun i j hk => fD i j (by unfold kU at hk; omega)) ⟨u1, u2, u3, u4, u5, u6, u7, u8, u9, u10, u11, u12⟩⟩, ⟨k, s', q, bN_same (fun i j hk => fD i j (by unfold kN at hk; omega)) hN⟩, ⟨k2, r, v, m2, bR_same (fun i j hk => fD i j (by unfold kR at hk; omega)) hR⟩, ⟨lo, hi, bH_same (fun i j hk => fD i j (by unfold kH at hk; omega)) hH⟩, ⟨k3, bO_same (fun i j hk => fD i j (by unfold kO at hk; omega)) hO⟩, np, pe, we, wi, wh, seF se (cb top) (sc top), pa, l, ln, sc, cb, ⟨?_, fun p hp => ?_, ?_, fun k hk => ?_, fun c hc => ?_, fun c hc i hi => ?_⟩, ⟨?_, fun p hp => ?_, ?_, fun k hk => ?_, fun c hc => ?_, fun c hc i hi => ?_⟩, wP_se hwf (fun p hp => seF_le (hwf.2.2.1 p hp).2.2.2.2.2.1 _)⟩
    · funext j; rw [fD2 _ _ (by omega), b3 _ _ (by omega)]
    · funext j; rw [fD2 _ _ (by omega), b3 _ _ (by omega)]
    · funext j; rw [fD2 _ _ (by omega), b3 _ _ (by omega)]
    · funext j; rw [fD2 _ _ (by omega), b3 _ _ (by omega)]
    · rw [d3 _ _ (by omega), c3.1]
    · rw [d3 _ _ (by omega), c3.2.1]
    · rw [d3 _ _ (by omega), c3.2.2 c hc]
    · rw [fD2 _ _ (by omega), b3 _ _ (by omega), a3.1]
    · rw [fD2 _ _ (by omega), b3 _ _ (by omega), a3.2.1]
    · rw [fD2 _ _ (by omega), b3 _ _ (by omega), a3.2.2]
    · rw [d3 _ _ (by omega), c4.1]
    · rw [d3 _ _ (by omega), c4.2.1]
    · rw [d3 _ _ (by omega), c4.2.2]
    · rw [fD _ _ (by omega), fD _ _ (by omega), fD _ _ (by omega), fD _ _ (by omega), fD _ _ (by omega), fD _ _ (by omega)]
      exact ⟨r1, r2, r3, r4, r5, r6⟩
    · rw [fD _ _ (by omega), fD _ _ (by omega), fD _ _ (by omega), fD _ _ (by omega), fD2 19 _ (by omega), fD 21 _ (by omega), b2 p hp]
      obtain ⟨y1, y2, y3, y4, y5, y6⟩ := r7 p hp
      exact ⟨y1, y2, y3, y4, rfl, y6⟩
    · rw [fD _ _ (by omega), r8]
    · rw [fD _ _ (by omega), r9 k hk]
    · rw [fD _ _ (by omega), r10 c hc]
    · rw [fD _ _ (by omega), r11 c hc i hi]
    · rw [fD _ _ (by omega), hQ.1]
    · rw [fD _ _ (by omega), fD _ _ (by omega), fD _ _ (by omega), fD _ _ (by omega), d2 p hp, fD 191 _ (by omega)]
      obtain ⟨y1, y2, y3, y4, y5, y6⟩ := hQ.2.1 p hp
      exact ⟨y1, y2, y3, y4, rfl, y6⟩
    · rw [fD _ _ (by omega), hQ.2.2.1]
    · rw [fD _ _ (by omega), hQ.2.2.2.1 k hk]
    · rw [fD _ _ (by omega), hQ.2.2.2.2.1 c hc]
    · rw [fD _ _ (by omega), hQ.2.2.2.2.2 c hc i hi]
end
