/-! LETTING OUT: the reference; letOut, stranded -/
section
variable {np : Nat} {pe we wi se : Nat → Nat} {n : Nat}
theorem ld_sc {x : bS} (hw : wPx n np pe we wi se x) {c : Nat} (hc : c < 30) : (x.1 c = 0) = (x.2.2.2.2.2.1 c = 0) := by
  obtain ⟨ld, pa, wh, l, ln, sc, cb⟩ := x
  unfold wPx at hw
  simp only at hw ⊢
  have h1 := (hw.2.2.2.2.2.2.2.2.1 c hc).1
  have h2 := smN_ge (f := fun i => we (cb c i)) (k := sc c) (fun i hi => (hw.2.2.1 _ (hw.2.2.2.2.2.1 c hc i hi).1).2.2.1)
  refine propext ⟨fun h => by omega, fun h => ?_⟩
  rw [h1, h]
  rfl
theorem outM {k7 : Int32 → e_Me → Option (Int32 × e_Me)} {M : e_Me} {c : Nat} {x : bS} (hP : mPx M np pe we wi se x) (hw : wPx n np pe we wi se x) (hc : c < 30) (y : Int32) :
    ∃ M', md_letOut_l36 k7 y (nI c) e_F 0 M = md_letOut_b70 k7 y (nI c) M' ∧ (∀ p, p < np → M' 189 p = nI (vcF x.2.2.1 (x.2.2.2.2.2.2 c) (x.2.2.2.2.2.1 c) p)) ∧ ∀ a b, a ≠ 189 → M' a b = M a b := by
  obtain ⟨ld, pa, wh, l, ln, sc, cb⟩ := x
  unfold mPx at hP
  unfold wPx at hw
  simp only at hP hw ⊢
  have h6 := wP_sc hw hc
  have hnp := hw.1
  obtain ⟨r1, r7, r8, r9, r10, r11⟩ := id hP
  have e6 : (6 : Int32) * nI c = nI (6 * c) := by rw [show (6 : Int32) = nI 6 from rfl, pk_mul]
  have key : ∀ (d i F : Nat) (M1 : e_Me), i + d = sc c → d < F → (∀ a b, a ≠ 189 → M1 a b = M a b) → (∀ p, p < np → M1 189 p = nI (vcF wh (cb c) i p)) →
      ∃ M', md_letOut_l36 k7 y (nI c) F (nI i) M1 = md_letOut_b70 k7 y (nI c) M' ∧ (∀ p, p < np → M' 189 p = nI (vcF wh (cb c) (sc c) p)) ∧ ∀ a b, a ≠ 189 → M' a b = M a b := by
    intro d
    induction d with
    | zero =>
      intro i F M1 g1 g2 g3 g4
      obtain ⟨F, rfl⟩ : ∃ F', F = F' + 1 := ⟨F - 1, by omega⟩
      have e : i = sc c := by omega
      subst e
      exact ⟨M1, by simp (disch := omega) only [x_bd_s, x_bi_s, x_lt_e, x_rd_n, x_wr_n, x_ra_n, x_dv_n, s_lt, s_le, s_eq, s_lt0, s_le0, s_0lt, s_0le, s_eq0, s_sub, s_rem, s_div, s_in, bI_0, bI_1, x_gb_b, x_gb_0, x_gb_1, nI_add, nI_1, s_size, s_abs, s_max, iI_mul, iI_add, iI_neg, Nat.le_refl, Nat.lt_irrefl, if_true, if_false, ite_true, ite_false, not_true, not_false_eq_true, md_letOut_l36, g3 184 c (by omega), r10 c hc], g4, g3⟩
    | succ d ih =>
      intro i F M1 g1 g2 g3 g4
      obtain ⟨F, rfl⟩ : ∃ F', F = F' + 1 := ⟨F - 1, by omega⟩
      have c1 : ¬ sc c ≤ i := by omega
      have hi : i < sc c := by omega
      have hp := (hw.2.2.2.2.2.1 c hc i hi).1
      obtain ⟨M', k1, k2, k3⟩ := ih (i + 1) F (e_up M1 189 (cb c i) 101) (by omega) (by omega) (fun a b hab => by rw [e_up_o (by omega), g3 a b hab]) (fun p hp2 => by
        simp only [vcF, upn]
        by_cases e : p = cb c i
        · subst e
          rw [if_pos rfl, e_up_e]
          rfl
        · rw [if_neg e, e_up_o (by omega), g4 p hp2])
      refine ⟨M', ?_, k2, k3⟩
      simp (disch := omega) only [x_bd_s, x_bi_s, x_lt_e, x_rd_n, x_wr_n, x_ra_n, x_dv_n, s_lt, s_le, s_eq, s_lt0, s_le0, s_0lt, s_0le, s_eq0, s_sub, s_rem, s_div, s_in, bI_0, bI_1, x_gb_b, x_gb_0, x_gb_1, nI_add, nI_1, s_size, s_abs, s_max, iI_mul, iI_add, iI_neg, Nat.le_refl, Nat.lt_irrefl, if_true, if_false, ite_true, ite_false, not_true, not_false_eq_true, md_letOut_l36, g3 184 c (by omega), r10 c hc, c1, e6, g3 183 (6 * c + i) (by omega), r11 c hc i hi]
      exact k1
  have k := key (sc c) 0 e_F M (by omega) (by have := e_Fge; omega) (fun a b _ => rfl) (fun p hp => (r7 p hp).2.2.2.1)
  rw [nI_0] at k
  exact k
theorem ld_b {t : Nat} {x : bS} (hn : n ≤ 30) (hw : wPx n np pe we wi se x) : ∀ c, c < n → -2000 ≤ ((fun c => (x.1 c : Int)) c) ∧ ((fun c => (x.1 c : Int)) c) ≤ 2000 := fun c hc => by
  have h := wP_ld hw (c := c) (by omega)
  show -2000 ≤ (x.1 c : Int) ∧ (x.1 c : Int) ≤ 2000
  omega
theorem letM (hk : okn n) : ∀ (m F : Nat) (M : e_Me) (t : Nat) (x : bS) (a : Int32), cnL n x.1 < m → m < F → t < n → mW M n (rlF n (lnZ n (fun c => (x.1 c : Int))) n t 0).2 x.1 → mPx M np pe we wi se x → wPx n np pe we wi se x →
    ∃ M', md_letOut_l7 F a M = some ((vcL pe (loF n m t x.1).2 x a).1, M') ∧ mW M' n (loF n m t x.1).1 (vcL pe (loF n m t x.1).2 x a).2.1 ∧ mPx M' np pe we wi se (vcL pe (loF n m t x.1).2 x a).2 ∧ ∀ i j, ¬ (i = 184 ∨ i = 185 ∨ i = 189 ∨ (i = 182 ∧ j = 1)) → M' i j = M i j := by
  have hb := okn_b hk
  intro m
  induction m with
  | zero => intro F M t x a h; omega
  | succ m ih =>
    intro F M t x a h1 h2 ht hm hP hw
    obtain ⟨F, rfl⟩ : ∃ F', F = F' + 1 := ⟨F - 1, by omega⟩
    have hlt := rlF_lt (g := lnZ n (fun c => (x.1 c : Int))) (show 0 < n by omega) n t 0 ht
    rw [loF]
    generalize (rlF n (lnZ n (fun c => (x.1 c : Int))) n t 0).2 = t1 at hm hlt
    have hdr : (0 + n - t1) % n < n := Nat.mod_lt _ (by omega)
    have door := md_atPlace_ok (p := 0) hk hm.1 hm.2.1 hlt (by omega)
    rw [nI_0] at door
    generalize (0 + n - t1) % n = c at hdr door
    have hc30 : c < 30 := by omega
    have hls := ld_sc hw hc30
    have h184 : M 184 c = nI (x.2.2.2.2.2.1 c) := hP.2.2.2.2.1 c hc30
    have h6 : x.2.2.2.2.2.1 c ≤ 6 := wP_sc hw hc30
    by_cases z : x.1 c = 0
    · rw [if_pos z]
      have z2 : x.2.2.2.2.2.1 c = 0 := by
        rw [hls] at z
        exact z
      refine ⟨M, ?_, hm, hP, fun i j _ => rfl⟩
      simp (disch := omega) only [x_bd_s, x_bi_s, x_lt_e, x_rd_n, x_wr_n, x_ra_n, x_dv_n, s_lt, s_le, s_eq, s_lt0, s_le0, s_0lt, s_0le, s_eq0, s_sub, s_rem, s_div, s_in, bI_0, bI_1, x_gb_b, x_gb_0, x_gb_1, nI_add, nI_1, s_size, s_abs, s_max, iI_mul, iI_add, iI_neg, Nat.le_refl, Nat.lt_irrefl, if_true, if_false, ite_true, ite_false, not_true, not_false_eq_true, md_letOut_l7, door, h184, z2]
      rfl
    · rw [if_neg z]
      have z2 : ¬ x.2.2.2.2.2.1 c = 0 := by
        rw [hls] at z
        exact z
      have hcn := cnL_upn hdr z
      have pi := md_personsIn_ok hP hw hc30
      obtain ⟨A, a1, a2, a3⟩ := outM (k7 := md_letOut_l7 F) hP hw hc30 (a + psn pe x c)
      generalize hB : e_up (e_up A 184 c 0) 185 c 0 = B
      have fB : ∀ i j, ¬ (i = 189 ∨ i = 184 ∨ i = 185) → B i j = M i j := fun i j hij => by rw [← hB, e_up_o (by omega), e_up_o (by omega), a3 _ _ (by omega)]
      have hB185 : ∀ d, d < 30 → B 185 d = nI (upn x.1 c 0 d) := fun d hd => by
        rw [← hB]
        by_cases e : d = c
        · subst e
          rw [e_up_e, upn_e]
          rfl
        · rw [e_up_o (by omega), e_up_o (by omega), a3 _ _ (by omega), upn_o e, hm.2.2 d hd]
      have hW2 := vcW hc30 hw
      have hx1 : (vcS c x).1 = upn x.1 c 0 := rfl
      obtain ⟨C, c1, c2, c3⟩ := rollOn_ok (M := B) (t := t1) (f := fun d => ((vcS c x).1 d : Int)) hk (ld_b (t := t1) hb.2 hW2) hlt (by rw [fB _ _ (by omega), hm.1]) (by rw [fB _ _ (by omega), hm.2.1]) (fun d hd => by rw [hB185 d (by omega), hx1]; rfl)
      have hmC : mW C n (rlF n (lnZ n (fun d => ((vcS c x).1 d : Int))) n t1 0).2 (vcS c x).1 := ⟨by rw [c3 _ _ (by omega), fB _ _ (by omega), hm.1], c2, fun d hd => by rw [c3 _ _ (by omega), hB185 d hd]; rfl⟩
      have hPC : mPx C np pe we wi se (vcS c x) := by
        obtain ⟨r1, r7, r8, r9, r10, r11⟩ := id hP
        refine ⟨?_, fun p hp => ?_, ?_, fun k hk => ?_, fun d hd => ?_, fun d hd i hi => ?_⟩
        · rw [c3 _ _ (by omega), fB _ _ (by omega), r1]
        · rw [c3 186 _ (by omega), c3 187 _ (by omega), c3 188 _ (by omega), c3 189 _ (by omega), c3 190 _ (by omega), c3 191 _ (by omega), fB 186 _ (by omega), fB 187 _ (by omega), fB 188 _ (by omega), fB 190 _ (by omega), fB 191 _ (by omega), ← hB, e_up_o (by omega), e_up_o (by omega), a2 p hp]
          obtain ⟨y1, y2, y3, y4, y5, y6⟩ := r7 p hp
          exact ⟨y1, y2, y3, rfl, y5, y6⟩
        · rw [c3 _ _ (by omega), fB _ _ (by omega)]
          exact r8
        · rw [c3 _ _ (by omega), fB _ _ (by omega)]
          exact r9 k hk
        · show C 184 d = nI (upn x.2.2.2.2.2.1 c 0 d)
          rw [c3 _ _ (by omega), ← hB, e_up_o (by omega)]
          by_cases e : d = c
          · subst e
            rw [e_up_e, upn_e]
            rfl
          · rw [e_up_o (by omega), upn_o e, a3 _ _ (by omega), r10 d hd]
        · have hi' : i < upn x.2.2.2.2.2.1 c 0 d := hi
          show C 183 (6 * d + i) = nI (x.2.2.2.2.2.2 d i)
          by_cases e : d = c
          · rw [e, upn_e] at hi'
            omega
          · rw [upn_o e] at hi'
            rw [c3 _ _ (by omega), fB _ _ (by omega), r11 d hd i hi']
      obtain ⟨D, d1, d2, d3, d4⟩ := ih F C t1 (vcS c x) (a + psn pe x c) (by rw [hx1]; omega) (by omega) hlt hmC hPC hW2
      refine ⟨D, ?_, d2, d3, fun i j hij => by rw [d4 i j hij, c3 _ _ (by omega), fB _ _ (by omega)]⟩
      simp (disch := omega) only [x_bd_s, x_bi_s, x_lt_e, x_rd_n, x_wr_n, x_ra_n, x_dv_n, s_lt, s_le, s_eq, s_lt0, s_le0, s_0lt, s_0le, s_eq0, s_sub, s_rem, s_div, s_in, bI_0, bI_1, x_gb_b, x_gb_0, x_gb_1, nI_add, nI_1, s_size, s_abs, s_max, iI_mul, iI_add, iI_neg, Nat.le_refl, Nat.lt_irrefl, if_true, if_false, ite_true, ite_false, not_true, not_false_eq_true, md_letOut_l7, door, h184, z2, pi]
      rw [show nI (smN (x.2.2.2.2.2.1 c) fun i => pe (x.2.2.2.2.2.2 c i)) = psn pe x c from rfl, a1]
      simp (disch := omega) only [x_bd_s, x_bi_s, x_lt_e, x_rd_n, x_wr_n, x_ra_n, x_dv_n, s_lt, s_le, s_eq, s_lt0, s_le0, s_0lt, s_0le, s_eq0, s_sub, s_rem, s_div, s_in, bI_0, bI_1, x_gb_b, x_gb_0, x_gb_1, nI_add, nI_1, s_size, s_abs, s_max, iI_mul, iI_add, iI_neg, Nat.le_refl, Nat.lt_irrefl, if_true, if_false, ite_true, ite_false, not_true, not_false_eq_true, md_letOut_b70]
      rw [hB, c1]
      simp only [x_bi_s]
      exact d1
theorem strM (hk : okn n) {x : bS} (y : Int32) : ∀ (m F : Nat) (M : e_Me) (t : Nat) (ld2 : Nat → Nat) (a : Int32), cnL n ld2 < m → m < F → t < n → (∀ c, c < n → ld2 c ≤ 900) → M 182 0 = nI n → M 182 1 = nI (rlF n (lnZ n (fun c => (ld2 c : Int))) n t 0).2 → (∀ c, c < n → M 185 c = nI (ld2 c)) → mPx M np pe we wi se x → wPx n np pe we wi se x →
    ∃ M', md_stranded_l43 y F a M = md_stranded_b87 y ((loF n m t ld2).2.foldl (fun a c => a - psn pe x c) a) M' ∧ ∀ i j, ¬ ((i = 185 ∧ j < n) ∨ (i = 182 ∧ j = 1)) → M' i j = M i j := by
  have hb := okn_b hk
  intro m
  induction m with
  | zero => intro F M t ld2 a h; omega
  | succ m ih =>
    intro F M t ld2 a h1 h2 ht h9 hn hm hl hP hw
    obtain ⟨F, rfl⟩ : ∃ F', F = F' + 1 := ⟨F - 1, by omega⟩
    have hlt := rlF_lt (g := lnZ n (fun c => (ld2 c : Int))) (show 0 < n by omega) n t 0 ht
    rw [loF]
    generalize (rlF n (lnZ n (fun c => (ld2 c : Int))) n t 0).2 = t1 at hm hlt
    have hdr : (0 + n - t1) % n < n := Nat.mod_lt _ (by omega)
    have door := md_atPlace_ok (p := 0) hk hn hm hlt (by omega)
    rw [nI_0] at door
    generalize (0 + n - t1) % n = c at hdr door
    have hc30 : c < 30 := by omega
    have hl9 := h9 c hdr
    by_cases z : ld2 c = 0
    · rw [if_pos z]
      refine ⟨M, ?_, fun i j _ => rfl⟩
      simp (disch := omega) only [x_bd_s, x_bi_s, x_lt_e, x_rd_n, x_wr_n, x_ra_n, x_dv_n, s_lt, s_le, s_eq, s_lt0, s_le0, s_0lt, s_0le, s_eq0, s_sub, s_rem, s_div, s_in, bI_0, bI_1, x_gb_b, x_gb_0, x_gb_1, nI_add, nI_1, s_size, s_abs, s_max, iI_mul, iI_add, iI_neg, Nat.le_refl, Nat.lt_irrefl, if_true, if_false, ite_true, ite_false, not_true, not_false_eq_true, md_stranded_l43, door, hl c hdr, z]
      rfl
    · rw [if_neg z]
      have hcn := cnL_upn hdr z
      have pi := md_personsIn_ok hP hw hc30
      generalize hB : e_up M 185 c 0 = B
      have fB : ∀ i j, ¬ (i = 185 ∧ j < n) → B i j = M i j := fun i j hij => by rw [← hB, e_up_o (by omega)]
      have hB185 : ∀ d, d < n → B 185 d = nI (upn ld2 c 0 d) := fun d hd => by
        rw [← hB]
        by_cases e : d = c
        · subst e
          rw [e_up_e, upn_e]
          rfl
        · rw [e_up_o (by omega), upn_o e, hl d hd]
      have h9' : ∀ d, d < n → upn ld2 c 0 d ≤ 900 := fun d hd => by
        unfold upn
        split
        · omega
        · exact h9 d hd
      obtain ⟨C, c1, c2, c3⟩ := rollOn_ok (M := B) (t := t1) (f := fun d => ((upn ld2 c 0 d : Nat) : Int)) hk (fun d hd => by
        have := h9' d hd
        show -2000 ≤ ((upn ld2 c 0 d : Nat) : Int) ∧ ((upn ld2 c 0 d : Nat) : Int) ≤ 2000
        omega) hlt (by rw [fB _ _ (by omega), hn]) (by rw [fB _ _ (by omega), hm]) (fun d hd => by rw [hB185 d hd]; rfl)
      obtain ⟨D, d1, d2⟩ := ih F C t1 (upn ld2 c 0) (a - psn pe x c) (by omega) (by omega) hlt h9' (by rw [c3 _ _ (by omega), fB _ _ (by omega), hn]) c2 (fun d hd => by rw [c3 _ _ (by omega), hB185 d hd]) (mP_same (fun i j hij => by rw [c3 _ _ (by omega), fB _ _ (by omega)]) hP) hw
      refine ⟨D, ?_, fun i j hij => by rw [d2 i j hij, c3 _ _ (by omega), fB _ _ (by omega)]⟩
      simp (disch := omega) only [x_bd_s, x_bi_s, x_lt_e, x_rd_n, x_wr_n, x_ra_n, x_dv_n, s_lt, s_le, s_eq, s_lt0, s_le0, s_0lt, s_0le, s_eq0, s_sub, s_rem, s_div, s_in, bI_0, bI_1, x_gb_b, x_gb_0, x_gb_1, nI_add, nI_1, s_size, s_abs, s_max, iI_mul, iI_add, iI_neg, Nat.le_refl, Nat.lt_irrefl, if_true, if_false, ite_true, ite_false, not_true, not_false_eq_true, md_stranded_l43, door, hl c hdr, z, pi]
      rw [show nI (smN (x.2.2.2.2.2.1 c) fun i => pe (x.2.2.2.2.2.2 c i)) = psn pe x c from rfl, hB, c1]
      simp only [x_bi_s]
      exact d1
theorem saveM (hn : n ≤ 30) (y z : Int32) : ∀ (d c F : Nat) (M : e_Me), c + d = n → d < F → M 182 0 = nI n → (∀ q, q < c → M 193 q = M 185 q) → ∃ M', md_stranded_l12 y z F (nI c) M = md_stranded_b38 y z M' ∧ (∀ q, q < n → M' 193 q = M 185 q) ∧ ∀ i j, i ≠ 193 → M' i j = M i j := by
  intro d
  induction d with
  | zero =>
    intro c F M h1 h2 h3 h4
    obtain ⟨F, rfl⟩ : ∃ F', F = F' + 1 := ⟨F - 1, by omega⟩
    have e : c = n := by omega
    subst e
    exact ⟨M, by simp (disch := omega) only [x_bd_s, x_bi_s, x_lt_e, x_rd_n, x_wr_n, x_ra_n, x_dv_n, s_lt, s_le, s_eq, s_lt0, s_le0, s_0lt, s_0le, s_eq0, s_sub, s_rem, s_div, s_in, bI_0, bI_1, x_gb_b, x_gb_0, x_gb_1, nI_add, nI_1, s_size, s_abs, s_max, iI_mul, iI_add, iI_neg, Nat.le_refl, Nat.lt_irrefl, if_true, if_false, ite_true, ite_false, not_true, not_false_eq_true, md_stranded_l12, h3], h4, fun i j _ => rfl⟩
  | succ d ih =>
    intro c F M h1 h2 h3 h4
    obtain ⟨F, rfl⟩ : ∃ F', F = F' + 1 := ⟨F - 1, by omega⟩
    have c1 : ¬ n ≤ c := by omega
    obtain ⟨M', k1, k2, k3⟩ := ih (c + 1) F (e_up M 193 c (M 185 c)) (by omega) (by omega) (by rw [e_up_o (by omega), h3]) (fun q hq => by
      rw [e_up_o (a := 185) (by omega)]
      by_cases e : q = c
      · subst e
        rw [e_up_e]
      · rw [e_up_o (by omega), h4 q (by omega)])
    refine ⟨M', ?_, fun q hq => by rw [k2 q hq, e_up_o (by omega)], fun i j hij => by rw [k3 i j hij, e_up_o (by omega)]⟩
    simp (disch := omega) only [x_bd_s, x_bi_s, x_lt_e, x_rd_n, x_wr_n, x_ra_n, x_dv_n, s_lt, s_le, s_eq, s_lt0, s_le0, s_0lt, s_0le, s_eq0, s_sub, s_rem, s_div, s_in, bI_0, bI_1, x_gb_b, x_gb_0, x_gb_1, nI_add, nI_1, s_size, s_abs, s_max, iI_mul, iI_add, iI_neg, Nat.le_refl, Nat.lt_irrefl, if_true, if_false, ite_true, ite_false, not_true, not_false_eq_true, md_stranded_l12, h3, c1]
    exact k1
theorem backM (hn : n ≤ 30) (z : Int32) : ∀ (d c F : Nat) (M : e_Me), c + d = n → d < F → M 182 0 = nI n → (∀ q, q < c → M 185 q = M 193 q) → ∃ M', md_stranded_l94 z F (nI c) M = some (z, M') ∧ (∀ q, q < n → M' 185 q = M 193 q) ∧ ∀ i j, ¬ (i = 185 ∧ j < n) → M' i j = M i j := by
  intro d
  induction d with
  | zero =>
    intro c F M h1 h2 h3 h4
    obtain ⟨F, rfl⟩ : ∃ F', F = F' + 1 := ⟨F - 1, by omega⟩
    have e : c = n := by omega
    subst e
    exact ⟨M, by simp (disch := omega) only [x_bd_s, x_bi_s, x_lt_e, x_rd_n, x_wr_n, x_ra_n, x_dv_n, s_lt, s_le, s_eq, s_lt0, s_le0, s_0lt, s_0le, s_eq0, s_sub, s_rem, s_div, s_in, bI_0, bI_1, x_gb_b, x_gb_0, x_gb_1, nI_add, nI_1, s_size, s_abs, s_max, iI_mul, iI_add, iI_neg, Nat.le_refl, Nat.lt_irrefl, if_true, if_false, ite_true, ite_false, not_true, not_false_eq_true, md_stranded_l94, h3], h4, fun i j _ => rfl⟩
  | succ d ih =>
    intro c F M h1 h2 h3 h4
    obtain ⟨F, rfl⟩ : ∃ F', F = F' + 1 := ⟨F - 1, by omega⟩
    have c1 : ¬ n ≤ c := by omega
    obtain ⟨M', k1, k2, k3⟩ := ih (c + 1) F (e_up M 185 c (M 193 c)) (by omega) (by omega) (by rw [e_up_o (by omega), h3]) (fun q hq => by
      rw [e_up_o (a := 193) (by omega)]
      by_cases e : q = c
      · subst e
        rw [e_up_e]
      · rw [e_up_o (by omega), h4 q (by omega)])
    refine ⟨M', ?_, fun q hq => by rw [k2 q hq, e_up_o (by omega)], fun i j hij => by rw [k3 i j hij, e_up_o (by omega)]⟩
    simp (disch := omega) only [x_bd_s, x_bi_s, x_lt_e, x_rd_n, x_wr_n, x_ra_n, x_dv_n, s_lt, s_le, s_eq, s_lt0, s_le0, s_0lt, s_0le, s_eq0, s_sub, s_rem, s_div, s_in, bI_0, bI_1, x_gb_b, x_gb_0, x_gb_1, nI_add, nI_1, s_size, s_abs, s_max, iI_mul, iI_add, iI_neg, Nat.le_refl, Nat.lt_irrefl, if_true, if_false, ite_true, ite_false, not_true, not_false_eq_true, md_stranded_l94, h3, c1]
    exact k1
end
section
variable {M : e_Me}
theorem l_letOut (h : Inv M) : ∃ r M1 M2, ew_letOut M = some (r, M1) ∧ md_letOut M1 = some (r, M2) ∧ Inv M2 := by
  obtain ⟨n, t, ld, ⟨hc, hn, ht, hl⟩, hG, hU, hN, hR, hH, hO, np, pe, we, wi, wh, se, pa, l, ln, sc, cb, hP, hQ, hwf⟩ := id h
  have hb := okn_b hc.1
  have hP0 : cPx M np pe we wi se (ld, pa, wh, l, ln, sc, cb) := hP
  have hQ0 : mPx M np pe we wi se (ld, pa, wh, l, ln, sc, cb) := hQ
  have hw0 : wPx n np pe we wi se (ld, pa, wh, l, ln, sc, cb) := hwf
  obtain ⟨A, a1, a2, a3, a4, a5, a6⟩ := tryAll hc
  obtain ⟨lt1, lt2⟩ := loF_lt (show 0 < n by omega) (n + 1) t ld hc.2.1
  have hcn := cnL_le n ld
  generalize hLO : loF n (n + 1) t ld = LO at a2 a3 a4 a5 lt1 lt2
  obtain ⟨t', L⟩ := LO
  simp only at a2 a3 a4 a5 lt1 lt2
  have hcA : cW A n t ld := cW_frame hc (funext fun j => a6 3 j (by omega)) (funext fun j => a6 4 j (by omega)) (funext fun j => a6 5 j (by omega)) (funext fun j => a6 6 j (by omega))
  have hPA : cPx A np pe we wi se (ld, pa, wh, l, ln, sc, cb) := cP_same (fun i j h1 h2 => a6 i j (by omega)) hP
  obtain ⟨B, b1, b2, b3, b4⟩ := vacAllC (n := n) (show L.length ≤ 30 by omega) L 0 e_F A t (ld, pa, wh, l, ln, sc, cb) 0 (by have := e_Fge; omega) (by omega) (fun j hj => by rw [Nat.zero_add]) lt2 a3 a5 hcA hPA hw0
  rw [nI_0] at b1
  obtain ⟨C, c1, c2, c3⟩ := wh_turnTo_ok b2 lt1
  have x1 : ew_letOut M = some ((vcL pe L (ld, pa, wh, l, ln, sc, cb) 0).1, C) := by
    simp only [ew_letOut, rl_letAllOut, a1, x_bd_s, b1, rl_letAllOut_b43, b4 162 4 (by omega), a2, c1, x_bi_s]
  have fC : ∀ i j, ¬ (i = 3 ∨ i = 5 ∨ i = 6 ∨ i = 17 ∨ (27 ≤ i ∧ i ≤ 86) ∨ (162 ≤ i ∧ i ≤ 165)) → C i j = M i j := fun i j hij => by rw [c3 i (by omega), b4 _ _ (by omega), a6 _ _ (by omega)]
  obtain ⟨D, d1, d2, d3⟩ := rollOn_ok (M := C) (t := t) (f := fun c => (ld c : Int)) hc.1 (cW_ld hc) hc.2.1 (by rw [fC _ _ (by omega), hn]) (by rw [fC _ _ (by omega), ht]) (fun c hc => by rw [fC _ _ (by omega), hl c (by omega)]; rfl)
  obtain ⟨E, e1, e2, e3, e4⟩ := letM (x := (ld, pa, wh, l, ln, sc, cb)) (np := np) (pe := pe) (we := we) (wi := wi) (se := se) hc.1 (n + 1) e_F D t 0 (show cnL n ld < n + 1 by omega) (by have := e_Fge; omega) hc.2.1 ⟨by rw [d3 _ _ (by omega), fC _ _ (by omega), hn], d2, fun c hc => by rw [d3 _ _ (by omega), fC _ _ (by omega)]; exact hl c hc⟩ (mP_same (fun i j hij => by rw [d3 _ _ (by omega), fC _ _ (by omega)]) hQ) hw0
  simp only at e1 e2 e3
  rw [hLO] at e1 e2 e3
  have x2 : md_letOut C = some ((vcL pe L (ld, pa, wh, l, ln, sc, cb) 0).1, E) := by
    simp only [md_letOut, d1, x_bi_s, e1]
  have hcC : cPx C np pe we wi se (vcL pe L (ld, pa, wh, l, ln, sc, cb) 0).2 := cP_same (fun i j h1 h2 => by rw [c3 i (by omega)]) b3
  exact ⟨_, C, E, x1, x2, turn_inv (M := M) (M1 := C) (y := (vcL pe L (ld, pa, wh, l, ln, sc, cb) 0).2) c2 hcC (fun i j hij => fC i j (by omega)) e2 e3 (fun i j hij => by rw [e4 _ _ (by omega), d3 _ _ (by omega)]) (vcL_w L _ _ (fun c hc => by have := lt2 c hc; omega) hw0) hG hU hN hR hH hO⟩
theorem l_stranded (h : Inv M) : ∃ r M1 M2, ew_stranded M = some (r, M1) ∧ md_stranded M1 = some (r, M2) ∧ Inv M2 := by
  obtain ⟨n, t, ld, ⟨hc, hn, ht, hl⟩, hG, hU, hN, hR, hH, hO, np, pe, we, wi, wh, se, pa, l, ln, sc, cb, hP, hQ, hwf⟩ := id h
  have hb := okn_b hc.1
  have hw0 : wPx n np pe we wi se (ld, pa, wh, l, ln, sc, cb) := hwf
  obtain ⟨A, a1, a2, a3, a4, a5, a6⟩ := tryAll hc
  obtain ⟨lt1, lt2⟩ := loF_lt (show 0 < n by omega) (n + 1) t ld hc.2.1
  have hcn := cnL_le n ld
  generalize hLO : loF n (n + 1) t ld = LO at a2 a3 a4 a5 lt1 lt2
  obtain ⟨t', L⟩ := LO
  simp only at a2 a3 a4 a5 lt1 lt2
  have hcA : cW A n t ld := cW_frame hc (funext fun j => a6 3 j (by omega)) (funext fun j => a6 4 j (by omega)) (funext fun j => a6 5 j (by omega)) (funext fun j => a6 6 j (by omega))
  have hPA : cP A np pe we wi wh se pa l ln sc cb := cP_same (fun i j h1 h2 => a6 i j (by omega)) hP
  have hPA0 : cPx A np pe we wi se (ld, pa, wh, l, ln, sc, cb) := hPA
  have up := up_all_ok hcA hPA hwf
  have b1 := strC (n := n) (x := (ld, pa, wh, l, ln, sc, cb)) (M := A) (show L.length ≤ 30 by omega) hb.2 a3 a5 hPA0 hw0 L 0 e_F (nI (smN n (fun c => smN (sc c) (fun i => pe (cb c i))))) (by have := e_Fge; omega) (by omega) (fun j hj => by rw [Nat.zero_add]) lt2
  rw [nI_0] at b1
  have x1 : ew_stranded M = some (L.foldl (fun a c => a - psn pe (ld, pa, wh, l, ln, sc, cb) c) (nI (smN n (fun c => smN (sc c) (fun i => pe (cb c i))))), A) := by
    simp only [ew_stranded, rl_wouldStrand, a1, x_bd_s, up, b1, x_bi_s]
  have fA : ∀ i j, ¬ (162 ≤ i ∧ i ≤ 165) → A i j = M i j := fun i j hij => a6 i j (by omega)
  have hQA : mP A np pe we wi wh se pa l ln sc cb := mP_same (fun i j hij => fA i j (by omega)) hQ
  have up2 := md_up_all_ok (M := A) hc.1 (by rw [fA _ _ (by omega), hn]) hQA hwf
  obtain ⟨B, b2, b3, b4⟩ := saveM hb.2 (A 182 1) (nI (smN n (fun c => smN (sc c) (fun i => pe (cb c i))))) n 0 e_F A (by omega) (by have := e_Fge; omega) (by rw [fA _ _ (by omega), hn]) (fun q hq => by omega)
  rw [nI_0] at b2
  have fB : ∀ i j, ¬ ((162 ≤ i ∧ i ≤ 165) ∨ i = 193) → B i j = M i j := fun i j hij => by rw [b4 _ _ (by omega), fA _ _ (by omega)]
  obtain ⟨C, c1, c2, c3⟩ := rollOn_ok (M := B) (t := t) (f := fun c => (ld c : Int)) hc.1 (cW_ld hc) hc.2.1 (by rw [fB _ _ (by omega), hn]) (by rw [fB _ _ (by omega), ht]) (fun c hc => by rw [fB _ _ (by omega), hl c (by omega)]; rfl)
  have fC : ∀ i j, ¬ ((162 ≤ i ∧ i ≤ 165) ∨ i = 193 ∨ (i = 182 ∧ j = 1)) → C i j = M i j := fun i j hij => by rw [c3 _ _ (by omega), fB _ _ (by omega)]
  obtain ⟨D, d1, d2⟩ := strM (np := np) (pe := pe) (we := we) (wi := wi) (se := se) (x := (ld, pa, wh, l, ln, sc, cb)) hc.1 (A 182 1) (n + 1) e_F C t ld (nI (smN n (fun c => smN (sc c) (fun i => pe (cb c i))))) (by omega) (by have := e_Fge; omega) hc.2.1 (fun c hc2 => hc.2.2.2.2.2.2.2 c (by omega)) (by rw [fC _ _ (by omega), hn]) c2 (fun c hc => by rw [fC _ _ (by omega), hl c (by omega)]) (mP_same (fun i j hij => fC i j (by omega)) hQ) hw0
  rw [hLO] at d1
  simp only at d1
  obtain ⟨E, e1, e2, e3⟩ := backM hb.2 (L.foldl (fun a c => a - psn pe (ld, pa, wh, l, ln, sc, cb) c) (nI (smN n (fun c => smN (sc c) (fun i => pe (cb c i)))))) n 0 e_F (e_up D 182 1 (A 182 1)) (by omega) (by have := e_Fge; omega) (by rw [e_up_o (by omega), d2 _ _ (by omega), fC _ _ (by omega), hn]) (fun q hq => by omega)
  rw [nI_0] at e1
  have x2 : md_stranded A = some (L.foldl (fun a c => a - psn pe (ld, pa, wh, l, ln, sc, cb) c) (nI (smN n (fun c => smN (sc c) (fun i => pe (cb c i))))), E) := by
    simp only [md_stranded, x_lt_e, up2, x_bd_s, b2, md_stranded_b38, c1, x_bi_s, d1, md_stranded_b87, e1]
  refine ⟨_, A, E, x1, x2, Inv_same (fun i j hij => ?_) h⟩
  by_cases z : i = 185 ∧ j < n
  · obtain ⟨rfl, hj⟩ := z
    rw [e2 j hj, e_up_o (by omega), d2 _ _ (by omega), c3 _ _ (by omega), b3 j hj, fA _ _ (by omega)]
  · rw [e3 _ _ z]
    by_cases z2 : i = 182 ∧ j = 1
    · obtain ⟨rfl, rfl⟩ := z2
      rw [e_up_e, fA _ _ (by omega)]
    · rw [e_up_o (by omega), d2 _ _ (by omega), fC _ _ (by
        unfold kp kW kG kU kN kR kH kO kP at hij
        omega)]
end
