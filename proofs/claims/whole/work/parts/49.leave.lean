/-! leave -/
theorem smN_cut {f g : Nat → Nat} : ∀ {k i : Nat}, i < k + 1 → smN k (fun j => f (cutF g i j)) + f (g i) = smN (k + 1) (fun j => f (g j))
  | 0, i, h => by
    obtain rfl : i = 0 := by omega
    simp [smN]
  | k + 1, i, h => by
    by_cases e : i = k + 1
    · subst e
      have e1 : smN (k + 1) (fun j => f (cutF g (k + 1) j)) = smN (k + 1) (fun j => f (g j)) := smN_cong (fun j hj => by rw [cutF, if_pos hj])
      rw [e1]
      rfl
    · have ih := smN_cut (f := f) (g := g) (k := k) (i := i) (by omega)
      have e2 : smN (k + 1) (fun j => f (cutF g i j)) = smN k (fun j => f (cutF g i j)) + f (g (k + 1)) := by
        show smN k _ + f (cutF g i k) = _
        rw [cutF, if_neg (by omega)]
      have e3 : smN (k + 1 + 1) (fun j => f (g j)) = smN (k + 1) (fun j => f (g j)) + f (g (k + 1)) := rfl
      rw [e2, e3]
      omega
theorem smN_ge1 {f : Nat → Nat} : ∀ {k i : Nat}, i < k → f i ≤ smN k f
  | 0, i, h => by omega
  | k + 1, i, h => by
    rw [smN]
    by_cases e : i = k
    · subst e
      omega
    · have := smN_ge1 (f := f) (k := k) (i := i) (by omega)
      omega
/-- CABIN c without its i-th PARTY q -/
def lvS (c i q : Nat) (we : Nat → Nat) : bS → bS
  | (ld, pa, wh, l, ln, sc, cb) => (fun d => ld d - if d = c then we q else 0, pa, upn wh q 101, l, ln, upn sc c (sc c - 1), fun d => if d = c then cutF (cb c) i else cb d)
section
variable {np : Nat} {pe we wi se : Nat → Nat} {n : Nat} {x : bS}
theorem lvW {c i q : Nat} (hc : c < 30) (hw : wPx n np pe we wi se x) (hi : i < x.2.2.2.2.2.1 c) (hq : x.2.2.2.2.2.2 c i = q) : wPx n np pe we wi se (lvS c i q we x) ∧ we q ≤ x.1 c ∧ q < np := by
  obtain ⟨ld, pa, wh, l, ln, sc, cb⟩ := x
  unfold wPx at hw
  simp only at hw hi hq
  obtain ⟨h1, h2, h3, h4, h5, h6, h7, h8, h9, h10⟩ := hw
  have hqn := h6 c hc i hi
  rw [hq] at hqn
  have hge : we q ≤ ld c := by
    rw [(h9 c hc).1, ← hq]
    exact smN_ge1 (f := fun i => we (cb c i)) hi
  refine ⟨⟨h1, h2, fun z hz => ?_, fun k hk => ?_, h5, fun d hd j hj => ?_, fun d hd j k hj hk hjk => ?_, fun z hz hz2 => ?_, fun d hd => ?_, fun d hd hd2 => ?_⟩, hge, hqn.1⟩
  · obtain ⟨y1, y2, y3, y4, y5, y6, y7⟩ := h3 z hz
    refine ⟨y1, y2, y3, y4, y5, y6, ?_⟩
    show upn wh q 101 z ≤ 101
    unfold upn
    split
    · omega
    · exact y7
  · have := h4 k hk
    refine ⟨this.1, ?_⟩
    show upn wh q 101 (ln k) = 100
    rw [upn_o (fun e => by rw [e, hqn.2] at this; omega)]
    exact this.2
  · have hj' : j < upn sc c (sc c - 1) d := hj
    show (if d = c then cutF (cb c) i else cb d) j < np ∧ upn wh q 101 ((if d = c then cutF (cb c) i else cb d) j) = d
    by_cases e : d = c
    · subst e
      rw [upn_e] at hj'
      rw [if_pos rfl]
      have hne : cutF (cb d) i j ≠ q := by
        rw [← hq]
        unfold cutF
        split
        · intro e; have := h7 d hd j i (by omega) hi e; omega
        · intro e; have := h7 d hd (j + 1) i (by omega) hi e; omega
      rw [upn_o hne]
      unfold cutF
      split
      · exact h6 d hd j (by omega)
      · exact h6 d hd (j + 1) (by omega)
    · rw [upn_o e] at hj'
      rw [if_neg e]
      have := h6 d hd j hj'
      rw [upn_o (fun e2 => by rw [e2, hqn.2] at this; exact e this.2.symm)]
      exact this
  · have hj' : j < upn sc c (sc c - 1) d := hj
    have hk' : k < upn sc c (sc c - 1) d := hk
    have hjk' : (if d = c then cutF (cb c) i else cb d) j = (if d = c then cutF (cb c) i else cb d) k := hjk
    by_cases e : d = c
    · subst e
      rw [upn_e] at hj' hk'
      rw [if_pos rfl] at hjk'
      unfold cutF at hjk'
      split at hjk'
      · split at hjk'
        · exact h7 d hd j k (by omega) (by omega) hjk'
        · have := h7 d hd j (k + 1) (by omega) (by omega) hjk'
          omega
      · split at hjk'
        · have := h7 d hd (j + 1) k (by omega) (by omega) hjk'
          omega
        · have := h7 d hd (j + 1) (k + 1) (by omega) (by omega) hjk'
          omega
    · rw [upn_o e] at hj' hk'
      rw [if_neg e] at hjk'
      exact h7 d hd j k hj' hk' hjk'
  · have hz2' : upn wh q 101 z < 30 := hz2
    show ∃ k, k < upn sc c (sc c - 1) (upn wh q 101 z) ∧ (if upn wh q 101 z = c then cutF (cb c) i else cb (upn wh q 101 z)) k = z
    by_cases e : z = q
    · rw [e, upn_e] at hz2'
      omega
    · rw [upn_o e] at hz2' ⊢
      obtain ⟨k, k1, k2⟩ := h8 z hz hz2'
      by_cases e2 : wh z = c
      · rw [e2] at k1 k2 ⊢
        rw [upn_e, if_pos rfl]
        have hki : k ≠ i := fun e3 => by
          rw [e3, hq] at k2
          exact e k2.symm
        by_cases e4 : k < i
        · exact ⟨k, by omega, by rw [cutF, if_pos e4]; exact k2⟩
        · refine ⟨k - 1, by omega, ?_⟩
          rw [cutF, if_neg (by omega), show k - 1 + 1 = k by omega]
          exact k2
      · exact ⟨k, by rw [upn_o e2]; exact k1, by rw [if_neg e2]; exact k2⟩
  · show (ld d - if d = c then we q else 0) = smN (upn sc c (sc c - 1) d) (fun k => we ((if d = c then cutF (cb c) i else cb d) k)) ∧ smN (upn sc c (sc c - 1) d) (fun k => pe ((if d = c then cutF (cb c) i else cb d) k)) ≤ 6
    obtain ⟨g1, g2⟩ := h9 d hd
    by_cases e : d = c
    · subst e
      rw [upn_e, if_pos rfl]
      simp only [if_true]
      have z1 := smN_cut (f := we) (g := cb d) (k := sc d - 1) (i := i) (by omega)
      have z2 := smN_cut (f := pe) (g := cb d) (k := sc d - 1) (i := i) (by omega)
      rw [show sc d - 1 + 1 = sc d by omega] at z1 z2
      rw [hq] at z1
      omega
    · rw [upn_o e, if_neg e]
      simp only [e, if_false]
      exact ⟨g1, g2⟩
  · show upn sc c (sc c - 1) d = 0
    by_cases e : d = c
    · subst e
      rw [upn_e, h10 d hd hd2]
    · rw [upn_o e]
      exact h10 d hd hd2
end
section
variable {M : e_Me}
theorem l97_ok {dr p : Nat} {sz : Nat} {f : Nat → Nat} {i : Nat} (hd : dr < 30) (hi : i < sz) (h6 : sz ≤ 6) (hp : p < 200) (h1 : ∀ j, j < sz → M 183 (6 * dr + j) = nI (f j)) (hf : ∀ j, j < sz → f j < 200) (hfi : f i = p) (hne : ∀ j, j < i → f j ≠ p) : ∀ (d j F : Nat), j + d = i → d < F → md_leave_l97 (nI p) (nI dr) M F (nI j) = md_leave_b119 (nI p) (nI dr) (nI i) M := by
  have e6 : (6 : Int32) * nI dr = nI (6 * dr) := by rw [show (6 : Int32) = nI 6 from rfl, pk_mul]
  intro d
  induction d with
  | zero =>
    intro j F g1 g2
    obtain ⟨F, rfl⟩ : ∃ F', F = F' + 1 := ⟨F - 1, by omega⟩
    have e : j = i := by omega
    subst e
    simp (disch := omega) only [x_bd_s, x_bi_s, x_lt_e, x_rd_n, x_wr_n, x_ra_n, x_dv_n, s_lt, s_le, s_eq, s_lt0, s_le0, s_0lt, s_0le, s_eq0, s_sub, s_rem, s_div, s_in, bI_0, bI_1, x_gb_b, x_gb_0, x_gb_1, nI_add, nI_1, s_size, s_abs, s_max, iI_mul, iI_add, iI_neg, Nat.le_refl, Nat.lt_irrefl, if_true, if_false, ite_true, ite_false, not_true, not_false_eq_true, md_leave_l97, e6, h1 j hi, hfi]
  | succ d ih =>
    intro j F g1 g2
    obtain ⟨F, rfl⟩ : ∃ F', F = F' + 1 := ⟨F - 1, by omega⟩
    have hj := hf j (by omega)
    have e : ¬ f j = p := hne j (by omega)
    simp (disch := omega) only [x_bd_s, x_bi_s, x_lt_e, x_rd_n, x_wr_n, x_ra_n, x_dv_n, s_lt, s_le, s_eq, s_lt0, s_le0, s_0lt, s_0le, s_eq0, s_sub, s_rem, s_div, s_in, bI_0, bI_1, x_gb_b, x_gb_0, x_gb_1, nI_add, nI_1, s_size, s_abs, s_max, iI_mul, iI_add, iI_neg, Nat.le_refl, Nat.lt_irrefl, if_true, if_false, ite_true, ite_false, not_true, not_false_eq_true, md_leave_l97, e6, h1 j (by omega), e]
    exact ih (j + 1) F (by omega) (by omega)
theorem l129_ok {dr : Nat} {y : Int32} {sz i : Nat} {f : Nat → Nat} (hd : dr < 30) (hi : i < sz) (h6 : sz ≤ 6) : ∀ (d j F : Nat) (M1 : e_Me), j + d = sz - 1 → d < F → i ≤ j → M1 184 dr = nI (sz - 1) → (∀ q, q < sz → M1 183 (6 * dr + q) = nI (if q < j then cutF f i q else f q)) →
    ∃ M', md_leave_l129 y (nI dr) F (nI j) M1 = md_leave_b172 y M' ∧ (∀ q, q < sz - 1 → M' 183 (6 * dr + q) = nI (cutF f i q)) ∧ ∀ a b, ¬ (a = 183 ∧ 6 * dr ≤ b ∧ b < 6 * dr + sz) → M' a b = M1 a b := by
  have e6 : (6 : Int32) * nI dr = nI (6 * dr) := by rw [show (6 : Int32) = nI 6 from rfl, pk_mul]
  intro d
  induction d with
  | zero =>
    intro j F M1 g1 g2 g3 g4 g5
    obtain ⟨F, rfl⟩ : ∃ F', F = F' + 1 := ⟨F - 1, by omega⟩
    have c1 : sz - 1 ≤ j := by omega
    refine ⟨M1, by simp (disch := omega) only [x_bd_s, x_bi_s, x_lt_e, x_rd_n, x_wr_n, x_ra_n, x_dv_n, s_lt, s_le, s_eq, s_lt0, s_le0, s_0lt, s_0le, s_eq0, s_sub, s_rem, s_div, s_in, bI_0, bI_1, x_gb_b, x_gb_0, x_gb_1, nI_add, nI_1, s_size, s_abs, s_max, iI_mul, iI_add, iI_neg, Nat.le_refl, Nat.lt_irrefl, if_true, if_false, ite_true, ite_false, not_true, not_false_eq_true, md_leave_l129, g4, c1], fun q hq => ?_, fun a b _ => rfl⟩
    rw [g5 q (by omega), if_pos (by omega)]
  | succ d ih =>
    intro j F M1 g1 g2 g3 g4 g5
    obtain ⟨F, rfl⟩ : ∃ F', F = F' + 1 := ⟨F - 1, by omega⟩
    have c1 : ¬ sz - 1 ≤ j := by omega
    have a1 : M1 183 (6 * dr + j + 1) = nI (f (j + 1)) := by
      have := g5 (j + 1) (by omega)
      rw [if_neg (by omega)] at this
      rw [show 6 * dr + j + 1 = 6 * dr + (j + 1) by omega, this]
    obtain ⟨M', k1, k2, k3⟩ := ih (j + 1) F (e_up M1 183 (6 * dr + j) (nI (f (j + 1)))) (by omega) (by omega) (by omega) (by rw [e_up_o (by omega), g4]) (fun q hq => by
      by_cases e : q = j
      · subst e
        rw [e_up_e, if_pos (by omega), cutF, if_neg (by omega)]
      · rw [e_up_o (by omega), g5 q hq]
        by_cases e2 : q < j
        · rw [if_pos e2, if_pos (by omega)]
        · rw [if_neg e2, if_neg (by omega)])
    refine ⟨M', ?_, k2, fun a b hab => by rw [k3 a b hab, e_up_o (by omega)]⟩
    simp (disch := omega) only [x_bd_s, x_bi_s, x_lt_e, x_rd_n, x_wr_n, x_ra_n, x_dv_n, s_lt, s_le, s_eq, s_lt0, s_le0, s_0lt, s_0le, s_eq0, s_sub, s_rem, s_div, s_in, bI_0, bI_1, x_gb_b, x_gb_0, x_gb_1, nI_add, nI_1, s_size, s_abs, s_max, iI_mul, iI_add, iI_neg, Nat.le_refl, Nat.lt_irrefl, if_true, if_false, ite_true, ite_false, not_true, not_false_eq_true, md_leave_l129, g4, c1, e6, a1]
    exact k1
theorem lnZ_w {n c : Nat} {ld : Nat → Nat} {w : Int} (hc : c < n) : mxN (fun r => (lnZ n (fun d => (ld d : Int) + if d = c then w else 0) r).natAbs) n = mxN (fun r => (lnZ n (fun d => (ld d : Int)) r + w * armZ n ((c + r) % n)).natAbs) n := mxN_cong (fun r _ => by rw [lnZ_upd hc])
theorem l_leave (h : Inv M) (x : Int32) : ∃ r M1 M2, ew_leave x M = some (r, M1) ∧ md_leave x M1 = some (r, M2) ∧ Inv M2 := by
  obtain ⟨n, t, ld, ⟨hc, hn, ht, hl⟩, hG, ⟨b, h0, c, pt, u1, u2, u3, u4, u5, u6, u7, u8, u9, u10, u11, u12⟩, hN, hR, hH, hO, np, pe, we, wi, wh, se, pa, l, ln, sc, cb, hP, hQ, hwf⟩ := id h
  have hb := okn_b hc.1
  have hdr : (0 + n - t) % n < n := Nat.mod_lt _ (by omega)
  have hdoor := wh_atDoor_ok hc
  have hdoor2 := md_atPlace_ok (p := 0) hc.1 hn ht hc.2.1 (by omega)
  generalize (0 + n - t) % n = dr at hdr hdoor hdoor2
  rw [nI_0] at hdoor2
  have hd30 : dr < 30 := by omega
  have h6 := wP_sc hwf hd30
  have hnp := hwf.1
  have hnp2 : np < 2147483648 := by omega
  have hs := hP.2.2.2.2.1 dr hd30
  have hcb := hP.2.2.2.2.2 dr hd30
  have no : (∀ i, i < sc dr → nI (cb dr i) ≠ x) → ew_leave x M = some (-101, M) := fun hno => by
    have e1 := ro_placeOf_no (x := x) (cap_cab dr hd30) hs h6 (show 6 ≤ 1000 by omega) (fun j hj => by rw [hcb j hj]; exact hno j hj)
    simp (disch := omega) only [x_bd_s, x_bi_s, x_lt_e, x_rd_n, x_wr_n, x_ra_n, x_dv_n, s_lt, s_le, s_eq, s_lt0, s_le0, s_0lt, s_0le, s_eq0, s_sub, s_rem, s_div, s_in, bI_0, bI_1, x_gb_b, x_gb_0, x_gb_1, nI_add, nI_1, s_size, s_abs, s_max, iI_mul, iI_add, iI_neg, Nat.le_refl, Nat.lt_irrefl, if_true, if_false, ite_true, ite_false, not_true, not_false_eq_true, ew_leave, ri_isAtDoor, hdoor, insideOf_ok hd30, cap_cab dr hd30, e1]
  have lt : ∀ i, i < sc dr → cb dr i < np := fun i hi => (hwf.2.2.2.2.2.1 dr hd30 i hi).1
  rcases pk_ix x (n := np) (by omega) with g | g | ⟨p, hp, rfl⟩
  · refine ⟨-101, M, M, no (fun i hi e => ?_), by simp (disch := omega) only [x_bd_s, x_bi_s, x_lt_e, x_rd_n, x_wr_n, x_ra_n, x_dv_n, s_lt, s_le, s_eq, s_lt0, s_le0, s_0lt, s_0le, s_eq0, s_sub, s_rem, s_div, s_in, bI_0, bI_1, x_gb_b, x_gb_0, x_gb_1, nI_add, nI_1, s_size, s_abs, s_max, iI_mul, iI_add, iI_neg, Nat.le_refl, Nat.lt_irrefl, if_true, if_false, ite_true, ite_false, not_true, not_false_eq_true, md_leave, hdoor2, hQ.1, in_no (M := M) hnp2 (Or.inl g)], h⟩
    rw [← e] at g
    exact nI_pos (by have := lt i hi; omega) g
  · refine ⟨-101, M, M, no (fun i hi e => ?_), by simp (disch := omega) only [x_bd_s, x_bi_s, x_lt_e, x_rd_n, x_wr_n, x_ra_n, x_dv_n, s_lt, s_le, s_eq, s_lt0, s_le0, s_0lt, s_0le, s_eq0, s_sub, s_rem, s_div, s_in, bI_0, bI_1, x_gb_b, x_gb_0, x_gb_1, nI_add, nI_1, s_size, s_abs, s_max, iI_mul, iI_add, iI_neg, Nat.le_refl, Nat.lt_irrefl, if_true, if_false, ite_true, ite_false, not_true, not_false_eq_true, md_leave, hdoor2, hQ.1, in_no (M := M) hnp2 (Or.inr g)], h⟩
    have := lt i hi
    rw [← e, s_le hnp2 (by omega)] at g
    omega
  · have hwhb := (hwf.2.2.1 p hp).2.2.2.2.2.2
    have m189 := (hQ.2.1 p hp).2.2.2.1
    by_cases hwp : wh p = dr
    · obtain ⟨i, hi, hip⟩ := hwf.2.2.2.2.2.2.2.1 p hp (by omega)
      rw [hwp] at hi hip
      have hw0 : wPx n np pe we wi se (ld, pa, wh, l, ln, sc, cb) := hwf
      obtain ⟨w1, w2, w3⟩ := lvW (q := p) hd30 hw0 hi hip
      have w2' : we p ≤ ld dr := w2
      have hld9 := wP_ld hwf hd30
      have hne : ∀ j, j < i → cb dr j ≠ p := fun j hj e => by
        have := hwf.2.2.2.2.2.2.1 dr hd30 j i (by omega) hi (by rw [e, hip])
        omega
      have pl := ro_placeOf_yes (x := nI p) (cap_cab dr hd30) hs h6 (show 6 ≤ 1000 by omega) hi (by rw [hcb i hi, hip]) (fun j hj e => by
        rw [hcb j (by omega)] at e
        have := lt j (by omega)
        rw [s_eq (by omega) (by omega)] at e
        exact hne j hj e)
      have pli : (nI i = (-1 : Int32)) = False := by
        rw [nI_iI, ← iI_m1, iI_eq (by omega) (by omega) (by omega) (by omega)]
        exact eq_false (by omega)
      have hwq := we_b hwf hp
      have e3 : ro_at 12 (nI p) M = some (nI (we p)) := by rw [ro_at_ok cap_200.2.1 hP.1.2.1 hnp (show 200 ≤ 1000 by omega) hp, (hP.2.1 _ hp).2.1]
      have e4 := wh_greatestWith_ok (w := -(we p : Int)) hc hdr (by omega) (by omega)
      have ew : -nI (we p) = iI (-(we p : Int)) := by rw [nI_iI, iI_neg]
      rw [← ew] at e4
      have e5 := wh_greatestLean_ok hc
      have v0 : ru_valueOf 0 M = some (nI b) := by rw [← nI_0, ru_valueOf_ok (by omega), u1]
      have hmx := mx_b (q := dr) hc (w := -(we p : Int)) (by omega) (by omega)
      have hm0 : mxN (fun r => (lnZ n (fun d => (ld d : Int)) r).natAbs) n ≤ 6200000 := mxN_b (fun r _ => by
        have b1 := lnZ_b (r := r) hc.1 (cW_ld hc)
        show _ ≤ _
        omega)
      -- the reference
      have g4 := md_greatestOf_ok (M := M) (f := fun c => (ld c : Int)) hc.1 hn (fun c hc' => hl c (by omega)) (cW_ld hc)
      have es : nI (ld dr) - nI (we p) = nI (ld dr - we p) := s_sub w2'
      have key : ∀ M3 : e_Me, (∀ i j, i ≥ 182 → M3 i j = M i j) → ∃ M7, M7 = e_up M3 185 dr (nI (ld dr - we p)) ∧ md_greatestOf M7 = some (nI (mxN (fun r => (lnZ n (fun d => (ld d : Int)) r + -(we p : Int) * armZ n ((dr + r) % n)).natAbs) n)) := fun M3 hM3 => by
        refine ⟨_, rfl, ?_⟩
        have g5 := md_greatestOf_ok (M := e_up M3 185 dr (nI (ld dr - we p))) (f := fun d => (ld d : Int) + if d = dr then -(we p : Int) else 0) hc.1 (by rw [e_up_o (by omega), hM3 _ _ (by omega), hn]) (fun c hc' => by
          by_cases e : c = dr
          · subst e
            rw [e_up_e, if_pos rfl, nI_iI]
            congr 1
            omega
          · rw [e_up_o (by omega), if_neg e, hM3 _ _ (by omega), hl c (by omega), Int.add_zero]
            rfl) (fun c hc' => by
          have q1 := cW_ld hc c hc'
          simp only at q1 ⊢
          split <;> omega)
        rw [lnZ_w hdr] at g5
        exact g5
      generalize hG1 : mxN (fun r => (lnZ n (fun d => (ld d : Int)) r).natAbs) n = G1 at e5 g4 hm0
      generalize hG2 : mxN (fun r => (lnZ n (fun d => (ld d : Int)) r + -(we p : Int) * armZ n ((dr + r) % n)).natAbs) n = G2 at e4 key hmx
      have at1 : ri_isAtDoor (nI p) M = some 1 := by
        simp (disch := omega) only [x_bd_s, x_bi_s, x_lt_e, x_rd_n, x_wr_n, x_ra_n, x_dv_n, s_lt, s_le, s_eq, s_lt0, s_le0, s_0lt, s_0le, s_eq0, s_sub, s_rem, s_div, s_in, bI_0, bI_1, x_gb_b, x_gb_0, x_gb_1, nI_add, nI_1, s_size, s_abs, s_max, iI_mul, iI_add, iI_neg, Nat.le_refl, Nat.lt_irrefl, if_true, if_false, ite_true, ite_false, not_true, not_false_eq_true, ri_isAtDoor, hdoor, insideOf_ok hd30, cap_cab dr hd30, pl, pli]
      have d185 : M 185 dr = nI (ld dr) := hl dr hd30
      have d187 := (hQ.2.1 p hp).2.1
      have inn : ∀ M3 : e_Me, md_in (nI p).toInt64 (0 : Int32).toInt64 (nI np - 1).toInt64 M3 = some 1 := fun M3 => in_yes (M := M3) hp hnp2
      -- M3: what the class left
      have ref : ∀ M3 : e_Me, (∀ i j, i ≥ 182 → M3 i j = M i j) → md_leave (nI p) M3 = if G2 ≤ b ∨ G2 < G1 then md_leave_l97 (nI p) (nI dr) (e_up M3 185 dr (nI (ld dr - we p))) e_F 0 else some (-103, e_up (e_up M3 185 dr (nI (ld dr - we p))) 185 dr (nI (ld dr))) := fun M3 hM3 => by
        obtain ⟨M7, rfl, k1⟩ := key M3 hM3
        have d3 := md_atPlace_ok (M := M3) (t := t) (p := 0) hc.1 (by rw [hM3 _ _ (by omega), hn]) (by rw [hM3 _ _ (by omega), ht]) hc.2.1 (by omega)
        have d2 : md_atPlace 0 M3 = md_atPlace 0 M := by
          unfold md_atPlace
          rw [hM3 _ _ (by omega), hM3 _ _ (by omega)]
        rw [hdoor2] at d2
        have g4' : md_greatestOf M3 = some (nI G1) := by
          rw [← hG1]
          exact md_greatestOf_ok (M := M3) (f := fun c => (ld c : Int)) hc.1 (by rw [hM3 _ _ (by omega), hn]) (fun c hc' => by rw [hM3 _ _ (by omega)]; exact hl c (by omega)) (cW_ld hc)
        have er : nI (ld dr - we p) + nI (we p) = nI (ld dr) := by
          rw [nI_add]
          congr 1
          omega
        by_cases q1 : G2 ≤ b
        · rw [if_pos (Or.inl q1)]
          simp (disch := omega) only [x_bd_s, x_bi_s, x_lt_e, x_rd_n, x_wr_n, x_ra_n, x_dv_n, s_lt, s_le, s_eq, s_lt0, s_le0, s_0lt, s_0le, s_eq0, s_sub, s_rem, s_div, s_in, bI_0, bI_1, x_gb_b, x_gb_0, x_gb_1, nI_add, nI_1, s_size, s_abs, s_max, iI_mul, iI_add, iI_neg, Nat.le_refl, Nat.lt_irrefl, if_true, if_false, ite_true, ite_false, not_true, not_false_eq_true, md_leave, d2, hM3 182 12 (by omega), hQ.1, inn, s_10, hM3 189 p (by omega), m189, hwp, g4', hM3 185 dr (by omega), d185, hM3 187 p (by omega), d187, es, k1, e_up_o, hM3 182 4 (by omega), u5, q1]
        · by_cases q2 : G2 < G1
          · rw [if_pos (Or.inr q2)]
            simp (disch := omega) only [x_bd_s, x_bi_s, x_lt_e, x_rd_n, x_wr_n, x_ra_n, x_dv_n, s_lt, s_le, s_eq, s_lt0, s_le0, s_0lt, s_0le, s_eq0, s_sub, s_rem, s_div, s_in, bI_0, bI_1, x_gb_b, x_gb_0, x_gb_1, nI_add, nI_1, s_size, s_abs, s_max, iI_mul, iI_add, iI_neg, Nat.le_refl, Nat.lt_irrefl, if_true, if_false, ite_true, ite_false, not_true, not_false_eq_true, md_leave, d2, hM3 182 12 (by omega), hQ.1, inn, s_10, hM3 189 p (by omega), m189, hwp, g4', hM3 185 dr (by omega), d185, hM3 187 p (by omega), d187, es, k1, e_up_o, hM3 182 4 (by omega), u5, q1, q2]
          · rw [if_neg (by omega)]
            simp (disch := omega) only [x_bd_s, x_bi_s, x_lt_e, x_rd_n, x_wr_n, x_ra_n, x_dv_n, s_lt, s_le, s_eq, s_lt0, s_le0, s_0lt, s_0le, s_eq0, s_sub, s_rem, s_div, s_in, bI_0, bI_1, x_gb_b, x_gb_0, x_gb_1, nI_add, nI_1, s_size, s_abs, s_max, iI_mul, iI_add, iI_neg, Nat.le_refl, Nat.lt_irrefl, if_true, if_false, ite_true, ite_false, not_true, not_false_eq_true, md_leave, d2, hM3 182 12 (by omega), hQ.1, inn, s_10, hM3 189 p (by omega), m189, hwp, g4', hM3 185 dr (by omega), d185, hM3 187 p (by omega), d187, es, k1, e_up_o, e_up_e, hM3 182 4 (by omega), u5, q1, q2, er]
      by_cases hv : G2 ≤ b ∨ G2 < G1
      · -- may leave
        obtain ⟨⟨r1, r2, r3, r4, r5, r6⟩, r7, r8, r9, r10, r11⟩ := id hP
        have may : ri_mayLeave (nI p) M = some 1 := by
          by_cases q1 : G2 ≤ b
          · simp (disch := omega) only [x_bd_s, x_bi_s, x_lt_e, x_rd_n, x_wr_n, x_ra_n, x_dv_n, s_lt, s_le, s_eq, s_lt0, s_le0, s_0lt, s_0le, s_eq0, s_sub, s_rem, s_div, s_in, bI_0, bI_1, x_gb_b, x_gb_0, x_gb_1, nI_add, nI_1, s_size, s_abs, s_max, iI_mul, iI_add, iI_neg, Nat.le_refl, Nat.lt_irrefl, if_true, if_false, ite_true, ite_false, not_true, not_false_eq_true, ri_mayLeave, hdoor, pa_weightOf, e3, e4, v0, q1]
          · have q2 : ¬ G1 ≤ G2 := by omega
            simp (disch := omega) only [x_bd_s, x_bi_s, x_lt_e, x_rd_n, x_wr_n, x_ra_n, x_dv_n, s_lt, s_le, s_eq, s_lt0, s_le0, s_0lt, s_0le, s_eq0, s_sub, s_rem, s_div, s_in, bI_0, bI_1, x_gb_b, x_gb_0, x_gb_1, nI_add, nI_1, s_size, s_abs, s_max, iI_mul, iI_add, iI_neg, Nat.le_refl, Nat.lt_irrefl, if_true, if_false, ite_true, ite_false, not_true, not_false_eq_true, ri_mayLeave, hdoor, pa_weightOf, e3, e4, v0, q1, e5, q2]
        obtain ⟨A, a1, a2, a3, a4⟩ := ro_cut_ok (cap_cab dr hd30) hs h6 (show 6 ≤ 1000 by omega) hi
        have b1 := ro_set_ok (M := A) (x := (101 : Int32)) cap_200.2.2.2.1 (m := np) (by rw [a4 16 1 (by omega), r4]) hnp (by omega) hp
        generalize hB : e_up A (16 + 1) p (101 : Int32) = B at b1
        have fB : ∀ i j, ¬ (i = 17 ∨ (27 ≤ i ∧ i ≤ 86)) → B i j = M i j := fun i j hij => by rw [← hB, e_up_o (by omega), a4 i j (by omega)]
        have e3B : ro_at 12 (nI p) B = some (nI (we p)) := by rw [ro_at_ok cap_200.2.1 (m := np) (by rw [fB _ _ (by omega), r2]) hnp (show 200 ≤ 1000 by omega) hp, fB _ _ (by omega), (hP.2.1 _ hp).2.1]
        have hcB : cW B n t ld := cW_frame hc (funext fun j => fB 3 j (by omega)) (funext fun j => fB 4 j (by omega)) (funext fun j => fB 5 j (by omega)) (funext fun j => fB 6 j (by omega))
        obtain ⟨E, x1, x2, x3⟩ := wh_addLoad_ok (w := -(we p : Int)) (ld' := fun d => ld d - if d = dr then we p else 0) hcB hdr (fun d hd => by
          by_cases e : d = dr
          · subst e
            simp only [if_true]
            omega
          · simp only [e, if_false]
            omega) (fun d hd => wP_ld w1 hd)
        rw [← ew] at x1
        have e2E : ro_at 10 (nI p) E = some (nI (pe p)) := by rw [ro_at_ok cap_200.1 (m := np) (by rw [x3 _ (by omega) (by omega), fB _ _ (by omega), r1]) hnp (show 200 ≤ 1000 by omega) hp, x3 _ (by omega) (by omega), fB _ _ (by omega), (hP.2.1 _ hp).1]
        have hx : ew_leave (nI p) M = some (nI (pe p), E) := by
          simp (disch := omega) only [x_bd_s, x_bi_s, x_lt_e, x_rd_n, x_wr_n, x_ra_n, x_dv_n, s_lt, s_le, s_eq, s_lt0, s_le0, s_0lt, s_0le, s_eq0, s_sub, s_rem, s_div, s_in, bI_0, bI_1, x_gb_b, x_gb_0, x_gb_1, nI_add, nI_1, s_size, s_abs, s_max, iI_mul, iI_add, iI_neg, Nat.le_refl, Nat.lt_irrefl, if_true, if_false, ite_true, ite_false, not_true, not_false_eq_true, ew_leave, at1, s_10, may, ri_getOff, hdoor, insideOf_ok hd30, cap_cab dr hd30, pl, a1, pa_moveTo, b1, pa_weightOf, e3B, x1, pa_personsOf, e2E]
        have fE : ∀ i j, i ≠ 5 → i ≠ 6 → E i j = B i j := fun i j i1 i2 => by rw [x3 i i1 i2]
        have fM : ∀ i j, ¬ (i = 5 ∨ i = 6 ∨ i = 17 ∨ (27 ≤ i ∧ i ≤ 86)) → E i j = M i j := fun i j hij => by rw [fE _ _ (by omega) (by omega), fB _ _ (by omega)]
        have hPE : cPx E np pe we wi se (lvS dr i p we (ld, pa, wh, l, ln, sc, cb)) := by
          refine ⟨?_, fun z hz => ?_, ?_, fun j hj => ?_, fun c hc => ?_, fun c hc j hj => ?_⟩
          · rw [fM _ _ (by omega), fM _ _ (by omega), fM _ _ (by omega), fM _ _ (by omega), fM _ _ (by omega), fM _ _ (by omega)]
            exact ⟨r1, r2, r3, r4, r5, r6⟩
          · rw [fM 11 _ (by omega), fM 13 _ (by omega), fM 15 _ (by omega), fM 19 _ (by omega), fE 17 _ (by omega) (by omega), fM 21 _ (by omega)]
            obtain ⟨y1, y2, y3, y4, y5, y6⟩ := r7 z hz
            refine ⟨y1, y2, y3, ?_, y5, y6⟩
            show B 17 z = nI (upn wh p 101 z)
            rw [← hB]
            by_cases e : z = p
            · rw [e, upn_e, show 17 = 16 + 1 from rfl, e_up_e]
              rfl
            · rw [upn_o e, e_up_o (by omega), a4 _ _ (by omega), y4]
          · rw [fM _ _ (by omega)]
            exact r8
          · rw [fM _ _ (by omega)]
            exact r9 j hj
          · show E (27 + 2 * c) 1 = nI (upn sc dr (sc dr - 1) c)
            rw [fE _ _ (by omega) (by omega), ← hB, e_up_o (by omega)]
            by_cases e : c = dr
            · subst e
              rw [upn_e, a2]
            · rw [upn_o e, a4 _ _ (by omega), r10 c hc]
          · have hj' : j < upn sc dr (sc dr - 1) c := hj
            show E (27 + 2 * c + 1) j = nI ((if c = dr then cutF (cb dr) i else cb c) j)
            rw [fE _ _ (by omega) (by omega), ← hB, e_up_o (by omega)]
            by_cases e : c = dr
            · subst e
              rw [upn_e] at hj'
              rw [if_pos rfl, a3 j hj']
              unfold cutF
              split
              · exact hcb j (by omega)
              · exact hcb (j + 1) (by omega)
            · rw [upn_o e] at hj'
              rw [if_neg e, a4 _ _ (by omega), r11 c hc j hj']
        have hE182 : ∀ i j, i ≥ 182 → E i j = M i j := fun i j hij => fM i j (by omega)
        have y1 := ref E hE182
        rw [if_pos hv] at y1
        generalize hU : e_up E 185 dr (nI (ld dr - we p)) = U at y1
        have fU : ∀ i j, ¬ (i = 185 ∧ j = dr) → U i j = E i j := fun i j hij => by rw [← hU, e_up_o (by omega)]
        have y2 := l97_ok (M := U) (f := cb dr) (p := p) hd30 hi h6 (by omega) (fun j hj => by rw [fU _ _ (by omega), hE182 _ _ (by omega), hQ.2.2.2.2.2 dr hd30 j hj]) (fun j hj => by have := lt j hj; omega) hip hne i 0 e_F (by omega) (by have := e_Fge; omega)
        rw [nI_0] at y2
        have y3 : U 184 dr = nI (sc dr) := by rw [fU _ _ (by omega), hE182 _ _ (by omega), hQ.2.2.2.2.1 dr hd30]
        obtain ⟨V, v1, v2, v3⟩ := l129_ok (y := nI p) (f := cb dr) hd30 hi h6 (sc dr - 1 - i) i e_F (e_up U 184 dr (nI (sc dr - 1))) (by omega) (by have := e_Fge; omega) (Nat.le_refl _) (e_up_e _ _ _ _) (fun q hq => by
          rw [e_up_o (by omega), fU _ _ (by omega), hE182 _ _ (by omega), hQ.2.2.2.2.2 dr hd30 q hq]
          by_cases e : q < i
          · rw [if_pos e, cutF, if_pos e]
          · rw [if_neg e])
        have e1s : nI (sc dr) - 1 = nI (sc dr - 1) := s_sub (b := 1) (by omega)
        have fV : ∀ i j, ¬ (i = 183 ∨ i = 184 ∨ i = 185) → V i j = E i j := fun i j hij => by rw [v3 _ _ (by omega), e_up_o (by omega), fU _ _ (by omega)]
        have y4 : md_leave (nI p) E = some (nI (pe p), e_up V 189 p 101) := by
          rw [y1, y2]
          simp (disch := omega) only [x_bd_s, x_bi_s, x_lt_e, x_rd_n, x_wr_n, x_ra_n, x_dv_n, s_lt, s_le, s_eq, s_lt0, s_le0, s_0lt, s_0le, s_eq0, s_sub, s_rem, s_div, s_in, bI_0, bI_1, x_gb_b, x_gb_0, x_gb_1, nI_add, nI_1, s_size, s_abs, s_max, iI_mul, iI_add, iI_neg, Nat.le_refl, Nat.lt_irrefl, if_true, if_false, ite_true, ite_false, not_true, not_false_eq_true, md_leave_b119, y3, e1s, v1, md_leave_b172, e_up_o, fV 186 p (by omega), hE182 186 p (by omega), (hQ.2.1 p hp).1]
        refine ⟨nI (pe p), E, _, hx, y4, board_inv (n := n) (t := t) (y := lvS dr i p we (ld, pa, wh, l, ln, sc, cb)) x2 hPE (fun i j hij => fM i j (by omega)) ⟨?_, ?_, fun c hc => ?_⟩ ⟨?_, fun z hz => ?_, ?_, fun j hj => ?_, fun c hc => ?_, fun c hc j hj => ?_⟩ (fun i j hij => by rw [e_up_o (by omega), fV _ _ (by omega)]) w1 h hG ⟨b, h0, c, pt, u1, u2, u3, u4, u5, u6, u7, u8, u9, u10, u11, u12⟩ hN hR hH hO⟩
        · rw [e_up_o (by omega), fV _ _ (by omega), hE182 _ _ (by omega), hn]
        · rw [e_up_o (by omega), fV _ _ (by omega), hE182 _ _ (by omega), ht]
        · show _ = nI (ld c - if c = dr then we p else 0)
          rw [e_up_o (by omega), v3 _ _ (by omega), e_up_o (by omega), ← hU]
          by_cases e : c = dr
          · subst e
            rw [if_pos rfl, e_up_e]
          · rw [if_neg e, e_up_o (by omega), hE182 _ _ (by omega), hl c hc]
            rfl
        · rw [e_up_o (by omega), fV _ _ (by omega), hE182 _ _ (by omega), hQ.1]
        · rw [e_up_o (i := 189) (a := 186) (by omega), e_up_o (i := 189) (a := 187) (by omega), e_up_o (i := 189) (a := 188) (by omega), e_up_o (i := 189) (a := 190) (by omega), e_up_o (i := 189) (a := 191) (by omega), fV 186 z (by omega), fV 187 z (by omega), fV 188 z (by omega), fV 190 z (by omega), fV 191 z (by omega), hE182 186 z (by omega), hE182 187 z (by omega), hE182 188 z (by omega), hE182 190 z (by omega), hE182 191 z (by omega)]
          obtain ⟨y1, y2, y3, y4, y5, y6⟩ := hQ.2.1 z hz
          refine ⟨y1, y2, y3, ?_, y5, y6⟩
          show _ = nI (upn wh p 101 z)
          by_cases e : z = p
          · rw [e, upn_e, e_up_e]
            rfl
          · rw [upn_o e, e_up_o (by omega), fV _ _ (by omega), hE182 _ _ (by omega), y4]
        · rw [e_up_o (by omega), fV _ _ (by omega), hE182 _ _ (by omega)]
          exact hQ.2.2.1
        · rw [e_up_o (by omega), fV _ _ (by omega), hE182 _ _ (by omega)]
          exact hQ.2.2.2.1 j hj
        · show _ = nI (upn sc dr (sc dr - 1) c)
          rw [e_up_o (by omega), v3 _ _ (by omega)]
          by_cases e : c = dr
          · subst e
            rw [upn_e, e_up_e]
          · rw [upn_o e, e_up_o (by omega), fU _ _ (by omega), hE182 _ _ (by omega), hQ.2.2.2.2.1 c hc]
        · have hj' : j < upn sc dr (sc dr - 1) c := hj
          show _ = nI ((if c = dr then cutF (cb dr) i else cb c) j)
          rw [e_up_o (by omega)]
          by_cases e : c = dr
          · subst e
            rw [upn_e] at hj'
            rw [if_pos rfl, v2 j hj']
          · rw [upn_o e] at hj'
            have z6 := wP_sc hwf hc
            rw [if_neg e, v3 _ _ (by omega), e_up_o (by omega), fU _ _ (by omega), hE182 _ _ (by omega), hQ.2.2.2.2.2 c hc j hj']
      · -- may not
        have q1 : ¬ G2 ≤ b := by omega
        have q2 : G1 ≤ G2 := by omega
        have may : ri_mayLeave (nI p) M = some 0 := by
          simp (disch := omega) only [x_bd_s, x_bi_s, x_lt_e, x_rd_n, x_wr_n, x_ra_n, x_dv_n, s_lt, s_le, s_eq, s_lt0, s_le0, s_0lt, s_0le, s_eq0, s_sub, s_rem, s_div, s_in, bI_0, bI_1, x_gb_b, x_gb_0, x_gb_1, nI_add, nI_1, s_size, s_abs, s_max, iI_mul, iI_add, iI_neg, Nat.le_refl, Nat.lt_irrefl, if_true, if_false, ite_true, ite_false, not_true, not_false_eq_true, ri_mayLeave, hdoor, pa_weightOf, e3, e4, v0, q1, e5, q2]
        have y1 := ref M (fun i j _ => rfl)
        rw [if_neg hv] at y1
        refine ⟨-103, M, _, ?_, y1, Inv_same (fun i j _ => ?_) h⟩
        · simp (disch := omega) only [x_bd_s, x_bi_s, x_lt_e, x_rd_n, x_wr_n, x_ra_n, x_dv_n, s_lt, s_le, s_eq, s_lt0, s_le0, s_0lt, s_0le, s_eq0, s_sub, s_rem, s_div, s_in, bI_0, bI_1, x_gb_b, x_gb_0, x_gb_1, nI_add, nI_1, s_size, s_abs, s_max, iI_mul, iI_add, iI_neg, Nat.le_refl, Nat.lt_irrefl, if_true, if_false, ite_true, ite_false, not_true, not_false_eq_true, ew_leave, at1, s_10, may]
        · by_cases e : i = 185 ∧ j = dr
          · rw [e.1, e.2, e_up_e, d185]
          · rw [e_up_o (by omega), e_up_o (by omega)]
    · refine ⟨-101, M, M, no (fun i hi e => ?_), ?_, h⟩
      · have := hwf.2.2.2.2.2.1 dr hd30 i hi
        rw [s_eq (by omega) (by omega)] at e
        rw [e] at this
        exact hwp this.2
      · simp (disch := omega) only [x_bd_s, x_bi_s, x_lt_e, x_rd_n, x_wr_n, x_ra_n, x_dv_n, s_lt, s_le, s_eq, s_lt0, s_le0, s_0lt, s_0le, s_eq0, s_sub, s_rem, s_div, s_in, bI_0, bI_1, x_gb_b, x_gb_0, x_gb_1, nI_add, nI_1, s_size, s_abs, s_max, iI_mul, iI_add, iI_neg, Nat.le_refl, Nat.lt_irrefl, if_true, if_false, ite_true, ite_false, not_true, not_false_eq_true, md_leave, hdoor2, hQ.1, in_yes (M := M) hp hnp2, s_10, m189, hwp]
end
