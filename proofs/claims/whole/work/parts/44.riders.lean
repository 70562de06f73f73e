/-! who is in a CABIN, who waits -/
theorem smN_cong {f g : Nat → Nat} : ∀ {k : Nat}, (∀ c, c < k → f c = g c) → smN k f = smN k g
  | 0, _ => rfl
  | k + 1, h => by rw [smN, smN, smN_cong (fun c hc => h c (by omega)), h k (by omega)]
theorem smN_b {f : Nat → Nat} {B : Nat} : ∀ {k : Nat}, (∀ c, c < k → f c ≤ B) → smN k f ≤ k * B
  | 0, _ => Nat.zero_le _
  | k + 1, h => by
    have h1 := smN_b (k := k) (fun c hc => h c (by omega))
    have h2 := h k (by omega)
    rw [smN, Nat.add_mul]
    omega
theorem smN_le {f g : Nat → Nat} : ∀ {k : Nat}, (∀ c, c < k → f c ≤ g c) → smN k f ≤ smN k g
  | 0, _ => Nat.le_refl _
  | k + 1, h => by
    have h1 := smN_le (k := k) (fun c hc => h c (by omega))
    have h2 := h k (by omega)
    rw [smN, smN]
    omega
theorem smN_mul {f : Nat → Nat} {a : Nat} : ∀ {k : Nat}, smN k (fun c => a * f c) = a * smN k f
  | 0 => rfl
  | k + 1 => by
    rw [smN, smN, smN_mul, Nat.mul_add]
theorem smN_ge {f : Nat → Nat} : ∀ {k : Nat}, (∀ c, c < k → 1 ≤ f c) → k ≤ smN k f
  | 0, _ => Nat.le_refl _
  | k + 1, h => by
    have h1 := smN_ge (k := k) (fun c hc => h c (by omega))
    have h2 := h k (by omega)
    rw [smN]
    omega
def anyN (f : Nat → Bool) : Nat → Bool
  | 0 => false
  | k + 1 => anyN f k || f k
theorem anyN_f {f : Nat → Bool} : ∀ {k : Nat}, anyN f k = false → ∀ i, i < k → f i = false
  | 0, _, i, hi => by omega
  | k + 1, h, i, hi => by
    simp only [anyN, Bool.or_eq_false_iff] at h
    by_cases e : i = k
    · rw [e]
      exact h.2
    · exact anyN_f h.1 i (by omega)
theorem anyN_t {f : Nat → Bool} : ∀ {k i : Nat}, i < k → f i = true → anyN f k = true
  | 0, i, hi, _ => by omega
  | k + 1, i, hi, h => by
    simp only [anyN, Bool.or_eq_true]
    by_cases e : i = k
    · right
      rw [← e]
      exact h
    · left
      exact anyN_t (show i < k by omega) h
section
variable {M : e_Me} {np : Nat} {pe we wi wh se : Nat → Nat} {pa : Nat → Int32} {l : Nat} {ln sc : Nat → Nat} {cb : Nat → Nat → Nat} {n : Nat} {ld : Nat → Nat}
theorem wP_sc (hw : wP n ld np pe we wi wh se l ln sc cb) {c : Nat} (hc : c < 30) : sc c ≤ 6 := by
  have h1 := smN_ge (f := fun i => pe (cb c i)) (k := sc c) (fun i hi => (hw.2.2.1 _ (hw.2.2.2.2.2.1 c hc i hi).1).1)
  have h2 := (hw.2.2.2.2.2.2.2.2.1 c hc).2
  omega
theorem wP_ld (hw : wP n ld np pe we wi wh se l ln sc cb) {c : Nat} (hc : c < 30) : ld c ≤ 900 := by
  have h2 := hw.2.2.2.2.2.2.2.2.1 c hc
  have h1 := smN_le (f := fun i => we (cb c i)) (g := fun i => 150 * pe (cb c i)) (k := sc c) (fun i hi => (hw.2.2.1 _ (hw.2.2.2.2.2.1 c hc i hi).1).2.2.2.1)
  rw [smN_mul] at h1
  rw [h2.1]
  omega
theorem insideOf_ok {c : Nat} (hc : c < 30) : ri_insideOf (nI c) M = some (27 + 2 * c) := by
  have c1 : ¬ 30 ≤ c := by omega
  simp (disch := omega) only [x_bd_s, x_bi_s, x_lt_e, x_rd_n, x_wr_n, x_ra_n, x_dv_n, s_lt, s_le, s_eq, s_lt0, s_le0, s_0lt, s_0le, s_eq0, s_sub, s_rem, s_div, s_in, bI_0, bI_1, x_gb_b, x_gb_0, x_gb_1, nI_add, nI_1, s_size, s_abs, s_max, iI_mul, iI_add, iI_neg, Nat.le_refl, Nat.lt_irrefl, if_true, if_false, ite_true, ite_false, not_true, not_false_eq_true, ri_insideOf, c1, cap_cab c hc]
/-- PERSONS of a row of PARTIES -/
theorem persons_ok {r cap m : Nat} {f : Nat → Nat} (hP : cP M np pe we wi wh se pa l ln sc cb) (hnp : np ≤ 200) (hpe : ∀ p, p < np → pe p ≤ 6) (hr : e_cap r = some cap) (hm : M r 1 = nI m) (hc : m ≤ cap) (hk : cap ≤ 1000) (hf : ∀ i, i < m → M (r + 1) i = nI (f i) ∧ f i < np) :
    pa_personsOfAll r M = some (nI (smN m (fun i => pe (f i)))) := by
  have key : ∀ (d i F : Nat), i + d = m → d < F → pa_personsOfAll_l4 r cap M F (nI (smN i (fun i => pe (f i)))) (nI i) = some (nI (smN m (fun i => pe (f i)))) := by
    intro d
    induction d with
    | zero =>
      intro i F h1 h2
      obtain ⟨F, rfl⟩ : ∃ F', F = F' + 1 := ⟨F - 1, by omega⟩
      have c1 : m ≤ i := by omega
      have e : i = m := by omega
      simp (disch := omega) only [x_bd_s, x_bi_s, x_lt_e, x_rd_n, x_wr_n, x_ra_n, x_dv_n, s_lt, s_le, s_eq, s_lt0, s_le0, s_0lt, s_0le, s_eq0, s_sub, s_rem, s_div, s_in, bI_0, bI_1, x_gb_b, x_gb_0, x_gb_1, nI_add, nI_1, s_size, s_abs, s_max, iI_mul, iI_add, iI_neg, Nat.le_refl, Nat.lt_irrefl, if_true, if_false, ite_true, ite_false, not_true, not_false_eq_true, pa_personsOfAll_l4, ro_count_ok hr, hm, c1, e]
    | succ d ih =>
      intro i F h1 h2
      obtain ⟨F, rfl⟩ : ∃ F', F = F' + 1 := ⟨F - 1, by omega⟩
      have c1 : ¬ m ≤ i := by omega
      have hi : i < m := by omega
      simp (disch := omega) only [x_bd_s, x_bi_s, x_lt_e, x_rd_n, x_wr_n, x_ra_n, x_dv_n, s_lt, s_le, s_eq, s_lt0, s_le0, s_0lt, s_0le, s_eq0, s_sub, s_rem, s_div, s_in, bI_0, bI_1, x_gb_b, x_gb_0, x_gb_1, nI_add, nI_1, s_size, s_abs, s_max, iI_mul, iI_add, iI_neg, Nat.le_refl, Nat.lt_irrefl, if_true, if_false, ite_true, ite_false, not_true, not_false_eq_true, pa_personsOfAll_l4, ro_count_ok hr, hm, c1, ro_at_ok hr hm hc hk hi, (hf i hi).1, ro_at_ok cap_200.1 hP.1.1 hnp (show 200 ≤ 1000 by omega) (hf i hi).2, (hP.2.1 _ (hf i hi).2).1]
      exact ih (i + 1) F (by omega) (by omega)
  have := e_Fge
  have k1 := key m 0 e_F (by omega) (by omega)
  simp (disch := omega) only [x_bd_s, x_bi_s, x_lt_e, x_rd_n, x_wr_n, x_ra_n, x_dv_n, s_lt, s_le, s_eq, s_lt0, s_le0, s_0lt, s_0le, s_eq0, s_sub, s_rem, s_div, s_in, bI_0, bI_1, x_gb_b, x_gb_0, x_gb_1, nI_add, nI_1, s_size, s_abs, s_max, iI_mul, iI_add, iI_neg, Nat.le_refl, Nat.lt_irrefl, if_true, if_false, ite_true, ite_false, not_true, not_false_eq_true, pa_personsOfAll, hr]
  exact k1
theorem personsIn_ok {c : Nat} (hP : cP M np pe we wi wh se pa l ln sc cb) (hw : wP n ld np pe we wi wh se l ln sc cb) (hc : c < 30) : ri_personsIn (nI c) M = some (nI (smN (sc c) (fun i => pe (cb c i)))) := by
  have h6 := wP_sc hw hc
  simp (disch := omega) only [x_bd_s, x_bi_s, x_lt_e, x_rd_n, x_wr_n, x_ra_n, x_dv_n, s_lt, s_le, s_eq, s_lt0, s_le0, s_0lt, s_0le, s_eq0, s_sub, s_rem, s_div, s_in, bI_0, bI_1, x_gb_b, x_gb_0, x_gb_1, nI_add, nI_1, s_size, s_abs, s_max, iI_mul, iI_add, iI_neg, Nat.le_refl, Nat.lt_irrefl, if_true, if_false, ite_true, ite_false, not_true, not_false_eq_true, ri_personsIn, insideOf_ok hc, cap_cab c hc, persons_ok hP hw.1 (fun p hp => (hw.2.2.1 p hp).2.1) (cap_cab c hc) (hP.2.2.2.2.1 c hc) h6 (show 6 ≤ 1000 by omega) (fun i hi => ⟨hP.2.2.2.2.2 c hc i hi, (hw.2.2.2.2.2.1 c hc i hi).1⟩)]
theorem md_personsIn_ok {c : Nat} (hP : mP M np pe we wi wh se pa l ln sc cb) (hw : wP n ld np pe we wi wh se l ln sc cb) (hc : c < 30) : md_personsIn (nI c) M = some (nI (smN (sc c) (fun i => pe (cb c i)))) := by
  have h6 := wP_sc hw hc
  have hnp := hw.1
  have key : ∀ (d i F : Nat), i + d = sc c → d < F → md_personsIn_l4 (nI c) M F (nI (smN i (fun i => pe (cb c i)))) (nI i) = some (nI (smN (sc c) (fun i => pe (cb c i)))) := by
    intro d
    induction d with
    | zero =>
      intro i F h1 h2
      obtain ⟨F, rfl⟩ : ∃ F', F = F' + 1 := ⟨F - 1, by omega⟩
      have c1 : sc c ≤ i := by omega
      have e : i = sc c := by omega
      simp (disch := omega) only [x_bd_s, x_bi_s, x_lt_e, x_rd_n, x_wr_n, x_ra_n, x_dv_n, s_lt, s_le, s_eq, s_lt0, s_le0, s_0lt, s_0le, s_eq0, s_sub, s_rem, s_div, s_in, bI_0, bI_1, x_gb_b, x_gb_0, x_gb_1, nI_add, nI_1, s_size, s_abs, s_max, iI_mul, iI_add, iI_neg, Nat.le_refl, Nat.lt_irrefl, if_true, if_false, ite_true, ite_false, not_true, not_false_eq_true, md_personsIn_l4, hP.2.2.2.2.1 c hc, c1, e]
    | succ d ih =>
      intro i F h1 h2
      obtain ⟨F, rfl⟩ : ∃ F', F = F' + 1 := ⟨F - 1, by omega⟩
      have c1 : ¬ sc c ≤ i := by omega
      have hi : i < sc c := by omega
      have e6 : (6 : Int32) * nI c = nI (6 * c) := by rw [show (6 : Int32) = nI 6 from rfl, pk_mul]
      have hcb := (hw.2.2.2.2.2.1 c hc i hi).1
      simp (disch := omega) only [x_bd_s, x_bi_s, x_lt_e, x_rd_n, x_wr_n, x_ra_n, x_dv_n, s_lt, s_le, s_eq, s_lt0, s_le0, s_0lt, s_0le, s_eq0, s_sub, s_rem, s_div, s_in, bI_0, bI_1, x_gb_b, x_gb_0, x_gb_1, nI_add, nI_1, s_size, s_abs, s_max, iI_mul, iI_add, iI_neg, Nat.le_refl, Nat.lt_irrefl, if_true, if_false, ite_true, ite_false, not_true, not_false_eq_true, md_personsIn_l4, hP.2.2.2.2.1 c hc, c1, e6, hP.2.2.2.2.2 c hc i hi, (hP.2.1 _ hcb).1]
      exact ih (i + 1) F (by omega) (by omega)
  have := e_Fge
  have k1 := key (sc c) 0 e_F (by omega) (by omega)
  rw [nI_0] at k1
  exact k1
theorem and_1 {w : Nat} (h : w ≤ 3) : nI w &&& (1 : Int32) = nI (w % 2) := by
  obtain rfl | rfl | rfl | rfl : w = 0 ∨ w = 1 ∨ w = 2 ∨ w = 3 := by omega
  all_goals decide
theorem rem_2 {w : Nat} (h : w ≤ 3) : x_rem (nI w) (2 : Int32) = nI (w % 2) := by
  obtain rfl | rfl | rfl | rfl : w = 0 ∨ w = 1 ∨ w = 2 ∨ w = 3 := by omega
  all_goals decide
theorem alone_ok {p : Nat} (hP : cP M np pe we wi wh se pa l ln sc cb) (hnp : np ≤ 200) (hp : p < np) (hwi : wi p ≤ 3) : pa_wantsAlone (nI p) M = some (bB (wi p % 2 == 1)) := by
  simp (disch := omega) only [x_bd_s, x_bi_s, x_lt_e, x_rd_n, x_wr_n, x_ra_n, x_dv_n, s_lt, s_le, s_eq, s_lt0, s_le0, s_0lt, s_0le, s_eq0, s_sub, s_rem, s_div, s_in, bI_0, bI_1, x_gb_b, x_gb_0, x_gb_1, nI_add, nI_1, s_size, s_abs, s_max, iI_mul, iI_add, iI_neg, Nat.le_refl, Nat.lt_irrefl, if_true, if_false, ite_true, ite_false, not_true, not_false_eq_true, pa_wantsAlone, ro_at_ok cap_200.2.2.1 hP.1.2.2.1 hnp (show 200 ≤ 1000 by omega) hp, (hP.2.1 _ hp).2.2.1, and_1 hwi]
  rcases Nat.mod_two_eq_zero_or_one (wi p) with e | e
  · rw [e]
    rfl
  · rw [e]
    rfl
theorem isAlone_ok {c : Nat} (hP : cP M np pe we wi wh se pa l ln sc cb) (hw : wP n ld np pe we wi wh se l ln sc cb) (hc : c < 30) : ri_isAlone (nI c) M = some (bB (anyN (fun i => wi (cb c i) % 2 == 1) (sc c))) := by
  have h6 := wP_sc hw hc
  have key : ∀ (d i F : Nat), i + d = sc c → d < F → anyN (fun i => wi (cb c i) % 2 == 1) i = false → ri_isAlone_l8 (27 + 2 * c) 6 M F (nI i) = some (bB (anyN (fun i => wi (cb c i) % 2 == 1) (sc c))) := by
    intro d
    induction d with
    | zero =>
      intro i F h1 h2 h3
      obtain ⟨F, rfl⟩ : ∃ F', F = F' + 1 := ⟨F - 1, by omega⟩
      have c1 : sc c ≤ i := by omega
      have e : i = sc c := by omega
      rw [e] at h3
      simp (disch := omega) only [x_bd_s, x_bi_s, x_lt_e, x_rd_n, x_wr_n, x_ra_n, x_dv_n, s_lt, s_le, s_eq, s_lt0, s_le0, s_0lt, s_0le, s_eq0, s_sub, s_rem, s_div, s_in, bI_0, bI_1, x_gb_b, x_gb_0, x_gb_1, nI_add, nI_1, s_size, s_abs, s_max, iI_mul, iI_add, iI_neg, Nat.le_refl, Nat.lt_irrefl, if_true, if_false, ite_true, ite_false, not_true, not_false_eq_true, ri_isAlone_l8, ro_count_ok (cap_cab c hc), hP.2.2.2.2.1 c hc, c1, h3]
      rfl
    | succ d ih =>
      intro i F h1 h2 h3
      obtain ⟨F, rfl⟩ : ∃ F', F = F' + 1 := ⟨F - 1, by omega⟩
      have c1 : ¬ sc c ≤ i := by omega
      have hi : i < sc c := by omega
      have hcb := (hw.2.2.2.2.2.1 c hc i hi).1
      have a1 := alone_ok hP hw.1 hcb (hw.2.2.1 _ hcb).2.2.2.2.1
      have a2 := ro_at_ok (cap_cab c hc) (hP.2.2.2.2.1 c hc) h6 (show 6 ≤ 1000 by omega) hi
      rw [hP.2.2.2.2.2 c hc i hi] at a2
      cases hb : (wi (cb c i) % 2 == 1) with
      | false =>
        rw [hb] at a1
        have e0 : (bB false = 0) = True := by simp [bB]
        simp (disch := omega) only [x_bd_s, x_bi_s, x_lt_e, x_rd_n, x_wr_n, x_ra_n, x_dv_n, s_lt, s_le, s_eq, s_lt0, s_le0, s_0lt, s_0le, s_eq0, s_sub, s_rem, s_div, s_in, bI_0, bI_1, x_gb_b, x_gb_0, x_gb_1, nI_add, nI_1, s_size, s_abs, s_max, iI_mul, iI_add, iI_neg, Nat.le_refl, Nat.lt_irrefl, if_true, if_false, ite_true, ite_false, not_true, not_false_eq_true, ri_isAlone_l8, ro_count_ok (cap_cab c hc), hP.2.2.2.2.1 c hc, c1, a2, a1, e0]
        exact ih (i + 1) F (by omega) (by omega) (by simp only [anyN, h3, hb, Bool.or_self])
      | true =>
        rw [hb] at a1
        have e0 : (bB true = 0) = False := by simp [bB]
        simp (disch := omega) only [x_bd_s, x_bi_s, x_lt_e, x_rd_n, x_wr_n, x_ra_n, x_dv_n, s_lt, s_le, s_eq, s_lt0, s_le0, s_0lt, s_0le, s_eq0, s_sub, s_rem, s_div, s_in, bI_0, bI_1, x_gb_b, x_gb_0, x_gb_1, nI_add, nI_1, s_size, s_abs, s_max, iI_mul, iI_add, iI_neg, Nat.le_refl, Nat.lt_irrefl, if_true, if_false, ite_true, ite_false, not_true, not_false_eq_true, ri_isAlone_l8, ro_count_ok (cap_cab c hc), hP.2.2.2.2.1 c hc, c1, a2, a1, e0]
        rw [anyN_t (f := fun i => wi (cb c i) % 2 == 1) hi hb]
        rfl
  have := e_Fge
  have k1 := key (sc c) 0 e_F (by omega) (by omega) rfl
  rw [nI_0] at k1
  simp (disch := omega) only [x_bd_s, x_bi_s, x_lt_e, x_rd_n, x_wr_n, x_ra_n, x_dv_n, s_lt, s_le, s_eq, s_lt0, s_le0, s_0lt, s_0le, s_eq0, s_sub, s_rem, s_div, s_in, bI_0, bI_1, x_gb_b, x_gb_0, x_gb_1, nI_add, nI_1, s_size, s_abs, s_max, iI_mul, iI_add, iI_neg, Nat.le_refl, Nat.lt_irrefl, if_true, if_false, ite_true, ite_false, not_true, not_false_eq_true, ri_isAlone, insideOf_ok hc, cap_cab c hc]
  exact k1
theorem md_isAlone_ok {c : Nat} (hP : mP M np pe we wi wh se pa l ln sc cb) (hw : wP n ld np pe we wi wh se l ln sc cb) (hc : c < 30) : md_isAlone (nI c) M = some (bB (anyN (fun i => wi (cb c i) % 2 == 1) (sc c))) := by
  have h6 := wP_sc hw hc
  have hnp := hw.1
  have b01 : ∀ b : Bool, bB b = 0 ∨ bB b = 1 := fun b => by cases b <;> simp [bB]
  have key : ∀ (d i F : Nat), i + d = sc c → d < F → md_isAlone_l4 (nI c) M F (bB (anyN (fun i => wi (cb c i) % 2 == 1) i)) (nI i) = some (bB (anyN (fun i => wi (cb c i) % 2 == 1) (sc c))) := by
    intro d
    induction d with
    | zero =>
      intro i F h1 h2
      obtain ⟨F, rfl⟩ : ∃ F', F = F' + 1 := ⟨F - 1, by omega⟩
      have c1 : sc c ≤ i := by omega
      have e : i = sc c := by omega
      simp (disch := omega) only [x_bd_s, x_bi_s, x_lt_e, x_rd_n, x_wr_n, x_ra_n, x_dv_n, s_lt, s_le, s_eq, s_lt0, s_le0, s_0lt, s_0le, s_eq0, s_sub, s_rem, s_div, s_in, bI_0, bI_1, x_gb_b, x_gb_0, x_gb_1, nI_add, nI_1, s_size, s_abs, s_max, iI_mul, iI_add, iI_neg, Nat.le_refl, Nat.lt_irrefl, if_true, if_false, ite_true, ite_false, not_true, not_false_eq_true, md_isAlone_l4, hP.2.2.2.2.1 c hc, c1, e]
      exact x_gb_of (b01 _) _
    | succ d ih =>
      intro i F h1 h2
      obtain ⟨F, rfl⟩ : ∃ F', F = F' + 1 := ⟨F - 1, by omega⟩
      have c1 : ¬ sc c ≤ i := by omega
      have hi : i < sc c := by omega
      have e6 : (6 : Int32) * nI c = nI (6 * c) := by rw [show (6 : Int32) = nI 6 from rfl, pk_mul]
      have hcb := (hw.2.2.2.2.2.1 c hc i hi).1
      have hwi := (hw.2.2.1 _ hcb).2.2.2.2.1
      have i1 := ih (i + 1) F (by omega) (by omega)
      simp only [anyN] at i1
      cases ha : anyN (fun i => wi (cb c i) % 2 == 1) i with
      | true =>
        rw [ha, Bool.true_or] at i1
        have e0 : (bB true = 0) = False := by simp [bB]
        simp (disch := omega) only [x_bd_s, x_bi_s, x_lt_e, x_rd_n, x_wr_n, x_ra_n, x_dv_n, s_lt, s_le, s_eq, s_lt0, s_le0, s_0lt, s_0le, s_eq0, s_sub, s_rem, s_div, s_in, bI_0, bI_1, x_gb_b, x_gb_0, x_gb_1, nI_add, nI_1, s_size, s_abs, s_max, iI_mul, iI_add, iI_neg, Nat.le_refl, Nat.lt_irrefl, if_true, if_false, ite_true, ite_false, not_true, not_false_eq_true, md_isAlone_l4, hP.2.2.2.2.1 c hc, c1, e0]
        exact i1
      | false =>
        rw [ha, Bool.false_or] at i1
        have e0 : (bB false = 0) = True := by simp [bB]
        simp (disch := omega) only [x_bd_s, x_bi_s, x_lt_e, x_rd_n, x_wr_n, x_ra_n, x_dv_n, s_lt, s_le, s_eq, s_lt0, s_le0, s_0lt, s_0le, s_eq0, s_sub, s_rem, s_div, s_in, bI_0, bI_1, x_gb_b, x_gb_0, x_gb_1, nI_add, nI_1, s_size, s_abs, s_max, iI_mul, iI_add, iI_neg, Nat.le_refl, Nat.lt_irrefl, if_true, if_false, ite_true, ite_false, not_true, not_false_eq_true, md_isAlone_l4, hP.2.2.2.2.1 c hc, c1, e0, e6, hP.2.2.2.2.2 c hc i hi, (hP.2.1 _ hcb).2.2.1, rem_2 hwi]
        rcases Nat.mod_two_eq_zero_or_one (wi (cb c i)) with e | e
        · rw [e] at i1 ⊢
          exact i1
        · rw [e] at i1 ⊢
          exact i1
  have := e_Fge
  have k1 := key (sc c) 0 e_F (by omega) (by omega)
  rw [nI_0] at k1
  exact k1
end
