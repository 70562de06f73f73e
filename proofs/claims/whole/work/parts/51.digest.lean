/-! digest -/
def mx1 (h : Int64) (x : Int32) : Int64 := (31 : Int32).toInt64 * h + x.toInt64
theorem mx1_e (h : Int64) (x : Int32) : (31 : Int32).toInt64 * h + x.toInt64 = mx1 h x := Eq.trans rfl rfl
section
variable {M : e_Me}
theorem ew_mix_e (h : Int64) (x : Int32) : ew_mix h x.toInt64 M = some (mx1 h x) := by
  unfold ew_mix mx1
  rfl
theorem mxL_s (f : Nat → Int32) (d i : Nat) (h : Int64) : mxL f (d + 1) i h = mxL f d (i + 1) (mx1 h (f i)) := Eq.trans rfl rfl
/-- PARTIES, each by six numbers -/
def paX (f : Nat → Nat → Int32) : Nat → Nat → Int64 → Int64
  | 0, _, h => h
  | d + 1, p, h => paX f d (p + 1) (mxL (f p) 6 0 h)
def caX (sc : Nat → Nat) (cb : Nat → Nat → Nat) : Nat → Nat → Int64 → Int64
  | 0, _, h => h
  | d + 1, c, h => caX sc cb d (c + 1) (mxL (fun i => nI (cb c i)) (sc c) 0 h)
def noX (f g : Nat → Int32) : Nat → Nat → Int64 → Int64
  | 0, _, h => h
  | d + 1, i, h => noX f g d (i + 1) (mx1 (mx1 h (f i)) (g i))
def reX (f g m : Nat → Int32) : Nat → Nat → Int64 → Int64
  | 0, _, h => h
  | d + 1, i, h => reX f g m d (i + 1) (mx1 (mx1 (mx1 h (f i)) (g i)) (m i))
def tlF (M : e_Me) (p i : Nat) : Int32 := (md_partyOf (nI p) (nI i) M).getD 0
theorem ru_mix_ok (h : Int64) : ru_mixInto h M = some (mx1 (mx1 (mx1 (mx1 h (M 2 0)) (M 2 1)) (M 2 2)) (M 2 3)) := by
  have key : ∀ (d i F : Nat) (h : Int64), i + d = 4 → d < F → ru_mixInto_l2 M F h (nI i) = some (mxL (M 2) d i h) := by
    intro d
    induction d with
    | zero =>
      intro i F h e1 e2
      obtain ⟨F, rfl⟩ : ∃ F', F = F' + 1 := ⟨F - 1, by omega⟩
      have e : i = 4 := by omega
      subst e
      simp (disch := omega) only [x_bd_s, x_bi_s, x_lt_e, x_rd_n, x_wr_n, x_ra_n, x_dv_n, s_lt, s_le, s_eq, s_lt0, s_le0, s_0lt, s_0le, s_eq0, s_sub, s_rem, s_div, s_in, bI_0, bI_1, x_gb_b, x_gb_0, x_gb_1, nI_add, nI_1, s_size, s_abs, s_max, iI_mul, iI_add, iI_neg, Nat.le_refl, Nat.lt_irrefl, if_true, if_false, ite_true, ite_false, not_true, not_false_eq_true, ru_mixInto_l2, show (3 : Int32) = nI 3 from rfl, show 3 < 4 by omega]
      rfl
    | succ d ih =>
      intro i F h e1 e2
      obtain ⟨F, rfl⟩ : ∃ F', F = F' + 1 := ⟨F - 1, by omega⟩
      have c1 : ¬ 3 < i := by omega
      simp (disch := omega) only [x_bd_s, x_bi_s, x_lt_e, x_rd_n, x_wr_n, x_ra_n, x_dv_n, s_lt, s_le, s_eq, s_lt0, s_le0, s_0lt, s_0le, s_eq0, s_sub, s_rem, s_div, s_in, bI_0, bI_1, x_gb_b, x_gb_0, x_gb_1, nI_add, nI_1, s_size, s_abs, s_max, iI_mul, iI_add, iI_neg, Nat.le_refl, Nat.lt_irrefl, if_true, if_false, ite_true, ite_false, not_true, not_false_eq_true, ru_mixInto_l2, show (3 : Int32) = nI 3 from rfl, c1, ew_mix_e, mxL_s]
      exact ih (i + 1) F _ (by omega) (by omega)
  have := e_Fge
  have k := key 4 0 e_F h (by omega) (by omega)
  rw [nI_0] at k
  exact k
section
variable {np : Nat} {pe we wi wh se : Nat → Nat} {pa : Nat → Int32} {l : Nat} {ln sc : Nat → Nat} {cb : Nat → Nat → Nat} {n : Nat} {ld : Nat → Nat}
theorem tl_ok (hP : cP M np pe we wi wh se pa l ln sc cb) (hQ : mP M np pe we wi wh se pa l ln sc cb) (hw : wP n ld np pe we wi wh se l ln sc cb) {p : Nat} (hp : p < np) (i : Nat) : pa_tell (nI p) (nI i) M = some (tlF M p i) ∧ md_partyOf (nI p) (nI i) M = some (tlF M p i) := by
  obtain ⟨r, e1, e2⟩ := tell_ok hP hQ hw.1 (fun p hp => (hw.2.2.1 p hp).2.2.2.2.2.1) hp (nI i)
  have e : tlF M p i = r := by
    unfold tlF
    rw [e2]
    rfl
  rw [e]
  exact ⟨e1, e2⟩
theorem pa_mix_ok (hP : cP M np pe we wi wh se pa l ln sc cb) (hQ : mP M np pe we wi wh se pa l ln sc cb) (hw : wP n ld np pe we wi wh se l ln sc cb) (h : Int64) : pa_mixInto h M = some (paX (tlF M) np 0 h) := by
  have hnp := hw.1
  have in6 : ∀ (k2 : Int64 → Int32 → Option Int64) (p : Nat), p < np → ∀ (d i F : Nat) (h : Int64), i + d = 6 → d < F → pa_mixInto_l13 k2 (nI p) M F h (nI i) = k2 (mxL (tlF M p) d i h) (nI (p + 1)) := by
    intro k2 p hp d
    induction d with
    | zero =>
      intro i F h e1 e2
      obtain ⟨F, rfl⟩ : ∃ F', F = F' + 1 := ⟨F - 1, by omega⟩
      have e : i = 6 := by omega
      subst e
      simp (disch := omega) only [x_bd_s, x_bi_s, x_lt_e, x_rd_n, x_wr_n, x_ra_n, x_dv_n, s_lt, s_le, s_eq, s_lt0, s_le0, s_0lt, s_0le, s_eq0, s_sub, s_rem, s_div, s_in, bI_0, bI_1, x_gb_b, x_gb_0, x_gb_1, nI_add, nI_1, s_size, s_abs, s_max, iI_mul, iI_add, iI_neg, Nat.le_refl, Nat.lt_irrefl, if_true, if_false, ite_true, ite_false, not_true, not_false_eq_true, pa_mixInto_l13, show ((5 : Int32) < nI 6) = True by decide]
      rfl
    | succ d ih =>
      intro i F h e1 e2
      obtain ⟨F, rfl⟩ : ∃ F', F = F' + 1 := ⟨F - 1, by omega⟩
      have c1 : ¬ 5 < i := by omega
      simp (disch := omega) only [x_bd_s, x_bi_s, x_lt_e, x_rd_n, x_wr_n, x_ra_n, x_dv_n, s_lt, s_le, s_eq, s_lt0, s_le0, s_0lt, s_0le, s_eq0, s_sub, s_rem, s_div, s_in, bI_0, bI_1, x_gb_b, x_gb_0, x_gb_1, nI_add, nI_1, s_size, s_abs, s_max, iI_mul, iI_add, iI_neg, Nat.le_refl, Nat.lt_irrefl, if_true, if_false, ite_true, ite_false, not_true, not_false_eq_true, pa_mixInto_l13, show (5 : Int32) = nI 5 from rfl, c1, (tl_ok hP hQ hw hp i).1, ew_mix_e, mxL_s]
      exact ih (i + 1) F _ (by omega) (by omega)
  have key : ∀ (d p F : Nat) (h : Int64), p + d = np → d < F → pa_mixInto_l2 M F h (nI p) = some (paX (tlF M) d p h) := by
    intro d
    induction d with
    | zero =>
      intro p F h e1 e2
      obtain ⟨F, rfl⟩ : ∃ F', F = F' + 1 := ⟨F - 1, by omega⟩
      have c1 : np ≤ p := by omega
      simp (disch := omega) only [x_bd_s, x_bi_s, x_lt_e, x_rd_n, x_wr_n, x_ra_n, x_dv_n, s_lt, s_le, s_eq, s_lt0, s_le0, s_0lt, s_0le, s_eq0, s_sub, s_rem, s_div, s_in, bI_0, bI_1, x_gb_b, x_gb_0, x_gb_1, nI_add, nI_1, s_size, s_abs, s_max, iI_mul, iI_add, iI_neg, Nat.le_refl, Nat.lt_irrefl, if_true, if_false, ite_true, ite_false, not_true, not_false_eq_true, pa_mixInto_l2, pa_count, ro_count_ok cap_200.1, hP.1.1, c1]
      rfl
    | succ d ih =>
      intro p F h e1 e2
      obtain ⟨F, rfl⟩ : ∃ F', F = F' + 1 := ⟨F - 1, by omega⟩
      have c1 : ¬ np ≤ p := by omega
      have q := in6 (pa_mixInto_l2 M F) p (by omega) 6 0 e_F h (by omega) (by have := e_Fge; omega)
      rw [nI_0] at q
      simp (disch := omega) only [pa_mixInto_l2, pa_count, ro_count_ok cap_200.1, hP.1.1, x_bd_s, s_le, c1, if_false, q]
      exact ih (p + 1) F _ (by omega) (by omega)
  have := e_Fge
  have k := key np 0 e_F h (by omega) (by omega)
  rw [nI_0] at k
  exact k
theorem md_pa_ok (hP : cP M np pe we wi wh se pa l ln sc cb) (hQ : mP M np pe we wi wh se pa l ln sc cb) (hw : wP n ld np pe we wi wh se l ln sc cb) (h : Int64) : md_digest_l134 M e_F h 0 = md_digest_l181 M e_F (paX (tlF M) np 0 h) 0 := by
  have hnp := hw.1
  have in6 : ∀ (k2 : Int64 → Int32 → Option Int64) (p : Nat), p < np → ∀ (d i F : Nat) (h : Int64), i + d = 6 → d < F → md_digest_l145 k2 (nI p) M F h (nI i) = k2 (mxL (tlF M p) d i h) (nI (p + 1)) := by
    intro k2 p hp d
    induction d with
    | zero =>
      intro i F h e1 e2
      obtain ⟨F, rfl⟩ : ∃ F', F = F' + 1 := ⟨F - 1, by omega⟩
      have e : i = 6 := by omega
      subst e
      simp (disch := omega) only [x_bd_s, x_bi_s, x_lt_e, x_rd_n, x_wr_n, x_ra_n, x_dv_n, s_lt, s_le, s_eq, s_lt0, s_le0, s_0lt, s_0le, s_eq0, s_sub, s_rem, s_div, s_in, bI_0, bI_1, x_gb_b, x_gb_0, x_gb_1, nI_add, nI_1, s_size, s_abs, s_max, iI_mul, iI_add, iI_neg, Nat.le_refl, Nat.lt_irrefl, if_true, if_false, ite_true, ite_false, not_true, not_false_eq_true, md_digest_l145, show ((6 : Int32) ≤ nI 6) = True by decide]
      rfl
    | succ d ih =>
      intro i F h e1 e2
      obtain ⟨F, rfl⟩ : ∃ F', F = F' + 1 := ⟨F - 1, by omega⟩
      have c1 : ¬ 6 ≤ i := by omega
      simp (disch := omega) only [x_bd_s, x_bi_s, x_lt_e, x_rd_n, x_wr_n, x_ra_n, x_dv_n, s_lt, s_le, s_eq, s_lt0, s_le0, s_0lt, s_0le, s_eq0, s_sub, s_rem, s_div, s_in, bI_0, bI_1, x_gb_b, x_gb_0, x_gb_1, nI_add, nI_1, s_size, s_abs, s_max, iI_mul, iI_add, iI_neg, Nat.le_refl, Nat.lt_irrefl, if_true, if_false, ite_true, ite_false, not_true, not_false_eq_true, md_digest_l145, show (6 : Int32) = nI 6 from rfl, c1, (tl_ok hP hQ hw hp i).2, mx1_e, mxL_s]
      exact ih (i + 1) F _ (by omega) (by omega)
  have key : ∀ (d p F : Nat) (h : Int64), p + d = np → d < F → md_digest_l134 M F h (nI p) = md_digest_l181 M e_F (paX (tlF M) d p h) 0 := by
    intro d
    induction d with
    | zero =>
      intro p F h e1 e2
      obtain ⟨F, rfl⟩ : ∃ F', F = F' + 1 := ⟨F - 1, by omega⟩
      have c1 : np ≤ p := by omega
      simp (disch := omega) only [x_bd_s, x_bi_s, x_lt_e, x_rd_n, x_wr_n, x_ra_n, x_dv_n, s_lt, s_le, s_eq, s_lt0, s_le0, s_0lt, s_0le, s_eq0, s_sub, s_rem, s_div, s_in, bI_0, bI_1, x_gb_b, x_gb_0, x_gb_1, nI_add, nI_1, s_size, s_abs, s_max, iI_mul, iI_add, iI_neg, Nat.le_refl, Nat.lt_irrefl, if_true, if_false, ite_true, ite_false, not_true, not_false_eq_true, md_digest_l134, hQ.1, c1]
      rfl
    | succ d ih =>
      intro p F h e1 e2
      obtain ⟨F, rfl⟩ : ∃ F', F = F' + 1 := ⟨F - 1, by omega⟩
      have c1 : ¬ np ≤ p := by omega
      have q := in6 (md_digest_l134 M F) p (by omega) 6 0 e_F h (by omega) (by have := e_Fge; omega)
      rw [nI_0] at q
      simp (disch := omega) only [md_digest_l134, hQ.1, s_le, c1, if_false, q]
      exact ih (p + 1) F _ (by omega) (by omega)
  have := e_Fge
  have k := key np 0 e_F h (by omega) (by omega)
  rw [nI_0] at k
  exact k
theorem ri_mix_ok (hP : cP M np pe we wi wh se pa l ln sc cb) (hQ : mP M np pe we wi wh se pa l ln sc cb) (hw : wP n ld np pe we wi wh se l ln sc cb) (hn : n ≤ 30) (h3 : M 3 3 = nI n) (h : Int64) : ri_mixInto h M = some (caX sc cb n 0 (mxL (fun k => nI (ln k)) l 0 (paX (tlF M) np 0 h))) := by
  have hl := hw.2.1
  have key : ∀ (d c F : Nat) (h : Int64), c + d = n → d < F → ri_mixInto_l20 M F h (nI c) = some (caX sc cb d c h) := by
    intro d
    induction d with
    | zero =>
      intro c F h e1 e2
      obtain ⟨F, rfl⟩ : ∃ F', F = F' + 1 := ⟨F - 1, by omega⟩
      have c1 : n ≤ c := by omega
      simp (disch := omega) only [x_bd_s, x_bi_s, x_lt_e, x_rd_n, x_wr_n, x_ra_n, x_dv_n, s_lt, s_le, s_eq, s_lt0, s_le0, s_0lt, s_0le, s_eq0, s_sub, s_rem, s_div, s_in, bI_0, bI_1, x_gb_b, x_gb_0, x_gb_1, nI_add, nI_1, s_size, s_abs, s_max, iI_mul, iI_add, iI_neg, Nat.le_refl, Nat.lt_irrefl, if_true, if_false, ite_true, ite_false, not_true, not_false_eq_true, ri_mixInto_l20, wh_count, h3, c1]
      rfl
    | succ d ih =>
      intro c F h e1 e2
      obtain ⟨F, rfl⟩ : ∃ F', F = F' + 1 := ⟨F - 1, by omega⟩
      have c1 : ¬ n ≤ c := by omega
      have hc : c < 30 := by omega
      have h6 := wP_sc hw hc
      have q := ro_mixInto_ok (M := M) (h := h) (cap_cab c hc) (hP.2.2.2.2.1 c hc) h6 (by omega)
      rw [mxL_cong (g := fun i => nI (cb c i)) (sc c) 0 h (fun j _ hj => hP.2.2.2.2.2 c hc j (by omega))] at q
      simp (disch := omega) only [x_bd_s, x_bi_s, x_lt_e, x_rd_n, x_wr_n, x_ra_n, x_dv_n, s_lt, s_le, s_eq, s_lt0, s_le0, s_0lt, s_0le, s_eq0, s_sub, s_rem, s_div, s_in, bI_0, bI_1, x_gb_b, x_gb_0, x_gb_1, nI_add, nI_1, s_size, s_abs, s_max, iI_mul, iI_add, iI_neg, Nat.le_refl, Nat.lt_irrefl, if_true, if_false, ite_true, ite_false, not_true, not_false_eq_true, ri_mixInto_l20, wh_count, h3, c1, insideOf_ok hc, cap_cab c hc, q]
      exact ih (c + 1) F _ (by omega) (by omega)
  have := e_Fge
  have q := ro_mixInto_ok (M := M) (h := paX (tlF M) np 0 h) cap_22 hP.2.2.1 hl (by omega)
  rw [mxL_cong (g := fun k => nI (ln k)) l 0 _ (fun j _ hj => hP.2.2.2.1 j (by omega))] at q
  have k := key n 0 e_F (mxL (fun k => nI (ln k)) l 0 (paX (tlF M) np 0 h)) (by omega) (by omega)
  rw [nI_0] at k
  simp only [ri_mixInto, pa_mix_ok hP hQ hw, x_bd_s, x_lt_e, q, k]
theorem md_ri_ok (hQ : mP M np pe we wi wh se pa l ln sc cb) (hw : wP n ld np pe we wi wh se l ln sc cb) (hn : n ≤ 30) (h3 : M 182 0 = nI n) (h : Int64) : md_digest_l181 M e_F h 0 = md_digest_l267 M e_F (caX sc cb n 0 (mxL (fun k => nI (ln k)) l 0 h)) 0 := by
  have hl := hw.2.1
  have hnp := hw.1
  have k1 : ∀ (d k F : Nat) (h : Int64), k + d = l → d < F → md_digest_l181 M F h (nI k) = md_digest_l211 M e_F (mxL (fun k => nI (ln k)) d k h) 0 := by
    intro d
    induction d with
    | zero =>
      intro k F h e1 e2
      obtain ⟨F, rfl⟩ : ∃ F', F = F' + 1 := ⟨F - 1, by omega⟩
      have c1 : l ≤ k := by omega
      simp (disch := omega) only [x_bd_s, x_bi_s, x_lt_e, x_rd_n, x_wr_n, x_ra_n, x_dv_n, s_lt, s_le, s_eq, s_lt0, s_le0, s_0lt, s_0le, s_eq0, s_sub, s_rem, s_div, s_in, bI_0, bI_1, x_gb_b, x_gb_0, x_gb_1, nI_add, nI_1, s_size, s_abs, s_max, iI_mul, iI_add, iI_neg, Nat.le_refl, Nat.lt_irrefl, if_true, if_false, ite_true, ite_false, not_true, not_false_eq_true, md_digest_l181, hQ.2.2.1, c1]
      rfl
    | succ d ih =>
      intro k F h e1 e2
      obtain ⟨F, rfl⟩ : ∃ F', F = F' + 1 := ⟨F - 1, by omega⟩
      have c1 : ¬ l ≤ k := by omega
      simp (disch := omega) only [x_bd_s, x_bi_s, x_lt_e, x_rd_n, x_wr_n, x_ra_n, x_dv_n, s_lt, s_le, s_eq, s_lt0, s_le0, s_0lt, s_0le, s_eq0, s_sub, s_rem, s_div, s_in, bI_0, bI_1, x_gb_b, x_gb_0, x_gb_1, nI_add, nI_1, s_size, s_abs, s_max, iI_mul, iI_add, iI_neg, Nat.le_refl, Nat.lt_irrefl, if_true, if_false, ite_true, ite_false, not_true, not_false_eq_true, md_digest_l181, hQ.2.2.1, c1, hQ.2.2.2.1 k (by omega), mx1_e, mxL_s]
      exact ih (k + 1) F _ (by omega) (by omega)
  have k2 : ∀ (g : Int64 → Int32 → Option Int64) (c : Nat), c < 30 → ∀ (d i F : Nat) (h : Int64), i + d = sc c → d < F → md_digest_l222 g (nI c) M F h (nI i) = g (mxL (fun i => nI (cb c i)) d i h) (nI (c + 1)) := by
    intro g c hc d
    have h6 := wP_sc hw hc
    have e6 : (6 : Int32) * nI c = nI (6 * c) := by rw [show (6 : Int32) = nI 6 from rfl, pk_mul]
    induction d with
    | zero =>
      intro i F h e1 e2
      obtain ⟨F, rfl⟩ : ∃ F', F = F' + 1 := ⟨F - 1, by omega⟩
      have c1 : sc c ≤ i := by omega
      simp (disch := omega) only [x_bd_s, x_bi_s, x_lt_e, x_rd_n, x_wr_n, x_ra_n, x_dv_n, s_lt, s_le, s_eq, s_lt0, s_le0, s_0lt, s_0le, s_eq0, s_sub, s_rem, s_div, s_in, bI_0, bI_1, x_gb_b, x_gb_0, x_gb_1, nI_add, nI_1, s_size, s_abs, s_max, iI_mul, iI_add, iI_neg, Nat.le_refl, Nat.lt_irrefl, if_true, if_false, ite_true, ite_false, not_true, not_false_eq_true, md_digest_l222, hQ.2.2.2.2.1 c hc, c1]
      rfl
    | succ d ih =>
      intro i F h e1 e2
      obtain ⟨F, rfl⟩ : ∃ F', F = F' + 1 := ⟨F - 1, by omega⟩
      have c1 : ¬ sc c ≤ i := by omega
      have ih2 := ih (i + 1) F (mx1 h (nI (cb c i))) (by omega) (by omega)
      simp (disch := omega) only [md_digest_l222, x_rd_n, hQ.2.2.2.2.1 c hc, s_le, c1, if_false, e6, nI_add, hQ.2.2.2.2.2 c hc i (show i < sc c by omega), x_lt_e, mx1_e, mxL_s]
      simp (disch := omega) only [x_bd_s, x_bi_s, x_lt_e, x_rd_n, x_wr_n, x_ra_n, x_dv_n, s_lt, s_le, s_eq, s_lt0, s_le0, s_0lt, s_0le, s_eq0, s_sub, s_rem, s_div, s_in, bI_0, bI_1, x_gb_b, x_gb_0, x_gb_1, nI_add, nI_1, s_size, s_abs, s_max, iI_mul, iI_add, iI_neg, Nat.le_refl, Nat.lt_irrefl, if_true, if_false, ite_true, ite_false, not_true, not_false_eq_true, ]
      exact ih2
  have k3 : ∀ (d c F : Nat) (h : Int64), c + d = n → d < F → md_digest_l211 M F h (nI c) = md_digest_l267 M e_F (caX sc cb d c h) 0 := by
    intro d
    induction d with
    | zero =>
      intro c F h e1 e2
      obtain ⟨F, rfl⟩ : ∃ F', F = F' + 1 := ⟨F - 1, by omega⟩
      have c1 : n ≤ c := by omega
      simp (disch := omega) only [x_bd_s, x_bi_s, x_lt_e, x_rd_n, x_wr_n, x_ra_n, x_dv_n, s_lt, s_le, s_eq, s_lt0, s_le0, s_0lt, s_0le, s_eq0, s_sub, s_rem, s_div, s_in, bI_0, bI_1, x_gb_b, x_gb_0, x_gb_1, nI_add, nI_1, s_size, s_abs, s_max, iI_mul, iI_add, iI_neg, Nat.le_refl, Nat.lt_irrefl, if_true, if_false, ite_true, ite_false, not_true, not_false_eq_true, md_digest_l211, h3, c1]
      rfl
    | succ d ih =>
      intro c F h e1 e2
      obtain ⟨F, rfl⟩ : ∃ F', F = F' + 1 := ⟨F - 1, by omega⟩
      have c1 : ¬ n ≤ c := by omega
      have h6 := wP_sc hw (show c < 30 by omega)
      have q := k2 (md_digest_l211 M F) c (by omega) (sc c) 0 e_F h (by omega) (by have := e_Fge; omega)
      rw [nI_0] at q
      simp (disch := omega) only [md_digest_l211, h3, s_le, c1, if_false, q]
      exact ih (c + 1) F _ (by omega) (by omega)
  have := e_Fge
  have q1 := k1 l 0 e_F h (by omega) (by omega)
  have q2 := k3 n 0 e_F (mxL (fun k => nI (ln k)) l 0 h) (by omega) (by omega)
  rw [nI_0] at q1 q2
  rw [q1, q2]
end
theorem no_mix_ok {k : Nat} {s q : Nat → Nat} (hN : bN M k s q) (h : Int64) : no_mixInto h M = some (noX (fun i => nI (s i)) (fun i => nI (q i)) k 0 h) := by
  obtain ⟨n1, n2, n3, n4, n5⟩ := hN
  have key : ∀ (d i F : Nat) (h : Int64), i + d = k → d < F → no_mixInto_l2 M F h (nI i) = some (noX (fun i => nI (s i)) (fun i => nI (q i)) d i h) := by
    intro d
    induction d with
    | zero =>
      intro i F h e1 e2
      obtain ⟨F, rfl⟩ : ∃ F', F = F' + 1 := ⟨F - 1, by omega⟩
      have c1 : k ≤ i := by omega
      simp (disch := omega) only [x_bd_s, x_bi_s, x_lt_e, x_rd_n, x_wr_n, x_ra_n, x_dv_n, s_lt, s_le, s_eq, s_lt0, s_le0, s_0lt, s_0le, s_eq0, s_sub, s_rem, s_div, s_in, bI_0, bI_1, x_gb_b, x_gb_0, x_gb_1, nI_add, nI_1, s_size, s_abs, s_max, iI_mul, iI_add, iI_neg, Nat.le_refl, Nat.lt_irrefl, if_true, if_false, ite_true, ite_false, not_true, not_false_eq_true, no_mixInto_l2, ro_count_ok cap_40.1, n2, c1]
      rfl
    | succ d ih =>
      intro i F h e1 e2
      obtain ⟨F, rfl⟩ : ∃ F', F = F' + 1 := ⟨F - 1, by omega⟩
      have c1 : ¬ k ≤ i := by omega
      have hi : i < k := by omega
      have a1 := ro_at_ok cap_40.1 n2 n1 (show 40 ≤ 1000 by omega) hi
      have a2 := ro_at_ok cap_40.2 n3 n1 (show 40 ≤ 1000 by omega) hi
      rw [show 167 + 1 = 168 from rfl, (n5 i hi).1] at a1
      rw [show 169 + 1 = 170 from rfl, (n5 i hi).2.1] at a2
      simp (disch := omega) only [x_bd_s, x_bi_s, x_lt_e, x_rd_n, x_wr_n, x_ra_n, x_dv_n, s_lt, s_le, s_eq, s_lt0, s_le0, s_0lt, s_0le, s_eq0, s_sub, s_rem, s_div, s_in, bI_0, bI_1, x_gb_b, x_gb_0, x_gb_1, nI_add, nI_1, s_size, s_abs, s_max, iI_mul, iI_add, iI_neg, Nat.le_refl, Nat.lt_irrefl, if_true, if_false, ite_true, ite_false, not_true, not_false_eq_true, no_mixInto_l2, ro_count_ok cap_40.1, n2, c1, a1, a2, ew_mix_e]
      exact ih (i + 1) F _ (by omega) (by omega)
  have := e_Fge
  have q := key k 0 e_F h (by omega) (by omega)
  rw [nI_0] at q
  exact q
theorem md_no_ok {k : Nat} {s q : Nat → Nat} (hN : bN M k s q) (h : Int64) : md_digest_l267 M e_F h 0 = md_digest_l311 M e_F (noX (fun i => nI (s i)) (fun i => nI (q i)) k 0 h) 0 := by
  obtain ⟨n1, n2, n3, n4, n5⟩ := hN
  have key : ∀ (d i F : Nat) (h : Int64), i + d = k → d < F → md_digest_l267 M F h (nI i) = md_digest_l311 M e_F (noX (fun i => nI (s i)) (fun i => nI (q i)) d i h) 0 := by
    intro d
    induction d with
    | zero =>
      intro i F h e1 e2
      obtain ⟨F, rfl⟩ : ∃ F', F = F' + 1 := ⟨F - 1, by omega⟩
      have c1 : k ≤ i := by omega
      simp (disch := omega) only [x_bd_s, x_bi_s, x_lt_e, x_rd_n, x_wr_n, x_ra_n, x_dv_n, s_lt, s_le, s_eq, s_lt0, s_le0, s_0lt, s_0le, s_eq0, s_sub, s_rem, s_div, s_in, bI_0, bI_1, x_gb_b, x_gb_0, x_gb_1, nI_add, nI_1, s_size, s_abs, s_max, iI_mul, iI_add, iI_neg, Nat.le_refl, Nat.lt_irrefl, if_true, if_false, ite_true, ite_false, not_true, not_false_eq_true, md_digest_l267, n4, c1]
      rfl
    | succ d ih =>
      intro i F h e1 e2
      obtain ⟨F, rfl⟩ : ∃ F', F = F' + 1 := ⟨F - 1, by omega⟩
      have c1 : ¬ k ≤ i := by omega
      have hi : i < k := by omega
      simp (disch := omega) only [x_bd_s, x_bi_s, x_lt_e, x_rd_n, x_wr_n, x_ra_n, x_dv_n, s_lt, s_le, s_eq, s_lt0, s_le0, s_0lt, s_0le, s_eq0, s_sub, s_rem, s_div, s_in, bI_0, bI_1, x_gb_b, x_gb_0, x_gb_1, nI_add, nI_1, s_size, s_abs, s_max, iI_mul, iI_add, iI_neg, Nat.le_refl, Nat.lt_irrefl, if_true, if_false, ite_true, ite_false, not_true, not_false_eq_true, md_digest_l267, n4, c1, (n5 i hi).2.2.1, (n5 i hi).2.2.2.1, mx1_e]
      exact ih (i + 1) F _ (by omega) (by omega)
  have := e_Fge
  have q := key k 0 e_F h (by omega) (by omega)
  rw [nI_0] at q
  exact q
theorem re_mix_ok {n k : Nat} {r : Nat → Nat} {v : Nat → Int} {m lo hi : Nat → Nat} (hn : n ≤ 30) (h3 : M 3 3 = nI n) (hH : bH M lo hi) (hR : bR M n k r v m) (h : Int64) : re_mixInto h M = some (reX (fun i => nI (r i)) (fun i => iI (v i)) (fun i => nI (m i)) k 0 (noX (fun i => nI (lo i)) (fun i => nI (hi i)) n 0 h)) := by
  obtain ⟨n1, n2, n3, n4, n5, n6⟩ := hR
  have key : ∀ (d i F : Nat) (h : Int64), i + d = k → d < F → re_mixInto_l49 M F h (nI i) = some (reX (fun i => nI (r i)) (fun i => iI (v i)) (fun i => nI (m i)) d i h) := by
    intro d
    induction d with
    | zero =>
      intro i F h e1 e2
      obtain ⟨F, rfl⟩ : ∃ F', F = F' + 1 := ⟨F - 1, by omega⟩
      have c1 : k ≤ i := by omega
      simp (disch := omega) only [x_bd_s, x_bi_s, x_lt_e, x_rd_n, x_wr_n, x_ra_n, x_dv_n, s_lt, s_le, s_eq, s_lt0, s_le0, s_0lt, s_0le, s_eq0, s_sub, s_rem, s_div, s_in, bI_0, bI_1, x_gb_b, x_gb_0, x_gb_1, nI_add, nI_1, s_size, s_abs, s_max, iI_mul, iI_add, iI_neg, Nat.le_refl, Nat.lt_irrefl, if_true, if_false, ite_true, ite_false, not_true, not_false_eq_true, re_mixInto_l49, ro_count_ok cap_12.1, n2, c1]
      rfl
    | succ d ih =>
      intro i F h e1 e2
      obtain ⟨F, rfl⟩ : ∃ F', F = F' + 1 := ⟨F - 1, by omega⟩
      have c1 : ¬ k ≤ i := by omega
      have hi : i < k := by omega
      have a1 := ro_at_ok cap_12.1 n2 n1 (show 12 ≤ 1000 by omega) hi
      have a2 := ro_at_ok cap_12.2.1 n3 n1 (show 12 ≤ 1000 by omega) hi
      have a3 := ro_at_ok cap_12.2.2 n4 n1 (show 12 ≤ 1000 by omega) hi
      rw [show 176 + 1 = 177 from rfl, (n6 i hi).1] at a1
      rw [show 178 + 1 = 179 from rfl, (n6 i hi).2.1] at a2
      rw [show 180 + 1 = 181 from rfl, (n6 i hi).2.2.1] at a3
      simp (disch := omega) only [x_bd_s, x_bi_s, x_lt_e, x_rd_n, x_wr_n, x_ra_n, x_dv_n, s_lt, s_le, s_eq, s_lt0, s_le0, s_0lt, s_0le, s_eq0, s_sub, s_rem, s_div, s_in, bI_0, bI_1, x_gb_b, x_gb_0, x_gb_1, nI_add, nI_1, s_size, s_abs, s_max, iI_mul, iI_add, iI_neg, Nat.le_refl, Nat.lt_irrefl, if_true, if_false, ite_true, ite_false, not_true, not_false_eq_true, re_mixInto_l49, ro_count_ok cap_12.1, n2, c1, a1, a2, a3, ew_mix_e]
      exact ih (i + 1) F _ (by omega) (by omega)
  have k2 : ∀ (d c F : Nat) (h : Int64), c + d = n → d < F → re_mixInto_l2 M F h (nI c) = re_mixInto_l49 M e_F (noX (fun i => nI (lo i)) (fun i => nI (hi i)) d c h) 0 := by
    intro d
    induction d with
    | zero =>
      intro c F h e1 e2
      obtain ⟨F, rfl⟩ : ∃ F', F = F' + 1 := ⟨F - 1, by omega⟩
      have c1 : n ≤ c := by omega
      simp (disch := omega) only [x_bd_s, x_bi_s, x_lt_e, x_rd_n, x_wr_n, x_ra_n, x_dv_n, s_lt, s_le, s_eq, s_lt0, s_le0, s_0lt, s_0le, s_eq0, s_sub, s_rem, s_div, s_in, bI_0, bI_1, x_gb_b, x_gb_0, x_gb_1, nI_add, nI_1, s_size, s_abs, s_max, iI_mul, iI_add, iI_neg, Nat.le_refl, Nat.lt_irrefl, if_true, if_false, ite_true, ite_false, not_true, not_false_eq_true, re_mixInto_l2, wh_count, h3, c1]
      rfl
    | succ d ih =>
      intro c F h e1 e2
      obtain ⟨F, rfl⟩ : ∃ F', F = F' + 1 := ⟨F - 1, by omega⟩
      have c1 : ¬ n ≤ c := by omega
      have c2 : ¬ 30 ≤ c := by omega
      have z := hH c (by omega)
      simp (disch := omega) only [x_bd_s, x_bi_s, x_lt_e, x_rd_n, x_wr_n, x_ra_n, x_dv_n, s_lt, s_le, s_eq, s_lt0, s_le0, s_0lt, s_0le, s_eq0, s_sub, s_rem, s_div, s_in, bI_0, bI_1, x_gb_b, x_gb_0, x_gb_1, nI_add, nI_1, s_size, s_abs, s_max, iI_mul, iI_add, iI_neg, Nat.le_refl, Nat.lt_irrefl, if_true, if_false, ite_true, ite_false, not_true, not_false_eq_true, re_mixInto_l2, wh_count, h3, c1, show (30 : Int32) = nI 30 from rfl, c2, z.1, z.2.1, ew_mix_e]
      exact ih (c + 1) F _ (by omega) (by omega)
  have := e_Fge
  have q1 := k2 n 0 e_F h (by omega) (by omega)
  have q2 := key k 0 e_F (noX (fun i => nI (lo i)) (fun i => nI (hi i)) n 0 h) (by omega) (by omega)
  rw [nI_0] at q1 q2
  rw [re_mixInto, q1, q2]
theorem md_re_ok {n k : Nat} {r : Nat → Nat} {v : Nat → Int} {m lo hi : Nat → Nat} (hn : n ≤ 30) (h3 : M 182 0 = nI n) (hH : bH M lo hi) (hR : bR M n k r v m) (h : Int64) : md_digest_l311 M e_F h 0 = some (reX (fun i => nI (r i)) (fun i => iI (v i)) (fun i => nI (m i)) k 0 (noX (fun i => nI (lo i)) (fun i => nI (hi i)) n 0 h)) := by
  obtain ⟨n1, n2, n3, n4, n5, n6⟩ := hR
  have key : ∀ (d i F : Nat) (h : Int64), i + d = k → d < F → md_digest_l355 M F h (nI i) = some (reX (fun i => nI (r i)) (fun i => iI (v i)) (fun i => nI (m i)) d i h) := by
    intro d
    induction d with
    | zero =>
      intro i F h e1 e2
      obtain ⟨F, rfl⟩ : ∃ F', F = F' + 1 := ⟨F - 1, by omega⟩
      have c1 : k ≤ i := by omega
      simp (disch := omega) only [x_bd_s, x_bi_s, x_lt_e, x_rd_n, x_wr_n, x_ra_n, x_dv_n, s_lt, s_le, s_eq, s_lt0, s_le0, s_0lt, s_0le, s_eq0, s_sub, s_rem, s_div, s_in, bI_0, bI_1, x_gb_b, x_gb_0, x_gb_1, nI_add, nI_1, s_size, s_abs, s_max, iI_mul, iI_add, iI_neg, Nat.le_refl, Nat.lt_irrefl, if_true, if_false, ite_true, ite_false, not_true, not_false_eq_true, md_digest_l355, n5, c1]
      rfl
    | succ d ih =>
      intro i F h e1 e2
      obtain ⟨F, rfl⟩ : ∃ F', F = F' + 1 := ⟨F - 1, by omega⟩
      have c1 : ¬ k ≤ i := by omega
      have hi : i < k := by omega
      obtain ⟨z1, z2, z3, z4, z5, z6, z7⟩ := n6 i hi
      simp (disch := omega) only [x_bd_s, x_bi_s, x_lt_e, x_rd_n, x_wr_n, x_ra_n, x_dv_n, s_lt, s_le, s_eq, s_lt0, s_le0, s_0lt, s_0le, s_eq0, s_sub, s_rem, s_div, s_in, bI_0, bI_1, x_gb_b, x_gb_0, x_gb_1, nI_add, nI_1, s_size, s_abs, s_max, iI_mul, iI_add, iI_neg, Nat.le_refl, Nat.lt_irrefl, if_true, if_false, ite_true, ite_false, not_true, not_false_eq_true, md_digest_l355, n5, c1, z4, z5, z6, mx1_e]
      exact ih (i + 1) F _ (by omega) (by omega)
  have k2 : ∀ (d c F : Nat) (h : Int64), c + d = n → d < F → md_digest_l311 M F h (nI c) = md_digest_l355 M e_F (noX (fun i => nI (lo i)) (fun i => nI (hi i)) d c h) 0 := by
    intro d
    induction d with
    | zero =>
      intro c F h e1 e2
      obtain ⟨F, rfl⟩ : ∃ F', F = F' + 1 := ⟨F - 1, by omega⟩
      have c1 : n ≤ c := by omega
      simp (disch := omega) only [x_bd_s, x_bi_s, x_lt_e, x_rd_n, x_wr_n, x_ra_n, x_dv_n, s_lt, s_le, s_eq, s_lt0, s_le0, s_0lt, s_0le, s_eq0, s_sub, s_rem, s_div, s_in, bI_0, bI_1, x_gb_b, x_gb_0, x_gb_1, nI_add, nI_1, s_size, s_abs, s_max, iI_mul, iI_add, iI_neg, Nat.le_refl, Nat.lt_irrefl, if_true, if_false, ite_true, ite_false, not_true, not_false_eq_true, md_digest_l311, h3, c1]
      rfl
    | succ d ih =>
      intro c F h e1 e2
      obtain ⟨F, rfl⟩ : ∃ F', F = F' + 1 := ⟨F - 1, by omega⟩
      have c1 : ¬ n ≤ c := by omega
      have z := hH c (by omega)
      simp (disch := omega) only [x_bd_s, x_bi_s, x_lt_e, x_rd_n, x_wr_n, x_ra_n, x_dv_n, s_lt, s_le, s_eq, s_lt0, s_le0, s_0lt, s_0le, s_eq0, s_sub, s_rem, s_div, s_in, bI_0, bI_1, x_gb_b, x_gb_0, x_gb_1, nI_add, nI_1, s_size, s_abs, s_max, iI_mul, iI_add, iI_neg, Nat.le_refl, Nat.lt_irrefl, if_true, if_false, ite_true, ite_false, not_true, not_false_eq_true, md_digest_l311, h3, c1, z.2.2.1, z.2.2.2.1, mx1_e]
      exact ih (c + 1) F _ (by omega) (by omega)
  have := e_Fge
  have q1 := k2 n 0 e_F h (by omega) (by omega)
  have q2 := key k 0 e_F (noX (fun i => nI (lo i)) (fun i => nI (hi i)) n 0 h) (by omega) (by omega)
  rw [nI_0] at q1 q2
  rw [q1, q2]
theorem l_digest (h : Inv M) : ∃ r, ew_digest M = some r ∧ md_digest M = some r := by
  obtain ⟨n, t, ld, ⟨hc, hn, ht, hl⟩, ⟨w, s0, d, g1, g2, g3, g4, g5, g6, g7, g8⟩, ⟨b, u, cc, p, u1, u2, u3, u4, u5, u6, u7, u8, -⟩, ⟨kn, s, q, hN⟩, ⟨k, r, v, m, hR⟩, ⟨lo, hi, hH⟩, -, np, pe, we, wi, wh, se, pa, l, ln, sc, cb, hP, hQ, hwf⟩ := h
  have hb := okn_b hc.1
  have t0 : ew_told 0 M = some (nI t) := by simp (disch := omega) only [x_bd_s, x_bi_s, x_lt_e, x_rd_n, x_wr_n, x_ra_n, x_dv_n, s_lt, s_le, s_eq, s_lt0, s_le0, s_0lt, s_0le, s_eq0, s_sub, s_rem, s_div, s_in, bI_0, bI_1, x_gb_b, x_gb_0, x_gb_1, nI_add, nI_1, s_size, s_abs, s_max, iI_mul, iI_add, iI_neg, Nat.le_refl, Nat.lt_irrefl, if_true, if_false, ite_true, ite_false, not_true, not_false_eq_true, ew_told, q_00, wh_turnNow, hc.2.2.2.1]
  have t1 : ew_told 1 M = some (nI w) := by simp (disch := omega) only [x_bd_s, x_bi_s, x_lt_e, x_rd_n, x_wr_n, x_ra_n, x_dv_n, s_lt, s_le, s_eq, s_lt0, s_le0, s_0lt, s_0le, s_eq0, s_sub, s_rem, s_div, s_in, bI_0, bI_1, x_gb_b, x_gb_0, x_gb_1, nI_add, nI_1, s_size, s_abs, s_max, iI_mul, iI_add, iI_neg, Nat.le_refl, Nat.lt_irrefl, if_true, if_false, ite_true, ite_false, not_true, not_false_eq_true, ew_told, q_10, q_11, rg_warmthNow, g1]
  have t6 : ew_told 6 M = some s0 := by simp (disch := omega) only [x_bd_s, x_bi_s, x_lt_e, x_rd_n, x_wr_n, x_ra_n, x_dv_n, s_lt, s_le, s_eq, s_lt0, s_le0, s_0lt, s_0le, s_eq0, s_sub, s_rem, s_div, s_in, bI_0, bI_1, x_gb_b, x_gb_0, x_gb_1, nI_add, nI_1, s_size, s_abs, s_max, iI_mul, iI_add, iI_neg, Nat.le_refl, Nat.lt_irrefl, if_true, if_false, ite_true, ite_false, not_true, not_false_eq_true, ew_told, q_60, q_61, q_62, q_63, q_64, q_65, q_66, rg_stepsDone, g2]
  have t7 : ew_told 7 M = some (nI np) := by simp (disch := omega) only [x_bd_s, x_bi_s, x_lt_e, x_rd_n, x_wr_n, x_ra_n, x_dv_n, s_lt, s_le, s_eq, s_lt0, s_le0, s_0lt, s_0le, s_eq0, s_sub, s_rem, s_div, s_in, bI_0, bI_1, x_gb_b, x_gb_0, x_gb_1, nI_add, nI_1, s_size, s_abs, s_max, iI_mul, iI_add, iI_neg, Nat.le_refl, Nat.lt_irrefl, if_true, if_false, ite_true, ite_false, not_true, not_false_eq_true, ew_told, q_70, q_71, q_72, q_73, q_74, q_75, q_76, q_77, ri_partiesCome, pa_count, ro_count_ok cap_200.1, hP.1.1]
  have t8 : ew_told 8 M = some (if d = 0 then 0 else 1) := by
    simp (disch := omega) only [x_bd_s, x_bi_s, x_lt_e, x_rd_n, x_wr_n, x_ra_n, x_dv_n, s_lt, s_le, s_eq, s_lt0, s_le0, s_0lt, s_0le, s_eq0, s_sub, s_rem, s_div, s_in, bI_0, bI_1, x_gb_b, x_gb_0, x_gb_1, nI_add, nI_1, s_size, s_abs, s_max, iI_mul, iI_add, iI_neg, Nat.le_refl, Nat.lt_irrefl, if_true, if_false, ite_true, ite_false, not_true, not_false_eq_true, ew_told, q_80, q_81, q_82, q_83, q_84, q_85, q_86, q_87, q_88, rg_isDriven, g3, x_gb_of g7]
    split <;> rfl
  refine ⟨_, by
    simp only [ew_digest, wh_count, hc.2.2.1, x_bd_s, ew_mix_e, x_lt_e, t0, t1, t6, t7, t8, ru_mix_ok, ri_mix_ok hP hQ hwf hb.2 hc.2.2.1, no_mix_ok hN, re_mix_ok hb.2 hc.2.2.1 hH hR, u1, u2, u3, u4]
    rfl, ?_⟩
  simp only [md_digest, x_lt_e, hn, ht, g4, g5, g6, hQ.1, md_digest_b81, mx1_e, u5, u6, u7, u8, md_pa_ok hP hQ hwf, md_ri_ok hQ hwf hb.2 hn, md_no_ok hN, md_re_ok hb.2 hn hH hR]
  split <;> rfl
end
