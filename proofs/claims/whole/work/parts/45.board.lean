/-! who MAY BOARD; told, cabin, inside, waits, party, may -/
def mbB (n : Nat) (ld : Nat → Nat) (pe we wi sc : Nat → Nat) (cb : Nat → Nat → Nat) (b d p : Nat) : Bool := decide (smN (sc d) (fun i => pe (cb d i)) + pe p ≤ 6 ∧ (sc d = 0 ∨ (anyN (fun i => wi (cb d i) % 2 == 1) (sc d) = false ∧ wi p % 2 = 0)) ∧ mxN (fun r => (lnZ n (fun c => (ld c : Int)) r + (we p : Int) * armZ n ((d + r) % n)).natAbs) n ≤ b)
section
variable {M : e_Me} {np : Nat} {pe we wi wh se : Nat → Nat} {pa : Nat → Int32} {l : Nat} {ln sc : Nat → Nat} {cb : Nat → Nat → Nat} {n t : Nat} {ld : Nat → Nat} {b h c p : Nat}
theorem we_b (hw : wP n ld np pe we wi wh se l ln sc cb) {p : Nat} (hp : p < np) : we p ≤ 900 := by
  have := hw.2.2.1 p hp
  omega
theorem mx_b {q : Nat} (hc : cW M n t ld) {w : Int} (h1 : -2000 ≤ w) (h2 : w ≤ 2000) : mxN (fun r => (lnZ n (fun d => (ld d : Int)) r + w * armZ n ((q + r) % n)).natAbs) n ≤ 6200000 := mxN_b (fun r _ => by
  have b1 := lnZ_b (r := r) hc.1 (cW_ld hc)
  have b2 := mul_b h1 h2 (armZ_b n ((q + r) % n)).1 (armZ_b n ((q + r) % n)).2
  show _ ≤ _
  omega)
theorem mayBoard_ok {q : Nat} (hc : cW M n t ld) (hu : cU M b h c p) (h7 : b ≤ 1000000) (hP : cP M np pe we wi wh se pa l ln sc cb) (hw : wP n ld np pe we wi wh se l ln sc cb) (hq : q < np) : ri_mayBoard (nI q) M = some (bB (mbB n ld pe we wi sc cb b ((0 + n - t) % n) q)) := by
  have hb := okn_b hc.1
  have hd : (0 + n - t) % n < n := Nat.mod_lt _ (by omega)
  generalize hdd : (0 + n - t) % n = d at hd
  have h6 := wP_sc hw (show d < 30 by omega)
  have hpq := hw.2.2.1 q hq
  have hnp := hw.1
  have hd6 := (hw.2.2.2.2.2.2.2.2.1 d (by omega)).2
  have door := wh_atDoor_ok hc
  rw [hdd] at door
  have e1 := personsIn_ok hP hw (show d < 30 by omega)
  have e2 : ro_at 10 (nI q) M = some (nI (pe q)) := by rw [ro_at_ok cap_200.1 hP.1.1 hnp (show 200 ≤ 1000 by omega) hq, (hP.2.1 _ hq).1]
  have e3 : ro_at 12 (nI q) M = some (nI (we q)) := by rw [ro_at_ok cap_200.2.1 hP.1.2.1 hnp (show 200 ≤ 1000 by omega) hq, (hP.2.1 _ hq).2.1]
  have hwq := we_b hw hq
  have e4 := wh_greatestWith_ok (w := (we q : Int)) hc hd (by omega) (by omega)
  rw [← nI_iI] at e4
  have hmx := mx_b (q := d) hc (w := (we q : Int)) (by omega) (by omega)
  have v0 : ru_valueOf 0 M = some (nI b) := by rw [← nI_0, ru_valueOf_ok (by omega), hu.1]
  have last : ∀ x : Bool, x = decide (mxN (fun r => (lnZ n (fun c => (ld c : Int)) r + (we q : Int) * armZ n ((d + r) % n)).natAbs) n ≤ b) → ri_mayBoard_b58 (nI q) (nI d) M = some (bB x) := by
    intro x hx
    subst hx
    by_cases g : mxN (fun r => (lnZ n (fun c => (ld c : Int)) r + (we q : Int) * armZ n ((d + r) % n)).natAbs) n ≤ b
    · have g2 : ¬ b < mxN (fun r => (lnZ n (fun c => (ld c : Int)) r + (we q : Int) * armZ n ((d + r) % n)).natAbs) n := by omega
      simp (disch := omega) only [x_bd_s, x_bi_s, x_lt_e, x_rd_n, x_wr_n, x_ra_n, x_dv_n, s_lt, s_le, s_eq, s_lt0, s_le0, s_0lt, s_0le, s_eq0, s_sub, s_rem, s_div, s_in, bI_0, bI_1, x_gb_b, x_gb_0, x_gb_1, nI_add, nI_1, s_size, s_abs, s_max, iI_mul, iI_add, iI_neg, Nat.le_refl, Nat.lt_irrefl, if_true, if_false, ite_true, ite_false, not_true, not_false_eq_true, ri_mayBoard_b58, pa_weightOf, e3, e4, v0, g2]
      rw [decide_eq_true g]
      rfl
    · have g2 : b < mxN (fun r => (lnZ n (fun c => (ld c : Int)) r + (we q : Int) * armZ n ((d + r) % n)).natAbs) n := by omega
      simp (disch := omega) only [x_bd_s, x_bi_s, x_lt_e, x_rd_n, x_wr_n, x_ra_n, x_dv_n, s_lt, s_le, s_eq, s_lt0, s_le0, s_0lt, s_0le, s_eq0, s_sub, s_rem, s_div, s_in, bI_0, bI_1, x_gb_b, x_gb_0, x_gb_1, nI_add, nI_1, s_size, s_abs, s_max, iI_mul, iI_add, iI_neg, Nat.le_refl, Nat.lt_irrefl, if_true, if_false, ite_true, ite_false, not_true, not_false_eq_true, ri_mayBoard_b58, pa_weightOf, e3, e4, v0, g2]
      rw [decide_eq_false g]
      rfl
  unfold mbB
  by_cases g1 : smN (sc d) (fun i => pe (cb d i)) + pe q ≤ 6
  · have e5 : ri_partiesIn (nI d) M = some (nI (sc d)) := by
      simp (disch := omega) only [x_bd_s, x_bi_s, x_lt_e, x_rd_n, x_wr_n, x_ra_n, x_dv_n, s_lt, s_le, s_eq, s_lt0, s_le0, s_0lt, s_0le, s_eq0, s_sub, s_rem, s_div, s_in, bI_0, bI_1, x_gb_b, x_gb_0, x_gb_1, nI_add, nI_1, s_size, s_abs, s_max, iI_mul, iI_add, iI_neg, Nat.le_refl, Nat.lt_irrefl, if_true, if_false, ite_true, ite_false, not_true, not_false_eq_true, ri_partiesIn, insideOf_ok (M := M) (show d < 30 by omega), cap_cab d (show d < 30 by omega), ro_count_ok (cap_cab d (show d < 30 by omega)), hP.2.2.2.2.1 d (show d < 30 by omega)]
    by_cases g2 : sc d = 0
    · have g1' : smN 0 (fun i => pe (cb d i)) + pe q ≤ 6 := by rw [← g2]; exact g1
      simp (disch := omega) only [x_bd_s, x_bi_s, x_lt_e, x_rd_n, x_wr_n, x_ra_n, x_dv_n, s_lt, s_le, s_eq, s_lt0, s_le0, s_0lt, s_0le, s_eq0, s_sub, s_rem, s_div, s_in, bI_0, bI_1, x_gb_b, x_gb_0, x_gb_1, nI_add, nI_1, s_size, s_abs, s_max, iI_mul, iI_add, iI_neg, Nat.le_refl, Nat.lt_irrefl, if_true, if_false, ite_true, ite_false, not_true, not_false_eq_true, ri_mayBoard, door, e1, pa_personsOf, e2, show (6 : Int32) = nI 6 from rfl, g1', e5, g2]
      refine last _ (decide_eq_decide.mpr ?_)
      simp
    · cases ha : anyN (fun i => wi (cb d i) % 2 == 1) (sc d) with
      | true =>
        have e6 := isAlone_ok hP hw (show d < 30 by omega)
        rw [ha] at e6
        have e0 : (bB true = 0) = False := by simp [bB]
        simp (disch := omega) only [x_bd_s, x_bi_s, x_lt_e, x_rd_n, x_wr_n, x_ra_n, x_dv_n, s_lt, s_le, s_eq, s_lt0, s_le0, s_0lt, s_0le, s_eq0, s_sub, s_rem, s_div, s_in, bI_0, bI_1, x_gb_b, x_gb_0, x_gb_1, nI_add, nI_1, s_size, s_abs, s_max, iI_mul, iI_add, iI_neg, Nat.le_refl, Nat.lt_irrefl, if_true, if_false, ite_true, ite_false, not_true, not_false_eq_true, ri_mayBoard, door, e1, pa_personsOf, e2, show (6 : Int32) = nI 6 from rfl, g1, e5, g2, e6, e0]
        rw [decide_eq_false (by simp)]
        rfl
      | false =>
        have e6 := isAlone_ok hP hw (show d < 30 by omega)
        rw [ha] at e6
        have e0 : (bB false = 0) = True := by simp [bB]
        have e7 := alone_ok hP hnp hq hpq.2.2.2.2.1
        rcases Nat.mod_two_eq_zero_or_one (wi q) with e | e
        · rw [e] at e7
          have e8 : (bB (0 == 1) = 0) = True := by simp [bB]
          simp (disch := omega) only [x_bd_s, x_bi_s, x_lt_e, x_rd_n, x_wr_n, x_ra_n, x_dv_n, s_lt, s_le, s_eq, s_lt0, s_le0, s_0lt, s_0le, s_eq0, s_sub, s_rem, s_div, s_in, bI_0, bI_1, x_gb_b, x_gb_0, x_gb_1, nI_add, nI_1, s_size, s_abs, s_max, iI_mul, iI_add, iI_neg, Nat.le_refl, Nat.lt_irrefl, if_true, if_false, ite_true, ite_false, not_true, not_false_eq_true, ri_mayBoard, door, e1, pa_personsOf, e2, show (6 : Int32) = nI 6 from rfl, g1, e5, g2, e6, e0, e7, e8]
          exact last _ (decide_eq_decide.mpr ⟨fun x => x.2.2, fun x => ⟨trivial, Or.inr ⟨trivial, e⟩, x⟩⟩)
        · rw [e] at e7
          have e8 : (bB (1 == 1) = 0) = False := by simp [bB]
          simp (disch := omega) only [x_bd_s, x_bi_s, x_lt_e, x_rd_n, x_wr_n, x_ra_n, x_dv_n, s_lt, s_le, s_eq, s_lt0, s_le0, s_0lt, s_0le, s_eq0, s_sub, s_rem, s_div, s_in, bI_0, bI_1, x_gb_b, x_gb_0, x_gb_1, nI_add, nI_1, s_size, s_abs, s_max, iI_mul, iI_add, iI_neg, Nat.le_refl, Nat.lt_irrefl, if_true, if_false, ite_true, ite_false, not_true, not_false_eq_true, ri_mayBoard, door, e1, pa_personsOf, e2, show (6 : Int32) = nI 6 from rfl, g1, e5, g2, e6, e0, e7, e8]
          rw [decide_eq_false (by simp [e])]
          rfl
  · simp (disch := omega) only [x_bd_s, x_bi_s, x_lt_e, x_rd_n, x_wr_n, x_ra_n, x_dv_n, s_lt, s_le, s_eq, s_lt0, s_le0, s_0lt, s_0le, s_eq0, s_sub, s_rem, s_div, s_in, bI_0, bI_1, x_gb_b, x_gb_0, x_gb_1, nI_add, nI_1, s_size, s_abs, s_max, iI_mul, iI_add, iI_neg, Nat.le_refl, Nat.lt_irrefl, if_true, if_false, ite_true, ite_false, not_true, not_false_eq_true, ri_mayBoard, door, e1, pa_personsOf, e2, show (6 : Int32) = nI 6 from rfl, g1]
    rw [decide_eq_false (by simp)]
    rfl
theorem md_mayBoard_ok {q : Nat} (hk : okn n) (ht : t < n) (hm : mW M n t ld) (hu : mU M b h c p) (h7 : b ≤ 1000000) (hP : mP M np pe we wi wh se pa l ln sc cb) (hw : wP n ld np pe we wi wh se l ln sc cb) (hq : q < np) : md_mayBoard (nI q) M = some (bB (mbB n ld pe we wi sc cb b ((0 + n - t) % n) q), M) := by
  have hb := okn_b hk
  obtain ⟨m1, m2, m3⟩ := hm
  have hd : (0 + n - t) % n < n := Nat.mod_lt _ (by omega)
  have door := md_atPlace_ok (p := 0) hk m1 m2 ht (by omega)
  rw [nI_0] at door
  generalize hdd : (0 + n - t) % n = d at hd door
  have h6 := wP_sc hw (show d < 30 by omega)
  have hpq := hw.2.2.1 q hq
  have hnp := hw.1
  have hd6 := (hw.2.2.2.2.2.2.2.2.1 d (by omega)).2
  have hld : ∀ c, c < 30 → ld c ≤ 900 := fun c hc => wP_ld hw hc
  have hldd := hld d (by omega)
  have e1 := md_personsIn_ok hP hw (show d < 30 by omega)
  have hwq := we_b hw hq
  have hW : ∀ z, nI (ld d) = z → e_up (e_up M 185 d (nI (ld d + we q))) 185 d z = M := by
    intro z hz
    funext u v
    by_cases g : u = 185 ∧ v = d
    · rw [g.1, g.2, e_up_e, ← hz, m3 d (by omega)]
    · rw [e_up_o (by omega), e_up_o (by omega)]
  have hmx : mxN (fun r => (lnZ n (fun c => (ld c : Int)) r + (we q : Int) * armZ n ((d + r) % n)).natAbs) n ≤ 6200000 := mxN_b (fun r _ => by
    have b1 := lnZ_b (r := r) (f := fun c => (ld c : Int)) hk (fun c hc => by have := hld c (by omega); show -2000 ≤ (ld c : Int) ∧ (ld c : Int) ≤ 2000; omega)
    have b2 := mul_b (x := (we q : Int)) (by omega) (by omega) (armZ_b n ((d + r) % n)).1 (armZ_b n ((d + r) % n)).2
    show _ ≤ _
    omega)
  have gr : md_greatestOf (e_up M 185 d (nI (ld d + we q))) = some (nI (mxN (fun r => (lnZ n (fun c => (ld c : Int)) r + (we q : Int) * armZ n ((d + r) % n)).natAbs) n)) := by
    rw [md_greatestOf_ok (n := n) (f := fun c => (ld c : Int) + if c = d then (we q : Int) else 0) hk (by rw [e_up_o (by omega), m1]) (fun c hc => ?_) (fun c hc => ?_)]
    · congr 2
      refine mxN_cong (fun r _ => ?_)
      rw [lnZ_upd hd]
    · by_cases e : c = d
      · subst e
        rw [e_up_e, if_pos rfl, nI_iI]
        rfl
      · rw [e_up_o (by omega), m3 c (by omega), if_neg e, nI_iI, Int.add_zero]
    · have := hld c (by omega)
      show -2000 ≤ (ld c : Int) + _ ∧ (ld c : Int) + _ ≤ 2000
      split <;> omega
  have last : ∀ x : Bool, x = decide (mxN (fun r => (lnZ n (fun c => (ld c : Int)) r + (we q : Int) * armZ n ((d + r) % n)).natAbs) n ≤ b) → md_mayBoard_b56 (nI q) (nI d) M = some (bB x, M) := by
    intro x hx
    subst hx
    have f1 : e_up M 185 d (nI (ld d + we q)) 187 q = nI (we q) := by rw [e_up_o (by omega), (hP.2.1 _ hq).2.1]
    have f2 : e_up M 185 d (nI (ld d + we q)) 182 4 = nI b := by rw [e_up_o (by omega), hu.1]
    have f3 : ld d + we q - we q = ld d := by omega
    by_cases g : mxN (fun r => (lnZ n (fun c => (ld c : Int)) r + (we q : Int) * armZ n ((d + r) % n)).natAbs) n ≤ b
    · have g2 : ¬ b < mxN (fun r => (lnZ n (fun c => (ld c : Int)) r + (we q : Int) * armZ n ((d + r) % n)).natAbs) n := by omega
      simp (disch := omega) only [x_bd_s, x_bi_s, x_lt_e, x_rd_n, x_wr_n, x_ra_n, x_dv_n, s_lt, s_le, s_eq, s_lt0, s_le0, s_0lt, s_0le, s_eq0, s_sub, s_rem, s_div, s_in, bI_0, bI_1, x_gb_b, x_gb_0, x_gb_1, nI_add, nI_1, s_size, s_abs, s_max, iI_mul, iI_add, iI_neg, Nat.le_refl, Nat.lt_irrefl, if_true, if_false, ite_true, ite_false, not_true, not_false_eq_true, md_mayBoard_b56, m3 d (show d < 30 by omega), (hP.2.1 _ hq).2.1, gr, f2, g2, md_mayBoard_b87, e_up_e, f1, f3, hW _ rfl]
      rw [decide_eq_true g]
      rfl
    · have g2 : b < mxN (fun r => (lnZ n (fun c => (ld c : Int)) r + (we q : Int) * armZ n ((d + r) % n)).natAbs) n := by omega
      simp (disch := omega) only [x_bd_s, x_bi_s, x_lt_e, x_rd_n, x_wr_n, x_ra_n, x_dv_n, s_lt, s_le, s_eq, s_lt0, s_le0, s_0lt, s_0le, s_eq0, s_sub, s_rem, s_div, s_in, bI_0, bI_1, x_gb_b, x_gb_0, x_gb_1, nI_add, nI_1, s_size, s_abs, s_max, iI_mul, iI_add, iI_neg, Nat.le_refl, Nat.lt_irrefl, if_true, if_false, ite_true, ite_false, not_true, not_false_eq_true, md_mayBoard_b56, m3 d (show d < 30 by omega), (hP.2.1 _ hq).2.1, gr, f2, g2, md_mayBoard_b87, e_up_e, f1, f3, hW _ rfl]
      rw [decide_eq_false g]
      rfl
  unfold mbB
  by_cases g1 : smN (sc d) (fun i => pe (cb d i)) + pe q ≤ 6
  · by_cases g2 : sc d = 0
    · have g1' : smN 0 (fun i => pe (cb d i)) + pe q ≤ 6 := by rw [← g2]; exact g1
      simp (disch := omega) only [x_bd_s, x_bi_s, x_lt_e, x_rd_n, x_wr_n, x_ra_n, x_dv_n, s_lt, s_le, s_eq, s_lt0, s_le0, s_0lt, s_0le, s_eq0, s_sub, s_rem, s_div, s_in, bI_0, bI_1, x_gb_b, x_gb_0, x_gb_1, nI_add, nI_1, s_size, s_abs, s_max, iI_mul, iI_add, iI_neg, Nat.le_refl, Nat.lt_irrefl, if_true, if_false, ite_true, ite_false, not_true, not_false_eq_true, md_mayBoard, door, e1, (hP.2.1 _ hq).1, show (6 : Int32) = nI 6 from rfl, g1', hP.2.2.2.2.1 d (show d < 30 by omega), g2]
      refine last _ (decide_eq_decide.mpr ?_)
      simp
    · have e6 := md_isAlone_ok hP hw (show d < 30 by omega)
      cases ha : anyN (fun i => wi (cb d i) % 2 == 1) (sc d) with
      | true =>
        rw [ha] at e6
        have e0 : (bB true = 0) = False := by simp [bB]
        simp (disch := omega) only [x_bd_s, x_bi_s, x_lt_e, x_rd_n, x_wr_n, x_ra_n, x_dv_n, s_lt, s_le, s_eq, s_lt0, s_le0, s_0lt, s_0le, s_eq0, s_sub, s_rem, s_div, s_in, bI_0, bI_1, x_gb_b, x_gb_0, x_gb_1, nI_add, nI_1, s_size, s_abs, s_max, iI_mul, iI_add, iI_neg, Nat.le_refl, Nat.lt_irrefl, if_true, if_false, ite_true, ite_false, not_true, not_false_eq_true, md_mayBoard, door, e1, (hP.2.1 _ hq).1, show (6 : Int32) = nI 6 from rfl, g1, hP.2.2.2.2.1 d (show d < 30 by omega), g2, e6, e0]
        rw [decide_eq_false (by simp)]
        rfl
      | false =>
        rw [ha] at e6
        have e0 : (bB false = 0) = True := by simp [bB]
        rcases Nat.mod_two_eq_zero_or_one (wi q) with e | e
        · have e8 : (nI 0 = (1 : Int32)) = False := by decide
          simp (disch := omega) only [x_bd_s, x_bi_s, x_lt_e, x_rd_n, x_wr_n, x_ra_n, x_dv_n, s_lt, s_le, s_eq, s_lt0, s_le0, s_0lt, s_0le, s_eq0, s_sub, s_rem, s_div, s_in, bI_0, bI_1, x_gb_b, x_gb_0, x_gb_1, nI_add, nI_1, s_size, s_abs, s_max, iI_mul, iI_add, iI_neg, Nat.le_refl, Nat.lt_irrefl, if_true, if_false, ite_true, ite_false, not_true, not_false_eq_true, md_mayBoard, door, e1, (hP.2.1 _ hq).1, show (6 : Int32) = nI 6 from rfl, g1, hP.2.2.2.2.1 d (show d < 30 by omega), g2, e6, e0, (hP.2.1 _ hq).2.2.1, rem_2 hpq.2.2.2.2.1, e, e8]
          exact last _ (decide_eq_decide.mpr ⟨fun x => x.2.2, fun x => ⟨trivial, Or.inr ⟨trivial, trivial⟩, x⟩⟩)
        · have e8 : (nI 1 = (1 : Int32)) = True := by decide
          simp (disch := omega) only [x_bd_s, x_bi_s, x_lt_e, x_rd_n, x_wr_n, x_ra_n, x_dv_n, s_lt, s_le, s_eq, s_lt0, s_le0, s_0lt, s_0le, s_eq0, s_sub, s_rem, s_div, s_in, bI_0, bI_1, x_gb_b, x_gb_0, x_gb_1, nI_add, nI_1, s_size, s_abs, s_max, iI_mul, iI_add, iI_neg, Nat.le_refl, Nat.lt_irrefl, if_true, if_false, ite_true, ite_false, not_true, not_false_eq_true, md_mayBoard, door, e1, (hP.2.1 _ hq).1, show (6 : Int32) = nI 6 from rfl, g1, hP.2.2.2.2.1 d (show d < 30 by omega), g2, e6, e0, (hP.2.1 _ hq).2.2.1, rem_2 hpq.2.2.2.2.1, e, e8]
          rw [decide_eq_false (by simp)]
          rfl
  · simp (disch := omega) only [x_bd_s, x_bi_s, x_lt_e, x_rd_n, x_wr_n, x_ra_n, x_dv_n, s_lt, s_le, s_eq, s_lt0, s_le0, s_0lt, s_0le, s_eq0, s_sub, s_rem, s_div, s_in, bI_0, bI_1, x_gb_b, x_gb_0, x_gb_1, nI_add, nI_1, s_size, s_abs, s_max, iI_mul, iI_add, iI_neg, Nat.le_refl, Nat.lt_irrefl, if_true, if_false, ite_true, ite_false, not_true, not_false_eq_true, md_mayBoard, door, e1, (hP.2.1 _ hq).1, show (6 : Int32) = nI 6 from rfl, g1]
    rw [decide_eq_false (by simp)]
    rfl
/-- how many are up, how many wait -/
theorem up_all_ok (hc : cW M n t ld) (hP : cP M np pe we wi wh se pa l ln sc cb) (hw : wP n ld np pe we wi wh se l ln sc cb) : ri_personsUp M = some (nI (smN n (fun c => smN (sc c) (fun i => pe (cb c i))))) := by
  have hb := okn_b hc.1
  have key : ∀ (d c F : Nat), c + d = n → d < F → ri_personsUp_l4 M F (nI (smN c (fun c => smN (sc c) (fun i => pe (cb c i))))) (nI c) = some (nI (smN n (fun c => smN (sc c) (fun i => pe (cb c i))))) := by
    intro d
    induction d with
    | zero =>
      intro c F h1 h2
      obtain ⟨F, rfl⟩ : ∃ F', F = F' + 1 := ⟨F - 1, by omega⟩
      have e : c = n := by omega
      subst e
      simp (disch := omega) only [x_bd_s, x_bi_s, x_lt_e, x_rd_n, x_wr_n, x_ra_n, x_dv_n, s_lt, s_le, s_eq, s_lt0, s_le0, s_0lt, s_0le, s_eq0, s_sub, s_rem, s_div, s_in, bI_0, bI_1, x_gb_b, x_gb_0, x_gb_1, nI_add, nI_1, s_size, s_abs, s_max, iI_mul, iI_add, iI_neg, Nat.le_refl, Nat.lt_irrefl, if_true, if_false, ite_true, ite_false, not_true, not_false_eq_true, ri_personsUp_l4, wh_count, hc.2.2.1]
    | succ d ih =>
      intro c F h1 h2
      obtain ⟨F, rfl⟩ : ∃ F', F = F' + 1 := ⟨F - 1, by omega⟩
      have c1 : ¬ n ≤ c := by omega
      simp (disch := omega) only [x_bd_s, x_bi_s, x_lt_e, x_rd_n, x_wr_n, x_ra_n, x_dv_n, s_lt, s_le, s_eq, s_lt0, s_le0, s_0lt, s_0le, s_eq0, s_sub, s_rem, s_div, s_in, bI_0, bI_1, x_gb_b, x_gb_0, x_gb_1, nI_add, nI_1, s_size, s_abs, s_max, iI_mul, iI_add, iI_neg, Nat.le_refl, Nat.lt_irrefl, if_true, if_false, ite_true, ite_false, not_true, not_false_eq_true, ri_personsUp_l4, wh_count, hc.2.2.1, c1, personsIn_ok hP hw (show c < 30 by omega)]
      exact ih (c + 1) F (by omega) (by omega)
  have := e_Fge
  have k1 := key n 0 e_F (by omega) (by omega)
  rw [nI_0] at k1
  exact k1
theorem md_up_all_ok (hk : okn n) (hn : M 182 0 = nI n) (hP : mP M np pe we wi wh se pa l ln sc cb) (hw : wP n ld np pe we wi wh se l ln sc cb) : md_upNow M = some (nI (smN n (fun c => smN (sc c) (fun i => pe (cb c i))))) := by
  have hb := okn_b hk
  have key : ∀ (d c F : Nat), c + d = n → d < F → md_upNow_l4 M F (nI (smN c (fun c => smN (sc c) (fun i => pe (cb c i))))) (nI c) = some (nI (smN n (fun c => smN (sc c) (fun i => pe (cb c i))))) := by
    intro d
    induction d with
    | zero =>
      intro c F h1 h2
      obtain ⟨F, rfl⟩ : ∃ F', F = F' + 1 := ⟨F - 1, by omega⟩
      have e : c = n := by omega
      subst e
      simp (disch := omega) only [x_bd_s, x_bi_s, x_lt_e, x_rd_n, x_wr_n, x_ra_n, x_dv_n, s_lt, s_le, s_eq, s_lt0, s_le0, s_0lt, s_0le, s_eq0, s_sub, s_rem, s_div, s_in, bI_0, bI_1, x_gb_b, x_gb_0, x_gb_1, nI_add, nI_1, s_size, s_abs, s_max, iI_mul, iI_add, iI_neg, Nat.le_refl, Nat.lt_irrefl, if_true, if_false, ite_true, ite_false, not_true, not_false_eq_true, md_upNow_l4, hn]
    | succ d ih =>
      intro c F h1 h2
      obtain ⟨F, rfl⟩ : ∃ F', F = F' + 1 := ⟨F - 1, by omega⟩
      have c1 : ¬ n ≤ c := by omega
      simp (disch := omega) only [x_bd_s, x_bi_s, x_lt_e, x_rd_n, x_wr_n, x_ra_n, x_dv_n, s_lt, s_le, s_eq, s_lt0, s_le0, s_0lt, s_0le, s_eq0, s_sub, s_rem, s_div, s_in, bI_0, bI_1, x_gb_b, x_gb_0, x_gb_1, nI_add, nI_1, s_size, s_abs, s_max, iI_mul, iI_add, iI_neg, Nat.le_refl, Nat.lt_irrefl, if_true, if_false, ite_true, ite_false, not_true, not_false_eq_true, md_upNow_l4, hn, c1, md_personsIn_ok hP hw (show c < 30 by omega)]
      exact ih (c + 1) F (by omega) (by omega)
  have := e_Fge
  have k1 := key n 0 e_F (by omega) (by omega)
  rw [nI_0] at k1
  exact k1
theorem wait_ok (hP : cP M np pe we wi wh se pa l ln sc cb) (hw : wP n ld np pe we wi wh se l ln sc cb) : ri_personsWaiting M = some (nI (smN l (fun k => pe (ln k)))) := by
  simp (disch := omega) only [x_bd_s, x_bi_s, x_lt_e, x_rd_n, x_wr_n, x_ra_n, x_dv_n, s_lt, s_le, s_eq, s_lt0, s_le0, s_0lt, s_0le, s_eq0, s_sub, s_rem, s_div, s_in, bI_0, bI_1, x_gb_b, x_gb_0, x_gb_1, nI_add, nI_1, s_size, s_abs, s_max, iI_mul, iI_add, iI_neg, Nat.le_refl, Nat.lt_irrefl, if_true, if_false, ite_true, ite_false, not_true, not_false_eq_true, ri_personsWaiting, persons_ok hP hw.1 (fun p hp => (hw.2.2.1 p hp).2.1) cap_22 hP.2.2.1 hw.2.1 (show 30 ≤ 1000 by omega) (fun i hi => ⟨hP.2.2.2.1 i hi, (hw.2.2.2.1 i hi).1⟩)]
theorem md_wait_ok (hP : mP M np pe we wi wh se pa l ln sc cb) (hw : wP n ld np pe we wi wh se l ln sc cb) : md_told_l88 M e_F 0 0 = some (nI (smN l (fun k => pe (ln k)))) := by
  have hl := hw.2.1
  have hnp := hw.1
  have key : ∀ (d c F : Nat), c + d = l → d < F → md_told_l88 M F (nI (smN c (fun k => pe (ln k)))) (nI c) = some (nI (smN l (fun k => pe (ln k)))) := by
    intro d
    induction d with
    | zero =>
      intro c F h1 h2
      obtain ⟨F, rfl⟩ : ∃ F', F = F' + 1 := ⟨F - 1, by omega⟩
      have e : c = l := by omega
      subst e
      simp (disch := omega) only [x_bd_s, x_bi_s, x_lt_e, x_rd_n, x_wr_n, x_ra_n, x_dv_n, s_lt, s_le, s_eq, s_lt0, s_le0, s_0lt, s_0le, s_eq0, s_sub, s_rem, s_div, s_in, bI_0, bI_1, x_gb_b, x_gb_0, x_gb_1, nI_add, nI_1, s_size, s_abs, s_max, iI_mul, iI_add, iI_neg, Nat.le_refl, Nat.lt_irrefl, if_true, if_false, ite_true, ite_false, not_true, not_false_eq_true, md_told_l88, hP.2.2.1]
    | succ d ih =>
      intro c F h1 h2
      obtain ⟨F, rfl⟩ : ∃ F', F = F' + 1 := ⟨F - 1, by omega⟩
      have c1 : ¬ l ≤ c := by omega
      have hln := (hw.2.2.2.1 c (by omega)).1
      simp (disch := omega) only [x_bd_s, x_bi_s, x_lt_e, x_rd_n, x_wr_n, x_ra_n, x_dv_n, s_lt, s_le, s_eq, s_lt0, s_le0, s_0lt, s_0le, s_eq0, s_sub, s_rem, s_div, s_in, bI_0, bI_1, x_gb_b, x_gb_0, x_gb_1, nI_add, nI_1, s_size, s_abs, s_max, iI_mul, iI_add, iI_neg, Nat.le_refl, Nat.lt_irrefl, if_true, if_false, ite_true, ite_false, not_true, not_false_eq_true, md_told_l88, hP.2.2.1, c1, hP.2.2.2.1 c (show c < l by omega), (hP.2.1 _ hln).1]
      exact ih (c + 1) F (by omega) (by omega)
  have := e_Fge
  have k1 := key l 0 e_F (by omega) (by omega)
  rw [nI_0] at k1
  exact k1
end
section
variable {M : e_Me}
theorem l_told (h : Inv M) (x : Int32) : ∃ r, ew_told x M = some r ∧ md_told x M = some r := by
  obtain ⟨n, t, ld, ⟨hc, hn, ht, hl⟩, ⟨w, s0, d, g1, g2, g3, g4, g5, g6, g7, g8⟩, -, -, -, -, -, np, pe, we, wi, wh, se, pa, l, ln, sc, cb, hP, hQ, hwf⟩ := h
  have hb := okn_b hc.1
  by_cases h0 : x = 0
  · exact ⟨nI t, by simp (disch := omega) only [x_bd_s, x_bi_s, x_lt_e, x_rd_n, x_wr_n, x_ra_n, x_dv_n, s_lt, s_le, s_eq, s_lt0, s_le0, s_0lt, s_0le, s_eq0, s_sub, s_rem, s_div, s_in, bI_0, bI_1, x_gb_b, x_gb_0, x_gb_1, nI_add, nI_1, s_size, s_abs, s_max, iI_mul, iI_add, iI_neg, Nat.le_refl, Nat.lt_irrefl, if_true, if_false, ite_true, ite_false, not_true, not_false_eq_true, ew_told, h0, q_00, wh_turnNow, hc.2.2.2.1], by simp (disch := omega) only [x_bd_s, x_bi_s, x_lt_e, x_rd_n, x_wr_n, x_ra_n, x_dv_n, s_lt, s_le, s_eq, s_lt0, s_le0, s_0lt, s_0le, s_eq0, s_sub, s_rem, s_div, s_in, bI_0, bI_1, x_gb_b, x_gb_0, x_gb_1, nI_add, nI_1, s_size, s_abs, s_max, iI_mul, iI_add, iI_neg, Nat.le_refl, Nat.lt_irrefl, if_true, if_false, ite_true, ite_false, not_true, not_false_eq_true, md_told, h0, q_00, ht]⟩
  by_cases h1 : x = 1
  · exact ⟨nI w, by simp (disch := omega) only [x_bd_s, x_bi_s, x_lt_e, x_rd_n, x_wr_n, x_ra_n, x_dv_n, s_lt, s_le, s_eq, s_lt0, s_le0, s_0lt, s_0le, s_eq0, s_sub, s_rem, s_div, s_in, bI_0, bI_1, x_gb_b, x_gb_0, x_gb_1, nI_add, nI_1, s_size, s_abs, s_max, iI_mul, iI_add, iI_neg, Nat.le_refl, Nat.lt_irrefl, if_true, if_false, ite_true, ite_false, not_true, not_false_eq_true, ew_told, h1, q_10, q_11, rg_warmthNow, g1], by simp (disch := omega) only [x_bd_s, x_bi_s, x_lt_e, x_rd_n, x_wr_n, x_ra_n, x_dv_n, s_lt, s_le, s_eq, s_lt0, s_le0, s_0lt, s_0le, s_eq0, s_sub, s_rem, s_div, s_in, bI_0, bI_1, x_gb_b, x_gb_0, x_gb_1, nI_add, nI_1, s_size, s_abs, s_max, iI_mul, iI_add, iI_neg, Nat.le_refl, Nat.lt_irrefl, if_true, if_false, ite_true, ite_false, not_true, not_false_eq_true, md_told, h1, q_10, q_11, g4]⟩
  by_cases h2 : x = 2
  · have door := md_atPlace_ok (p := 0) hc.1 hn ht hc.2.1 (by omega)
    rw [nI_0] at door
    exact ⟨nI ((0 + n - t) % n), by simp (disch := omega) only [x_bd_s, x_bi_s, x_lt_e, x_rd_n, x_wr_n, x_ra_n, x_dv_n, s_lt, s_le, s_eq, s_lt0, s_le0, s_0lt, s_0le, s_eq0, s_sub, s_rem, s_div, s_in, bI_0, bI_1, x_gb_b, x_gb_0, x_gb_1, nI_add, nI_1, s_size, s_abs, s_max, iI_mul, iI_add, iI_neg, Nat.le_refl, Nat.lt_irrefl, if_true, if_false, ite_true, ite_false, not_true, not_false_eq_true, ew_told, h2, q_20, q_21, q_22, wh_atDoor_ok hc], by simp (disch := omega) only [x_bd_s, x_bi_s, x_lt_e, x_rd_n, x_wr_n, x_ra_n, x_dv_n, s_lt, s_le, s_eq, s_lt0, s_le0, s_0lt, s_0le, s_eq0, s_sub, s_rem, s_div, s_in, bI_0, bI_1, x_gb_b, x_gb_0, x_gb_1, nI_add, nI_1, s_size, s_abs, s_max, iI_mul, iI_add, iI_neg, Nat.le_refl, Nat.lt_irrefl, if_true, if_false, ite_true, ite_false, not_true, not_false_eq_true, md_told, h2, q_20, q_21, q_22, door]⟩
  by_cases h3 : x = 3
  · have top := md_atPlace_ok (p := n / 2) hc.1 hn ht hc.2.1 (by omega)
    have e2 : nI n / 2 = nI (n / 2) := s_div (d := 2) (by omega) (by omega) (by omega)
    exact ⟨nI ((n / 2 + n - t) % n), by simp (disch := omega) only [x_bd_s, x_bi_s, x_lt_e, x_rd_n, x_wr_n, x_ra_n, x_dv_n, s_lt, s_le, s_eq, s_lt0, s_le0, s_0lt, s_0le, s_eq0, s_sub, s_rem, s_div, s_in, bI_0, bI_1, x_gb_b, x_gb_0, x_gb_1, nI_add, nI_1, s_size, s_abs, s_max, iI_mul, iI_add, iI_neg, Nat.le_refl, Nat.lt_irrefl, if_true, if_false, ite_true, ite_false, not_true, not_false_eq_true, ew_told, h3, q_30, q_31, q_32, q_33, wh_atTop_ok hc], by simp (disch := omega) only [x_bd_s, x_bi_s, x_lt_e, x_rd_n, x_wr_n, x_ra_n, x_dv_n, s_lt, s_le, s_eq, s_lt0, s_le0, s_0lt, s_0le, s_eq0, s_sub, s_rem, s_div, s_in, bI_0, bI_1, x_gb_b, x_gb_0, x_gb_1, nI_add, nI_1, s_size, s_abs, s_max, iI_mul, iI_add, iI_neg, Nat.le_refl, Nat.lt_irrefl, if_true, if_false, ite_true, ite_false, not_true, not_false_eq_true, md_told, h3, q_30, q_31, q_32, q_33, hn, e2, top]⟩
  by_cases h4 : x = 4
  · exact ⟨_, by simp only [ew_told, h4, q_40, q_41, q_42, q_43, q_44, if_true, if_false, up_all_ok hc hP hwf, x_bd_s]; rfl, by simp only [md_told, h4, q_40, q_41, q_42, q_43, q_44, if_true, if_false, md_up_all_ok hc.1 hn hQ hwf, x_bd_s]⟩
  by_cases h5 : x = 5
  · exact ⟨_, by simp only [ew_told, h5, q_50, q_51, q_52, q_53, q_54, q_55, if_true, if_false, wait_ok hP hwf, x_bd_s]; rfl, by simp only [md_told, h5, q_50, q_51, q_52, q_53, q_54, q_55, if_true, if_false, md_wait_ok hQ hwf]⟩
  by_cases h6 : x = 6
  · exact ⟨s0, by simp (disch := omega) only [x_bd_s, x_bi_s, x_lt_e, x_rd_n, x_wr_n, x_ra_n, x_dv_n, s_lt, s_le, s_eq, s_lt0, s_le0, s_0lt, s_0le, s_eq0, s_sub, s_rem, s_div, s_in, bI_0, bI_1, x_gb_b, x_gb_0, x_gb_1, nI_add, nI_1, s_size, s_abs, s_max, iI_mul, iI_add, iI_neg, Nat.le_refl, Nat.lt_irrefl, if_true, if_false, ite_true, ite_false, not_true, not_false_eq_true, ew_told, h6, q_60, q_61, q_62, q_63, q_64, q_65, q_66, rg_stepsDone, g2], by simp (disch := omega) only [x_bd_s, x_bi_s, x_lt_e, x_rd_n, x_wr_n, x_ra_n, x_dv_n, s_lt, s_le, s_eq, s_lt0, s_le0, s_0lt, s_0le, s_eq0, s_sub, s_rem, s_div, s_in, bI_0, bI_1, x_gb_b, x_gb_0, x_gb_1, nI_add, nI_1, s_size, s_abs, s_max, iI_mul, iI_add, iI_neg, Nat.le_refl, Nat.lt_irrefl, if_true, if_false, ite_true, ite_false, not_true, not_false_eq_true, md_told, h6, q_60, q_61, q_62, q_63, q_64, q_65, q_66, g5]⟩
  by_cases h7 : x = 7
  · exact ⟨nI np, by simp (disch := omega) only [x_bd_s, x_bi_s, x_lt_e, x_rd_n, x_wr_n, x_ra_n, x_dv_n, s_lt, s_le, s_eq, s_lt0, s_le0, s_0lt, s_0le, s_eq0, s_sub, s_rem, s_div, s_in, bI_0, bI_1, x_gb_b, x_gb_0, x_gb_1, nI_add, nI_1, s_size, s_abs, s_max, iI_mul, iI_add, iI_neg, Nat.le_refl, Nat.lt_irrefl, if_true, if_false, ite_true, ite_false, not_true, not_false_eq_true, ew_told, h7, q_70, q_71, q_72, q_73, q_74, q_75, q_76, q_77, ri_partiesCome, pa_count, ro_count_ok cap_200.1, hP.1.1], by simp (disch := omega) only [x_bd_s, x_bi_s, x_lt_e, x_rd_n, x_wr_n, x_ra_n, x_dv_n, s_lt, s_le, s_eq, s_lt0, s_le0, s_0lt, s_0le, s_eq0, s_sub, s_rem, s_div, s_in, bI_0, bI_1, x_gb_b, x_gb_0, x_gb_1, nI_add, nI_1, s_size, s_abs, s_max, iI_mul, iI_add, iI_neg, Nat.le_refl, Nat.lt_irrefl, if_true, if_false, ite_true, ite_false, not_true, not_false_eq_true, md_told, h7, q_70, q_71, q_72, q_73, q_74, q_75, q_76, q_77, hQ.1]⟩
  by_cases h8 : x = 8
  · refine ⟨if d = 0 then 0 else 1, ?_, ?_⟩
    · simp (disch := omega) only [x_bd_s, x_bi_s, x_lt_e, x_rd_n, x_wr_n, x_ra_n, x_dv_n, s_lt, s_le, s_eq, s_lt0, s_le0, s_0lt, s_0le, s_eq0, s_sub, s_rem, s_div, s_in, bI_0, bI_1, x_gb_b, x_gb_0, x_gb_1, nI_add, nI_1, s_size, s_abs, s_max, iI_mul, iI_add, iI_neg, Nat.le_refl, Nat.lt_irrefl, if_true, if_false, ite_true, ite_false, not_true, not_false_eq_true, ew_told, h8, q_80, q_81, q_82, q_83, q_84, q_85, q_86, q_87, q_88, rg_isDriven, g3, x_gb_of g7]
      split <;> rfl
    · simp (disch := omega) only [x_bd_s, x_bi_s, x_lt_e, x_rd_n, x_wr_n, x_ra_n, x_dv_n, s_lt, s_le, s_eq, s_lt0, s_le0, s_0lt, s_0le, s_eq0, s_sub, s_rem, s_div, s_in, bI_0, bI_1, x_gb_b, x_gb_0, x_gb_1, nI_add, nI_1, s_size, s_abs, s_max, iI_mul, iI_add, iI_neg, Nat.le_refl, Nat.lt_irrefl, if_true, if_false, ite_true, ite_false, not_true, not_false_eq_true, md_told, h8, q_80, q_81, q_82, q_83, q_84, q_85, q_86, q_87, q_88, g6]
      split <;> rfl
  exact ⟨-102, by simp (disch := omega) only [x_bd_s, x_bi_s, x_lt_e, x_rd_n, x_wr_n, x_ra_n, x_dv_n, s_lt, s_le, s_eq, s_lt0, s_le0, s_0lt, s_0le, s_eq0, s_sub, s_rem, s_div, s_in, bI_0, bI_1, x_gb_b, x_gb_0, x_gb_1, nI_add, nI_1, s_size, s_abs, s_max, iI_mul, iI_add, iI_neg, Nat.le_refl, Nat.lt_irrefl, if_true, if_false, ite_true, ite_false, not_true, not_false_eq_true, ew_told, h0, h1, h2, h3, h4, h5, h6, h7, h8], by simp (disch := omega) only [x_bd_s, x_bi_s, x_lt_e, x_rd_n, x_wr_n, x_ra_n, x_dv_n, s_lt, s_le, s_eq, s_lt0, s_le0, s_0lt, s_0le, s_eq0, s_sub, s_rem, s_div, s_in, bI_0, bI_1, x_gb_b, x_gb_0, x_gb_1, nI_add, nI_1, s_size, s_abs, s_max, iI_mul, iI_add, iI_neg, Nat.le_refl, Nat.lt_irrefl, if_true, if_false, ite_true, ite_false, not_true, not_false_eq_true, md_told, h0, h1, h2, h3, h4, h5, h6, h7, h8]⟩
theorem l_cabin (h : Inv M) (x y : Int32) : ∃ r, ew_cabin x y M = some r ∧ md_cabin x y M = some r := by
  obtain ⟨n, t, ld, ⟨hc, hn, ht, hl⟩, -, -, -, -, -, -, np, pe, we, wi, wh, se, pa, l, ln, sc, cb, hP, hQ, hwf⟩ := h
  have hb := okn_b hc.1
  have hb2 : n < 2147483648 := by omega
  rcases pk_ix x (n := n) (by omega) with g | g | ⟨c, hcn, rfl⟩
  · exact ⟨-101, by simp (disch := omega) only [x_bd_s, x_bi_s, x_lt_e, x_rd_n, x_wr_n, x_ra_n, x_dv_n, s_lt, s_le, s_eq, s_lt0, s_le0, s_0lt, s_0le, s_eq0, s_sub, s_rem, s_div, s_in, bI_0, bI_1, x_gb_b, x_gb_0, x_gb_1, nI_add, nI_1, s_size, s_abs, s_max, iI_mul, iI_add, iI_neg, Nat.le_refl, Nat.lt_irrefl, if_true, if_false, ite_true, ite_false, not_true, not_false_eq_true, ew_cabin, wh_has_no hc (Or.inl g)], by simp (disch := omega) only [x_bd_s, x_bi_s, x_lt_e, x_rd_n, x_wr_n, x_ra_n, x_dv_n, s_lt, s_le, s_eq, s_lt0, s_le0, s_0lt, s_0le, s_eq0, s_sub, s_rem, s_div, s_in, bI_0, bI_1, x_gb_b, x_gb_0, x_gb_1, nI_add, nI_1, s_size, s_abs, s_max, iI_mul, iI_add, iI_neg, Nat.le_refl, Nat.lt_irrefl, if_true, if_false, ite_true, ite_false, not_true, not_false_eq_true, md_cabin, isCabin_no hn hb2 (Or.inl g)]⟩
  · exact ⟨-101, by simp (disch := omega) only [x_bd_s, x_bi_s, x_lt_e, x_rd_n, x_wr_n, x_ra_n, x_dv_n, s_lt, s_le, s_eq, s_lt0, s_le0, s_0lt, s_0le, s_eq0, s_sub, s_rem, s_div, s_in, bI_0, bI_1, x_gb_b, x_gb_0, x_gb_1, nI_add, nI_1, s_size, s_abs, s_max, iI_mul, iI_add, iI_neg, Nat.le_refl, Nat.lt_irrefl, if_true, if_false, ite_true, ite_false, not_true, not_false_eq_true, ew_cabin, wh_has_no hc (Or.inr g)], by simp (disch := omega) only [x_bd_s, x_bi_s, x_lt_e, x_rd_n, x_wr_n, x_ra_n, x_dv_n, s_lt, s_le, s_eq, s_lt0, s_le0, s_0lt, s_0le, s_eq0, s_sub, s_rem, s_div, s_in, bI_0, bI_1, x_gb_b, x_gb_0, x_gb_1, nI_add, nI_1, s_size, s_abs, s_max, iI_mul, iI_add, iI_neg, Nat.le_refl, Nat.lt_irrefl, if_true, if_false, ite_true, ite_false, not_true, not_false_eq_true, md_cabin, isCabin_no hn hb2 (Or.inr g)]⟩
  · have hc30 : c < 30 := by omega
    by_cases h0 : y = 0
    · exact ⟨_, by simp only [ew_cabin, wh_has_ok hc (show c < 2000 by omega), hcn, bI_0, not_true, if_false, h0, q_00, if_true, personsIn_ok hP hwf hc30, x_bd_s]; rfl, by simp only [md_cabin, isCabin_yes hn hb2 hcn, x_bd_s, s_10, if_false, h0, q_00, if_true, md_personsIn_ok hQ hwf hc30]⟩
    by_cases h1 : y = 1
    · exact ⟨nI (sc c), by simp (disch := omega) only [x_bd_s, x_bi_s, x_lt_e, x_rd_n, x_wr_n, x_ra_n, x_dv_n, s_lt, s_le, s_eq, s_lt0, s_le0, s_0lt, s_0le, s_eq0, s_sub, s_rem, s_div, s_in, bI_0, bI_1, x_gb_b, x_gb_0, x_gb_1, nI_add, nI_1, s_size, s_abs, s_max, iI_mul, iI_add, iI_neg, Nat.le_refl, Nat.lt_irrefl, if_true, if_false, ite_true, ite_false, not_true, not_false_eq_true, ew_cabin, wh_has_ok hc, hcn, h1, q_10, q_11, ri_partiesIn, insideOf_ok hc30, cap_cab c hc30, ro_count_ok (cap_cab c hc30), hP.2.2.2.2.1 c hc30], by simp (disch := omega) only [x_bd_s, x_bi_s, x_lt_e, x_rd_n, x_wr_n, x_ra_n, x_dv_n, s_lt, s_le, s_eq, s_lt0, s_le0, s_0lt, s_0le, s_eq0, s_sub, s_rem, s_div, s_in, bI_0, bI_1, x_gb_b, x_gb_0, x_gb_1, nI_add, nI_1, s_size, s_abs, s_max, iI_mul, iI_add, iI_neg, Nat.le_refl, Nat.lt_irrefl, if_true, if_false, ite_true, ite_false, not_true, not_false_eq_true, md_cabin, isCabin_yes hn hb2 hcn, s_10, h1, q_10, q_11, hQ.2.2.2.2.1 c hc30]⟩
    by_cases h2 : y = 2
    · refine ⟨bB (anyN (fun i => wi (cb c i) % 2 == 1) (sc c)), ?_, ?_⟩
      · simp (disch := omega) only [x_bd_s, x_bi_s, x_lt_e, x_rd_n, x_wr_n, x_ra_n, x_dv_n, s_lt, s_le, s_eq, s_lt0, s_le0, s_0lt, s_0le, s_eq0, s_sub, s_rem, s_div, s_in, bI_0, bI_1, x_gb_b, x_gb_0, x_gb_1, nI_add, nI_1, s_size, s_abs, s_max, iI_mul, iI_add, iI_neg, Nat.le_refl, Nat.lt_irrefl, if_true, if_false, ite_true, ite_false, not_true, not_false_eq_true, ew_cabin, wh_has_ok hc, hcn, h2, q_20, q_21, q_22, isAlone_ok hP hwf hc30]
        cases anyN (fun i => wi (cb c i) % 2 == 1) (sc c) <;> rfl
      · simp (disch := omega) only [x_bd_s, x_bi_s, x_lt_e, x_rd_n, x_wr_n, x_ra_n, x_dv_n, s_lt, s_le, s_eq, s_lt0, s_le0, s_0lt, s_0le, s_eq0, s_sub, s_rem, s_div, s_in, bI_0, bI_1, x_gb_b, x_gb_0, x_gb_1, nI_add, nI_1, s_size, s_abs, s_max, iI_mul, iI_add, iI_neg, Nat.le_refl, Nat.lt_irrefl, if_true, if_false, ite_true, ite_false, not_true, not_false_eq_true, md_cabin, isCabin_yes hn hb2 hcn, s_10, h2, q_20, q_21, q_22, md_isAlone_ok hQ hwf hc30]
        cases anyN (fun i => wi (cb c i) % 2 == 1) (sc c) <;> rfl
    by_cases h3 : y = 3
    · have ht2 := hc.2.1
      exact ⟨nI ((c + t) % n), by simp (disch := omega) only [x_bd_s, x_bi_s, x_lt_e, x_rd_n, x_wr_n, x_ra_n, x_dv_n, s_lt, s_le, s_eq, s_lt0, s_le0, s_0lt, s_0le, s_eq0, s_sub, s_rem, s_div, s_in, bI_0, bI_1, x_gb_b, x_gb_0, x_gb_1, nI_add, nI_1, s_size, s_abs, s_max, iI_mul, iI_add, iI_neg, Nat.le_refl, Nat.lt_irrefl, if_true, if_false, ite_true, ite_false, not_true, not_false_eq_true, ew_cabin, wh_has_ok hc, hcn, h3, q_30, q_31, q_32, q_33, wh_placeOf_ok hc hcn], by simp (disch := omega) only [x_bd_s, x_bi_s, x_lt_e, x_rd_n, x_wr_n, x_ra_n, x_dv_n, s_lt, s_le, s_eq, s_lt0, s_le0, s_0lt, s_0le, s_eq0, s_sub, s_rem, s_div, s_in, bI_0, bI_1, x_gb_b, x_gb_0, x_gb_1, nI_add, nI_1, s_size, s_abs, s_max, iI_mul, iI_add, iI_neg, Nat.le_refl, Nat.lt_irrefl, if_true, if_false, ite_true, ite_false, not_true, not_false_eq_true, md_cabin, isCabin_yes hn hb2 hcn, s_10, h3, q_30, q_31, q_32, q_33, hn, ht]⟩
    exact ⟨-102, by simp (disch := omega) only [x_bd_s, x_bi_s, x_lt_e, x_rd_n, x_wr_n, x_ra_n, x_dv_n, s_lt, s_le, s_eq, s_lt0, s_le0, s_0lt, s_0le, s_eq0, s_sub, s_rem, s_div, s_in, bI_0, bI_1, x_gb_b, x_gb_0, x_gb_1, nI_add, nI_1, s_size, s_abs, s_max, iI_mul, iI_add, iI_neg, Nat.le_refl, Nat.lt_irrefl, if_true, if_false, ite_true, ite_false, not_true, not_false_eq_true, ew_cabin, wh_has_ok hc, hcn, h0, h1, h2, h3], by simp (disch := omega) only [x_bd_s, x_bi_s, x_lt_e, x_rd_n, x_wr_n, x_ra_n, x_dv_n, s_lt, s_le, s_eq, s_lt0, s_le0, s_0lt, s_0le, s_eq0, s_sub, s_rem, s_div, s_in, bI_0, bI_1, x_gb_b, x_gb_0, x_gb_1, nI_add, nI_1, s_size, s_abs, s_max, iI_mul, iI_add, iI_neg, Nat.le_refl, Nat.lt_irrefl, if_true, if_false, ite_true, ite_false, not_true, not_false_eq_true, md_cabin, isCabin_yes hn hb2 hcn, s_10, h0, h1, h2, h3]⟩
theorem l_inside (h : Inv M) (x y : Int32) : ∃ r, ew_inside x y M = some r ∧ md_inside x y M = some r := by
  obtain ⟨n, t, ld, ⟨hc, hn, ht, hl⟩, -, -, -, -, -, -, np, pe, we, wi, wh, se, pa, l, ln, sc, cb, hP, hQ, hwf⟩ := h
  have hb := okn_b hc.1
  have hb2 : n < 2147483648 := by omega
  rcases pk_ix x (n := n) (by omega) with g | g | ⟨c, hcn, rfl⟩
  · exact ⟨-101, by simp (disch := omega) only [x_bd_s, x_bi_s, x_lt_e, x_rd_n, x_wr_n, x_ra_n, x_dv_n, s_lt, s_le, s_eq, s_lt0, s_le0, s_0lt, s_0le, s_eq0, s_sub, s_rem, s_div, s_in, bI_0, bI_1, x_gb_b, x_gb_0, x_gb_1, nI_add, nI_1, s_size, s_abs, s_max, iI_mul, iI_add, iI_neg, Nat.le_refl, Nat.lt_irrefl, if_true, if_false, ite_true, ite_false, not_true, not_false_eq_true, ew_inside, wh_has_no hc (Or.inl g)], by simp (disch := omega) only [x_bd_s, x_bi_s, x_lt_e, x_rd_n, x_wr_n, x_ra_n, x_dv_n, s_lt, s_le, s_eq, s_lt0, s_le0, s_0lt, s_0le, s_eq0, s_sub, s_rem, s_div, s_in, bI_0, bI_1, x_gb_b, x_gb_0, x_gb_1, nI_add, nI_1, s_size, s_abs, s_max, iI_mul, iI_add, iI_neg, Nat.le_refl, Nat.lt_irrefl, if_true, if_false, ite_true, ite_false, not_true, not_false_eq_true, md_inside, isCabin_no hn hb2 (Or.inl g)]⟩
  · exact ⟨-101, by simp (disch := omega) only [x_bd_s, x_bi_s, x_lt_e, x_rd_n, x_wr_n, x_ra_n, x_dv_n, s_lt, s_le, s_eq, s_lt0, s_le0, s_0lt, s_0le, s_eq0, s_sub, s_rem, s_div, s_in, bI_0, bI_1, x_gb_b, x_gb_0, x_gb_1, nI_add, nI_1, s_size, s_abs, s_max, iI_mul, iI_add, iI_neg, Nat.le_refl, Nat.lt_irrefl, if_true, if_false, ite_true, ite_false, not_true, not_false_eq_true, ew_inside, wh_has_no hc (Or.inr g)], by simp (disch := omega) only [x_bd_s, x_bi_s, x_lt_e, x_rd_n, x_wr_n, x_ra_n, x_dv_n, s_lt, s_le, s_eq, s_lt0, s_le0, s_0lt, s_0le, s_eq0, s_sub, s_rem, s_div, s_in, bI_0, bI_1, x_gb_b, x_gb_0, x_gb_1, nI_add, nI_1, s_size, s_abs, s_max, iI_mul, iI_add, iI_neg, Nat.le_refl, Nat.lt_irrefl, if_true, if_false, ite_true, ite_false, not_true, not_false_eq_true, md_inside, isCabin_no hn hb2 (Or.inr g)]⟩
  · have hc30 : c < 30 := by omega
    have h6 := wP_sc hwf hc30
    have e6 : (6 : Int32) * nI c = nI (6 * c) := by rw [show (6 : Int32) = nI 6 from rfl, pk_mul]
    have hs : sc c < 2147483648 := by omega
    have mi : ∀ y, md_inside (nI c) y M = x_bd (md_in y.toInt64 (0 : Int32).toInt64 (nI (sc c) - 1).toInt64 M) fun x3 => if x3 = 0 then some (-1 : Int32) else x_rd (M 183) 180 (((6 : Int32) * nI c) + y) fun x4 => some x4 := fun y => by
      simp only [md_inside, isCabin_yes hn hb2 hcn, x_bd_s, s_10, if_false]
      rw [x_rd_n hc30 (show 30 ≤ 100000 by omega), hQ.2.2.2.2.1 c hc30]
    rcases pk_ix y (n := sc c) (by omega) with g | g | ⟨i, hi, rfl⟩
    · exact ⟨-1, by simp (disch := omega) only [x_bd_s, x_bi_s, x_lt_e, x_rd_n, x_wr_n, x_ra_n, x_dv_n, s_lt, s_le, s_eq, s_lt0, s_le0, s_0lt, s_0le, s_eq0, s_sub, s_rem, s_div, s_in, bI_0, bI_1, x_gb_b, x_gb_0, x_gb_1, nI_add, nI_1, s_size, s_abs, s_max, iI_mul, iI_add, iI_neg, Nat.le_refl, Nat.lt_irrefl, if_true, if_false, ite_true, ite_false, not_true, not_false_eq_true, ew_inside, wh_has_ok hc, hcn, ri_partyIn, insideOf_ok hc30, cap_cab c hc30, ro_at_no (cap_cab c hc30) (hP.2.2.2.2.1 c hc30) (Or.inl g)], by rw [mi, in_no hs (Or.inl g)]; rfl⟩
    · exact ⟨-1, by simp (disch := omega) only [x_bd_s, x_bi_s, x_lt_e, x_rd_n, x_wr_n, x_ra_n, x_dv_n, s_lt, s_le, s_eq, s_lt0, s_le0, s_0lt, s_0le, s_eq0, s_sub, s_rem, s_div, s_in, bI_0, bI_1, x_gb_b, x_gb_0, x_gb_1, nI_add, nI_1, s_size, s_abs, s_max, iI_mul, iI_add, iI_neg, Nat.le_refl, Nat.lt_irrefl, if_true, if_false, ite_true, ite_false, not_true, not_false_eq_true, ew_inside, wh_has_ok hc, hcn, ri_partyIn, insideOf_ok hc30, cap_cab c hc30, ro_at_no (cap_cab c hc30) (hP.2.2.2.2.1 c hc30) (Or.inr g)], by rw [mi, in_no hs (Or.inr g)]; rfl⟩
    · exact ⟨nI (cb c i), by simp (disch := omega) only [x_bd_s, x_bi_s, x_lt_e, x_rd_n, x_wr_n, x_ra_n, x_dv_n, s_lt, s_le, s_eq, s_lt0, s_le0, s_0lt, s_0le, s_eq0, s_sub, s_rem, s_div, s_in, bI_0, bI_1, x_gb_b, x_gb_0, x_gb_1, nI_add, nI_1, s_size, s_abs, s_max, iI_mul, iI_add, iI_neg, Nat.le_refl, Nat.lt_irrefl, if_true, if_false, ite_true, ite_false, not_true, not_false_eq_true, ew_inside, wh_has_ok hc, hcn, ri_partyIn, insideOf_ok hc30, cap_cab c hc30, ro_at_ok (cap_cab c hc30) (hP.2.2.2.2.1 c hc30) h6 (show 6 ≤ 1000 by omega) hi, hP.2.2.2.2.2 c hc30 i hi], by rw [mi, in_yes hi hs]; simp (disch := omega) only [x_bd_s, x_bi_s, x_lt_e, x_rd_n, x_wr_n, x_ra_n, x_dv_n, s_lt, s_le, s_eq, s_lt0, s_le0, s_0lt, s_0le, s_eq0, s_sub, s_rem, s_div, s_in, bI_0, bI_1, x_gb_b, x_gb_0, x_gb_1, nI_add, nI_1, s_size, s_abs, s_max, iI_mul, iI_add, iI_neg, Nat.le_refl, Nat.lt_irrefl, if_true, if_false, ite_true, ite_false, not_true, not_false_eq_true, s_10, e6, hQ.2.2.2.2.2 c hc30 i hi]⟩
theorem l_waits (h : Inv M) (x : Int32) : ∃ r, ew_waits x M = some r ∧ md_waits x M = some r := by
  obtain ⟨n, t, ld, ⟨hc, hn, ht, hl⟩, -, -, -, -, -, -, np, pe, we, wi, wh, se, pa, l, ln, sc, cb, hP, hQ, hwf⟩ := h
  have hl30 := hwf.2.1
  have hl2 : l < 2147483648 := by omega
  rcases pk_ix x (n := l) (by omega) with g | g | ⟨k, hk, rfl⟩
  · exact ⟨-1, by simp (disch := omega) only [x_bd_s, x_bi_s, x_lt_e, x_rd_n, x_wr_n, x_ra_n, x_dv_n, s_lt, s_le, s_eq, s_lt0, s_le0, s_0lt, s_0le, s_eq0, s_sub, s_rem, s_div, s_in, bI_0, bI_1, x_gb_b, x_gb_0, x_gb_1, nI_add, nI_1, s_size, s_abs, s_max, iI_mul, iI_add, iI_neg, Nat.le_refl, Nat.lt_irrefl, if_true, if_false, ite_true, ite_false, not_true, not_false_eq_true, ew_waits, ri_waiting, ro_at_no cap_22 hP.2.2.1 (Or.inl g)], by simp (disch := omega) only [x_bd_s, x_bi_s, x_lt_e, x_rd_n, x_wr_n, x_ra_n, x_dv_n, s_lt, s_le, s_eq, s_lt0, s_le0, s_0lt, s_0le, s_eq0, s_sub, s_rem, s_div, s_in, bI_0, bI_1, x_gb_b, x_gb_0, x_gb_1, nI_add, nI_1, s_size, s_abs, s_max, iI_mul, iI_add, iI_neg, Nat.le_refl, Nat.lt_irrefl, if_true, if_false, ite_true, ite_false, not_true, not_false_eq_true, md_waits, hQ.2.2.1, in_no (M := M) hl2 (Or.inl g)]⟩
  · exact ⟨-1, by simp (disch := omega) only [x_bd_s, x_bi_s, x_lt_e, x_rd_n, x_wr_n, x_ra_n, x_dv_n, s_lt, s_le, s_eq, s_lt0, s_le0, s_0lt, s_0le, s_eq0, s_sub, s_rem, s_div, s_in, bI_0, bI_1, x_gb_b, x_gb_0, x_gb_1, nI_add, nI_1, s_size, s_abs, s_max, iI_mul, iI_add, iI_neg, Nat.le_refl, Nat.lt_irrefl, if_true, if_false, ite_true, ite_false, not_true, not_false_eq_true, ew_waits, ri_waiting, ro_at_no cap_22 hP.2.2.1 (Or.inr g)], by simp (disch := omega) only [x_bd_s, x_bi_s, x_lt_e, x_rd_n, x_wr_n, x_ra_n, x_dv_n, s_lt, s_le, s_eq, s_lt0, s_le0, s_0lt, s_0le, s_eq0, s_sub, s_rem, s_div, s_in, bI_0, bI_1, x_gb_b, x_gb_0, x_gb_1, nI_add, nI_1, s_size, s_abs, s_max, iI_mul, iI_add, iI_neg, Nat.le_refl, Nat.lt_irrefl, if_true, if_false, ite_true, ite_false, not_true, not_false_eq_true, md_waits, hQ.2.2.1, in_no (M := M) hl2 (Or.inr g)]⟩
  · exact ⟨nI (ln k), by simp (disch := omega) only [x_bd_s, x_bi_s, x_lt_e, x_rd_n, x_wr_n, x_ra_n, x_dv_n, s_lt, s_le, s_eq, s_lt0, s_le0, s_0lt, s_0le, s_eq0, s_sub, s_rem, s_div, s_in, bI_0, bI_1, x_gb_b, x_gb_0, x_gb_1, nI_add, nI_1, s_size, s_abs, s_max, iI_mul, iI_add, iI_neg, Nat.le_refl, Nat.lt_irrefl, if_true, if_false, ite_true, ite_false, not_true, not_false_eq_true, ew_waits, ri_waiting, ro_at_ok cap_22 hP.2.2.1 hl30 (show 30 ≤ 1000 by omega) hk, hP.2.2.2.1 k hk], by simp (disch := omega) only [x_bd_s, x_bi_s, x_lt_e, x_rd_n, x_wr_n, x_ra_n, x_dv_n, s_lt, s_le, s_eq, s_lt0, s_le0, s_0lt, s_0le, s_eq0, s_sub, s_rem, s_div, s_in, bI_0, bI_1, x_gb_b, x_gb_0, x_gb_1, nI_add, nI_1, s_size, s_abs, s_max, iI_mul, iI_add, iI_neg, Nat.le_refl, Nat.lt_irrefl, if_true, if_false, ite_true, ite_false, not_true, not_false_eq_true, md_waits, hQ.2.2.1, in_yes (M := M) hk hl2, s_10, hQ.2.2.2.1 k hk]⟩
theorem l_may (h : Inv M) (x : Int32) : ∃ r, ew_may x M = some r ∧ md_may x M = some (r, M) := by
  obtain ⟨n, t, ld, ⟨hc, hn, ht, hl⟩, -, ⟨b, hh, c, p, u1, u2, u3, u4, u5, u6, u7, u8, u9, -⟩, -, -, -, -, np, pe, we, wi, wh, se, pa, l, ln, sc, cb, hP, hQ, hwf⟩ := h
  have hl30 := hwf.2.1
  have hnp := hwf.1
  have hl2 : l < 2147483648 := by omega
  rcases pk_ix x (n := l) (by omega) with g | g | ⟨k, hk, rfl⟩
  · exact ⟨-101, by simp (disch := omega) only [x_bd_s, x_bi_s, x_lt_e, x_rd_n, x_wr_n, x_ra_n, x_dv_n, s_lt, s_le, s_eq, s_lt0, s_le0, s_0lt, s_0le, s_eq0, s_sub, s_rem, s_div, s_in, bI_0, bI_1, x_gb_b, x_gb_0, x_gb_1, nI_add, nI_1, s_size, s_abs, s_max, iI_mul, iI_add, iI_neg, Nat.le_refl, Nat.lt_irrefl, if_true, if_false, ite_true, ite_false, not_true, not_false_eq_true, ew_may, ri_waiting, ro_at_no cap_22 hP.2.2.1 (Or.inl g)], by simp (disch := omega) only [x_bd_s, x_bi_s, x_lt_e, x_rd_n, x_wr_n, x_ra_n, x_dv_n, s_lt, s_le, s_eq, s_lt0, s_le0, s_0lt, s_0le, s_eq0, s_sub, s_rem, s_div, s_in, bI_0, bI_1, x_gb_b, x_gb_0, x_gb_1, nI_add, nI_1, s_size, s_abs, s_max, iI_mul, iI_add, iI_neg, Nat.le_refl, Nat.lt_irrefl, if_true, if_false, ite_true, ite_false, not_true, not_false_eq_true, md_may, hQ.2.2.1, in_no (M := M) hl2 (Or.inl g)]⟩
  · exact ⟨-101, by simp (disch := omega) only [x_bd_s, x_bi_s, x_lt_e, x_rd_n, x_wr_n, x_ra_n, x_dv_n, s_lt, s_le, s_eq, s_lt0, s_le0, s_0lt, s_0le, s_eq0, s_sub, s_rem, s_div, s_in, bI_0, bI_1, x_gb_b, x_gb_0, x_gb_1, nI_add, nI_1, s_size, s_abs, s_max, iI_mul, iI_add, iI_neg, Nat.le_refl, Nat.lt_irrefl, if_true, if_false, ite_true, ite_false, not_true, not_false_eq_true, ew_may, ri_waiting, ro_at_no cap_22 hP.2.2.1 (Or.inr g)], by simp (disch := omega) only [x_bd_s, x_bi_s, x_lt_e, x_rd_n, x_wr_n, x_ra_n, x_dv_n, s_lt, s_le, s_eq, s_lt0, s_le0, s_0lt, s_0le, s_eq0, s_sub, s_rem, s_div, s_in, bI_0, bI_1, x_gb_b, x_gb_0, x_gb_1, nI_add, nI_1, s_size, s_abs, s_max, iI_mul, iI_add, iI_neg, Nat.le_refl, Nat.lt_irrefl, if_true, if_false, ite_true, ite_false, not_true, not_false_eq_true, md_may, hQ.2.2.1, in_no (M := M) hl2 (Or.inr g)]⟩
  · have hp := (hwf.2.2.2.1 k hk).1
    have e1 := mayBoard_ok hc ⟨u1, u2, u3, u4⟩ u9 hP hwf hp
    have e2 := md_mayBoard_ok hc.1 hc.2.1 ⟨hn, ht, hl⟩ ⟨u5, u6, u7, u8⟩ u9 hQ hwf hp
    have e3 : (nI (ln k) = (-1 : Int32)) = False := by
      rw [nI_iI, ← iI_m1, iI_eq (by omega) (by omega) (by omega) (by omega)]
      exact eq_false (by omega)
    have e4 := ro_at_ok cap_22 hP.2.2.1 hl30 (show 30 ≤ 1000 by omega) hk
    rw [show 22 + 1 = 23 from rfl, hP.2.2.2.1 k hk] at e4
    refine ⟨bB (mbB n ld pe we wi sc cb b ((0 + n - t) % n) (ln k)), ?_, ?_⟩
    · simp (disch := omega) only [x_bd_s, x_bi_s, x_lt_e, x_rd_n, x_wr_n, x_ra_n, x_dv_n, s_lt, s_le, s_eq, s_lt0, s_le0, s_0lt, s_0le, s_eq0, s_sub, s_rem, s_div, s_in, bI_0, bI_1, x_gb_b, x_gb_0, x_gb_1, nI_add, nI_1, s_size, s_abs, s_max, iI_mul, iI_add, iI_neg, Nat.le_refl, Nat.lt_irrefl, if_true, if_false, ite_true, ite_false, not_true, not_false_eq_true, ew_may, ri_waiting, e4, e3, e1]
      cases mbB n ld pe we wi sc cb b ((0 + n - t) % n) (ln k) <;> rfl
    · simp (disch := omega) only [x_bd_s, x_bi_s, x_lt_e, x_rd_n, x_wr_n, x_ra_n, x_dv_n, s_lt, s_le, s_eq, s_lt0, s_le0, s_0lt, s_0le, s_eq0, s_sub, s_rem, s_div, s_in, bI_0, bI_1, x_gb_b, x_gb_0, x_gb_1, nI_add, nI_1, s_size, s_abs, s_max, iI_mul, iI_add, iI_neg, Nat.le_refl, Nat.lt_irrefl, if_true, if_false, ite_true, ite_false, not_true, not_false_eq_true, md_may, hQ.2.2.1, in_yes (M := M) hk hl2, s_10, hQ.2.2.2.1 k hk, e2]
      cases mbB n ld pe we wi sc cb b ((0 + n - t) % n) (ln k) <;> rfl
theorem tell_ok {np : Nat} {pe we wi wh se : Nat → Nat} {pa : Nat → Int32} {l : Nat} {ln sc : Nat → Nat} {cb : Nat → Nat → Nat} (hP : cP M np pe we wi wh se pa l ln sc cb) (hQ : mP M np pe we wi wh se pa l ln sc cb) (hnp : np ≤ 200) (hse : ∀ p, p < np → se p ≤ 1) {p : Nat} (hp : p < np) (y : Int32) : ∃ r, pa_tell (nI p) y M = some r ∧ md_partyOf (nI p) y M = some r := by
  have c1 : ¬ nI p < 0 := nI_pos (by omega)
  obtain ⟨a1, a2, a3, a4, a5, a6⟩ := hP.1
  obtain ⟨b1, b2, b3, b4, b5, b6⟩ := hP.2.1 p hp
  obtain ⟨d1, d2, d3, d4, d5, d6⟩ := hQ.2.1 p hp
  have k1 : (200 : Nat) ≤ 1000 := by omega
  by_cases h0 : y = 0
  · exact ⟨nI (pe p), by simp (disch := omega) only [x_bd_s, x_bi_s, x_lt_e, x_rd_n, x_wr_n, x_ra_n, x_dv_n, s_lt, s_le, s_eq, s_lt0, s_le0, s_0lt, s_0le, s_eq0, s_sub, s_rem, s_div, s_in, bI_0, bI_1, x_gb_b, x_gb_0, x_gb_1, nI_add, nI_1, s_size, s_abs, s_max, iI_mul, iI_add, iI_neg, Nat.le_refl, Nat.lt_irrefl, if_true, if_false, ite_true, ite_false, not_true, not_false_eq_true, pa_tell, pa_count, ro_count_ok cap_200.1, a1, hp, h0, q_00, ro_at_ok cap_200.1 a1 hnp k1 hp, b1], by simp (disch := omega) only [x_bd_s, x_bi_s, x_lt_e, x_rd_n, x_wr_n, x_ra_n, x_dv_n, s_lt, s_le, s_eq, s_lt0, s_le0, s_0lt, s_0le, s_eq0, s_sub, s_rem, s_div, s_in, bI_0, bI_1, x_gb_b, x_gb_0, x_gb_1, nI_add, nI_1, s_size, s_abs, s_max, iI_mul, iI_add, iI_neg, Nat.le_refl, Nat.lt_irrefl, if_true, if_false, ite_true, ite_false, not_true, not_false_eq_true, md_partyOf, h0, q_00, d1]⟩
  by_cases h1 : y = 1
  · exact ⟨nI (we p), by simp (disch := omega) only [x_bd_s, x_bi_s, x_lt_e, x_rd_n, x_wr_n, x_ra_n, x_dv_n, s_lt, s_le, s_eq, s_lt0, s_le0, s_0lt, s_0le, s_eq0, s_sub, s_rem, s_div, s_in, bI_0, bI_1, x_gb_b, x_gb_0, x_gb_1, nI_add, nI_1, s_size, s_abs, s_max, iI_mul, iI_add, iI_neg, Nat.le_refl, Nat.lt_irrefl, if_true, if_false, ite_true, ite_false, not_true, not_false_eq_true, pa_tell, pa_count, ro_count_ok cap_200.1, a1, hp, h1, q_10, q_11, ro_at_ok cap_200.2.1 a2 hnp k1 hp, b2], by simp (disch := omega) only [x_bd_s, x_bi_s, x_lt_e, x_rd_n, x_wr_n, x_ra_n, x_dv_n, s_lt, s_le, s_eq, s_lt0, s_le0, s_0lt, s_0le, s_eq0, s_sub, s_rem, s_div, s_in, bI_0, bI_1, x_gb_b, x_gb_0, x_gb_1, nI_add, nI_1, s_size, s_abs, s_max, iI_mul, iI_add, iI_neg, Nat.le_refl, Nat.lt_irrefl, if_true, if_false, ite_true, ite_false, not_true, not_false_eq_true, md_partyOf, h1, q_10, q_11, d2]⟩
  by_cases h2 : y = 2
  · exact ⟨nI (wi p), by simp (disch := omega) only [x_bd_s, x_bi_s, x_lt_e, x_rd_n, x_wr_n, x_ra_n, x_dv_n, s_lt, s_le, s_eq, s_lt0, s_le0, s_0lt, s_0le, s_eq0, s_sub, s_rem, s_div, s_in, bI_0, bI_1, x_gb_b, x_gb_0, x_gb_1, nI_add, nI_1, s_size, s_abs, s_max, iI_mul, iI_add, iI_neg, Nat.le_refl, Nat.lt_irrefl, if_true, if_false, ite_true, ite_false, not_true, not_false_eq_true, pa_tell, pa_count, ro_count_ok cap_200.1, a1, hp, h2, q_20, q_21, q_22, ro_at_ok cap_200.2.2.1 a3 hnp k1 hp, b3], by simp (disch := omega) only [x_bd_s, x_bi_s, x_lt_e, x_rd_n, x_wr_n, x_ra_n, x_dv_n, s_lt, s_le, s_eq, s_lt0, s_le0, s_0lt, s_0le, s_eq0, s_sub, s_rem, s_div, s_in, bI_0, bI_1, x_gb_b, x_gb_0, x_gb_1, nI_add, nI_1, s_size, s_abs, s_max, iI_mul, iI_add, iI_neg, Nat.le_refl, Nat.lt_irrefl, if_true, if_false, ite_true, ite_false, not_true, not_false_eq_true, md_partyOf, h2, q_20, q_21, q_22, d3]⟩
  by_cases h3 : y = 3
  · exact ⟨nI (wh p), by simp (disch := omega) only [x_bd_s, x_bi_s, x_lt_e, x_rd_n, x_wr_n, x_ra_n, x_dv_n, s_lt, s_le, s_eq, s_lt0, s_le0, s_0lt, s_0le, s_eq0, s_sub, s_rem, s_div, s_in, bI_0, bI_1, x_gb_b, x_gb_0, x_gb_1, nI_add, nI_1, s_size, s_abs, s_max, iI_mul, iI_add, iI_neg, Nat.le_refl, Nat.lt_irrefl, if_true, if_false, ite_true, ite_false, not_true, not_false_eq_true, pa_tell, pa_count, ro_count_ok cap_200.1, a1, hp, h3, q_30, q_31, q_32, q_33, ro_at_ok cap_200.2.2.2.1 a4 hnp k1 hp, b4], by simp (disch := omega) only [x_bd_s, x_bi_s, x_lt_e, x_rd_n, x_wr_n, x_ra_n, x_dv_n, s_lt, s_le, s_eq, s_lt0, s_le0, s_0lt, s_0le, s_eq0, s_sub, s_rem, s_div, s_in, bI_0, bI_1, x_gb_b, x_gb_0, x_gb_1, nI_add, nI_1, s_size, s_abs, s_max, iI_mul, iI_add, iI_neg, Nat.le_refl, Nat.lt_irrefl, if_true, if_false, ite_true, ite_false, not_true, not_false_eq_true, md_partyOf, h3, q_30, q_31, q_32, q_33, d4]⟩
  by_cases h4 : y = 4
  · refine ⟨nI (se p), by simp (disch := omega) only [x_bd_s, x_bi_s, x_lt_e, x_rd_n, x_wr_n, x_ra_n, x_dv_n, s_lt, s_le, s_eq, s_lt0, s_le0, s_0lt, s_0le, s_eq0, s_sub, s_rem, s_div, s_in, bI_0, bI_1, x_gb_b, x_gb_0, x_gb_1, nI_add, nI_1, s_size, s_abs, s_max, iI_mul, iI_add, iI_neg, Nat.le_refl, Nat.lt_irrefl, if_true, if_false, ite_true, ite_false, not_true, not_false_eq_true, pa_tell, pa_count, ro_count_ok cap_200.1, a1, hp, h4, q_40, q_41, q_42, q_43, q_44, ro_at_ok cap_200.2.2.2.2.1 a5 hnp k1 hp, b5], ?_⟩
    have := hse p hp
    simp (disch := omega) only [x_bd_s, x_bi_s, x_lt_e, x_rd_n, x_wr_n, x_ra_n, x_dv_n, s_lt, s_le, s_eq, s_lt0, s_le0, s_0lt, s_0le, s_eq0, s_sub, s_rem, s_div, s_in, bI_0, bI_1, x_gb_b, x_gb_0, x_gb_1, nI_add, nI_1, s_size, s_abs, s_max, iI_mul, iI_add, iI_neg, Nat.le_refl, Nat.lt_irrefl, if_true, if_false, ite_true, ite_false, not_true, not_false_eq_true, md_partyOf, h4, q_40, q_41, q_42, q_43, q_44, d5]
    obtain e | e : se p = 0 ∨ se p = 1 := by omega
    · rw [e]
      rfl
    · rw [e]
      rfl
  by_cases h5 : y = 5
  · exact ⟨pa p, by simp (disch := omega) only [x_bd_s, x_bi_s, x_lt_e, x_rd_n, x_wr_n, x_ra_n, x_dv_n, s_lt, s_le, s_eq, s_lt0, s_le0, s_0lt, s_0le, s_eq0, s_sub, s_rem, s_div, s_in, bI_0, bI_1, x_gb_b, x_gb_0, x_gb_1, nI_add, nI_1, s_size, s_abs, s_max, iI_mul, iI_add, iI_neg, Nat.le_refl, Nat.lt_irrefl, if_true, if_false, ite_true, ite_false, not_true, not_false_eq_true, pa_tell, pa_count, ro_count_ok cap_200.1, a1, hp, h5, q_50, q_51, q_52, q_53, q_54, q_55, ro_at_ok cap_200.2.2.2.2.2 a6 hnp k1 hp, b6], by simp (disch := omega) only [x_bd_s, x_bi_s, x_lt_e, x_rd_n, x_wr_n, x_ra_n, x_dv_n, s_lt, s_le, s_eq, s_lt0, s_le0, s_0lt, s_0le, s_eq0, s_sub, s_rem, s_div, s_in, bI_0, bI_1, x_gb_b, x_gb_0, x_gb_1, nI_add, nI_1, s_size, s_abs, s_max, iI_mul, iI_add, iI_neg, Nat.le_refl, Nat.lt_irrefl, if_true, if_false, ite_true, ite_false, not_true, not_false_eq_true, md_partyOf, h5, q_50, q_51, q_52, q_53, q_54, q_55, d6]⟩
  exact ⟨-102, by simp (disch := omega) only [x_bd_s, x_bi_s, x_lt_e, x_rd_n, x_wr_n, x_ra_n, x_dv_n, s_lt, s_le, s_eq, s_lt0, s_le0, s_0lt, s_0le, s_eq0, s_sub, s_rem, s_div, s_in, bI_0, bI_1, x_gb_b, x_gb_0, x_gb_1, nI_add, nI_1, s_size, s_abs, s_max, iI_mul, iI_add, iI_neg, Nat.le_refl, Nat.lt_irrefl, if_true, if_false, ite_true, ite_false, not_true, not_false_eq_true, pa_tell, pa_count, ro_count_ok cap_200.1, a1, hp, h0, h1, h2, h3, h4, h5], by simp (disch := omega) only [x_bd_s, x_bi_s, x_lt_e, x_rd_n, x_wr_n, x_ra_n, x_dv_n, s_lt, s_le, s_eq, s_lt0, s_le0, s_0lt, s_0le, s_eq0, s_sub, s_rem, s_div, s_in, bI_0, bI_1, x_gb_b, x_gb_0, x_gb_1, nI_add, nI_1, s_size, s_abs, s_max, iI_mul, iI_add, iI_neg, Nat.le_refl, Nat.lt_irrefl, if_true, if_false, ite_true, ite_false, not_true, not_false_eq_true, md_partyOf, h0, h1, h2, h3, h4, h5]⟩
theorem l_party (h : Inv M) (x y : Int32) : ∃ r, ew_party x y M = some r ∧ md_party x y M = some r := by
  obtain ⟨n, t, ld, ⟨hc, hn, ht, hl⟩, -, -, -, -, -, -, np, pe, we, wi, wh, se, pa, l, ln, sc, cb, hP, hQ, hwf⟩ := h
  have hnp := hwf.1
  have hl2 : np < 2147483648 := by omega
  rcases pk_ix x (n := np) (by omega) with g | g | ⟨p, hp, rfl⟩
  · exact ⟨-101, by simp (disch := omega) only [x_bd_s, x_bi_s, x_lt_e, x_rd_n, x_wr_n, x_ra_n, x_dv_n, s_lt, s_le, s_eq, s_lt0, s_le0, s_0lt, s_0le, s_eq0, s_sub, s_rem, s_div, s_in, bI_0, bI_1, x_gb_b, x_gb_0, x_gb_1, nI_add, nI_1, s_size, s_abs, s_max, iI_mul, iI_add, iI_neg, Nat.le_refl, Nat.lt_irrefl, if_true, if_false, ite_true, ite_false, not_true, not_false_eq_true, ew_party, ri_tellParty, pa_tell, g], by simp (disch := omega) only [x_bd_s, x_bi_s, x_lt_e, x_rd_n, x_wr_n, x_ra_n, x_dv_n, s_lt, s_le, s_eq, s_lt0, s_le0, s_0lt, s_0le, s_eq0, s_sub, s_rem, s_div, s_in, bI_0, bI_1, x_gb_b, x_gb_0, x_gb_1, nI_add, nI_1, s_size, s_abs, s_max, iI_mul, iI_add, iI_neg, Nat.le_refl, Nat.lt_irrefl, if_true, if_false, ite_true, ite_false, not_true, not_false_eq_true, md_party, hQ.1, in_no (M := M) hl2 (Or.inl g)]⟩
  · refine ⟨-101, ?_, by simp (disch := omega) only [x_bd_s, x_bi_s, x_lt_e, x_rd_n, x_wr_n, x_ra_n, x_dv_n, s_lt, s_le, s_eq, s_lt0, s_le0, s_0lt, s_0le, s_eq0, s_sub, s_rem, s_div, s_in, bI_0, bI_1, x_gb_b, x_gb_0, x_gb_1, nI_add, nI_1, s_size, s_abs, s_max, iI_mul, iI_add, iI_neg, Nat.le_refl, Nat.lt_irrefl, if_true, if_false, ite_true, ite_false, not_true, not_false_eq_true, md_party, hQ.1, in_no (M := M) hl2 (Or.inr g)]⟩
    have e : ¬ x < nI np := Int32.not_lt.mpr g
    simp only [ew_party, ri_tellParty, pa_tell, pa_count, ro_count_ok cap_200.1, hP.1.1, x_bd_s, e, if_false]
    split <;> rfl
  · obtain ⟨r, e1, e2⟩ := tell_ok hP hQ hnp (fun p hp => (hwf.2.2.1 p hp).2.2.2.2.2.1) hp y
    exact ⟨r, by simp (disch := omega) only [x_bd_s, x_bi_s, x_lt_e, x_rd_n, x_wr_n, x_ra_n, x_dv_n, s_lt, s_le, s_eq, s_lt0, s_le0, s_0lt, s_0le, s_eq0, s_sub, s_rem, s_div, s_in, bI_0, bI_1, x_gb_b, x_gb_0, x_gb_1, nI_add, nI_1, s_size, s_abs, s_max, iI_mul, iI_add, iI_neg, Nat.le_refl, Nat.lt_irrefl, if_true, if_false, ite_true, ite_false, not_true, not_false_eq_true, ew_party, ri_tellParty, e1], by simp (disch := omega) only [x_bd_s, x_bi_s, x_lt_e, x_rd_n, x_wr_n, x_ra_n, x_dv_n, s_lt, s_le, s_eq, s_lt0, s_le0, s_0lt, s_0le, s_eq0, s_sub, s_rem, s_div, s_in, bI_0, bI_1, x_gb_b, x_gb_0, x_gb_1, nI_add, nI_1, s_size, s_abs, s_max, iI_mul, iI_add, iI_neg, Nat.le_refl, Nat.lt_irrefl, if_true, if_false, ite_true, ite_false, not_true, not_false_eq_true, md_party, hQ.1, in_yes (M := M) hp hl2, s_10, e2]⟩
end
