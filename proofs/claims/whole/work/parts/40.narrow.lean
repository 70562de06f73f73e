/-! NARROWED -/
def dnI (a b : Int32) : Int32 := if x_rem a b = 0 then a / b else if (a < 0) = (b < 0) then a / b else a / b - 1
def mxI (a b : Int32) : Int32 := if a < b then b else a
def mnI (a b : Int32) : Int32 := if b < a then b else a
/-- low, high and whether something is left, of a cabin that leans by a from f to t -/
def ncI (a f t lo hi : Int32) : Int32 × Int32 × Bool := if a = 0 then (lo, hi, decide (f ≤ 0) && decide (0 ≤ t)) else (mxI lo (-(dnI (-(if a ≤ 0 then t else f)) a)), mnI hi (dnI (if a ≤ 0 then f else t) a), decide (mxI lo (-(dnI (-(if a ≤ 0 then t else f)) a)) ≤ mnI hi (dnI (if a ≤ 0 then f else t) a)))
def smI : Nat → (Nat → Int32) → Int32
  | 0, _ => 0
  | k + 1, f => smI k f + f k
def lsI (a : Nat → Int32) (lo hi : Nat → Int32) (c : Nat) : Int32 := if a c ≤ 0 then a c * hi c else a c * lo c
def msI (a : Nat → Int32) (lo hi : Nat → Int32) (c : Nat) : Int32 := if a c ≤ 0 then a c * lo c else a c * hi c
def smX (n c : Nat) (f : Nat → Int32) : Int32 := smI n (fun d => if d = c then 0 else f d)
theorem smI_cong {f g : Nat → Int32} : ∀ {k : Nat}, (∀ c, c < k → f c = g c) → smI k f = smI k g
  | 0, _ => rfl
  | k + 1, h => by rw [smI, smI, smI_cong (fun c hc => h c (by omega)), h k (by omega)]
theorem smX_all {f : Nat → Int32} {c : Nat} : ∀ {k : Nat}, c < k → smX k c f = smI k f - f c
  | 0, h => by omega
  | k + 1, h => by
    unfold smX
    rw [smI, smI]
    by_cases e : c = k
    · subst e
      have : smI c (fun d => if d = c then 0 else f d) = smI c f := smI_cong (fun d hd => by rw [if_neg (by omega)])
      rw [this, if_pos rfl]
      grind
    · have := smX_all (f := f) (show c < k by omega)
      unfold smX at this
      rw [this, if_neg (fun q => e q.symm)]
      grind
theorem xor_neg (a b : Int32) : (0 ≤ a ^^^ b) = ((a < 0) = (b < 0)) := by
  have h : ∀ x : Int32, (x < 0) = (x.toBitVec.msb = true) := by
    intro x
    rw [Int32.lt_iff_toBitVec_slt, BitVec.slt_eq_decide, BitVec.msb_eq_toInt]
    simp
  have h2 : (0 ≤ a ^^^ b) = ¬ (a ^^^ b < 0) := propext Int32.not_lt.symm
  rw [h2, h a, h b, h (a ^^^ b), Int32.toBitVec_xor, BitVec.msb_xor]
  cases a.toBitVec.msb <;> cases b.toBitVec.msb <;> simp
section
variable {M : e_Me}
theorem down_ok {a b : Int32} (hb : ¬ b = 0) : md_down a b M = some (dnI a b) := by
  have e : ∀ v, x_dv b v = (v : Option Int32) := fun v => if_neg hb
  simp only [md_down, e, x_lt_e, dnI]
  by_cases h1 : x_rem a b = 0
  · rw [if_pos h1, if_pos h1]
  · rw [if_neg h1, if_neg h1]
    by_cases h2 : (0 : Int32) ≤ a <;> by_cases h3 : (0 : Int32) ≤ b
    · have h4 : ¬ a < 0 := Int32.not_lt.mpr h2
      have h5 : ¬ b < 0 := Int32.not_lt.mpr h3
      simp [md_down_b19, md_down_b28, h2, h3, h4, h5]
    · have h4 : ¬ a < 0 := Int32.not_lt.mpr h2
      have h5 : b < 0 := Int32.not_le.mp h3
      simp [md_down_b19, md_down_b28, h2, h3, h4, h5]
    · have h4 : a < 0 := Int32.not_le.mp h2
      have h5 : ¬ b < 0 := Int32.not_lt.mpr h3
      simp [md_down_b19, md_down_b28, h2, h3, h4, h5]
    · have h4 : a < 0 := Int32.not_le.mp h2
      have h5 : b < 0 := Int32.not_le.mp h3
      simp [md_down_b19, md_down_b28, h2, h3, h4, h5]
theorem floor_ok {a b : Int32} (hb : ¬ b = 0) : ma_floorDiv a b M = some (dnI a b) := by
  have e : ∀ v, x_dv b v = (v : Option Int32) := fun v => if_neg hb
  have h0 : (a / b * b = a) = (x_rem a b = 0) := by
    unfold x_rem
    refine propext ⟨fun h => by rw [h]; exact Int32.sub_self a, fun h => ?_⟩
    have : a - a / b * b + a / b * b = 0 + a / b * b := by rw [h]
    rw [Int32.sub_add_cancel, Int32.zero_add] at this
    exact this.symm
  simp only [ma_floorDiv, e, x_lt_e, xor_neg, h0, dnI]
  by_cases h1 : x_rem a b = 0
  · simp [h1]
  · by_cases h2 : (a < 0) = (b < 0)
    · simp only [h1, h2, if_true, if_false]
    · simp only [h1, h2, if_true, if_false]
theorem up_ok {a b : Int32} (hb : ¬ b = 0) : md_upward a b M = some (-(dnI (-a) b)) := by
  simp only [md_upward, down_ok hb, x_bd_s]
theorem dd_ok {a b : Int32} (hb : ¬ b = 0) : re_dividedDown a b M = some (dnI a b) := by
  simp only [re_dividedDown, hb, if_false, floor_ok hb, x_bd_s]
theorem du_ok {a b : Int32} (hb : ¬ b = 0) : re_dividedUp a b M = some (-(dnI (-a) b)) := by
  simp only [re_dividedUp, dd_ok hb, x_bd_s]
theorem holds_ok {c : Nat} (hc : c < 30) : re_holds (nI c) M = some 1 := by
  have : ¬ 30 ≤ c := by omega
  simp (disch := omega) only [x_bd_s, x_bi_s, x_lt_e, x_rd_n, x_wr_n, x_ra_n, x_dv_n, s_lt, s_le, s_eq, s_lt0, s_le0, s_0lt, s_0le, s_eq0, s_sub, s_rem, s_div, s_in, bI_0, bI_1, x_gb_b, x_gb_0, x_gb_1, nI_add, nI_1, s_size, s_abs, s_max, iI_mul, iI_add, iI_neg, Nat.le_refl, Nat.lt_irrefl, if_true, if_false, ite_true, ite_false, not_true, not_false_eq_true, re_holds, show (30 : Int32) = nI 30 from rfl, this]
theorem lowOf_ok {c : Nat} (hc : c < 30) : re_lowOf (nI c) M = some (M 174 c) := by
  simp (disch := omega) only [x_bd_s, x_bi_s, x_lt_e, x_rd_n, x_wr_n, x_ra_n, x_dv_n, s_lt, s_le, s_eq, s_lt0, s_le0, s_0lt, s_0le, s_eq0, s_sub, s_rem, s_div, s_in, bI_0, bI_1, x_gb_b, x_gb_0, x_gb_1, nI_add, nI_1, s_size, s_abs, s_max, iI_mul, iI_add, iI_neg, Nat.le_refl, Nat.lt_irrefl, if_true, if_false, ite_true, ite_false, not_true, not_false_eq_true, re_lowOf, holds_ok hc, s_10]
theorem highOf_ok {c : Nat} (hc : c < 30) : re_highOf (nI c) M = some (M 175 c) := by
  simp (disch := omega) only [x_bd_s, x_bi_s, x_lt_e, x_rd_n, x_wr_n, x_ra_n, x_dv_n, s_lt, s_le, s_eq, s_lt0, s_le0, s_0lt, s_0le, s_eq0, s_sub, s_rem, s_div, s_in, bI_0, bI_1, x_gb_b, x_gb_0, x_gb_1, nI_add, nI_1, s_size, s_abs, s_max, iI_mul, iI_add, iI_neg, Nat.le_refl, Nat.lt_irrefl, if_true, if_false, ite_true, ite_false, not_true, not_false_eq_true, re_highOf, holds_ok hc, s_10]
theorem max_I (a b : Int32) : ma_max a b M = some (mxI a b) := by
  unfold ma_max mxI
  split <;> rfl
theorem min_I (a b : Int32) : ma_min a b M = some (mnI a b) := by
  unfold ma_min mnI
  split <;> rfl
/-- the memory with a cabin's low and high anew -/
def upN (M : e_Me) (i j c : Nat) (r : Int32 × Int32 × Bool) : e_Me := e_up (e_up M i c r.1) j c r.2.1
theorem upd_self (M : e_Me) (i j c : Nat) : e_up (e_up M i c (M i c)) j c (M j c) = M := by
  funext u v
  by_cases h1 : u = j ∧ v = c
  · rw [h1.1, h1.2, e_up_e]
  · by_cases h2 : u = i ∧ v = c
    · rw [e_up_o (by omega), h2.1, h2.2, e_up_e]
    · rw [e_up_o (by omega), e_up_o (by omega)]
theorem cabin_ok {c : Nat} (hc : c < 30) (a f t : Int32) : re_narrowCabin (nI c) a f t M = some (bB (ncI a f t (M 174 c) (M 175 c)).2.2, upN M 174 175 c (ncI a f t (M 174 c) (M 175 c))) := by
  unfold ncI
  by_cases ha : a = 0
  · rw [if_pos ha]
    simp only [upN, upd_self]
    simp (disch := omega) only [x_bd_s, x_bi_s, x_lt_e, x_rd_n, x_wr_n, x_ra_n, x_dv_n, s_lt, s_le, s_eq, s_lt0, s_le0, s_0lt, s_0le, s_eq0, s_sub, s_rem, s_div, s_in, bI_0, bI_1, x_gb_b, x_gb_0, x_gb_1, nI_add, nI_1, s_size, s_abs, s_max, iI_mul, iI_add, iI_neg, Nat.le_refl, Nat.lt_irrefl, if_true, if_false, ite_true, ite_false, not_true, not_false_eq_true, re_narrowCabin, ha, re_narrowCabin_b11]
    by_cases h1 : 0 < f
    · rw [if_pos h1, decide_eq_false (Int32.not_le.mpr h1)]
      rfl
    · rw [if_neg h1, decide_eq_true (Int32.not_lt.mp h1)]
      by_cases h2 : t < 0
      · rw [if_pos h2, decide_eq_false (Int32.not_le.mpr h2)]
        rfl
      · rw [if_neg h2, decide_eq_true (Int32.not_lt.mp h2)]
        rfl
  · rw [if_neg ha]
    have fin : ∀ (lo hi : Int32), (if hi < lo then some ((0 : Int32), upN M 174 175 c (lo, hi, decide (lo ≤ hi))) else some ((1 : Int32), upN M 174 175 c (lo, hi, decide (lo ≤ hi)))) = some (bB (decide (lo ≤ hi)), upN M 174 175 c (lo, hi, decide (lo ≤ hi))) := by
      intro lo hi
      by_cases h : hi < lo
      · rw [if_pos h, decide_eq_false (Int32.not_le.mpr h)]
        rfl
      · rw [if_neg h, decide_eq_true (Int32.not_lt.mp h)]
        rfl
    have e1 : ∀ (lo hi : Int32), e_up (e_up M 174 c lo) 175 c hi 174 c = lo := fun lo hi => by rw [e_up_o (by omega), e_up_e]
    have e2 : ∀ (lo : Int32), e_up M 174 c lo 175 c = M 175 c := fun lo => e_up_o (by omega)
    by_cases h1 : a ≤ 0
    · rw [if_pos h1, if_pos h1]
      simp (disch := omega) only [x_bd_s, x_bi_s, x_lt_e, x_rd_n, x_wr_n, x_ra_n, x_dv_n, s_lt, s_le, s_eq, s_lt0, s_le0, s_0lt, s_0le, s_eq0, s_sub, s_rem, s_div, s_in, bI_0, bI_1, x_gb_b, x_gb_0, x_gb_1, nI_add, nI_1, s_size, s_abs, s_max, iI_mul, iI_add, iI_neg, Nat.le_refl, Nat.lt_irrefl, if_true, if_false, ite_true, ite_false, not_true, not_false_eq_true, re_narrowCabin, ha, holds_ok hc, s_10, h1, re_narrowCabin_b47, du_ok ha, max_I, re_narrowCabin_b76, dd_ok ha, min_I, e1, e2, e_up_e]
      exact fin _ _
    · rw [if_neg h1, if_neg h1]
      simp (disch := omega) only [x_bd_s, x_bi_s, x_lt_e, x_rd_n, x_wr_n, x_ra_n, x_dv_n, s_lt, s_le, s_eq, s_lt0, s_le0, s_0lt, s_0le, s_eq0, s_sub, s_rem, s_div, s_in, bI_0, bI_1, x_gb_b, x_gb_0, x_gb_1, nI_add, nI_1, s_size, s_abs, s_max, iI_mul, iI_add, iI_neg, Nat.le_refl, Nat.lt_irrefl, if_true, if_false, ite_true, ite_false, not_true, not_false_eq_true, re_narrowCabin, ha, holds_ok hc, s_10, h1, re_narrowCabin_b47, du_ok ha, max_I, re_narrowCabin_b76, dd_ok ha, min_I, e1, e2, e_up_e]
      exact fin _ _
end
