/-! the wheel: what leans it, in the class and in the reference -/
def okn (n : Nat) : Prop := n = 6 ∨ n = 10 ∨ n = 12 ∨ n = 20 ∨ n = 30
theorem okn_b {n : Nat} (h : okn n) : 6 ≤ n ∧ n ≤ 30 := by
  unfold okn at h
  omega
theorem okn_in {n : Nat} (h : okn n) : n ∈ [6, 10, 12, 20, 30] := by
  rcases h with rfl | rfl | rfl | rfl | rfl <;> decide
def tabZ (u : Nat) : Nat := [0, 10, 21, 31, 41, 50, 59, 67, 74, 81, 87, 91, 95, 98, 99, 100].getD u 100
theorem tabZ_le (u : Nat) : tabZ u ≤ 100 := by
  rcases Nat.lt_or_ge u 16 with h | h
  · have : ∀ u, u < 16 → tabZ u ≤ 100 := by decide
    exact this u h
  · unfold tabZ
    rw [List.getD_eq_getElem?_getD, List.getElem?_eq_none h]
    decide
def armZ (n p : Nat) : Int := if 30 < 60 * p / n then -(tabZ (if 15 < 60 * p / n % 30 then 30 - 60 * p / n % 30 else 60 * p / n % 30) : Int) else (tabZ (if 15 < 60 * p / n % 30 then 30 - 60 * p / n % 30 else 60 * p / n % 30) : Int)
theorem armZ_b (n p : Nat) : -100 ≤ armZ n p ∧ armZ n p ≤ 100 := by
  have := tabZ_le (if 15 < 60 * p / n % 30 then 30 - 60 * p / n % 30 else 60 * p / n % 30)
  unfold armZ
  split <;> omega
def smZ : Nat → (Nat → Int) → Int
  | 0, _ => 0
  | k + 1, f => smZ k f + f k
theorem smZ_cong {k : Nat} {f g : Nat → Int} (h : ∀ c, c < k → f c = g c) : smZ k f = smZ k g := by
  induction k with
  | zero => rfl
  | succ k ih =>
    simp only [smZ]
    rw [ih (fun c hc => h c (by omega)), h k (by omega)]
theorem smZ_b {k : Nat} {f : Nat → Int} {B : Int} (h : ∀ c, c < k → -B ≤ f c ∧ f c ≤ B) : -(k * B) ≤ smZ k f ∧ smZ k f ≤ k * B := by
  induction k with
  | zero => simp [smZ]
  | succ k ih =>
    have h1 := ih (fun c hc => h c (by omega))
    have h2 := h k (by omega)
    simp only [smZ]
    have : ((k + 1 : Nat) : Int) * B = k * B + B := by
      rw [Int.natCast_add, Int.add_mul]
      simp
    omega
theorem smZ_add (k : Nat) (f g : Nat → Int) : smZ k (fun c => f c + g c) = smZ k f + smZ k g := by
  induction k with
  | zero => rfl
  | succ k ih =>
    simp only [smZ]
    rw [ih]
    omega
theorem smZ_one {k c : Nat} (hc : c < k) (x : Int) : smZ k (fun d => if d = c then x else 0) = x := by
  have z : ∀ j, j ≤ c → smZ j (fun d => if d = c then x else 0) = 0 := by
    intro j
    induction j with
    | zero => intro _; rfl
    | succ j ih =>
      intro hj
      simp only [smZ]
      rw [ih (by omega), if_neg (by omega)]
      rfl
  induction k with
  | zero => omega
  | succ k ih =>
    simp only [smZ]
    by_cases h : c = k
    · subst h
      rw [z c (Nat.le_refl _), if_pos rfl]
      omega
    · rw [ih (by omega), if_neg (fun q => h q.symm)]
      omega
/-- LEAN at a TURN -/
def lnZ (n : Nat) (f : Nat → Int) (r : Nat) : Int := smZ n (fun c => f c * armZ n ((c + r) % n))
theorem lnZ_cong {n r : Nat} {f g : Nat → Int} (h : ∀ c, c < n → f c = g c) : lnZ n f r = lnZ n g r := smZ_cong (fun c hc => by rw [h c hc])
theorem mul_b {x a : Int} (h1 : -2000 ≤ x) (h2 : x ≤ 2000) (h3 : -100 ≤ a) (h4 : a ≤ 100) : -200000 ≤ x * a ∧ x * a ≤ 200000 := by
  have e1 : (x * a).natAbs = x.natAbs * a.natAbs := Int.natAbs_mul x a
  have e2 : x.natAbs * a.natAbs ≤ 2000 * 100 := Nat.mul_le_mul (by omega) (by omega)
  omega
theorem lnZ_b {n r : Nat} {f : Nat → Int} (hk : okn n) (h : ∀ c, c < n → -2000 ≤ f c ∧ f c ≤ 2000) : -6000000 ≤ lnZ n f r ∧ lnZ n f r ≤ 6000000 := by
  have := okn_b hk
  have h1 := smZ_b (k := n) (f := fun c => f c * armZ n ((c + r) % n)) (B := 200000) (fun c hc => mul_b (h c hc).1 (h c hc).2 (armZ_b _ _).1 (armZ_b _ _).2)
  unfold lnZ
  omega
theorem lnZ_upd {n r c : Nat} {f : Nat → Int} {w : Int} (hc : c < n) : lnZ n (fun d => f d + if d = c then w else 0) r = lnZ n f r + w * armZ n ((c + r) % n) := by
  unfold lnZ
  rw [← smZ_one hc (w * armZ n ((c + r) % n)), ← smZ_add]
  refine smZ_cong (fun d hd => ?_)
  by_cases h : d = c
  · subst h
    simp only [if_true]
    rw [Int.add_mul]
  · simp [h]
/-- the least of those that are greatest; the greatest -/
def wsN (f : Nat → Nat) : Nat → Nat
  | 0 => 0
  | k + 1 => if f (wsN f k) < f k then k else wsN f k
def mxN (f : Nat → Nat) : Nat → Nat
  | 0 => 0
  | k + 1 => max (mxN f k) (f k)
theorem wsN_lt (f : Nat → Nat) : ∀ k, wsN f (k + 1) < k + 1
  | 0 => by simp [wsN]
  | k + 1 => by
    have := wsN_lt f k
    rw [wsN]
    split <;> omega
theorem wsN_lt' (f : Nat → Nat) {k : Nat} (h : 0 < k) : wsN f k < k := by
  obtain ⟨k, rfl⟩ : ∃ k', k = k' + 1 := ⟨k - 1, by omega⟩
  exact wsN_lt f k
theorem mx_ws (f : Nat → Nat) : ∀ k, mxN f (k + 1) = f (wsN f (k + 1))
  | 0 => by simp [wsN, mxN]
  | k + 1 => by
    have := mx_ws f k
    rw [mxN, this, show wsN f (k + 1 + 1) = if f (wsN f (k + 1)) < f (k + 1) then k + 1 else wsN f (k + 1) from rfl]
    split <;> omega
theorem mx_ws' (f : Nat → Nat) {k : Nat} (h : 0 < k) : mxN f k = f (wsN f k) := by
  obtain ⟨k, rfl⟩ : ∃ k', k = k' + 1 := ⟨k - 1, by omega⟩
  exact mx_ws f k
theorem wsN_cong {f g : Nat → Nat} : ∀ {k : Nat}, (∀ c, c < k → f c = g c) → wsN f k = wsN g k
  | 0, _ => rfl
  | k + 1, h => by
    have e := wsN_cong (k := k) (fun c hc => h c (by omega))
    rw [wsN, wsN, e]
    rcases Nat.eq_zero_or_pos k with h0 | h0
    · subst h0
      simp [wsN]
    · rw [h _ (by have := wsN_lt' g h0; omega), h k (by omega)]
theorem mxN_cong {f g : Nat → Nat} : ∀ {k : Nat}, (∀ c, c < k → f c = g c) → mxN f k = mxN g k
  | 0, _ => rfl
  | k + 1, h => by rw [mxN, mxN, mxN_cong (k := k) (fun c hc => h c (by omega)), h k (by omega)]
theorem mxN_b {f : Nat → Nat} {B : Nat} : ∀ {k : Nat}, (∀ c, c < k → f c ≤ B) → mxN f k ≤ B
  | 0, _ => Nat.zero_le _
  | k + 1, h => by
    rw [mxN]
    exact Nat.max_le.mpr ⟨mxN_b (fun c hc => h c (by omega)), h k (by omega)⟩
theorem md2 {a n : Nat} (h : a < n + n) : a % n = if a < n then a else a - n := by
  split
  · exact Nat.mod_eq_of_lt (by assumption)
  · rw [Nat.mod_eq_sub_mod (by omega), Nat.mod_eq_of_lt (by omega)]
/-! the reference -/
theorem md_armOf_all : ∀ n ∈ [6, 10, 12, 20, 30], ∀ p, p < n → md_armOf (nI p) (fun _ _ => nI n) = some (iI (armZ n p)) := by decide +kernel
section
variable {M : e_Me} {n t r : Nat} {f : Nat → Int}
theorem md_armOf_ok {p : Nat} (hk : okn n) (hn : M 182 0 = nI n) (hp : p < n) : md_armOf (nI p) M = some (iI (armZ n p)) := by
  have e : md_armOf (nI p) M = md_armOf (nI p) (fun _ _ => M 182 0) := rfl
  rw [e, hn]
  exact md_armOf_all n (okn_in hk) p hp
theorem md_leanOf_ok (hk : okn n) (hn : M 182 0 = nI n) (hf : ∀ c, c < n → M 185 c = iI (f c)) (hr : r < n) : md_leanOf (nI r) M = some (iI (lnZ n f r)) := by
  have hb := okn_b hk
  have key : ∀ (d c F : Nat), c + d = n → d < F → md_leanOf_l4 (nI r) M F (iI (smZ c (fun c => f c * armZ n ((c + r) % n)))) (nI c) = some (iI (lnZ n f r)) := by
    intro d
    induction d with
    | zero =>
      intro c F h1 h2
      obtain ⟨F, rfl⟩ : ∃ F', F = F' + 1 := ⟨F - 1, by omega⟩
      have hc : c = n := by omega
      subst hc
      simp (disch := omega) only [x_bd_s, x_bi_s, x_lt_e, x_rd_n, x_wr_n, x_ra_n, x_dv_n, s_lt, s_le, s_eq, s_lt0, s_le0, s_0lt, s_0le, s_eq0, s_sub, s_rem, s_div, s_in, bI_0, bI_1, x_gb_b, x_gb_0, x_gb_1, nI_add, nI_1, s_size, s_abs, s_max, iI_mul, iI_add, iI_neg, Nat.le_refl, Nat.lt_irrefl, if_true, if_false, ite_true, ite_false, not_true, not_false_eq_true, md_leanOf_l4, hn]
      rfl
    | succ d ih =>
      intro c F h1 h2
      obtain ⟨F, rfl⟩ : ∃ F', F = F' + 1 := ⟨F - 1, by omega⟩
      have c1 : ¬ n ≤ c := by omega
      have hm := Nat.mod_lt (c + r) (show 0 < n by omega)
      simp (disch := omega) only [x_bd_s, x_bi_s, x_lt_e, x_rd_n, x_wr_n, x_ra_n, x_dv_n, s_lt, s_le, s_eq, s_lt0, s_le0, s_0lt, s_0le, s_eq0, s_sub, s_rem, s_div, s_in, bI_0, bI_1, x_gb_b, x_gb_0, x_gb_1, nI_add, nI_1, s_size, s_abs, s_max, iI_mul, iI_add, iI_neg, Nat.le_refl, Nat.lt_irrefl, if_true, if_false, ite_true, ite_false, not_true, not_false_eq_true, md_leanOf_l4, hn, c1, md_armOf_ok hk hn hm, hf c (by omega)]
      exact ih (c + 1) F (by omega) (by omega)
  have := e_Fge
  exact key n 0 e_F (by omega) (by omega)
theorem md_worstOf_ok (hk : okn n) (hn : M 182 0 = nI n) (hf : ∀ c, c < n → M 185 c = iI (f c)) (hB : ∀ c, c < n → -2000 ≤ f c ∧ f c ≤ 2000) : md_worstOf M = some (nI (wsN (fun r => (lnZ n f r).natAbs) n)) := by
  have hb := okn_b hk
  have key : ∀ (d c F : Nat), 1 ≤ c → c + d = n → d < F → md_worstOf_l4 M F (nI (wsN (fun r => (lnZ n f r).natAbs) c)) (nI c) = some (nI (wsN (fun r => (lnZ n f r).natAbs) n)) := by
    intro d
    induction d with
    | zero =>
      intro c F h0 h1 h2
      obtain ⟨F, rfl⟩ : ∃ F', F = F' + 1 := ⟨F - 1, by omega⟩
      have hc : c = n := by omega
      subst hc
      simp (disch := omega) only [x_bd_s, x_bi_s, x_lt_e, x_rd_n, x_wr_n, x_ra_n, x_dv_n, s_lt, s_le, s_eq, s_lt0, s_le0, s_0lt, s_0le, s_eq0, s_sub, s_rem, s_div, s_in, bI_0, bI_1, x_gb_b, x_gb_0, x_gb_1, nI_add, nI_1, s_size, s_abs, s_max, iI_mul, iI_add, iI_neg, Nat.le_refl, Nat.lt_irrefl, if_true, if_false, ite_true, ite_false, not_true, not_false_eq_true, md_worstOf_l4, hn]
    | succ d ih =>
      intro c F h0 h1 h2
      obtain ⟨F, rfl⟩ : ∃ F', F = F' + 1 := ⟨F - 1, by omega⟩
      have hw := wsN_lt' (fun r => (lnZ n f r).natAbs) (k := c) (by omega)
      have b1 := lnZ_b (r := c) hk hB
      have b2 := lnZ_b (r := wsN (fun r => (lnZ n f r).natAbs) c) hk hB
      have c1 : ¬ n ≤ c := by omega
      simp (disch := omega) only [x_bd_s, x_bi_s, x_lt_e, x_rd_n, x_wr_n, x_ra_n, x_dv_n, s_lt, s_le, s_eq, s_lt0, s_le0, s_0lt, s_0le, s_eq0, s_sub, s_rem, s_div, s_in, bI_0, bI_1, x_gb_b, x_gb_0, x_gb_1, nI_add, nI_1, s_size, s_abs, s_max, iI_mul, iI_add, iI_neg, Nat.le_refl, Nat.lt_irrefl, if_true, if_false, ite_true, ite_false, not_true, not_false_eq_true, md_worstOf_l4, hn, c1, md_leanOf_ok hk hn hf (show c < n by omega), md_leanOf_ok hk hn hf (show wsN (fun r => (lnZ n f r).natAbs) c < n by omega)]
      have := ih (c + 1) F (by omega) (by omega) (by omega)
      rw [wsN] at this
      split
      · rw [if_neg (by omega)] at this
        exact this
      · rw [if_pos (by omega)] at this
        exact this
  have := e_Fge
  have k1 := key (n - 1) 1 e_F (by omega) (by omega) (by omega)
  rw [show ∀ f, wsN f 1 = 0 from fun f => by simp [wsN]] at k1
  exact k1
theorem md_greatestOf_ok (hk : okn n) (hn : M 182 0 = nI n) (hf : ∀ c, c < n → M 185 c = iI (f c)) (hB : ∀ c, c < n → -2000 ≤ f c ∧ f c ≤ 2000) : md_greatestOf M = some (nI (mxN (fun r => (lnZ n f r).natAbs) n)) := by
  have hb := okn_b hk
  have b2 := lnZ_b (r := wsN (fun r => (lnZ n f r).natAbs) n) hk hB
  have hw := wsN_lt' (fun r => (lnZ n f r).natAbs) (k := n) (by omega)
  simp (disch := omega) only [x_bd_s, x_bi_s, x_lt_e, x_rd_n, x_wr_n, x_ra_n, x_dv_n, s_lt, s_le, s_eq, s_lt0, s_le0, s_0lt, s_0le, s_eq0, s_sub, s_rem, s_div, s_in, bI_0, bI_1, x_gb_b, x_gb_0, x_gb_1, nI_add, nI_1, s_size, s_abs, s_max, iI_mul, iI_add, iI_neg, Nat.le_refl, Nat.lt_irrefl, if_true, if_false, ite_true, ite_false, not_true, not_false_eq_true, md_greatestOf, md_worstOf_ok hk hn hf hB, md_leanOf_ok hk hn hf hw]
  rw [mx_ws' _ (show 0 < n by omega)]
theorem md_atPlace_ok {p : Nat} (hk : okn n) (hn : M 182 0 = nI n) (ht : M 182 1 = nI t) (h : t < n) (hp : p < n) : md_atPlace (nI p) M = some (nI ((p + n - t) % n)) := by
  have hb := okn_b hk
  have e : nI p - nI t + nI n = nI (p + n - t) := by
    rw [nI_iI, nI_iI, nI_iI, nI_iI, iI_sub, iI_add]
    congr 1
    omega
  simp (disch := omega) only [x_bd_s, x_bi_s, x_lt_e, x_rd_n, x_wr_n, x_ra_n, x_dv_n, s_lt, s_le, s_eq, s_lt0, s_le0, s_0lt, s_0le, s_eq0, s_sub, s_rem, s_div, s_in, bI_0, bI_1, x_gb_b, x_gb_0, x_gb_1, nI_add, nI_1, s_size, s_abs, s_max, iI_mul, iI_add, iI_neg, Nat.le_refl, Nat.lt_irrefl, if_true, if_false, ite_true, ite_false, not_true, not_false_eq_true, md_atPlace, hn, ht, e]
end
/-! the class -/
/-- the class's wheel: n CABINS, THE TURN t, the LOADS ld -/
def cW (M : e_Me) (n t : Nat) (ld : Nat → Nat) : Prop :=
  okn n ∧ t < n ∧ M 3 3 = nI n ∧ M 3 4 = nI t ∧ (∀ p, p < n → M 4 p = iI (armZ n p)) ∧ (∀ c, c < 30 → M 5 c = nI (ld c)) ∧ (∀ r, r < n → M 6 r = iI (lnZ n (fun c => (ld c : Int)) r)) ∧ ∀ c, c < 30 → ld c ≤ 900
theorem cW_frame {M M' : e_Me} {n t : Nat} {ld : Nat → Nat} (h : cW M n t ld) (h3 : M' 3 = M 3) (h4 : M' 4 = M 4) (h5 : M' 5 = M 5) (h6 : M' 6 = M 6) : cW M' n t ld := by
  unfold cW at h ⊢
  rw [h3, h4, h5, h6]
  exact h
section
variable {M : e_Me} {n t : Nat} {ld : Nat → Nat}
theorem cW_ld (h : cW M n t ld) : ∀ c, c < n → -2000 ≤ ((fun c => (ld c : Int)) c) ∧ ((fun c => (ld c : Int)) c) ≤ 2000 := by
  intro c hc
  have := okn_b h.1
  have := h.2.2.2.2.2.2.2 c (by omega)
  show -2000 ≤ (ld c : Int) ∧ (ld c : Int) ≤ 2000
  omega
theorem wh_has_ok {c : Nat} (h : cW M n t ld) (hc : c < 2000) : wh_has (nI c) M = some (bI (c < n)) := by
  have := okn_b h.1
  unfold bI
  by_cases g : c < n
  · have c1 : ¬ n ≤ c := by omega
    simp (disch := omega) only [x_bd_s, x_bi_s, x_lt_e, x_rd_n, x_wr_n, x_ra_n, x_dv_n, s_lt, s_le, s_eq, s_lt0, s_le0, s_0lt, s_0le, s_eq0, s_sub, s_rem, s_div, s_in, bI_0, bI_1, x_gb_b, x_gb_0, x_gb_1, nI_add, nI_1, s_size, s_abs, s_max, iI_mul, iI_add, iI_neg, Nat.le_refl, Nat.lt_irrefl, if_true, if_false, ite_true, ite_false, not_true, not_false_eq_true, wh_has, h.2.2.1, c1, g]
  · have c1 : n ≤ c := by omega
    simp (disch := omega) only [x_bd_s, x_bi_s, x_lt_e, x_rd_n, x_wr_n, x_ra_n, x_dv_n, s_lt, s_le, s_eq, s_lt0, s_le0, s_0lt, s_0le, s_eq0, s_sub, s_rem, s_div, s_in, bI_0, bI_1, x_gb_b, x_gb_0, x_gb_1, nI_add, nI_1, s_size, s_abs, s_max, iI_mul, iI_add, iI_neg, Nat.le_refl, Nat.lt_irrefl, if_true, if_false, ite_true, ite_false, not_true, not_false_eq_true, wh_has, h.2.2.1, c1, g]
theorem wh_has_no {x : Int32} (h : cW M n t ld) (hx : x < 0 ∨ nI n ≤ x) : wh_has x M = some 0 := by
  rw [wh_has, h.2.2.1]
  rcases hx with g | g
  · rw [if_pos g]
  · split
    · rfl
    · rfl
theorem wh_placeWith_ok {c r : Nat} (h : cW M n t ld) (hc : c < n) (hr : r < n) : wh_placeWith (nI c) (nI r) M = some (nI ((c + r) % n)) := by
  have := okn_b h.1
  rw [md2 (show c + r < n + n by omega)]
  by_cases g : c + r < n
  · have c1 : ¬ n ≤ c + r := by omega
    simp (disch := omega) only [x_bd_s, x_bi_s, x_lt_e, x_rd_n, x_wr_n, x_ra_n, x_dv_n, s_lt, s_le, s_eq, s_lt0, s_le0, s_0lt, s_0le, s_eq0, s_sub, s_rem, s_div, s_in, bI_0, bI_1, x_gb_b, x_gb_0, x_gb_1, nI_add, nI_1, s_size, s_abs, s_max, iI_mul, iI_add, iI_neg, Nat.le_refl, Nat.lt_irrefl, if_true, if_false, ite_true, ite_false, not_true, not_false_eq_true, wh_placeWith, h.2.2.1, c1, g]
  · have c1 : n ≤ c + r := by omega
    simp (disch := omega) only [x_bd_s, x_bi_s, x_lt_e, x_rd_n, x_wr_n, x_ra_n, x_dv_n, s_lt, s_le, s_eq, s_lt0, s_le0, s_0lt, s_0le, s_eq0, s_sub, s_rem, s_div, s_in, bI_0, bI_1, x_gb_b, x_gb_0, x_gb_1, nI_add, nI_1, s_size, s_abs, s_max, iI_mul, iI_add, iI_neg, Nat.le_refl, Nat.lt_irrefl, if_true, if_false, ite_true, ite_false, not_true, not_false_eq_true, wh_placeWith, h.2.2.1, c1, g]
theorem wh_armOf_ok {c r : Nat} (h : cW M n t ld) (hc : c < n) (hr : r < n) : wh_armOf (nI c) (nI r) M = some (iI (armZ n ((c + r) % n))) := by
  have := okn_b h.1
  have hm := Nat.mod_lt (c + r) (show 0 < n by omega)
  simp (disch := omega) only [x_bd_s, x_bi_s, x_lt_e, x_rd_n, x_wr_n, x_ra_n, x_dv_n, s_lt, s_le, s_eq, s_lt0, s_le0, s_0lt, s_0le, s_eq0, s_sub, s_rem, s_div, s_in, bI_0, bI_1, x_gb_b, x_gb_0, x_gb_1, nI_add, nI_1, s_size, s_abs, s_max, iI_mul, iI_add, iI_neg, Nat.le_refl, Nat.lt_irrefl, if_true, if_false, ite_true, ite_false, not_true, not_false_eq_true, wh_armOf, wh_placeWith_ok h hc hr, wh_has_ok h, hm, h.2.2.2.2.1 _ hm]
theorem wh_leanAt_ok {r : Nat} (h : cW M n t ld) (hr : r < n) : wh_leanAt (nI r) M = some (iI (lnZ n (fun c => (ld c : Int)) r)) := by
  have := okn_b h.1
  simp (disch := omega) only [x_bd_s, x_bi_s, x_lt_e, x_rd_n, x_wr_n, x_ra_n, x_dv_n, s_lt, s_le, s_eq, s_lt0, s_le0, s_0lt, s_0le, s_eq0, s_sub, s_rem, s_div, s_in, bI_0, bI_1, x_gb_b, x_gb_0, x_gb_1, nI_add, nI_1, s_size, s_abs, s_max, iI_mul, iI_add, iI_neg, Nat.le_refl, Nat.lt_irrefl, if_true, if_false, ite_true, ite_false, not_true, not_false_eq_true, wh_leanAt, wh_has_ok h, hr, h.2.2.2.2.2.2.1 _ hr]
theorem wh_loadOf_ok {c : Nat} (h : cW M n t ld) (hc : c < n) : wh_loadOf (nI c) M = some (nI (ld c)) := by
  have := okn_b h.1
  simp (disch := omega) only [x_bd_s, x_bi_s, x_lt_e, x_rd_n, x_wr_n, x_ra_n, x_dv_n, s_lt, s_le, s_eq, s_lt0, s_le0, s_0lt, s_0le, s_eq0, s_sub, s_rem, s_div, s_in, bI_0, bI_1, x_gb_b, x_gb_0, x_gb_1, nI_add, nI_1, s_size, s_abs, s_max, iI_mul, iI_add, iI_neg, Nat.le_refl, Nat.lt_irrefl, if_true, if_false, ite_true, ite_false, not_true, not_false_eq_true, wh_loadOf, wh_has_ok h, hc, h.2.2.2.2.2.1 c (by omega)]
theorem wh_greatestWith_ok {c : Nat} {w : Int} (h : cW M n t ld) (hc : c < n) (hw : -2000 ≤ w) (hw2 : w ≤ 2000) : wh_greatestWith (nI c) (iI w) M = some (nI (mxN (fun r => (lnZ n (fun d => (ld d : Int)) r + w * armZ n ((c + r) % n)).natAbs) n)) := by
  have hb := okn_b h.1
  have bb : ∀ r, -6200000 ≤ lnZ n (fun d => (ld d : Int)) r + w * armZ n ((c + r) % n) ∧ lnZ n (fun d => (ld d : Int)) r + w * armZ n ((c + r) % n) ≤ 6200000 := fun r => by
    have b1 := lnZ_b (r := r) h.1 (cW_ld h)
    have b2 := mul_b hw hw2 (armZ_b n ((c + r) % n)).1 (armZ_b n ((c + r) % n)).2
    omega
  have key : ∀ (d r F : Nat), r + d = n → d < F → wh_greatestWith_l5 (nI c) (iI w) M F (nI (mxN (fun r => (lnZ n (fun d => (ld d : Int)) r + w * armZ n ((c + r) % n)).natAbs) r)) (nI r) = some (nI (mxN (fun r => (lnZ n (fun d => (ld d : Int)) r + w * armZ n ((c + r) % n)).natAbs) n)) := by
    intro d
    induction d with
    | zero =>
      intro r F h1 h2
      obtain ⟨F, rfl⟩ : ∃ F', F = F' + 1 := ⟨F - 1, by omega⟩
      have hc : r = n := by omega
      subst hc
      simp (disch := omega) only [x_bd_s, x_bi_s, x_lt_e, x_rd_n, x_wr_n, x_ra_n, x_dv_n, s_lt, s_le, s_eq, s_lt0, s_le0, s_0lt, s_0le, s_eq0, s_sub, s_rem, s_div, s_in, bI_0, bI_1, x_gb_b, x_gb_0, x_gb_1, nI_add, nI_1, s_size, s_abs, s_max, iI_mul, iI_add, iI_neg, Nat.le_refl, Nat.lt_irrefl, if_true, if_false, ite_true, ite_false, not_true, not_false_eq_true, wh_greatestWith_l5, h.2.2.1]
    | succ d ih =>
      intro r F h1 h2
      obtain ⟨F, rfl⟩ : ∃ F', F = F' + 1 := ⟨F - 1, by omega⟩
      have b1 := bb r
      have b2 := mxN_b (f := fun r => (lnZ n (fun d => (ld d : Int)) r + w * armZ n ((c + r) % n)).natAbs) (B := 6200000) (k := r) (fun r _ => by have := bb r; show _ ≤ _; omega)
      have c1 : ¬ n ≤ r := by omega
      simp (disch := omega) only [x_bd_s, x_bi_s, x_lt_e, x_rd_n, x_wr_n, x_ra_n, x_dv_n, s_lt, s_le, s_eq, s_lt0, s_le0, s_0lt, s_0le, s_eq0, s_sub, s_rem, s_div, s_in, bI_0, bI_1, x_gb_b, x_gb_0, x_gb_1, nI_add, nI_1, s_size, s_abs, s_max, iI_mul, iI_add, iI_neg, Nat.le_refl, Nat.lt_irrefl, if_true, if_false, ite_true, ite_false, not_true, not_false_eq_true, wh_greatestWith_l5, h.2.2.1, c1, wh_armOf_ok h hc (show r < n by omega), h.2.2.2.2.2.2.1 r (by omega)]
      exact ih (r + 1) F (by omega) (by omega)
  have := e_Fge
  exact key n 0 e_F (by omega) (by omega)
theorem wh_greatestLean_ok (h : cW M n t ld) : wh_greatestLean M = some (nI (mxN (fun r => (lnZ n (fun d => (ld d : Int)) r).natAbs) n)) := by
  have hb := okn_b h.1
  have e := wh_greatestWith_ok (c := 0) (w := 0) h (by omega) (by omega) (by omega)
  have e2 : wh_greatestWith 0 0 M = wh_greatestWith (nI 0) (iI 0) M := rfl
  simp (disch := omega) only [x_bd_s, x_bi_s, x_lt_e, x_rd_n, x_wr_n, x_ra_n, x_dv_n, s_lt, s_le, s_eq, s_lt0, s_le0, s_0lt, s_0le, s_eq0, s_sub, s_rem, s_div, s_in, bI_0, bI_1, x_gb_b, x_gb_0, x_gb_1, nI_add, nI_1, s_size, s_abs, s_max, iI_mul, iI_add, iI_neg, Nat.le_refl, Nat.lt_irrefl, if_true, if_false, ite_true, ite_false, not_true, not_false_eq_true, wh_greatestLean, e2, e]
  congr 2
  refine mxN_cong (fun r _ => ?_)
  simp
theorem wh_worstTurn_ok (h : cW M n t ld) : wh_worstTurn M = some (nI (wsN (fun r => (lnZ n (fun d => (ld d : Int)) r).natAbs) n)) := by
  have hb := okn_b h.1
  have key : ∀ (d c F : Nat), 1 ≤ c → c + d = n → d < F → wh_worstTurn_l4 M F (nI (wsN (fun r => (lnZ n (fun d => (ld d : Int)) r).natAbs) c)) (nI c) = some (nI (wsN (fun r => (lnZ n (fun d => (ld d : Int)) r).natAbs) n)) := by
    intro d
    induction d with
    | zero =>
      intro c F h0 h1 h2
      obtain ⟨F, rfl⟩ : ∃ F', F = F' + 1 := ⟨F - 1, by omega⟩
      have hc : c = n := by omega
      subst hc
      simp (disch := omega) only [x_bd_s, x_bi_s, x_lt_e, x_rd_n, x_wr_n, x_ra_n, x_dv_n, s_lt, s_le, s_eq, s_lt0, s_le0, s_0lt, s_0le, s_eq0, s_sub, s_rem, s_div, s_in, bI_0, bI_1, x_gb_b, x_gb_0, x_gb_1, nI_add, nI_1, s_size, s_abs, s_max, iI_mul, iI_add, iI_neg, Nat.le_refl, Nat.lt_irrefl, if_true, if_false, ite_true, ite_false, not_true, not_false_eq_true, wh_worstTurn_l4, h.2.2.1]
    | succ d ih =>
      intro c F h0 h1 h2
      obtain ⟨F, rfl⟩ : ∃ F', F = F' + 1 := ⟨F - 1, by omega⟩
      have hw := wsN_lt' (fun r => (lnZ n (fun d => (ld d : Int)) r).natAbs) (k := c) (by omega)
      have b1 := lnZ_b (r := c) h.1 (cW_ld h)
      have b2 := lnZ_b (r := wsN (fun r => (lnZ n (fun d => (ld d : Int)) r).natAbs) c) h.1 (cW_ld h)
      have c1 : ¬ n ≤ c := by omega
      simp (disch := omega) only [x_bd_s, x_bi_s, x_lt_e, x_rd_n, x_wr_n, x_ra_n, x_dv_n, s_lt, s_le, s_eq, s_lt0, s_le0, s_0lt, s_0le, s_eq0, s_sub, s_rem, s_div, s_in, bI_0, bI_1, x_gb_b, x_gb_0, x_gb_1, nI_add, nI_1, s_size, s_abs, s_max, iI_mul, iI_add, iI_neg, Nat.le_refl, Nat.lt_irrefl, if_true, if_false, ite_true, ite_false, not_true, not_false_eq_true, wh_worstTurn_l4, h.2.2.1, c1, h.2.2.2.2.2.2.1 c (by omega), h.2.2.2.2.2.2.1 (wsN (fun r => (lnZ n (fun d => (ld d : Int)) r).natAbs) c) (by omega)]
      have := ih (c + 1) F (by omega) (by omega) (by omega)
      rw [wsN] at this
      split
      · rw [if_neg (by omega)] at this
        exact this
      · rw [if_pos (by omega)] at this
        exact this
  have := e_Fge
  have k1 := key (n - 1) 1 e_F (by omega) (by omega) (by omega)
  rw [show ∀ f, wsN f 1 = 0 from fun f => by simp [wsN]] at k1
  exact k1
theorem wh_atDoorWith_ok {r : Nat} (h : cW M n t ld) (hr : r < n) : wh_atDoorWith (nI r) M = some (nI ((0 + n - r) % n)) := by
  have hb := okn_b h.1
  rw [md2 (show 0 + n - r < n + n by omega)]
  by_cases g : r = 0
  · subst g
    rw [if_neg (show ¬ 0 + n - 0 < n by omega), show 0 + n - 0 - n = 0 by omega]
    rfl
  · rw [if_pos (show 0 + n - r < n by omega)]
    simp (disch := omega) only [x_bd_s, x_bi_s, x_lt_e, x_rd_n, x_wr_n, x_ra_n, x_dv_n, s_lt, s_le, s_eq, s_lt0, s_le0, s_0lt, s_0le, s_eq0, s_sub, s_rem, s_div, s_in, bI_0, bI_1, x_gb_b, x_gb_0, x_gb_1, nI_add, nI_1, s_size, s_abs, s_max, iI_mul, iI_add, iI_neg, Nat.le_refl, Nat.lt_irrefl, if_true, if_false, ite_true, ite_false, not_true, not_false_eq_true, wh_atDoorWith, h.2.2.1, g]
    rw [Nat.zero_add]
theorem wh_turnFor_ok {r : Nat} (h : cW M n t ld) (hr : r < n) : wh_turnFor (nI r) M = some (nI ((0 + n - r) % n)) := wh_atDoorWith_ok h hr
theorem wh_atDoor_ok (h : cW M n t ld) : wh_atDoor M = some (nI ((0 + n - t) % n)) := by
  simp (disch := omega) only [x_bd_s, x_bi_s, x_lt_e, x_rd_n, x_wr_n, x_ra_n, x_dv_n, s_lt, s_le, s_eq, s_lt0, s_le0, s_0lt, s_0le, s_eq0, s_sub, s_rem, s_div, s_in, bI_0, bI_1, x_gb_b, x_gb_0, x_gb_1, nI_add, nI_1, s_size, s_abs, s_max, iI_mul, iI_add, iI_neg, Nat.le_refl, Nat.lt_irrefl, if_true, if_false, ite_true, ite_false, not_true, not_false_eq_true, wh_atDoor, h.2.2.2.1, wh_atDoorWith_ok h h.2.1]
theorem wh_atTop_ok (h : cW M n t ld) : wh_atTop M = some (nI ((n / 2 + n - t) % n)) := by
  have hb := okn_b h.1
  have ht := h.2.1
  have e2 : nI n / 2 = nI (n / 2) := s_div (d := 2) (by omega) (by omega) (by omega)
  have e3 : nI (n / 2) - nI t = iI ((n / 2 : Nat) - (t : Int)) := by rw [nI_iI, nI_iI, iI_sub]
  rw [md2 (show n / 2 + n - t < n + n by omega)]
  by_cases g : n / 2 < t
  · have c1 : ((n / 2 : Nat) : Int) - (t : Int) < 0 := by omega
    rw [if_pos (show n / 2 + n - t < n by omega)]
    simp (disch := omega) only [x_bd_s, x_bi_s, x_lt_e, x_rd_n, x_wr_n, x_ra_n, x_dv_n, s_lt, s_le, s_eq, s_lt0, s_le0, s_0lt, s_0le, s_eq0, s_sub, s_rem, s_div, s_in, bI_0, bI_1, x_gb_b, x_gb_0, x_gb_1, nI_add, nI_1, s_size, s_abs, s_max, iI_mul, iI_add, iI_neg, Nat.le_refl, Nat.lt_irrefl, if_true, if_false, ite_true, ite_false, not_true, not_false_eq_true, wh_atTop, h.2.2.1, h.2.2.2.1, e2, e3, iI_lt0, c1]
    rw [nI_iI, iI_add, nI_iI]
    congr 2
    omega
  · have c1 : ¬ ((n / 2 : Nat) : Int) - (t : Int) < 0 := by omega
    rw [if_neg (show ¬ n / 2 + n - t < n by omega)]
    simp (disch := omega) only [x_bd_s, x_bi_s, x_lt_e, x_rd_n, x_wr_n, x_ra_n, x_dv_n, s_lt, s_le, s_eq, s_lt0, s_le0, s_0lt, s_0le, s_eq0, s_sub, s_rem, s_div, s_in, bI_0, bI_1, x_gb_b, x_gb_0, x_gb_1, nI_add, nI_1, s_size, s_abs, s_max, iI_mul, iI_add, iI_neg, Nat.le_refl, Nat.lt_irrefl, if_true, if_false, ite_true, ite_false, not_true, not_false_eq_true, wh_atTop, h.2.2.1, h.2.2.2.1, e2, e3, iI_lt0, c1]
    rw [nI_iI]
    congr 2
    omega
theorem wh_turnBehind_ok {r : Nat} (h : cW M n t ld) (hr : r < n) : wh_turnBehind (nI r) M = some (nI ((r + 1) % n)) := by
  have hb := okn_b h.1
  rw [md2 (show r + 1 < n + n by omega)]
  by_cases g : r + 1 < n
  · have c1 : ¬ n ≤ r + 1 := by omega
    simp (disch := omega) only [x_bd_s, x_bi_s, x_lt_e, x_rd_n, x_wr_n, x_ra_n, x_dv_n, s_lt, s_le, s_eq, s_lt0, s_le0, s_0lt, s_0le, s_eq0, s_sub, s_rem, s_div, s_in, bI_0, bI_1, x_gb_b, x_gb_0, x_gb_1, nI_add, nI_1, s_size, s_abs, s_max, iI_mul, iI_add, iI_neg, Nat.le_refl, Nat.lt_irrefl, if_true, if_false, ite_true, ite_false, not_true, not_false_eq_true, wh_turnBehind, h.2.2.1, c1, g]
  · have c1 : n ≤ r + 1 := by omega
    simp (disch := omega) only [x_bd_s, x_bi_s, x_lt_e, x_rd_n, x_wr_n, x_ra_n, x_dv_n, s_lt, s_le, s_eq, s_lt0, s_le0, s_0lt, s_0le, s_eq0, s_sub, s_rem, s_div, s_in, bI_0, bI_1, x_gb_b, x_gb_0, x_gb_1, nI_add, nI_1, s_size, s_abs, s_max, iI_mul, iI_add, iI_neg, Nat.le_refl, Nat.lt_irrefl, if_true, if_false, ite_true, ite_false, not_true, not_false_eq_true, wh_turnBehind, h.2.2.1, c1, g]
    rw [show r + 1 - n = 0 by omega]
    rfl
theorem wh_turnAhead_ok {r : Nat} (h : cW M n t ld) (hr : r < n) : wh_turnAhead (nI r) M = some (nI ((r + n - 1) % n)) := by
  have hb := okn_b h.1
  rw [md2 (show r + n - 1 < n + n by omega)]
  by_cases g : r = 0
  · rw [if_pos (show r + n - 1 < n by omega)]
    simp (disch := omega) only [x_bd_s, x_bi_s, x_lt_e, x_rd_n, x_wr_n, x_ra_n, x_dv_n, s_lt, s_le, s_eq, s_lt0, s_le0, s_0lt, s_0le, s_eq0, s_sub, s_rem, s_div, s_in, bI_0, bI_1, x_gb_b, x_gb_0, x_gb_1, nI_add, nI_1, s_size, s_abs, s_max, iI_mul, iI_add, iI_neg, Nat.le_refl, Nat.lt_irrefl, if_true, if_false, ite_true, ite_false, not_true, not_false_eq_true, wh_turnAhead, h.2.2.1, g, show (1 : Int32) = nI 1 from rfl]
    congr 2
    omega
  · rw [if_neg (show ¬ r + n - 1 < n by omega)]
    simp (disch := omega) only [x_bd_s, x_bi_s, x_lt_e, x_rd_n, x_wr_n, x_ra_n, x_dv_n, s_lt, s_le, s_eq, s_lt0, s_le0, s_0lt, s_0le, s_eq0, s_sub, s_rem, s_div, s_in, bI_0, bI_1, x_gb_b, x_gb_0, x_gb_1, nI_add, nI_1, s_size, s_abs, s_max, iI_mul, iI_add, iI_neg, Nat.le_refl, Nat.lt_irrefl, if_true, if_false, ite_true, ite_false, not_true, not_false_eq_true, wh_turnAhead, h.2.2.1, g, show (1 : Int32) = nI 1 from rfl]
    congr 2
    omega
theorem wh_placeOf_ok {c : Nat} (h : cW M n t ld) (hc : c < n) : wh_placeOf (nI c) M = some (nI ((c + t) % n)) := by
  simp (disch := omega) only [x_bd_s, x_bi_s, x_lt_e, x_rd_n, x_wr_n, x_ra_n, x_dv_n, s_lt, s_le, s_eq, s_lt0, s_le0, s_0lt, s_0le, s_eq0, s_sub, s_rem, s_div, s_in, bI_0, bI_1, x_gb_b, x_gb_0, x_gb_1, nI_add, nI_1, s_size, s_abs, s_max, iI_mul, iI_add, iI_neg, Nat.le_refl, Nat.lt_irrefl, if_true, if_false, ite_true, ite_false, not_true, not_false_eq_true, wh_placeOf, h.2.2.2.1, wh_placeWith_ok h hc h.2.1]
theorem wh_turnTo_ok {r : Nat} (h : cW M n t ld) (hr : r < n) : ∃ M', wh_turnTo (nI r) M = some M' ∧ cW M' n r ld ∧ ∀ i, i ≠ 3 → M' i = M i := by
  have hb := okn_b h.1
  refine ⟨e_up M 3 4 (nI r), ?_, ?_, fun i hi => by funext j; simp [e_up_a, hi]⟩
  · simp (disch := omega) only [x_bd_s, x_bi_s, x_lt_e, x_rd_n, x_wr_n, x_ra_n, x_dv_n, s_lt, s_le, s_eq, s_lt0, s_le0, s_0lt, s_0le, s_eq0, s_sub, s_rem, s_div, s_in, bI_0, bI_1, x_gb_b, x_gb_0, x_gb_1, nI_add, nI_1, s_size, s_abs, s_max, iI_mul, iI_add, iI_neg, Nat.le_refl, Nat.lt_irrefl, if_true, if_false, ite_true, ite_false, not_true, not_false_eq_true, wh_turnTo, wh_has_ok h, hr]
  · obtain ⟨h1, h2, h3, h4, h5, h6, h7, h8⟩ := h
    exact ⟨h1, hr, by simp [e_up_a, h3], by simp [e_up_a], fun p hp => by simp [e_up_a, h5 p hp], fun c hc => by simp [e_up_a, h6 c hc], fun q hq => by simp [e_up_a, h7 q hq], h8⟩
theorem wh_addLoad_ok {c : Nat} {w : Int} {ld' : Nat → Nat} (h : cW M n t ld) (hc : c < n) (hl : ∀ d, d < 30 → (ld' d : Int) = ld d + if d = c then w else 0) (h9 : ∀ d, d < 30 → ld' d ≤ 900) : ∃ M', wh_addLoad (nI c) (iI w) M = some M' ∧ cW M' n t ld' ∧ ∀ i, i ≠ 5 → i ≠ 6 → M' i = M i := by
  have hb := okn_b h.1
  obtain ⟨h1, h2, h3, h4, h5, h6, h7, h8⟩ := id h
  have key : ∀ (d r F : Nat) (M1 : e_Me), r + d = n → d < F → (∀ i, i ≠ 5 → i ≠ 6 → M1 i = M i) → (∀ q, q < r → M1 6 q = iI (lnZ n (fun c => (ld' c : Int)) q)) → (∀ q, r ≤ q → M1 6 q = M 6 q) → ∃ M', wh_addLoad_l21 (nI c) (iI w) F (nI r) M1 = some M' ∧ (∀ i, i ≠ 6 → M' i = M1 i) ∧ (∀ q, q < n → M' 6 q = iI (lnZ n (fun c => (ld' c : Int)) q)) := by
    intro d
    induction d with
    | zero =>
      intro r F M1 g1 g2 g3 g4 g5
      obtain ⟨F, rfl⟩ : ∃ F', F = F' + 1 := ⟨F - 1, by omega⟩
      have hr : r = n := by omega
      subst hr
      refine ⟨M1, ?_, fun i _ => rfl, g4⟩
      simp (disch := omega) only [x_bd_s, x_bi_s, x_lt_e, x_rd_n, x_wr_n, x_ra_n, x_dv_n, s_lt, s_le, s_eq, s_lt0, s_le0, s_0lt, s_0le, s_eq0, s_sub, s_rem, s_div, s_in, bI_0, bI_1, x_gb_b, x_gb_0, x_gb_1, nI_add, nI_1, s_size, s_abs, s_max, iI_mul, iI_add, iI_neg, Nat.le_refl, Nat.lt_irrefl, if_true, if_false, ite_true, ite_false, not_true, not_false_eq_true, wh_addLoad_l21, g3 3 (by omega) (by omega), h3]
    | succ d ih =>
      intro r F M1 g1 g2 g3 g4 g5
      obtain ⟨F, rfl⟩ : ∃ F', F = F' + 1 := ⟨F - 1, by omega⟩
      have e1 : wh_armOf (nI c) (nI r) M1 = some (iI (armZ n ((c + r) % n))) := by
        have : wh_armOf (nI c) (nI r) M1 = wh_armOf (nI c) (nI r) M := by
          unfold wh_armOf wh_placeWith wh_has
          rw [g3 3 (by omega) (by omega), g3 4 (by omega) (by omega)]
        rw [this]
        exact wh_armOf_ok h hc (by omega)
      have c1 : ¬ n ≤ r := by omega
      simp (disch := omega) only [x_bd_s, x_bi_s, x_lt_e, x_rd_n, x_wr_n, x_ra_n, x_dv_n, s_lt, s_le, s_eq, s_lt0, s_le0, s_0lt, s_0le, s_eq0, s_sub, s_rem, s_div, s_in, bI_0, bI_1, x_gb_b, x_gb_0, x_gb_1, nI_add, nI_1, s_size, s_abs, s_max, iI_mul, iI_add, iI_neg, Nat.le_refl, Nat.lt_irrefl, if_true, if_false, ite_true, ite_false, not_true, not_false_eq_true, wh_addLoad_l21, g3 3 (by omega) (by omega), h3, c1, e1, g5 r (Nat.le_refl _), h7 r (by omega)]
      have e2 : lnZ n (fun c => (ld' c : Int)) r = lnZ n (fun c => (ld c : Int)) r + w * armZ n ((c + r) % n) := by
        rw [← lnZ_upd hc]
        exact lnZ_cong (fun d hd => hl d (by omega))
      obtain ⟨M', k1, k2, k3⟩ := ih (r + 1) F (e_up M1 6 r (iI (lnZ n (fun c => (ld c : Int)) r + w * armZ n ((c + r) % n)))) (by omega) (by omega) (fun i a b => by funext j; simp [e_up_a, b, g3 i a b]) (fun q hq => by
        by_cases hqr : q = r
        · subst hqr
          simp [e_up_a, e2]
        · simp [e_up_a, hqr, g4 q (by omega)]) (fun q hq => by simp [e_up_a, show ¬ q = r by omega, g5 q (by omega)])
      exact ⟨M', k1, fun i hi => by rw [k2 i hi]; funext j; simp [e_up_a, hi], k3⟩
  have := e_Fge
  obtain ⟨M', k1, k2, k3⟩ := key n 0 e_F (e_up M 5 c (nI (ld c) + iI w)) (by omega) (by omega) (fun i a b => by funext j; simp [e_up_a, a]) (fun q hq => by omega) (fun q _ => by simp [e_up_a])
  refine ⟨M', ?_, ⟨h1, h2, ?_, ?_, ?_, ?_, k3, h9⟩, fun i a b => by rw [k2 i b]; funext j; simp [e_up_a, a]⟩
  · simp (disch := omega) only [x_bd_s, x_bi_s, x_lt_e, x_rd_n, x_wr_n, x_ra_n, x_dv_n, s_lt, s_le, s_eq, s_lt0, s_le0, s_0lt, s_0le, s_eq0, s_sub, s_rem, s_div, s_in, bI_0, bI_1, x_gb_b, x_gb_0, x_gb_1, nI_add, nI_1, s_size, s_abs, s_max, iI_mul, iI_add, iI_neg, Nat.le_refl, Nat.lt_irrefl, if_true, if_false, ite_true, ite_false, not_true, not_false_eq_true, wh_addLoad, wh_has_ok h, hc, h6 c (by omega)]
    exact k1
  · rw [k2 3 (by omega)]
    simp [e_up_a, h3]
  · rw [k2 3 (by omega)]
    simp [e_up_a, h4]
  · intro p hp
    rw [k2 4 (by omega)]
    simp [e_up_a, h5 p hp]
  · intro d hd
    rw [k2 5 (by omega)]
    have e := hl d hd
    by_cases g : d = c
    · subst g
      simp only [e_up_a, if_true] at e ⊢
      rw [nI_iI, iI_add, nI_iI, e]
    · simp only [e_up_a, if_true, g, if_false] at e ⊢
      rw [h6 d hd]
      congr 1
      omega
end
