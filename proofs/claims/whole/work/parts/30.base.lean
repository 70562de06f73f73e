/-! numbers: ints as images of whole numbers, and what the words of the functions come to -/
def iI (z : Int) : Int32 := Int32.ofInt z
theorem iI_add (a b : Int) : iI a + iI b = iI (a + b) := (Int32.ofInt_add a b).symm
theorem iI_sub (a b : Int) : iI a - iI b = iI (a - b) := (Int32.ofInt_sub a b).symm
theorem iI_mul (a b : Int) : iI a * iI b = iI (a * b) := (Int32.ofInt_mul a b).symm
theorem iI_neg (a : Int) : -iI a = iI (-a) := (Int32.ofInt_neg a).symm
theorem nI_iI (n : Nat) : nI n = iI n := rfl
theorem iI_toInt {a : Int} (h1 : -2147483648 ≤ a) (h2 : a < 2147483648) : (iI a).toInt = a := by
  unfold iI
  rw [Int32.toInt_ofInt]
  exact Int.bmod_eq_of_le (by simpa using h1) (by simpa using h2)
theorem iI_lt {a b : Int} (ha : -2147483648 ≤ a) (ha2 : a < 2147483648) (hb : -2147483648 ≤ b) (hb2 : b < 2147483648) : (iI a < iI b) = (a < b) := by
  rw [Int32.lt_iff_toInt_lt, iI_toInt ha ha2, iI_toInt hb hb2]
theorem iI_le {a b : Int} (ha : -2147483648 ≤ a) (ha2 : a < 2147483648) (hb : -2147483648 ≤ b) (hb2 : b < 2147483648) : (iI a ≤ iI b) = (a ≤ b) := by
  rw [Int32.le_iff_toInt_le, iI_toInt ha ha2, iI_toInt hb hb2]
theorem iI_eq {a b : Int} (ha : -2147483648 ≤ a) (ha2 : a < 2147483648) (hb : -2147483648 ≤ b) (hb2 : b < 2147483648) : (iI a = iI b) = (a = b) := by
  rw [← Int32.toInt_inj, iI_toInt ha ha2, iI_toInt hb hb2]
theorem iI_lt0 {a : Int} (ha : -2147483648 ≤ a) (ha2 : a < 2147483648) : (iI a < 0) = (a < 0) := iI_lt (b := 0) ha ha2 (by decide) (by decide)
theorem iI_le0 {a : Int} (ha : -2147483648 ≤ a) (ha2 : a < 2147483648) : (iI a ≤ 0) = (a ≤ 0) := iI_le (b := 0) ha ha2 (by decide) (by decide)
theorem iI_0lt {a : Int} (ha : -2147483648 ≤ a) (ha2 : a < 2147483648) : (0 < iI a) = (0 < a) := iI_lt (a := 0) (by decide) (by decide) ha ha2
theorem iI_0le {a : Int} (ha : -2147483648 ≤ a) (ha2 : a < 2147483648) : (0 ≤ iI a) = (0 ≤ a) := iI_le (a := 0) (by decide) (by decide) ha ha2
theorem iI_eq0 {a : Int} (ha : -2147483648 ≤ a) (ha2 : a < 2147483648) : (iI a = 0) = (a = 0) := iI_eq (b := 0) ha ha2 (by decide) (by decide)
theorem iI_of (x : Int32) : ∃ z : Int, x = iI z ∧ -2147483648 ≤ z ∧ z < 2147483648 := ⟨x.toInt, (Int32.ofInt_toInt x).symm, by have := x.le_toInt; simpa using this, by have := x.toInt_lt; simpa using this⟩
theorem nI_of_iI {z : Int} (h : 0 ≤ z) : iI z = nI z.toNat := by
  rw [nI_iI]
  congr 1
  omega
theorem s_lit (n : Nat) : (OfNat.ofNat n : Int32) = nI n := rfl
theorem s_10 : ((1 : Int32) = 0) = False := by decide
theorem s_01 : ((0 : Int32) = 1) = False := by decide
theorem q_00 : ((0 : Int32) = 0) = True := by decide
theorem q_01 : ((0 : Int32) = 1) = False := by decide
theorem q_02 : ((0 : Int32) = 2) = False := by decide
theorem q_03 : ((0 : Int32) = 3) = False := by decide
theorem q_04 : ((0 : Int32) = 4) = False := by decide
theorem q_05 : ((0 : Int32) = 5) = False := by decide
theorem q_06 : ((0 : Int32) = 6) = False := by decide
theorem q_07 : ((0 : Int32) = 7) = False := by decide
theorem q_08 : ((0 : Int32) = 8) = False := by decide
theorem q_10 : ((1 : Int32) = 0) = False := by decide
theorem q_11 : ((1 : Int32) = 1) = True := by decide
theorem q_12 : ((1 : Int32) = 2) = False := by decide
theorem q_13 : ((1 : Int32) = 3) = False := by decide
theorem q_14 : ((1 : Int32) = 4) = False := by decide
theorem q_15 : ((1 : Int32) = 5) = False := by decide
theorem q_16 : ((1 : Int32) = 6) = False := by decide
theorem q_17 : ((1 : Int32) = 7) = False := by decide
theorem q_18 : ((1 : Int32) = 8) = False := by decide
theorem q_20 : ((2 : Int32) = 0) = False := by decide
theorem q_21 : ((2 : Int32) = 1) = False := by decide
theorem q_22 : ((2 : Int32) = 2) = True := by decide
theorem q_23 : ((2 : Int32) = 3) = False := by decide
theorem q_24 : ((2 : Int32) = 4) = False := by decide
theorem q_25 : ((2 : Int32) = 5) = False := by decide
theorem q_26 : ((2 : Int32) = 6) = False := by decide
theorem q_27 : ((2 : Int32) = 7) = False := by decide
theorem q_28 : ((2 : Int32) = 8) = False := by decide
theorem q_30 : ((3 : Int32) = 0) = False := by decide
theorem q_31 : ((3 : Int32) = 1) = False := by decide
theorem q_32 : ((3 : Int32) = 2) = False := by decide
theorem q_33 : ((3 : Int32) = 3) = True := by decide
theorem q_34 : ((3 : Int32) = 4) = False := by decide
theorem q_35 : ((3 : Int32) = 5) = False := by decide
theorem q_36 : ((3 : Int32) = 6) = False := by decide
theorem q_37 : ((3 : Int32) = 7) = False := by decide
theorem q_38 : ((3 : Int32) = 8) = False := by decide
theorem q_40 : ((4 : Int32) = 0) = False := by decide
theorem q_41 : ((4 : Int32) = 1) = False := by decide
theorem q_42 : ((4 : Int32) = 2) = False := by decide
theorem q_43 : ((4 : Int32) = 3) = False := by decide
theorem q_44 : ((4 : Int32) = 4) = True := by decide
theorem q_45 : ((4 : Int32) = 5) = False := by decide
theorem q_46 : ((4 : Int32) = 6) = False := by decide
theorem q_47 : ((4 : Int32) = 7) = False := by decide
theorem q_48 : ((4 : Int32) = 8) = False := by decide
theorem q_50 : ((5 : Int32) = 0) = False := by decide
theorem q_51 : ((5 : Int32) = 1) = False := by decide
theorem q_52 : ((5 : Int32) = 2) = False := by decide
theorem q_53 : ((5 : Int32) = 3) = False := by decide
theorem q_54 : ((5 : Int32) = 4) = False := by decide
theorem q_55 : ((5 : Int32) = 5) = True := by decide
theorem q_56 : ((5 : Int32) = 6) = False := by decide
theorem q_57 : ((5 : Int32) = 7) = False := by decide
theorem q_58 : ((5 : Int32) = 8) = False := by decide
theorem q_60 : ((6 : Int32) = 0) = False := by decide
theorem q_61 : ((6 : Int32) = 1) = False := by decide
theorem q_62 : ((6 : Int32) = 2) = False := by decide
theorem q_63 : ((6 : Int32) = 3) = False := by decide
theorem q_64 : ((6 : Int32) = 4) = False := by decide
theorem q_65 : ((6 : Int32) = 5) = False := by decide
theorem q_66 : ((6 : Int32) = 6) = True := by decide
theorem q_67 : ((6 : Int32) = 7) = False := by decide
theorem q_68 : ((6 : Int32) = 8) = False := by decide
theorem q_70 : ((7 : Int32) = 0) = False := by decide
theorem q_71 : ((7 : Int32) = 1) = False := by decide
theorem q_72 : ((7 : Int32) = 2) = False := by decide
theorem q_73 : ((7 : Int32) = 3) = False := by decide
theorem q_74 : ((7 : Int32) = 4) = False := by decide
theorem q_75 : ((7 : Int32) = 5) = False := by decide
theorem q_76 : ((7 : Int32) = 6) = False := by decide
theorem q_77 : ((7 : Int32) = 7) = True := by decide
theorem q_78 : ((7 : Int32) = 8) = False := by decide
theorem q_80 : ((8 : Int32) = 0) = False := by decide
theorem q_81 : ((8 : Int32) = 1) = False := by decide
theorem q_82 : ((8 : Int32) = 2) = False := by decide
theorem q_83 : ((8 : Int32) = 3) = False := by decide
theorem q_84 : ((8 : Int32) = 4) = False := by decide
theorem q_85 : ((8 : Int32) = 5) = False := by decide
theorem q_86 : ((8 : Int32) = 6) = False := by decide
theorem q_87 : ((8 : Int32) = 7) = False := by decide
theorem q_88 : ((8 : Int32) = 8) = True := by decide
theorem s_m1 : (-1 : Int32) = iI (-1) := by decide
theorem s_lt {a b : Nat} (ha : a < 2147483648) (hb : b < 2147483648) : (nI a < nI b) = (a < b) := propext (nI_ltI ha hb)
theorem s_le {a b : Nat} (ha : a < 2147483648) (hb : b < 2147483648) : (nI a ≤ nI b) = (a ≤ b) := propext (nI_leI ha hb)
theorem s_eq {a b : Nat} (ha : a < 2147483648) (hb : b < 2147483648) : (nI a = nI b) = (a = b) := propext (nI_eq ha hb)
theorem s_lt0 {a : Nat} (ha : a < 2147483648) : (nI a < 0) = False := eq_false (nI_pos ha)
theorem s_0le {a : Nat} (ha : a < 2147483648) : (0 ≤ nI a) = True := eq_true (nI_pos' ha)
theorem s_le0 {a : Nat} (ha : a < 2147483648) : (nI a ≤ 0) = (a = 0) := by
  have := s_le ha (b := 0) (by decide)
  rw [nI_0] at this
  rw [this]
  exact propext ⟨fun h => by omega, fun h => by omega⟩
theorem s_0lt {a : Nat} (ha : a < 2147483648) : (0 < nI a) = (0 < a) := by
  have := s_lt (a := 0) (by decide) ha
  rw [nI_0] at this
  exact this
theorem s_eq0 {a : Nat} (ha : a < 2147483648) : (nI a = 0) = (a = 0) := by
  have := s_eq ha (b := 0) (by decide)
  rw [nI_0] at this
  exact this
theorem s_sub {a b : Nat} (h : b ≤ a) : nI a - nI b = nI (a - b) := pk_sub h
theorem s_rem {a d : Nat} (ha : a < 2147483648) (h0 : 0 < d) (hd : d < 2147483648) : x_rem (nI a) (nI d) = nI (a % d) := pk_rem ha h0 hd
theorem s_div {a d : Nat} (ha : a < 2147483648) (h0 : 0 < d) (hd : d < 2147483648) : nI a / nI d = nI (a / d) := pk_div ha h0 hd
def bI (p : Prop) [Decidable p] : Int32 := if p then 1 else 0
theorem bI_0 {p : Prop} [Decidable p] : (bI p = 0) = ¬ p := by
  unfold bI
  split <;> simp_all
theorem bI_1 {p : Prop} [Decidable p] : (bI p = 1) = p := by
  unfold bI
  split <;> simp_all
theorem bI_t {p : Prop} [Decidable p] (h : p) : bI p = 1 := if_pos h
theorem bI_f {p : Prop} [Decidable p] (h : ¬ p) : bI p = 0 := if_neg h
theorem bI_01 {p : Prop} [Decidable p] : bI p = 0 ∨ bI p = 1 := by
  unfold bI
  split
  · exact Or.inr rfl
  · exact Or.inl rfl
section
variable {α β : Type}
theorem x_bd_s (x : α) (f : α → Option β) : x_bd (some x) f = f x := Eq.trans rfl rfl
theorem x_bi_s (x : α) (M : e_Me) (f : α → e_Me → Option β) : x_bi (some (x, M)) f = f x M := Eq.trans rfl rfl
theorem x_lt_e (x : α) (f : α → Option β) : x_lt x f = f x := Eq.trans rfl rfl
theorem x_dv_n {n : Nat} (h0 : 0 < n) (hn : n < 2147483648) (v : Option β) : x_dv (nI n) v = v := if_neg (by rw [s_eq0 hn]; omega)
theorem x_gb_b {p : Prop} [Decidable p] (v : Option β) : x_gb (bI p) v = v := if_pos bI_01
theorem x_gb_0 (v : Option β) : x_gb 0 v = v := Eq.trans rfl rfl
theorem x_gb_1 (v : Option β) : x_gb 1 v = v := Eq.trans rfl rfl
theorem x_gb_of {x : Int32} (h : x = 0 ∨ x = 1) (v : Option β) : x_gb x v = v := if_pos h
theorem x_rd_n {g : Nat → Int32} {N j : Nat} {f : Int32 → Option β} (h : j < N) (hN : N ≤ 100000) : x_rd g N (nI j) f = f (g j) := by
  unfold x_rd
  rw [if_neg (nI_pos (by omega)), nI_clamp (by omega), if_neg (by omega)]
theorem x_wr_n {M : e_Me} {i N j : Nat} {w : Int32} {f : e_Me → Option β} (h : j < N) (hN : N ≤ 100000) : x_wr M i N (nI j) w f = f (e_up M i j w) := by
  unfold x_wr
  rw [if_neg (nI_pos (by omega)), nI_clamp (by omega), if_neg (by omega)]
theorem x_ra_n {N j : Nat} {f : Nat → Option β} (h : j < N) (hN : N ≤ 100000) : x_ra N (nI j) f = f j := by
  unfold x_ra
  rw [if_neg (nI_pos (by omega)), nI_clamp (by omega), if_neg (by omega)]
end
theorem e_Fge : 100000 ≤ e_F := Nat.le_refl _
theorem e_up_a (M : e_Me) (i j : Nat) (x : Int32) (a b : Nat) : e_up M i j x a b = if a = i then (if b = j then x else M a b) else M a b := rfl
theorem e_up_o {M : e_Me} {i j : Nat} {x : Int32} {a b : Nat} (h : a ≠ i ∨ b ≠ j) : e_up M i j x a b = M a b := by
  rw [e_up_a]
  split
  · split
    · omega
    · rfl
  · rfl
theorem e_up_e (M : e_Me) (i j : Nat) (x : Int32) : e_up M i j x i j = x := by simp [e_up_a]
theorem e_row_a (M : e_Me) (i : Nat) (f : Nat → Int32) (a b : Nat) : e_row M i f a b = if a = i then f b else M a b := by
  unfold e_row
  split <;> rfl
theorem e_row_o {M : e_Me} {i : Nat} {f : Nat → Int32} {a b : Nat} (h : a ≠ i) : e_row M i f a b = M a b := by rw [e_row_a, if_neg h]
theorem e_row_e (M : e_Me) (i : Nat) (f : Nat → Int32) (b : Nat) : e_row M i f i b = f b := by rw [e_row_a, if_pos rfl]
section
variable {M : e_Me}
theorem s_abs {z : Int} (h1 : -2147483648 < z) (h2 : z < 2147483648) : ma_abs (iI z) M = some (nI z.natAbs) := by
  unfold ma_abs
  rcases Int.lt_or_le z 0 with h | h
  · simp only [iI_lt0 (Int.le_of_lt h1) h2, iI_0le (Int.le_of_lt h1) h2, h, Int.not_le.mpr h, if_true, if_false, iI_neg, nI_iI]
    congr 2
    omega
  · simp only [iI_lt0 (Int.le_of_lt h1) h2, iI_0le (Int.le_of_lt h1) h2, h, Int.not_lt.mpr h, if_true, if_false, iI_neg, nI_iI]
    congr 2
    omega
theorem s_size {z : Int} (h1 : -2147483648 < z) (h2 : z < 2147483648) : md_size (iI z) M = some (nI z.natAbs) := by
  unfold md_size
  rcases Int.lt_or_le z 0 with h | h
  · simp only [iI_0le (Int.le_of_lt h1) h2, Int.not_le.mpr h, if_true, if_false, iI_neg, nI_iI]
    congr 2
    omega
  · simp only [iI_0le (Int.le_of_lt h1) h2, h, if_true, if_false, iI_neg, nI_iI]
    congr 2
    omega
theorem s_max {a b : Nat} (ha : a < 2147483648) (hb : b < 2147483648) : ma_max (nI a) (nI b) M = some (nI (max a b)) := by
  unfold ma_max
  simp only [s_lt ha hb]
  split
  · rw [Nat.max_eq_right (by omega)]
  · rw [Nat.max_eq_left (by omega)]
theorem s_in (a b c : Int32) : md_in a.toInt64 b.toInt64 c.toInt64 M = some (bI (b ≤ a ∧ a ≤ c)) := by
  unfold md_in
  have h1 : (lg_cmp a.toInt64 b.toInt64 < 0) = ¬ b ≤ a := by
    rw [← Int32.toInt64_le, ← lg_cmp_ge, Int32.not_le]
  have h2 : (0 < lg_cmp a.toInt64 c.toInt64) = ¬ a ≤ c := by
    rw [← Int32.toInt64_le, ← lg_cmp_le, Int32.not_le]
  simp only [h1, h2]
  unfold bI
  by_cases g1 : b ≤ a <;> by_cases g2 : a ≤ c <;> simp [g1, g2]
end
theorem nI_m1 (n : Nat) : nI n - 1 = iI (n - 1) := by
  rw [nI_iI, show (1 : Int32) = iI 1 from rfl, iI_sub]
section
variable {M : e_Me}
theorem in_yes {j n : Nat} (hj : j < n) (hn : n < 2147483648) : md_in (nI j).toInt64 (0 : Int32).toInt64 (nI n - 1).toInt64 M = some 1 := by
  rw [s_in, nI_m1, nI_iI, bI_t]
  refine ⟨?_, ?_⟩
  · rw [iI_0le (by omega) (by omega)]
    omega
  · rw [iI_le (by omega) (by omega) (by omega) (by omega)]
    omega
theorem in_no {x : Int32} {n : Nat} (hn : n < 2147483648) (hx : x < 0 ∨ nI n ≤ x) : md_in x.toInt64 (0 : Int32).toInt64 (nI n - 1).toInt64 M = some 0 := by
  obtain ⟨z, rfl, h1, h2⟩ := iI_of x
  rw [nI_iI] at hx
  rw [iI_lt0 h1 h2, iI_le (by omega) (by omega) h1 h2] at hx
  rw [s_in, nI_m1, bI_f]
  rw [iI_0le h1 h2, iI_le h1 h2 (by omega) (by omega)]
  omega
end
