/-! 20a.leaf: the functions that the methods answer by, and that they do; printed by wip/whole/dec.py -/
theorem e_SHn {i : Nat} (h : 208 ≤ i) : e_SH[i]? = none := List.getElem?_eq_none h
section
variable {G : e_G}
def ma_max (a0 : Int32) (a1 : Int32) (M : e_Me) : Option Int32 :=
  if a0 < a1 then
    some a1
  else
    some a0
theorem c_ma_max (a0 : Int32) (a1 : Int32) (M : e_Me) : x_C G 265 [.int a0, .int a1] M (x_ri M) (ma_max a0 a1 M) := by
  refine x_C_of 2 [some (.int a0), some (.int a1)] (by decide) ml_265 (Nat.le_of_ble_eq_true rfl) rfl ?_
  rw [ma_max]
  refine xr_1 f_265_0 rfl ?_
  refine xr_1 f_265_1 rfl ?_
  refine xr_29_2 f_265_2 ?_ ?_
  · refine xr_1 f_265_9 rfl ?_
    exact xr_51 f_265_10
  · refine xr_1 f_265_5 rfl ?_
    refine xr_27 f_265_6 ?_
    exact xr_51 f_265_10

def ro_count (r : Nat) (M : e_Me) : Option Int32 :=
  x_bd (e_cap r) fun cap =>
  some (M r 1)
theorem c_ro_count (r : Nat) (M : e_Me) : x_C G 111 [.ref r] M (x_ri M) (ro_count r M) := by
  refine x_C_of 1 [some (.ref r)] (by decide) ml_111 (Nat.le_of_ble_eq_true rfl) rfl ?_
  rw [ro_count]
  refine xr_cap ?_
  intro cap hr
  refine xr_2 f_111_0 rfl ?_
  refine xr_30i f_111_1 (e_cap_obj hr) rfl ?_
  exact xr_51 f_111_4

def ro_at (r : Nat) (a1 : Int32) (M : e_Me) : Option Int32 :=
  x_bd (e_cap r) fun cap =>
  if a1 < 0 then
    some (-1 : Int32)
  else
    if (M r 1) ≤ a1 then
      some (-1 : Int32)
    else
      x_rd (M (r + 1)) cap a1 fun x1 =>
      some x1
theorem c_ro_at (r : Nat) (a1 : Int32) (M : e_Me) : x_C G 113 [.ref r, .int a1] M (x_ri M) (ro_at r a1 M) := by
  refine x_C_of 2 [some (.ref r), some (.int a1)] (by decide) ml_113 (Nat.le_of_ble_eq_true rfl) rfl ?_
  rw [ro_at]
  refine xr_cap ?_
  intro cap hr
  refine xr_1 f_113_0 rfl ?_
  refine xr_28_2 f_113_1 ?_ ?_
  · refine xr_0 f_113_21 ?_
    exact xr_51 f_113_22
  · refine xr_1 f_113_4 rfl ?_
    refine xr_2 f_113_5 rfl ?_
    refine xr_30i f_113_6 (e_cap_obj hr) rfl ?_
    refine xr_29_3 f_113_9 ?_ ?_
    · refine xr_0 f_113_21 ?_
      exact xr_51 f_113_22
    · refine xr_2 f_113_12 rfl ?_
      refine xr_30r f_113_13 (e_cap_obj hr) rfl ?_
      refine xr_1 f_113_16 rfl ?_
      refine xr_32 f_113_17 (e_cap_arr hr) ?_
      intro x1
      refine xr_27 f_113_18 ?_
      exact xr_51 f_113_22

def ro_clear (r : Nat) (M : e_Me) : Option e_Me :=
  x_bd (e_cap r) fun cap =>
  x_lt (e_up M r 1 (0 : Int32)) fun M1 =>
  some M1
theorem c_ro_clear (r : Nat) (M : e_Me) : x_C G 119 [.ref r] M x_rv (ro_clear r M) := by
  refine x_C_of 1 [some (.ref r)] (by decide) ml_119 (Nat.le_of_ble_eq_true rfl) rfl ?_
  rw [ro_clear]
  refine xr_cap ?_
  intro cap hr
  refine xr_2 f_119_0 rfl ?_
  refine xr_0 f_119_1 ?_
  refine xr_31 f_119_2 (e_cap_obj hr) rfl ?_
  intro M1
  exact xr_50 f_119_5

def wh_count  (M : e_Me) : Option Int32 :=
  some (M 3 3)
theorem c_wh_count  (M : e_Me) : x_C G 133 [.ref 3] M (x_ri M) (wh_count  M) := by
  refine x_C_of 1 [some (.ref 3)] (by decide) ml_133 (Nat.le_of_ble_eq_true rfl) rfl ?_
  rw [wh_count]
  refine xr_2 f_133_0 rfl ?_
  refine xr_30i f_133_1 h_3 rfl ?_
  exact xr_51 f_133_4

def wh_has (a1 : Int32) (M : e_Me) : Option Int32 :=
  if a1 < 0 then
    some (0 : Int32)
  else
    if (M 3 3) ≤ a1 then
      some (0 : Int32)
    else
      some (1 : Int32)
theorem c_wh_has (a1 : Int32) (M : e_Me) : x_C G 132 [.ref 3, .int a1] M (x_ri M) (wh_has a1 M) := by
  refine x_C_of 2 [some (.ref 3), some (.int a1)] (by decide) ml_132 (Nat.le_of_ble_eq_true rfl) rfl ?_
  rw [wh_has]
  refine xr_1 f_132_0 rfl ?_
  refine xr_28_2 f_132_1 ?_ ?_
  · refine xr_0 f_132_16 ?_
    exact xr_52c f_132_17 (by decide)
  · refine xr_1 f_132_4 rfl ?_
    refine xr_2 f_132_5 rfl ?_
    refine xr_30i f_132_6 h_3 rfl ?_
    refine xr_29_3 f_132_9 ?_ ?_
    · refine xr_0 f_132_16 ?_
      exact xr_52c f_132_17 (by decide)
    · refine xr_0 f_132_12 ?_
      refine xr_27 f_132_13 ?_
      exact xr_52c f_132_17 (by decide)

def wh_loadOf (a1 : Int32) (M : e_Me) : Option Int32 :=
  x_bd (wh_has a1 M) fun x1 =>
  if x1 = 0 then
    some (0 : Int32)
  else
    x_rd (M 5) 30 a1 fun x2 =>
    some x2
theorem c_wh_loadOf (a1 : Int32) (M : e_Me) : x_C G 145 [.ref 3, .int a1] M (x_ri M) (wh_loadOf a1 M) := by
  refine x_C_of 2 [some (.ref 3), some (.int a1)] (by decide) ml_145 (Nat.le_of_ble_eq_true rfl) rfl ?_
  rw [wh_loadOf]
  refine xr_2 f_145_0 rfl ?_
  refine xr_1 f_145_1 rfl ?_
  refine xr_ci f_145_2 (Nat.le_of_ble_eq_true rfl) rfl rfl (xr_rv kd_132 h_3) (Nat.le_of_ble_eq_true rfl) mc_132 ms_132 (c_wh_has a1 M) ?_
  intro x1
  refine xr_28_0 f_145_5 ?_ ?_
  · refine xr_0 f_145_17 ?_
    exact xr_51 f_145_18
  · refine xr_2 f_145_8 rfl ?_
    refine xr_30r f_145_9 h_3 rfl ?_
    refine xr_1 f_145_12 rfl ?_
    refine xr_32 f_145_13 h_5 ?_
    intro x2
    refine xr_27 f_145_14 ?_
    exact xr_51 f_145_18

def ro_hasRoom (r : Nat) (M : e_Me) : Option Int32 :=
  x_bd (e_cap r) fun cap =>
  if (nI cap) ≤ (M r 1) then
    some (0 : Int32)
  else
    some (1 : Int32)
theorem c_ro_hasRoom (r : Nat) (M : e_Me) : x_C G 112 [.ref r] M (x_ri M) (ro_hasRoom r M) := by
  refine x_C_of 1 [some (.ref r)] (by decide) ml_112 (Nat.le_of_ble_eq_true rfl) rfl ?_
  rw [ro_hasRoom]
  refine xr_cap ?_
  intro cap hr
  refine xr_2 f_112_0 rfl ?_
  refine xr_30i f_112_1 (e_cap_obj hr) rfl ?_
  refine xr_2 f_112_4 rfl ?_
  refine xr_30r f_112_5 (e_cap_obj hr) rfl ?_
  refine xr_38 f_112_8 (e_cap_arr hr) (by decide) ?_
  refine xr_29_3 f_112_9 ?_ ?_
  · refine xr_0 f_112_16 ?_
    exact xr_52c f_112_17 (by decide)
  · refine xr_0 f_112_12 ?_
    refine xr_27 f_112_13 ?_
    exact xr_52c f_112_17 (by decide)

def ro_append (r : Nat) (a1 : Int32) (M : e_Me) : Option e_Me :=
  x_bd (e_cap r) fun cap =>
  x_bd (ro_hasRoom r M) fun x1 =>
  if x1 = 0 then
    some M
  else
    x_wr M (r + 1) cap (M r 1) a1 fun M2 =>
    x_lt (e_up M2 r 1 ((M2 r 1) + (1 : Int32))) fun M3 =>
    some M3
theorem c_ro_append (r : Nat) (a1 : Int32) (M : e_Me) : x_C G 115 [.ref r, .int a1] M x_rv (ro_append r a1 M) := by
  refine x_C_of 2 [some (.ref r), some (.int a1)] (by decide) ml_115 (Nat.le_of_ble_eq_true rfl) rfl ?_
  rw [ro_append]
  refine xr_cap ?_
  intro cap hr
  refine xr_2 f_115_0 rfl ?_
  refine xr_ci f_115_1 (Nat.le_of_ble_eq_true rfl) rfl rfl (xr_rv kd_112 (e_cap_obj hr)) (Nat.le_of_ble_eq_true rfl) mc_112 ms_112 (c_ro_hasRoom r M) ?_
  intro x1
  refine xr_28_0 f_115_4 ?_ ?_
  · exact xr_50 f_115_27
  · refine xr_2 f_115_7 rfl ?_
    refine xr_30r f_115_8 (e_cap_obj hr) rfl ?_
    refine xr_2 f_115_11 rfl ?_
    refine xr_30i f_115_12 (e_cap_obj hr) rfl ?_
    refine xr_1 f_115_15 rfl ?_
    refine xr_33 f_115_16 (e_cap_arr hr) ?_
    intro M2
    refine xr_2 f_115_17 rfl ?_
    refine xr_24r f_115_18 ?_
    refine xr_30i f_115_19 (e_cap_obj hr) rfl ?_
    refine xr_0 f_115_22 ?_
    refine xr_8 f_115_23 ?_
    refine xr_31 f_115_24 (e_cap_obj hr) rfl ?_
    intro M3
    exact xr_50 f_115_27

def wh_placeWith (a1 : Int32) (a2 : Int32) (M : e_Me) : Option Int32 :=
  if (M 3 3) ≤ (a1 + a2) then
    some ((a1 + a2) - (M 3 3))
  else
    some (a1 + a2)
theorem c_wh_placeWith (a1 : Int32) (a2 : Int32) (M : e_Me) : x_C G 143 [.ref 3, .int a1, .int a2] M (x_ri M) (wh_placeWith a1 a2 M) := by
  refine x_C_of 3 [some (.ref 3), some (.int a1), some (.int a2)] (by decide) ml_143 (Nat.le_of_ble_eq_true rfl) rfl ?_
  rw [wh_placeWith]
  refine xr_1 f_143_0 rfl ?_
  refine xr_1 f_143_1 rfl ?_
  refine xr_8 f_143_2 ?_
  refine xr_2 f_143_3 rfl ?_
  refine xr_30i f_143_4 h_3 rfl ?_
  refine xr_29_3 f_143_7 ?_ ?_
  · refine xr_1 f_143_16 rfl ?_
    refine xr_1 f_143_17 rfl ?_
    refine xr_8 f_143_18 ?_
    refine xr_2 f_143_19 rfl ?_
    refine xr_30i f_143_20 h_3 rfl ?_
    refine xr_9 f_143_23 ?_
    exact xr_51 f_143_24
  · refine xr_1 f_143_10 rfl ?_
    refine xr_1 f_143_11 rfl ?_
    refine xr_8 f_143_12 ?_
    refine xr_27 f_143_13 ?_
    exact xr_51 f_143_24

def wh_armOf (a1 : Int32) (a2 : Int32) (M : e_Me) : Option Int32 :=
  x_bd (wh_placeWith a1 a2 M) fun x1 =>
  x_bd (wh_has x1 M) fun x2 =>
  if x2 = 0 then
    some (0 : Int32)
  else
    x_rd (M 4) 30 x1 fun x3 =>
    some x3
theorem c_wh_armOf (a1 : Int32) (a2 : Int32) (M : e_Me) : x_C G 144 [.ref 3, .int a1, .int a2] M (x_ri M) (wh_armOf a1 a2 M) := by
  refine x_C_of 4 [some (.ref 3), some (.int a1), some (.int a2), none] (by decide) ml_144 (Nat.le_of_ble_eq_true rfl) rfl ?_
  rw [wh_armOf]
  refine xr_2 f_144_0 rfl ?_
  refine xr_1 f_144_1 rfl ?_
  refine xr_1 f_144_2 rfl ?_
  refine xr_ci f_144_3 (Nat.le_of_ble_eq_true rfl) rfl rfl (xr_rv kd_143 h_3) (Nat.le_of_ble_eq_true rfl) mc_143 ms_143 (c_wh_placeWith a1 a2 M) ?_
  intro x1
  refine xr_4 [some (.ref 3), some (.int a1), some (.int a2), some (.int x1)] f_144_6 rfl rfl ?_
  refine xr_2 f_144_7 rfl ?_
  refine xr_1 f_144_8 rfl ?_
  refine xr_ci f_144_9 (Nat.le_of_ble_eq_true rfl) rfl rfl (xr_rv kd_132 h_3) (Nat.le_of_ble_eq_true rfl) mc_132 ms_132 (c_wh_has x1 M) ?_
  intro x2
  refine xr_28_0 f_144_12 ?_ ?_
  · refine xr_0 f_144_24 ?_
    exact xr_51 f_144_25
  · refine xr_2 f_144_15 rfl ?_
    refine xr_30r f_144_16 h_3 rfl ?_
    refine xr_1 f_144_19 rfl ?_
    refine xr_32 f_144_20 h_4 ?_
    intro x3
    refine xr_27 f_144_21 ?_
    exact xr_51 f_144_25

def wh_turnNow  (M : e_Me) : Option Int32 :=
  some (M 3 4)
theorem c_wh_turnNow  (M : e_Me) : x_C G 134 [.ref 3] M (x_ri M) (wh_turnNow  M) := by
  refine x_C_of 1 [some (.ref 3)] (by decide) ml_134 (Nat.le_of_ble_eq_true rfl) rfl ?_
  rw [wh_turnNow]
  refine xr_2 f_134_0 rfl ?_
  refine xr_30i f_134_1 h_3 rfl ?_
  exact xr_51 f_134_4

def wh_turnFor (a1 : Int32) (M : e_Me) : Option Int32 :=
  if a1 = 0 then
    some (0 : Int32)
  else
    some ((M 3 3) - a1)
theorem c_wh_turnFor (a1 : Int32) (M : e_Me) : x_C G 140 [.ref 3, .int a1] M (x_ri M) (wh_turnFor a1 M) := by
  refine x_C_of 2 [some (.ref 3), some (.int a1)] (by decide) ml_140 (Nat.le_of_ble_eq_true rfl) rfl ?_
  rw [wh_turnFor]
  refine xr_1 f_140_0 rfl ?_
  refine xr_28_1 f_140_1 ?_ ?_
  · refine xr_2 f_140_8 rfl ?_
    refine xr_30i f_140_9 h_3 rfl ?_
    refine xr_1 f_140_12 rfl ?_
    refine xr_9 f_140_13 ?_
    exact xr_51 f_140_14
  · refine xr_0 f_140_4 ?_
    refine xr_27 f_140_5 ?_
    exact xr_51 f_140_14

def wh_turnBehind (a1 : Int32) (M : e_Me) : Option Int32 :=
  if (M 3 3) ≤ (a1 + (1 : Int32)) then
    some (0 : Int32)
  else
    some (a1 + (1 : Int32))
theorem c_wh_turnBehind (a1 : Int32) (M : e_Me) : x_C G 136 [.ref 3, .int a1] M (x_ri M) (wh_turnBehind a1 M) := by
  refine x_C_of 2 [some (.ref 3), some (.int a1)] (by decide) ml_136 (Nat.le_of_ble_eq_true rfl) rfl ?_
  rw [wh_turnBehind]
  refine xr_1 f_136_0 rfl ?_
  refine xr_0 f_136_1 ?_
  refine xr_8 f_136_2 ?_
  refine xr_2 f_136_3 rfl ?_
  refine xr_30i f_136_4 h_3 rfl ?_
  refine xr_29_3 f_136_7 ?_ ?_
  · refine xr_0 f_136_16 ?_
    exact xr_51 f_136_17
  · refine xr_1 f_136_10 rfl ?_
    refine xr_0 f_136_11 ?_
    refine xr_8 f_136_12 ?_
    refine xr_27 f_136_13 ?_
    exact xr_51 f_136_17

def ma_abs (a0 : Int32) (M : e_Me) : Option Int32 :=
  if 0 ≤ a0 then
    some a0
  else
    some (-a0)
theorem c_ma_abs (a0 : Int32) (M : e_Me) : x_C G 264 [.int a0] M (x_ri M) (ma_abs a0 M) := by
  refine x_C_of 1 [some (.int a0)] (by decide) ml_264 (Nat.le_of_ble_eq_true rfl) rfl ?_
  rw [ma_abs]
  refine xr_1 f_264_0 rfl ?_
  refine xr_28_3 f_264_1 ?_ ?_
  · refine xr_1 f_264_9 rfl ?_
    exact xr_51 f_264_10
  · refine xr_1 f_264_4 rfl ?_
    refine xr_11 f_264_5 ?_
    refine xr_27 f_264_6 ?_
    exact xr_51 f_264_10

def ro_copyFrom_l6  (ra0 : Nat) (na0 : Nat) (ra1 : Nat) (na1 : Nat) : Nat → Int32 → e_Me → Option e_Me
  | 0, _, _ => none
  | F + 1, a2, M =>
    x_bd (ro_count ra1 M) fun x1 =>
    if x1 ≤ a2 then
      some M
    else
      x_bd (ro_at ra1 a2 M) fun x2 =>
      x_bd (ro_append ra0 x2 M) fun M3 =>
      ro_copyFrom_l6 ra0 na0 ra1 na1 F (a2 + (1 : Int32)) M3
theorem c_ro_copyFrom_l6  (ra0 : Nat) (na0 : Nat) (hra0 : e_cap ra0 = some na0) (ra1 : Nat) (na1 : Nat) (hra1 : e_cap ra1 = some na1)  : ∀ (F : Nat) (a2 : Int32) (M : e_Me), x_X G 120 0 0 x_rv 6 [some (.ref ra0), some (.ref ra1), some (.int a2)] [] M (ro_copyFrom_l6 ra0 na0 ra1 na1 F a2 M) := by
  intro F
  induction F with
  | zero => intro a2 M; exact xr_none
  | succ F ih =>
    intro a2 M
    rw [ro_copyFrom_l6]
    refine xr_1 f_120_6 rfl ?_
    refine xr_2 f_120_7 rfl ?_
    refine xr_ci f_120_8 (Nat.le_of_ble_eq_true rfl) rfl rfl (xr_rv kd_111 (e_cap_obj hra1)) (Nat.le_of_ble_eq_true rfl) mc_111 ms_111 (c_ro_count ra1 M) ?_
    intro x1
    refine xr_29_3 f_120_11 ?_ ?_
    · exact xr_50 f_120_29
    · refine xr_2 f_120_14 rfl ?_
      refine xr_2 f_120_15 rfl ?_
      refine xr_1 f_120_16 rfl ?_
      refine xr_ci f_120_17 (Nat.le_of_ble_eq_true rfl) rfl rfl (xr_rv kd_113 (e_cap_obj hra1)) (Nat.le_of_ble_eq_true rfl) mc_113 ms_113 (c_ro_at ra1 a2 M) ?_
      intro x2
      refine xr_cv f_120_20 (Nat.le_of_ble_eq_true rfl) rfl rfl (xr_rv kd_115 (e_cap_obj hra0)) (Nat.le_of_ble_eq_true rfl) mc_115 ms_115 (c_ro_append ra0 x2 M) ?_
      intro M3
      refine xr_7 [some (.ref ra0), some (.ref ra1), some (.int (a2 + (1 : Int32)))] f_120_23 rfl rfl rfl ?_
      refine xr_27 f_120_26 ?_
      exact ih (a2 + (1 : Int32)) M3

def ro_copyFrom (r : Nat) (a1 : Nat) (M : e_Me) : Option e_Me :=
  x_bd (e_cap r) fun cap =>
  x_bd (e_cap a1) fun cap1 =>
  x_bd (ro_clear r M) fun M1 =>
  ro_copyFrom_l6 r cap a1 cap1 e_F (0 : Int32) M1
theorem c_ro_copyFrom (r : Nat) (a1 : Nat) (M : e_Me) : x_C G 120 [.ref r, .ref a1] M x_rv (ro_copyFrom r a1 M) := by
  refine x_C_of 3 [some (.ref r), some (.ref a1), none] (by decide) ml_120 (Nat.le_of_ble_eq_true rfl) rfl ?_
  rw [ro_copyFrom]
  refine xr_cap ?_
  intro cap hr
  refine xr_cap ?_
  intro cap1 hr1
  refine xr_2 f_120_0 rfl ?_
  refine xr_cv f_120_1 (Nat.le_of_ble_eq_true rfl) rfl rfl (xr_rv kd_119 (e_cap_obj hr)) (Nat.le_of_ble_eq_true rfl) mc_119 ms_119 (c_ro_clear r M) ?_
  intro M1
  refine xr_0 f_120_4 ?_
  refine xr_4 [some (.ref r), some (.ref a1), some (.int (0 : Int32))] f_120_5 rfl rfl ?_
  exact c_ro_copyFrom_l6 r cap hr a1 cap1 hr1 e_F (0 : Int32) M1

def ro_set (r : Nat) (a1 : Int32) (a2 : Int32) (M : e_Me) : Option e_Me :=
  x_bd (e_cap r) fun cap =>
  if a1 < 0 then
    some M
  else
    if (M r 1) ≤ a1 then
      some M
    else
      x_wr M (r + 1) cap a1 a2 fun M1 =>
      some M1
theorem c_ro_set (r : Nat) (a1 : Int32) (a2 : Int32) (M : e_Me) : x_C G 116 [.ref r, .int a1, .int a2] M x_rv (ro_set r a1 a2 M) := by
  refine x_C_of 3 [some (.ref r), some (.int a1), some (.int a2)] (by decide) ml_116 (Nat.le_of_ble_eq_true rfl) rfl ?_
  rw [ro_set]
  refine xr_cap ?_
  intro cap hr
  refine xr_1 f_116_0 rfl ?_
  refine xr_28_2 f_116_1 ?_ ?_
  · exact xr_50 f_116_19
  · refine xr_1 f_116_4 rfl ?_
    refine xr_2 f_116_5 rfl ?_
    refine xr_30i f_116_6 (e_cap_obj hr) rfl ?_
    refine xr_29_3 f_116_9 ?_ ?_
    · exact xr_50 f_116_19
    · refine xr_2 f_116_12 rfl ?_
      refine xr_30r f_116_13 (e_cap_obj hr) rfl ?_
      refine xr_1 f_116_16 rfl ?_
      refine xr_1 f_116_17 rfl ?_
      refine xr_33 f_116_18 (e_cap_arr hr) ?_
      intro M1
      exact xr_50 f_116_19

def ro_swap (r : Nat) (a1 : Int32) (a2 : Int32) (M : e_Me) : Option e_Me :=
  x_bd (e_cap r) fun cap =>
  x_bd (ro_at r a1 M) fun x1 =>
  x_bd (ro_at r a2 M) fun x2 =>
  x_bd (ro_set r a1 x2 M) fun M3 =>
  x_bd (ro_set r a2 x1 M3) fun M4 =>
  some M4
theorem c_ro_swap (r : Nat) (a1 : Int32) (a2 : Int32) (M : e_Me) : x_C G 117 [.ref r, .int a1, .int a2] M x_rv (ro_swap r a1 a2 M) := by
  refine x_C_of 4 [some (.ref r), some (.int a1), some (.int a2), none] (by decide) ml_117 (Nat.le_of_ble_eq_true rfl) rfl ?_
  rw [ro_swap]
  refine xr_cap ?_
  intro cap hr
  refine xr_2 f_117_0 rfl ?_
  refine xr_1 f_117_1 rfl ?_
  refine xr_ci f_117_2 (Nat.le_of_ble_eq_true rfl) rfl rfl (xr_rv kd_113 (e_cap_obj hr)) (Nat.le_of_ble_eq_true rfl) mc_113 ms_113 (c_ro_at r a1 M) ?_
  intro x1
  refine xr_4 [some (.ref r), some (.int a1), some (.int a2), some (.int x1)] f_117_5 rfl rfl ?_
  refine xr_2 f_117_6 rfl ?_
  refine xr_1 f_117_7 rfl ?_
  refine xr_2 f_117_8 rfl ?_
  refine xr_1 f_117_9 rfl ?_
  refine xr_ci f_117_10 (Nat.le_of_ble_eq_true rfl) rfl rfl (xr_rv kd_113 (e_cap_obj hr)) (Nat.le_of_ble_eq_true rfl) mc_113 ms_113 (c_ro_at r a2 M) ?_
  intro x2
  refine xr_cv f_117_13 (Nat.le_of_ble_eq_true rfl) rfl rfl (xr_rv kd_116 (e_cap_obj hr)) (Nat.le_of_ble_eq_true rfl) mc_116 ms_116 (c_ro_set r a1 x2 M) ?_
  intro M3
  refine xr_2 f_117_16 rfl ?_
  refine xr_1 f_117_17 rfl ?_
  refine xr_1 f_117_18 rfl ?_
  refine xr_cv f_117_19 (Nat.le_of_ble_eq_true rfl) rfl rfl (xr_rv kd_116 (e_cap_obj hr)) (Nat.le_of_ble_eq_true rfl) mc_116 ms_116 (c_ro_set r a2 x1 M3) ?_
  intro M4
  exact xr_50 f_117_22

def ro_placeOf_l2  (ra0 : Nat) (na0 : Nat) (a1 : Int32) (M : e_Me) : Nat → Int32 → Option Int32
  | 0, _ => none
  | F + 1, a2 =>
    if (M ra0 1) ≤ a2 then
      some (-1 : Int32)
    else
      x_rd (M (ra0 + 1)) na0 a2 fun x1 =>
      if x1 = a1 then
        some a2
      else
        ro_placeOf_l2 ra0 na0 a1 M F (a2 + (1 : Int32))
theorem c_ro_placeOf_l2  (ra0 : Nat) (na0 : Nat) (hra0 : e_cap ra0 = some na0) (a1 : Int32) (M : e_Me)  : ∀ (F : Nat) (a2 : Int32), x_X G 114 0 0 (x_ri M) 2 [some (.ref ra0), some (.int a1), some (.int a2)] [] M (ro_placeOf_l2 ra0 na0 a1 M F a2) := by
  intro F
  induction F with
  | zero => intro a2; exact xr_none
  | succ F ih =>
    intro a2
    rw [ro_placeOf_l2]
    refine xr_1 f_114_2 rfl ?_
    refine xr_2 f_114_3 rfl ?_
    refine xr_30i f_114_4 (e_cap_obj hra0) rfl ?_
    refine xr_29_3 f_114_7 ?_ ?_
    · refine xr_0 f_114_28 ?_
      exact xr_51 f_114_29
    · refine xr_2 f_114_10 rfl ?_
      refine xr_30r f_114_11 (e_cap_obj hra0) rfl ?_
      refine xr_1 f_114_14 rfl ?_
      refine xr_32 f_114_15 (e_cap_arr hra0) ?_
      intro x1
      refine xr_1 f_114_16 rfl ?_
      refine xr_29_1 f_114_17 ?_ ?_
      · refine xr_7 [some (.ref ra0), some (.int a1), some (.int (a2 + (1 : Int32)))] f_114_22 rfl rfl rfl ?_
        refine xr_27 f_114_25 ?_
        exact ih (a2 + (1 : Int32))
      · refine xr_1 f_114_20 rfl ?_
        exact xr_51 f_114_21

def ro_placeOf (r : Nat) (a1 : Int32) (M : e_Me) : Option Int32 :=
  x_bd (e_cap r) fun cap =>
  ro_placeOf_l2 r cap a1 M e_F (0 : Int32)
theorem c_ro_placeOf (r : Nat) (a1 : Int32) (M : e_Me) : x_C G 114 [.ref r, .int a1] M (x_ri M) (ro_placeOf r a1 M) := by
  refine x_C_of 3 [some (.ref r), some (.int a1), none] (by decide) ml_114 (Nat.le_of_ble_eq_true rfl) rfl ?_
  rw [ro_placeOf]
  refine xr_cap ?_
  intro cap hr
  refine xr_0 f_114_0 ?_
  refine xr_4 [some (.ref r), some (.int a1), some (.int (0 : Int32))] f_114_1 rfl rfl ?_
  exact c_ro_placeOf_l2 r cap hr a1 M e_F (0 : Int32)

def ma_min (a0 : Int32) (a1 : Int32) (M : e_Me) : Option Int32 :=
  if a1 < a0 then
    some a1
  else
    some a0
theorem c_ma_min (a0 : Int32) (a1 : Int32) (M : e_Me) : x_C G 266 [.int a0, .int a1] M (x_ri M) (ma_min a0 a1 M) := by
  refine x_C_of 2 [some (.int a0), some (.int a1)] (by decide) ml_266 (Nat.le_of_ble_eq_true rfl) rfl ?_
  rw [ma_min]
  refine xr_1 f_266_0 rfl ?_
  refine xr_1 f_266_1 rfl ?_
  refine xr_29_4 f_266_2 ?_ ?_
  · refine xr_1 f_266_9 rfl ?_
    exact xr_51 f_266_10
  · refine xr_1 f_266_5 rfl ?_
    refine xr_27 f_266_6 ?_
    exact xr_51 f_266_10

def ew_mix (a0 : Int64) (a2 : Int64) (M : e_Me) : Option Int64 :=
  some ((((31 : Int32)).toInt64 * a0) + a2)
theorem c_ew_mix (a0 : Int64) (a2 : Int64) (M : e_Me) : x_C G 191 [.long a0, .long a2] M (x_rl M) (ew_mix a0 a2 M) := by
  refine x_C_of 4 [some (.long a0), none, some (.long a2), none] (by decide) ml_191 (Nat.le_of_ble_eq_true rfl) rfl ?_
  rw [ew_mix]
  refine xr_23 f_191_0 ?_
  refine xr_3 f_191_3 rfl ?_
  refine xr_21 f_191_4 ?_
  refine xr_3 f_191_5 rfl ?_
  refine xr_20 f_191_6 ?_
  exact xr_53 f_191_7

def ar_fill_l5  (ra0 : Nat) (na0 : Nat) (a1 : Int32) (a3 : Int32) : Nat → Int32 → e_Me → Option e_Me
  | 0, _, _ => none
  | F + 1, a2, M =>
    if a3 ≤ a2 then
      some M
    else
      x_wr M ra0 na0 a2 a1 fun M1 =>
      ar_fill_l5 ra0 na0 a1 a3 F (a2 + (1 : Int32)) M1
theorem c_ar_fill_l5  (ra0 : Nat) (na0 : Nat) (hra0 : e_SH[ra0]? = some (.inl (0, na0, none))) (a1 : Int32) (a3 : Int32)  : ∀ (F : Nat) (a2 : Int32) (M : e_Me), x_X G 267 0 0 x_rv 5 [some (.ref ra0), some (.int a1), some (.int a2), some (.int a3)] [] M (ar_fill_l5 ra0 na0 a1 a3 F a2 M) := by
  intro F
  induction F with
  | zero => intro a2 M; exact xr_none
  | succ F ih =>
    intro a2 M
    rw [ar_fill_l5]
    refine xr_1 f_267_5 rfl ?_
    refine xr_1 f_267_6 rfl ?_
    refine xr_29_3 f_267_7 ?_ ?_
    · exact xr_50 f_267_20
    · refine xr_2 f_267_10 rfl ?_
      refine xr_1 f_267_11 rfl ?_
      refine xr_1 f_267_12 rfl ?_
      refine xr_33 f_267_13 hra0 ?_
      intro M1
      refine xr_7 [some (.ref ra0), some (.int a1), some (.int (a2 + (1 : Int32))), some (.int a3)] f_267_14 rfl rfl rfl ?_
      refine xr_27 f_267_17 ?_
      exact ih (a2 + (1 : Int32)) M1

def ar_fill (a0 : Nat) (a1 : Int32) (M : e_Me) : Option e_Me :=
  x_bd (e_arl a0) fun cap0 =>
  x_lt (nI cap0) fun y1 =>
  ar_fill_l5 a0 cap0 a1 y1 e_F (0 : Int32) M
theorem c_ar_fill (a0 : Nat) (a1 : Int32) (M : e_Me) : x_C G 267 [.ref a0, .int a1] M x_rv (ar_fill a0 a1 M) := by
  refine x_C_of 4 [some (.ref a0), some (.int a1), none, none] (by decide) ml_267 (Nat.le_of_ble_eq_true rfl) rfl ?_
  rw [ar_fill]
  refine xr_arl ?_
  intro cap0 hr0
  refine xr_0 f_267_0 ?_
  refine xr_4 [some (.ref a0), some (.int a1), some (.int (0 : Int32)), none] f_267_1 rfl rfl ?_
  refine xr_2 f_267_2 rfl ?_
  refine xr_38 f_267_3 (e_arl_arr hr0) (by decide) ?_
  refine xr_4l (fun y1 => [some (.ref a0), some (.int a1), some (.int (0 : Int32)), some (.int y1)]) f_267_4 rfl (fun _ => rfl) ?_
  intro y1
  exact c_ar_fill_l5 a0 cap0 (e_arl_arr hr0) a1 y1 e_F (0 : Int32) M

def ma_floorDiv (a0 : Int32) (a1 : Int32) (M : e_Me) : Option Int32 :=
  x_dv a1 <|
  x_lt (a0 / a1) fun y1 =>
  if 0 ≤ (a0 ^^^ a1) then
    some y1
  else
    if (y1 * a1) = a0 then
      some y1
    else
      some (y1 - (1 : Int32))
theorem c_ma_floorDiv (a0 : Int32) (a1 : Int32) (M : e_Me) : x_C G 263 [.int a0, .int a1] M (x_ri M) (ma_floorDiv a0 a1 M) := by
  refine x_C_of 3 [some (.int a0), some (.int a1), none] (by decide) ml_263 (Nat.le_of_ble_eq_true rfl) rfl ?_
  rw [ma_floorDiv]
  refine xr_1 f_263_0 rfl ?_
  refine xr_1 f_263_1 rfl ?_
  refine xr_12 f_263_2 ?_
  refine xr_4l (fun y1 => [some (.int a0), some (.int a1), some (.int y1)]) f_263_3 rfl (fun _ => rfl) ?_
  intro y1
  refine xr_1 f_263_4 rfl ?_
  refine xr_1 f_263_5 rfl ?_
  refine xr_18 f_263_6 ?_
  refine xr_28_3 f_263_7 ?_ ?_
  · refine xr_1 f_263_21 rfl ?_
    exact xr_51 f_263_22
  · refine xr_1 f_263_10 rfl ?_
    refine xr_1 f_263_11 rfl ?_
    refine xr_10 f_263_12 ?_
    refine xr_1 f_263_13 rfl ?_
    refine xr_29_0 f_263_14 ?_ ?_
    · refine xr_1 f_263_21 rfl ?_
      exact xr_51 f_263_22
    · refine xr_1 f_263_17 rfl ?_
      refine xr_0 f_263_18 ?_
      refine xr_9 f_263_19 ?_
      exact xr_51 f_263_20

def wh_leanAt (a1 : Int32) (M : e_Me) : Option Int32 :=
  x_bd (wh_has a1 M) fun x1 =>
  if x1 = 0 then
    some (0 : Int32)
  else
    x_rd (M 6) 30 a1 fun x2 =>
    some x2
theorem c_wh_leanAt (a1 : Int32) (M : e_Me) : x_C G 147 [.ref 3, .int a1] M (x_ri M) (wh_leanAt a1 M) := by
  refine x_C_of 2 [some (.ref 3), some (.int a1)] (by decide) ml_147 (Nat.le_of_ble_eq_true rfl) rfl ?_
  rw [wh_leanAt]
  refine xr_2 f_147_0 rfl ?_
  refine xr_1 f_147_1 rfl ?_
  refine xr_ci f_147_2 (Nat.le_of_ble_eq_true rfl) rfl rfl (xr_rv kd_132 h_3) (Nat.le_of_ble_eq_true rfl) mc_132 ms_132 (c_wh_has a1 M) ?_
  intro x1
  refine xr_28_0 f_147_5 ?_ ?_
  · refine xr_0 f_147_17 ?_
    exact xr_51 f_147_18
  · refine xr_2 f_147_8 rfl ?_
    refine xr_30r f_147_9 h_3 rfl ?_
    refine xr_1 f_147_12 rfl ?_
    refine xr_32 f_147_13 h_6 ?_
    intro x2
    refine xr_27 f_147_14 ?_
    exact xr_51 f_147_18

def ru_names (a0 : Int32) (M : e_Me) : Option Int32 :=
  if a0 < 0 then
    some (0 : Int32)
  else
    if (3 : Int32) < a0 then
      some (0 : Int32)
    else
      some (1 : Int32)
theorem c_ru_names (a0 : Int32) (M : e_Me) : x_C G 123 [.int a0] M (x_ri M) (ru_names a0 M) := by
  refine x_C_of 1 [some (.int a0)] (by decide) ml_123 (Nat.le_of_ble_eq_true rfl) rfl ?_
  rw [ru_names]
  refine xr_1 f_123_0 rfl ?_
  refine xr_28_2 f_123_1 ?_ ?_
  · refine xr_0 f_123_13 ?_
    exact xr_52c f_123_14 (by decide)
  · refine xr_1 f_123_4 rfl ?_
    refine xr_0 f_123_5 ?_
    refine xr_29_4 f_123_6 ?_ ?_
    · refine xr_0 f_123_13 ?_
      exact xr_52c f_123_14 (by decide)
    · refine xr_0 f_123_9 ?_
      refine xr_27 f_123_10 ?_
      exact xr_52c f_123_14 (by decide)

def ru_valueOf (a1 : Int32) (M : e_Me) : Option Int32 :=
  x_bd (ru_names a1 M) fun x1 =>
  if x1 = 0 then
    some (0 : Int32)
  else
    x_rd (M 2) 4 a1 fun x2 =>
    some x2
theorem c_ru_valueOf (a1 : Int32) (M : e_Me) : x_C G 125 [.ref 1, .int a1] M (x_ri M) (ru_valueOf a1 M) := by
  refine x_C_of 2 [some (.ref 1), some (.int a1)] (by decide) ml_125 (Nat.le_of_ble_eq_true rfl) rfl ?_
  rw [ru_valueOf]
  refine xr_1 f_125_0 rfl ?_
  refine xr_ci f_125_1 (Nat.le_of_ble_eq_true rfl) rfl rfl (xr_rs kd_123) (Nat.le_of_ble_eq_true rfl) mc_123 ms_123 (c_ru_names a1 M) ?_
  intro x1
  refine xr_28_0 f_125_4 ?_ ?_
  · refine xr_0 f_125_16 ?_
    exact xr_51 f_125_17
  · refine xr_2 f_125_7 rfl ?_
    refine xr_30r f_125_8 h_1 rfl ?_
    refine xr_1 f_125_11 rfl ?_
    refine xr_32 f_125_12 h_2 ?_
    intro x2
    refine xr_27 f_125_13 ?_
    exact xr_51 f_125_17

def wh_turnTo (a1 : Int32) (M : e_Me) : Option e_Me :=
  x_bd (wh_has a1 M) fun x1 =>
  if x1 = 0 then
    some M
  else
    x_lt (e_up M 3 4 a1) fun M2 =>
    some M2
theorem c_wh_turnTo (a1 : Int32) (M : e_Me) : x_C G 135 [.ref 3, .int a1] M x_rv (wh_turnTo a1 M) := by
  refine x_C_of 2 [some (.ref 3), some (.int a1)] (by decide) ml_135 (Nat.le_of_ble_eq_true rfl) rfl ?_
  rw [wh_turnTo]
  refine xr_2 f_135_0 rfl ?_
  refine xr_1 f_135_1 rfl ?_
  refine xr_ci f_135_2 (Nat.le_of_ble_eq_true rfl) rfl rfl (xr_rv kd_132 h_3) (Nat.le_of_ble_eq_true rfl) mc_132 ms_132 (c_wh_has a1 M) ?_
  intro x1
  refine xr_28_0 f_135_5 ?_ ?_
  · exact xr_50 f_135_13
  · refine xr_2 f_135_8 rfl ?_
    refine xr_1 f_135_9 rfl ?_
    refine xr_31 f_135_10 h_3 rfl ?_
    intro M2
    exact xr_50 f_135_13

def wh_atTop  (M : e_Me) : Option Int32 :=
  x_lt (((M 3 3) / (2 : Int32)) - (M 3 4)) fun y1 =>
  if y1 < 0 then
    some (y1 + (M 3 3))
  else
    some y1
theorem c_wh_atTop  (M : e_Me) : x_C G 141 [.ref 3] M (x_ri M) (wh_atTop  M) := by
  refine x_C_of 2 [some (.ref 3), none] (by decide) ml_141 (Nat.le_of_ble_eq_true rfl) rfl ?_
  rw [wh_atTop]
  refine xr_2 f_141_0 rfl ?_
  refine xr_30i f_141_1 h_3 rfl ?_
  refine xr_0 f_141_4 ?_
  refine xr_12c f_141_5 (by decide) ?_
  refine xr_2 f_141_6 rfl ?_
  refine xr_30i f_141_7 h_3 rfl ?_
  refine xr_9 f_141_10 ?_
  refine xr_4l (fun y1 => [some (.ref 3), some (.int y1)]) f_141_11 rfl (fun _ => rfl) ?_
  intro y1
  refine xr_1 f_141_12 rfl ?_
  refine xr_28_2 f_141_13 ?_ ?_
  · refine xr_1 f_141_20 rfl ?_
    refine xr_2 f_141_21 rfl ?_
    refine xr_30i f_141_22 h_3 rfl ?_
    refine xr_8 f_141_25 ?_
    exact xr_51 f_141_26
  · refine xr_1 f_141_16 rfl ?_
    refine xr_27 f_141_17 ?_
    exact xr_51 f_141_26

def wh_atDoorWith (a1 : Int32) (M : e_Me) : Option Int32 :=
  if a1 = 0 then
    some (0 : Int32)
  else
    some ((M 3 3) - a1)
theorem c_wh_atDoorWith (a1 : Int32) (M : e_Me) : x_C G 139 [.ref 3, .int a1] M (x_ri M) (wh_atDoorWith a1 M) := by
  refine x_C_of 2 [some (.ref 3), some (.int a1)] (by decide) ml_139 (Nat.le_of_ble_eq_true rfl) rfl ?_
  rw [wh_atDoorWith]
  refine xr_1 f_139_0 rfl ?_
  refine xr_28_1 f_139_1 ?_ ?_
  · refine xr_2 f_139_8 rfl ?_
    refine xr_30i f_139_9 h_3 rfl ?_
    refine xr_1 f_139_12 rfl ?_
    refine xr_9 f_139_13 ?_
    exact xr_51 f_139_14
  · refine xr_0 f_139_4 ?_
    refine xr_27 f_139_5 ?_
    exact xr_51 f_139_14

def wh_atDoor  (M : e_Me) : Option Int32 :=
  x_bd (wh_atDoorWith (M 3 4) M) fun x1 =>
  some x1
theorem c_wh_atDoor  (M : e_Me) : x_C G 138 [.ref 3] M (x_ri M) (wh_atDoor  M) := by
  refine x_C_of 1 [some (.ref 3)] (by decide) ml_138 (Nat.le_of_ble_eq_true rfl) rfl ?_
  rw [wh_atDoor]
  refine xr_2 f_138_0 rfl ?_
  refine xr_2 f_138_1 rfl ?_
  refine xr_30i f_138_2 h_3 rfl ?_
  refine xr_ci f_138_5 (Nat.le_of_ble_eq_true rfl) rfl rfl (xr_rv kd_139 h_3) (Nat.le_of_ble_eq_true rfl) mc_139 ms_139 (c_wh_atDoorWith (M 3 4) M) ?_
  intro x1
  exact xr_51 f_138_8

def wh_greatestWith_l5  (a1 : Int32) (a2 : Int32) (M : e_Me) : Nat → Int32 → Int32 → Option Int32
  | 0, _, _ => none
  | F + 1, a3, a4 =>
    if (M 3 3) ≤ a4 then
      some a3
    else
      x_rd (M 6) 30 a4 fun x1 =>
      x_bd (wh_armOf a1 a4 M) fun x2 =>
      x_bd (ma_abs (x1 + (a2 * x2)) M) fun x3 =>
      x_bd (ma_max a3 x3 M) fun x4 =>
      wh_greatestWith_l5 a1 a2 M F x4 (a4 + (1 : Int32))
theorem c_wh_greatestWith_l5  (a1 : Int32) (a2 : Int32) (M : e_Me)  : ∀ (F : Nat) (a3 : Int32) (a4 : Int32), x_X G 149 0 0 (x_ri M) 5 [some (.ref 3), some (.int a1), some (.int a2), some (.int a3), some (.int a4)] [] M (wh_greatestWith_l5 a1 a2 M F a3 a4) := by
  intro F
  induction F with
  | zero => intro a3 a4; exact xr_none
  | succ F ih =>
    intro a3 a4
    rw [wh_greatestWith_l5]
    refine xr_1 f_149_5 rfl ?_
    refine xr_2 f_149_7 rfl ?_
    refine xr_30i f_149_8 h_3 rfl ?_
    refine xr_29_3 f_149_11 ?_ ?_
    · refine xr_1 f_149_45 rfl ?_
      exact xr_51 f_149_46
    · refine xr_1 f_149_14 rfl ?_
      refine xr_2 f_149_15 rfl ?_
      refine xr_30r f_149_16 h_3 rfl ?_
      refine xr_1 f_149_19 rfl ?_
      refine xr_32 f_149_21 h_6 ?_
      intro x1
      refine xr_1 f_149_22 rfl ?_
      refine xr_2 f_149_23 rfl ?_
      refine xr_1 f_149_24 rfl ?_
      refine xr_1 f_149_25 rfl ?_
      refine xr_ci f_149_27 (Nat.le_of_ble_eq_true rfl) rfl rfl (xr_rv kd_144 h_3) (Nat.le_of_ble_eq_true rfl) mc_144 ms_144 (c_wh_armOf a1 a4 M) ?_
      intro x2
      refine xr_10 f_149_30 ?_
      refine xr_8 f_149_31 ?_
      refine xr_ci f_149_32 (Nat.le_of_ble_eq_true rfl) rfl rfl (xr_rs kd_264) (Nat.le_of_ble_eq_true rfl) mc_264 ms_264 (c_ma_abs (x1 + (a2 * x2)) M) ?_
      intro x3
      refine xr_ci f_149_35 (Nat.le_of_ble_eq_true rfl) rfl rfl (xr_rs kd_265) (Nat.le_of_ble_eq_true rfl) mc_265 ms_265 (c_ma_max a3 x3 M) ?_
      intro x4
      refine xr_4 [some (.ref 3), some (.int a1), some (.int a2), some (.int x4), some (.int a4)] f_149_38 rfl rfl ?_
      refine xr_7 [some (.ref 3), some (.int a1), some (.int a2), some (.int x4), some (.int (a4 + (1 : Int32)))] f_149_39 rfl rfl rfl ?_
      refine xr_27 f_149_42 ?_
      exact ih x4 (a4 + (1 : Int32))

def wh_greatestWith (a1 : Int32) (a2 : Int32) (M : e_Me) : Option Int32 :=
  wh_greatestWith_l5 a1 a2 M e_F (0 : Int32) (0 : Int32)
theorem c_wh_greatestWith (a1 : Int32) (a2 : Int32) (M : e_Me) : x_C G 149 [.ref 3, .int a1, .int a2] M (x_ri M) (wh_greatestWith a1 a2 M) := by
  refine x_C_of 5 [some (.ref 3), some (.int a1), some (.int a2), none, none] (by decide) ml_149 (Nat.le_of_ble_eq_true rfl) rfl ?_
  rw [wh_greatestWith]
  refine xr_0 f_149_0 ?_
  refine xr_4 [some (.ref 3), some (.int a1), some (.int a2), some (.int (0 : Int32)), none] f_149_1 rfl rfl ?_
  refine xr_0 f_149_2 ?_
  refine xr_4 [some (.ref 3), some (.int a1), some (.int a2), some (.int (0 : Int32)), some (.int (0 : Int32))] f_149_3 rfl rfl ?_
  exact c_wh_greatestWith_l5 a1 a2 M e_F (0 : Int32) (0 : Int32)

def ro_cut_b45  (ra0 : Nat) (na0 : Nat) (M : e_Me) : Option e_Me :=
  x_lt (e_up M ra0 1 ((M ra0 1) - (1 : Int32))) fun M1 =>
  some M1
theorem c_ro_cut_b45  (ra0 : Nat) (na0 : Nat) (hra0 : e_cap ra0 = some na0) (M : e_Me)  : x_X G 118 0 0 x_rv 45 [some (.ref ra0), none, none] [] M (ro_cut_b45 ra0 na0 M) := by
  rw [ro_cut_b45]
  refine xr_2 f_118_45 rfl ?_
  refine xr_24r f_118_46 ?_
  refine xr_30i f_118_47 (e_cap_obj hra0) rfl ?_
  refine xr_0 f_118_50 ?_
  refine xr_9 f_118_51 ?_
  refine xr_31 f_118_52 (e_cap_obj hra0) rfl ?_
  intro M1
  exact xr_50 f_118_55

def ro_cut_l17  (ra0 : Nat) (na0 : Nat) : Nat → Int32 → e_Me → Option e_Me
  | 0, _, _ => none
  | F + 1, a2, M =>
    if (M ra0 1) ≤ a2 then
      ro_cut_b45 ra0 na0 M
    else
      x_rd (M (ra0 + 1)) na0 a2 fun x1 =>
      x_wr M (ra0 + 1) na0 (a2 - (1 : Int32)) x1 fun M2 =>
      ro_cut_l17 ra0 na0 F (a2 + (1 : Int32)) M2
theorem c_ro_cut_l17  (ra0 : Nat) (na0 : Nat) (hra0 : e_cap ra0 = some na0)  : ∀ (F : Nat) (a2 : Int32) (M : e_Me), x_X G 118 0 0 x_rv 17 [some (.ref ra0), none, some (.int a2)] [] M (ro_cut_l17 ra0 na0 F a2 M) := by
  intro F
  induction F with
  | zero => intro a2 M; exact xr_none
  | succ F ih =>
    intro a2 M
    rw [ro_cut_l17]
    refine xr_1 f_118_17 rfl ?_
    refine xr_2 f_118_18 rfl ?_
    refine xr_30i f_118_19 (e_cap_obj hra0) rfl ?_
    refine xr_29_3 f_118_22 ?_ ?_
    · refine xr_wk (L' := [some (.ref ra0), none, none]) [true, true, false] rfl ?_
      exact c_ro_cut_b45 ra0 na0 hra0 M
    · refine xr_2 f_118_25 rfl ?_
      refine xr_30r f_118_26 (e_cap_obj hra0) rfl ?_
      refine xr_1 f_118_29 rfl ?_
      refine xr_0 f_118_30 ?_
      refine xr_9 f_118_31 ?_
      refine xr_2 f_118_32 rfl ?_
      refine xr_30r f_118_33 (e_cap_obj hra0) rfl ?_
      refine xr_1 f_118_36 rfl ?_
      refine xr_32 f_118_37 (e_cap_arr hra0) ?_
      intro x1
      refine xr_33 f_118_38 (e_cap_arr hra0) ?_
      intro M2
      refine xr_7 [some (.ref ra0), none, some (.int (a2 + (1 : Int32)))] f_118_39 rfl rfl rfl ?_
      refine xr_27 f_118_42 ?_
      exact ih (a2 + (1 : Int32)) M2

def ro_cut (r : Nat) (a1 : Int32) (M : e_Me) : Option e_Me :=
  x_bd (e_cap r) fun cap =>
  if a1 < 0 then
    some M
  else
    if a1 < (M r 1) then
      x_lt (a1 + (1 : Int32)) fun y1 =>
      ro_cut_l17 r cap e_F y1 M
    else
      some M
theorem c_ro_cut (r : Nat) (a1 : Int32) (M : e_Me) : x_C G 118 [.ref r, .int a1] M x_rv (ro_cut r a1 M) := by
  refine x_C_of 3 [some (.ref r), some (.int a1), none] (by decide) ml_118 (Nat.le_of_ble_eq_true rfl) rfl ?_
  rw [ro_cut]
  refine xr_cap ?_
  intro cap hr
  refine xr_1 f_118_0 rfl ?_
  refine xr_28_2 f_118_1 ?_ ?_
  · exact xr_50 f_118_12
  · refine xr_1 f_118_4 rfl ?_
    refine xr_2 f_118_5 rfl ?_
    refine xr_30i f_118_6 (e_cap_obj hr) rfl ?_
    refine xr_29_2 f_118_9 ?_ ?_
    · refine xr_1 f_118_13 rfl ?_
      refine xr_0 f_118_14 ?_
      refine xr_8 f_118_15 ?_
      refine xr_4l (fun y1 => [some (.ref r), some (.int a1), some (.int y1)]) f_118_16 rfl (fun _ => rfl) ?_
      intro y1
      refine xr_wk (L' := [some (.ref r), none, some (.int y1)]) [true, false, true] rfl ?_
      exact c_ro_cut_l17 r cap hr e_F y1 M
    · exact xr_50 f_118_12

def wh_addLoad_l21  (a1 : Int32) (a2 : Int32) : Nat → Int32 → e_Me → Option e_Me
  | 0, _, _ => none
  | F + 1, a3, M =>
    if (M 3 3) ≤ a3 then
      some M
    else
      x_rd (M 6) 30 a3 fun x1 =>
      x_bd (wh_armOf a1 a3 M) fun x2 =>
      x_wr M 6 30 a3 (x1 + (a2 * x2)) fun M3 =>
      wh_addLoad_l21 a1 a2 F (a3 + (1 : Int32)) M3
theorem c_wh_addLoad_l21  (a1 : Int32) (a2 : Int32)  : ∀ (F : Nat) (a3 : Int32) (M : e_Me), x_X G 146 0 0 x_rv 21 [some (.ref 3), some (.int a1), some (.int a2), some (.int a3)] [] M (wh_addLoad_l21 a1 a2 F a3 M) := by
  intro F
  induction F with
  | zero => intro a3 M; exact xr_none
  | succ F ih =>
    intro a3 M
    rw [wh_addLoad_l21]
    refine xr_1 f_146_21 rfl ?_
    refine xr_2 f_146_22 rfl ?_
    refine xr_30i f_146_23 h_3 rfl ?_
    refine xr_29_3 f_146_26 ?_ ?_
    · exact xr_50 f_146_52
    · refine xr_2 f_146_29 rfl ?_
      refine xr_30r f_146_30 h_3 rfl ?_
      refine xr_1 f_146_33 rfl ?_
      refine xr_25 f_146_34 ?_
      refine xr_32 f_146_35 h_6 ?_
      intro x1
      refine xr_1 f_146_36 rfl ?_
      refine xr_2 f_146_37 rfl ?_
      refine xr_1 f_146_38 rfl ?_
      refine xr_1 f_146_39 rfl ?_
      refine xr_ci f_146_40 (Nat.le_of_ble_eq_true rfl) rfl rfl (xr_rv kd_144 h_3) (Nat.le_of_ble_eq_true rfl) mc_144 ms_144 (c_wh_armOf a1 a3 M) ?_
      intro x2
      refine xr_10 f_146_43 ?_
      refine xr_8 f_146_44 ?_
      refine xr_33 f_146_45 h_6 ?_
      intro M3
      refine xr_7 [some (.ref 3), some (.int a1), some (.int a2), some (.int (a3 + (1 : Int32)))] f_146_46 rfl rfl rfl ?_
      refine xr_27 f_146_49 ?_
      exact ih (a3 + (1 : Int32)) M3

def wh_addLoad (a1 : Int32) (a2 : Int32) (M : e_Me) : Option e_Me :=
  x_bd (wh_has a1 M) fun x1 =>
  if x1 = 0 then
    some M
  else
    x_rd (M 5) 30 a1 fun x2 =>
    x_wr M 5 30 a1 (x2 + a2) fun M3 =>
    wh_addLoad_l21 a1 a2 e_F (0 : Int32) M3
theorem c_wh_addLoad (a1 : Int32) (a2 : Int32) (M : e_Me) : x_C G 146 [.ref 3, .int a1, .int a2] M x_rv (wh_addLoad a1 a2 M) := by
  refine x_C_of 4 [some (.ref 3), some (.int a1), some (.int a2), none] (by decide) ml_146 (Nat.le_of_ble_eq_true rfl) rfl ?_
  rw [wh_addLoad]
  refine xr_2 f_146_0 rfl ?_
  refine xr_1 f_146_1 rfl ?_
  refine xr_ci f_146_2 (Nat.le_of_ble_eq_true rfl) rfl rfl (xr_rv kd_132 h_3) (Nat.le_of_ble_eq_true rfl) mc_132 ms_132 (c_wh_has a1 M) ?_
  intro x1
  refine xr_28_1 f_146_5 ?_ ?_
  · refine xr_2 f_146_9 rfl ?_
    refine xr_30r f_146_10 h_3 rfl ?_
    refine xr_1 f_146_13 rfl ?_
    refine xr_25 f_146_14 ?_
    refine xr_32 f_146_15 h_5 ?_
    intro x2
    refine xr_1 f_146_16 rfl ?_
    refine xr_8 f_146_17 ?_
    refine xr_33 f_146_18 h_5 ?_
    intro M3
    refine xr_0 f_146_19 ?_
    refine xr_4 [some (.ref 3), some (.int a1), some (.int a2), some (.int (0 : Int32))] f_146_20 rfl rfl ?_
    exact c_wh_addLoad_l21 a1 a2 e_F (0 : Int32) M3
  · exact xr_50 f_146_8

def wh_greatestLean  (M : e_Me) : Option Int32 :=
  x_bd (wh_greatestWith (0 : Int32) (0 : Int32) M) fun x1 =>
  some x1
theorem c_wh_greatestLean  (M : e_Me) : x_C G 148 [.ref 3] M (x_ri M) (wh_greatestLean  M) := by
  refine x_C_of 1 [some (.ref 3)] (by decide) ml_148 (Nat.le_of_ble_eq_true rfl) rfl ?_
  rw [wh_greatestLean]
  refine xr_2 f_148_0 rfl ?_
  refine xr_0 f_148_1 ?_
  refine xr_0 f_148_2 ?_
  refine xr_ci f_148_3 (Nat.le_of_ble_eq_true rfl) rfl rfl (xr_rv kd_149 h_3) (Nat.le_of_ble_eq_true rfl) mc_149 ms_149 (c_wh_greatestWith (0 : Int32) (0 : Int32) M) ?_
  intro x1
  exact xr_51 f_148_6

def ro_mixInto_l2  (ra0 : Nat) (na0 : Nat) (M : e_Me) : Nat → Int64 → Int32 → Option Int64
  | 0, _, _ => none
  | F + 1, a1, a3 =>
    if (M ra0 1) ≤ a3 then
      some a1
    else
      x_rd (M (ra0 + 1)) na0 a3 fun x1 =>
      x_bd (ew_mix a1 (x1).toInt64 M) fun x2 =>
      x_lt x2 fun y3 =>
      ro_mixInto_l2 ra0 na0 M F y3 (a3 + (1 : Int32))
theorem c_ro_mixInto_l2  (ra0 : Nat) (na0 : Nat) (hra0 : e_cap ra0 = some na0) (M : e_Me)  : ∀ (F : Nat) (a1 : Int64) (a3 : Int32), x_X G 121 0 0 (x_rl M) 2 [some (.ref ra0), some (.long a1), none, some (.int a3)] [] M (ro_mixInto_l2 ra0 na0 M F a1 a3) := by
  intro F
  induction F with
  | zero => intro a1 a3; exact xr_none
  | succ F ih =>
    intro a1 a3
    rw [ro_mixInto_l2]
    refine xr_1 f_121_2 rfl ?_
    refine xr_2 f_121_3 rfl ?_
    refine xr_30i f_121_4 (e_cap_obj hra0) rfl ?_
    refine xr_29_3 f_121_7 ?_ ?_
    · refine xr_3 f_121_28 rfl ?_
      exact xr_53 f_121_29
    · refine xr_3 f_121_10 rfl ?_
      refine xr_2 f_121_11 rfl ?_
      refine xr_30r f_121_12 (e_cap_obj hra0) rfl ?_
      refine xr_1 f_121_15 rfl ?_
      refine xr_32 f_121_16 (e_cap_arr hra0) ?_
      intro x1
      refine xr_19 f_121_17 ?_
      refine xr_cl f_121_18 (Nat.le_of_ble_eq_true rfl) rfl rfl (xr_rs kd_191) (Nat.le_of_ble_eq_true rfl) mc_191 ms_191 (c_ew_mix a1 (x1).toInt64 M) ?_
      intro x2
      refine xr_6l (fun y3 => [some (.ref ra0), some (.long y3), none, some (.int a3)]) f_121_21 rfl (fun _ => rfl) ?_
      intro y3
      refine xr_7 [some (.ref ra0), some (.long y3), none, some (.int (a3 + (1 : Int32)))] f_121_22 rfl rfl rfl ?_
      refine xr_27 f_121_25 ?_
      exact ih y3 (a3 + (1 : Int32))

def ro_mixInto (r : Nat) (a1 : Int64) (M : e_Me) : Option Int64 :=
  x_bd (e_cap r) fun cap =>
  ro_mixInto_l2 r cap M e_F a1 (0 : Int32)
theorem c_ro_mixInto (r : Nat) (a1 : Int64) (M : e_Me) : x_C G 121 [.ref r, .long a1] M (x_rl M) (ro_mixInto r a1 M) := by
  refine x_C_of 4 [some (.ref r), some (.long a1), none, none] (by decide) ml_121 (Nat.le_of_ble_eq_true rfl) rfl ?_
  rw [ro_mixInto]
  refine xr_cap ?_
  intro cap hr
  refine xr_0 f_121_0 ?_
  refine xr_4 [some (.ref r), some (.long a1), none, some (.int (0 : Int32))] f_121_1 rfl rfl ?_
  exact c_ro_mixInto_l2 r cap hr M e_F a1 (0 : Int32)

def wh_turnAhead (a1 : Int32) (M : e_Me) : Option Int32 :=
  if a1 ≤ 0 then
    some ((M 3 3) - (1 : Int32))
  else
    some (a1 - (1 : Int32))
theorem c_wh_turnAhead (a1 : Int32) (M : e_Me) : x_C G 137 [.ref 3, .int a1] M (x_ri M) (wh_turnAhead a1 M) := by
  refine x_C_of 2 [some (.ref 3), some (.int a1)] (by decide) ml_137 (Nat.le_of_ble_eq_true rfl) rfl ?_
  rw [wh_turnAhead]
  refine xr_1 f_137_0 rfl ?_
  refine xr_28_5 f_137_1 ?_ ?_
  · refine xr_2 f_137_10 rfl ?_
    refine xr_30i f_137_11 h_3 rfl ?_
    refine xr_0 f_137_14 ?_
    refine xr_9 f_137_15 ?_
    exact xr_51 f_137_16
  · refine xr_1 f_137_4 rfl ?_
    refine xr_0 f_137_5 ?_
    refine xr_9 f_137_6 ?_
    refine xr_27 f_137_7 ?_
    exact xr_51 f_137_16

def ru_allows (a0 : Int32) (a1 : Int32) (M : e_Me) : Option Int32 :=
  x_bd (ru_names a0 M) fun x1 =>
  if x1 = 0 then
    some (0 : Int32)
  else
    x_rd (e_tab [0, 100, 0, 1]) 4 a0 fun x2 =>
    if a1 < x2 then
      some (0 : Int32)
    else
      x_rd (e_tab [1000000, 10000, 500, 20]) 4 a0 fun x3 =>
      if x3 < a1 then
        some (0 : Int32)
      else
        some (1 : Int32)
theorem c_ru_allows (a0 : Int32) (a1 : Int32) (M : e_Me) : x_C G 124 [.int a0, .int a1] M (x_ri M) (ru_allows a0 a1 M) := by
  refine x_C_of 2 [some (.int a0), some (.int a1)] (by decide) ml_124 (Nat.le_of_ble_eq_true rfl) rfl ?_
  rw [ru_allows]
  refine xr_1 f_124_0 rfl ?_
  refine xr_ci f_124_1 (Nat.le_of_ble_eq_true rfl) rfl rfl (xr_rs kd_123) (Nat.le_of_ble_eq_true rfl) mc_123 ms_123 (c_ru_names a0 M) ?_
  intro x1
  refine xr_28_0 f_124_4 ?_ ?_
  · refine xr_0 f_124_29 ?_
    exact xr_52c f_124_30 (by decide)
  · refine xr_1 f_124_7 rfl ?_
    refine xr_39 f_124_8 ?_
    refine xr_1 f_124_11 rfl ?_
    refine xr_32r f_124_12 (e_SHn (by decide)) rfl ?_
    intro x2
    refine xr_29_2 f_124_13 ?_ ?_
    · refine xr_0 f_124_29 ?_
      exact xr_52c f_124_30 (by decide)
    · refine xr_1 f_124_16 rfl ?_
      refine xr_39 f_124_17 ?_
      refine xr_1 f_124_20 rfl ?_
      refine xr_32r f_124_21 (e_SHn (by decide)) rfl ?_
      intro x3
      refine xr_29_4 f_124_22 ?_ ?_
      · refine xr_0 f_124_29 ?_
        exact xr_52c f_124_30 (by decide)
      · refine xr_0 f_124_25 ?_
        refine xr_27 f_124_26 ?_
        exact xr_52c f_124_30 (by decide)

def ru_change (a1 : Int32) (a2 : Int32) (M : e_Me) : Option (Int32 × e_Me) :=
  x_bd (ru_valueOf a1 M) fun x1 =>
  x_bd (ru_names a1 M) fun x2 =>
  if x2 = 0 then
    some (x1, M)
  else
    x_wr M 2 4 a1 a2 fun M3 =>
    some (x1, M3)
theorem c_ru_change (a1 : Int32) (a2 : Int32) (M : e_Me) : x_C G 126 [.ref 1, .int a1, .int a2] M x_rim (ru_change a1 a2 M) := by
  refine x_C_of 4 [some (.ref 1), some (.int a1), some (.int a2), none] (by decide) ml_126 (Nat.le_of_ble_eq_true rfl) rfl ?_
  rw [ru_change]
  refine xr_2 f_126_0 rfl ?_
  refine xr_1 f_126_1 rfl ?_
  refine xr_ci f_126_2 (Nat.le_of_ble_eq_true rfl) rfl rfl (xr_rv kd_125 h_1) (Nat.le_of_ble_eq_true rfl) mc_125 ms_125 (c_ru_valueOf a1 M) ?_
  intro x1
  refine xr_4 [some (.ref 1), some (.int a1), some (.int a2), some (.int x1)] f_126_5 rfl rfl ?_
  refine xr_1 f_126_6 rfl ?_
  refine xr_ci f_126_7 (Nat.le_of_ble_eq_true rfl) rfl rfl (xr_rs kd_123) (Nat.le_of_ble_eq_true rfl) mc_123 ms_123 (c_ru_names a1 M) ?_
  intro x2
  refine xr_28_0 f_126_10 ?_ ?_
  · refine xr_1 f_126_20 rfl ?_
    exact xr_51m f_126_21
  · refine xr_2 f_126_13 rfl ?_
    refine xr_30r f_126_14 h_1 rfl ?_
    refine xr_1 f_126_17 rfl ?_
    refine xr_1 f_126_18 rfl ?_
    refine xr_33 f_126_19 h_2 ?_
    intro M3
    refine xr_1 f_126_20 rfl ?_
    exact xr_51m f_126_21

def ru_mixInto_l2  (M : e_Me) : Nat → Int64 → Int32 → Option Int64
  | 0, _, _ => none
  | F + 1, a1, a3 =>
    if (3 : Int32) < a3 then
      some a1
    else
      x_rd (M 2) 4 a3 fun x1 =>
      x_bd (ew_mix a1 (x1).toInt64 M) fun x2 =>
      x_lt x2 fun y3 =>
      ru_mixInto_l2 M F y3 (a3 + (1 : Int32))
theorem c_ru_mixInto_l2  (M : e_Me)  : ∀ (F : Nat) (a1 : Int64) (a3 : Int32), x_X G 127 0 0 (x_rl M) 2 [some (.ref 1), some (.long a1), none, some (.int a3)] [] M (ru_mixInto_l2 M F a1 a3) := by
  intro F
  induction F with
  | zero => intro a1 a3; exact xr_none
  | succ F ih =>
    intro a1 a3
    rw [ru_mixInto_l2]
    refine xr_1 f_127_2 rfl ?_
    refine xr_0 f_127_3 ?_
    refine xr_29_4 f_127_4 ?_ ?_
    · refine xr_3 f_127_25 rfl ?_
      exact xr_53 f_127_26
    · refine xr_3 f_127_7 rfl ?_
      refine xr_2 f_127_8 rfl ?_
      refine xr_30r f_127_9 h_1 rfl ?_
      refine xr_1 f_127_12 rfl ?_
      refine xr_32 f_127_13 h_2 ?_
      intro x1
      refine xr_19 f_127_14 ?_
      refine xr_cl f_127_15 (Nat.le_of_ble_eq_true rfl) rfl rfl (xr_rs kd_191) (Nat.le_of_ble_eq_true rfl) mc_191 ms_191 (c_ew_mix a1 (x1).toInt64 M) ?_
      intro x2
      refine xr_6l (fun y3 => [some (.ref 1), some (.long y3), none, some (.int a3)]) f_127_18 rfl (fun _ => rfl) ?_
      intro y3
      refine xr_7 [some (.ref 1), some (.long y3), none, some (.int (a3 + (1 : Int32)))] f_127_19 rfl rfl rfl ?_
      refine xr_27 f_127_22 ?_
      exact ih y3 (a3 + (1 : Int32))

def ru_mixInto (a1 : Int64) (M : e_Me) : Option Int64 :=
  ru_mixInto_l2 M e_F a1 (0 : Int32)
theorem c_ru_mixInto (a1 : Int64) (M : e_Me) : x_C G 127 [.ref 1, .long a1] M (x_rl M) (ru_mixInto a1 M) := by
  refine x_C_of 4 [some (.ref 1), some (.long a1), none, none] (by decide) ml_127 (Nat.le_of_ble_eq_true rfl) rfl ?_
  rw [ru_mixInto]
  refine xr_0 f_127_0 ?_
  refine xr_4 [some (.ref 1), some (.long a1), none, some (.int (0 : Int32))] f_127_1 rfl rfl ?_
  exact c_ru_mixInto_l2 M e_F a1 (0 : Int32)

def wh_sixtiethsApart (a0 : Int32) (M : e_Me) : Option Int32 :=
  if a0 = 6 then
    some (10 : Int32)
  else
  if a0 = 10 then
    some (6 : Int32)
  else
  if a0 = 12 then
    some (5 : Int32)
  else
  if a0 = 20 then
    some (3 : Int32)
  else
  if a0 = 30 then
    some (2 : Int32)
  else
  some (0 : Int32)
theorem c_wh_sixtiethsApart (a0 : Int32) (M : e_Me) : x_C G 129 [.int a0] M (x_ri M) (wh_sixtiethsApart a0 M) := by
  refine x_C_of 1 [some (.int a0)] (by decide) ml_129 (Nat.le_of_ble_eq_true rfl) rfl ?_
  rw [wh_sixtiethsApart]
  refine xr_1 f_129_0 rfl ?_
  refine xr_48 f_129_1 rfl ?_
  refine xr_s1 ?_ ?_
  · refine xr_0 f_129_52 ?_
    exact xr_51 f_129_54
  refine xr_s1 ?_ ?_
  · refine xr_0 f_129_55 ?_
    exact xr_51 f_129_57
  refine xr_s1 ?_ ?_
  · refine xr_0 f_129_58 ?_
    exact xr_51 f_129_59
  refine xr_s1 ?_ ?_
  · refine xr_0 f_129_60 ?_
    exact xr_51 f_129_61
  refine xr_s1 ?_ ?_
  · refine xr_0 f_129_62 ?_
    exact xr_51 f_129_63
  refine xr_s0 ?_
  refine xr_0 f_129_64 ?_
  exact xr_51 f_129_65

def wh_armAtSixtieth_b45  (a0 : Int32) (s0 : Int32) (M : e_Me) : Option Int32 :=
  if a0 ≤ (30 : Int32) then
    some s0
  else
    some (-s0)
theorem c_wh_armAtSixtieth_b45  (a0 : Int32) (s0 : Int32) (M : e_Me)  : x_X G 131 0 0 (x_ri M) 45 [some (.int a0), none, none, none] [.int s0] M (wh_armAtSixtieth_b45 a0 s0 M) := by
  rw [wh_armAtSixtieth_b45]
  refine xr_4 [some (.int a0), none, none, some (.int s0)] f_131_45 rfl rfl ?_
  refine xr_1 f_131_46 rfl ?_
  refine xr_0 f_131_47 ?_
  refine xr_29_5 f_131_49 ?_ ?_
  · refine xr_1 f_131_57 rfl ?_
    exact xr_51 f_131_58
  · refine xr_1 f_131_52 rfl ?_
    refine xr_11 f_131_53 ?_
    refine xr_27 f_131_54 ?_
    exact xr_51 f_131_58

def wh_armAtSixtieth_b14  (a0 : Int32) (s0 : Int32) (M : e_Me) : Option Int32 :=
  x_bd (ma_min s0 ((30 : Int32) - s0) M) fun x1 =>
  if x1 < 0 then
    wh_armAtSixtieth_b45 a0 (0 : Int32) M
  else
    if (nI 16) ≤ x1 then
      wh_armAtSixtieth_b45 a0 (0 : Int32) M
    else
      x_rd (e_tab [0, 10, 21, 31, 41, 50, 59, 67, 74, 81, 87, 91, 95, 98, 99, 100]) 16 x1 fun x2 =>
      wh_armAtSixtieth_b45 a0 x2 M
theorem c_wh_armAtSixtieth_b14  (a0 : Int32) (s0 : Int32) (M : e_Me)  : x_X G 131 0 0 (x_ri M) 14 [some (.int a0), none, none, none] [.int s0] M (wh_armAtSixtieth_b14 a0 s0 M) := by
  rw [wh_armAtSixtieth_b14]
  refine xr_4 [some (.int a0), some (.int s0), none, none] f_131_14 rfl rfl ?_
  refine xr_1 f_131_15 rfl ?_
  refine xr_0 f_131_16 ?_
  refine xr_1 f_131_18 rfl ?_
  refine xr_9 f_131_19 ?_
  refine xr_ci f_131_20 (Nat.le_of_ble_eq_true rfl) rfl rfl (xr_rs kd_266) (Nat.le_of_ble_eq_true rfl) mc_266 ms_266 (c_ma_min s0 ((30 : Int32) - s0) M) ?_
  intro x1
  refine xr_4 [some (.int a0), some (.int s0), some (.int x1), none] f_131_23 rfl rfl ?_
  refine xr_1 f_131_24 rfl ?_
  refine xr_28_2 f_131_25 ?_ ?_
  · refine xr_0 f_131_44 ?_
    refine xr_wk (L' := [some (.int a0), none, none, none]) [true, false, false, true] rfl ?_
    exact c_wh_armAtSixtieth_b45 a0 (0 : Int32) M
  · refine xr_1 f_131_28 rfl ?_
    refine xr_39 f_131_29 ?_
    refine xr_38r f_131_32 (e_SHn (by decide)) rfl ?_
    refine xr_29_3 f_131_33 ?_ ?_
    · refine xr_0 f_131_44 ?_
      refine xr_wk (L' := [some (.int a0), none, none, none]) [true, false, false, true] rfl ?_
      exact c_wh_armAtSixtieth_b45 a0 (0 : Int32) M
    · refine xr_39 f_131_36 ?_
      refine xr_1 f_131_39 rfl ?_
      refine xr_32r f_131_40 (e_SHn (by decide)) rfl ?_
      intro x2
      refine xr_27 f_131_41 ?_
      refine xr_wk (L' := [some (.int a0), none, none, none]) [true, false, false, true] rfl ?_
      exact c_wh_armAtSixtieth_b45 a0 x2 M

def wh_armAtSixtieth (a0 : Int32) (M : e_Me) : Option Int32 :=
  if a0 ≤ (30 : Int32) then
    wh_armAtSixtieth_b14 a0 a0 M
  else
    wh_armAtSixtieth_b14 a0 (a0 - (30 : Int32)) M
theorem c_wh_armAtSixtieth (a0 : Int32) (M : e_Me) : x_C G 131 [.int a0] M (x_ri M) (wh_armAtSixtieth a0 M) := by
  refine x_C_of 4 [some (.int a0), none, none, none] (by decide) ml_131 (Nat.le_of_ble_eq_true rfl) rfl ?_
  rw [wh_armAtSixtieth]
  refine xr_1 f_131_0 rfl ?_
  refine xr_0 f_131_1 ?_
  refine xr_29_5 f_131_3 ?_ ?_
  · refine xr_1 f_131_13 rfl ?_
    exact c_wh_armAtSixtieth_b14 a0 a0 M
  · refine xr_1 f_131_6 rfl ?_
    refine xr_0 f_131_7 ?_
    refine xr_9 f_131_9 ?_
    refine xr_27 f_131_10 ?_
    exact c_wh_armAtSixtieth_b14 a0 (a0 - (30 : Int32)) M

def wh_lay_l38  (a1 : Int32) (a2 : Int32) : Nat → Int32 → e_Me → Option e_Me
  | 0, _, _ => none
  | F + 1, a3, M =>
    if a1 ≤ a3 then
      some M
    else
      x_bd (wh_armAtSixtieth (a3 * a2) M) fun x1 =>
      x_wr M 4 30 a3 x1 fun M2 =>
      wh_lay_l38 a1 a2 F (a3 + (1 : Int32)) M2
theorem c_wh_lay_l38  (a1 : Int32) (a2 : Int32)  : ∀ (F : Nat) (a3 : Int32) (M : e_Me), x_X G 130 0 0 x_rv 38 [some (.ref 3), some (.int a1), some (.int a2), some (.int a3)] [] M (wh_lay_l38 a1 a2 F a3 M) := by
  intro F
  induction F with
  | zero => intro a3 M; exact xr_none
  | succ F ih =>
    intro a3 M
    rw [wh_lay_l38]
    refine xr_1 f_130_38 rfl ?_
    refine xr_1 f_130_39 rfl ?_
    refine xr_29_3 f_130_40 ?_ ?_
    · exact xr_50 f_130_61
    · refine xr_2 f_130_43 rfl ?_
      refine xr_30r f_130_44 h_3 rfl ?_
      refine xr_1 f_130_47 rfl ?_
      refine xr_1 f_130_48 rfl ?_
      refine xr_1 f_130_49 rfl ?_
      refine xr_10 f_130_50 ?_
      refine xr_ci f_130_51 (Nat.le_of_ble_eq_true rfl) rfl rfl (xr_rs kd_131) (Nat.le_of_ble_eq_true rfl) mc_131 ms_131 (c_wh_armAtSixtieth (a3 * a2) M) ?_
      intro x1
      refine xr_33 f_130_54 h_4 ?_
      intro M2
      refine xr_7 [some (.ref 3), some (.int a1), some (.int a2), some (.int (a3 + (1 : Int32)))] f_130_55 rfl rfl rfl ?_
      refine xr_27 f_130_58 ?_
      exact ih (a3 + (1 : Int32)) M2

def wh_lay (a1 : Int32) (M : e_Me) : Option e_Me :=
  x_bd (wh_sixtiethsApart a1 M) fun x1 =>
  if x1 = 0 then
    some M
  else
    x_lt (e_up M 3 3 a1) fun M2 =>
    x_lt (e_up M2 3 4 (0 : Int32)) fun M3 =>
    x_bd (ar_fill 5 (0 : Int32) M3) fun M4 =>
    x_bd (ar_fill 6 (0 : Int32) M4) fun M5 =>
    wh_lay_l38 a1 x1 e_F (0 : Int32) M5
theorem c_wh_lay (a1 : Int32) (M : e_Me) : x_C G 130 [.ref 3, .int a1] M x_rv (wh_lay a1 M) := by
  refine x_C_of 4 [some (.ref 3), some (.int a1), none, none] (by decide) ml_130 (Nat.le_of_ble_eq_true rfl) rfl ?_
  rw [wh_lay]
  refine xr_1 f_130_0 rfl ?_
  refine xr_ci f_130_1 (Nat.le_of_ble_eq_true rfl) rfl rfl (xr_rs kd_129) (Nat.le_of_ble_eq_true rfl) mc_129 ms_129 (c_wh_sixtiethsApart a1 M) ?_
  intro x1
  refine xr_4 [some (.ref 3), some (.int a1), some (.int x1), none] f_130_4 rfl rfl ?_
  refine xr_1 f_130_5 rfl ?_
  refine xr_28_1 f_130_6 ?_ ?_
  · refine xr_2 f_130_10 rfl ?_
    refine xr_1 f_130_11 rfl ?_
    refine xr_31 f_130_12 h_3 rfl ?_
    intro M2
    refine xr_2 f_130_15 rfl ?_
    refine xr_0 f_130_16 ?_
    refine xr_31 f_130_17 h_3 rfl ?_
    intro M3
    refine xr_2 f_130_20 rfl ?_
    refine xr_30r f_130_21 h_3 rfl ?_
    refine xr_0 f_130_24 ?_
    refine xr_cv f_130_25 (Nat.le_of_ble_eq_true rfl) rfl rfl (xr_rs kd_267) (Nat.le_of_ble_eq_true rfl) mc_267 ms_267 (c_ar_fill 5 (0 : Int32) M3) ?_
    intro M4
    refine xr_2 f_130_28 rfl ?_
    refine xr_30r f_130_29 h_3 rfl ?_
    refine xr_0 f_130_32 ?_
    refine xr_cv f_130_33 (Nat.le_of_ble_eq_true rfl) rfl rfl (xr_rs kd_267) (Nat.le_of_ble_eq_true rfl) mc_267 ms_267 (c_ar_fill 6 (0 : Int32) M4) ?_
    intro M5
    refine xr_0 f_130_36 ?_
    refine xr_4 [some (.ref 3), some (.int a1), some (.int x1), some (.int (0 : Int32))] f_130_37 rfl rfl ?_
    exact c_wh_lay_l38 a1 x1 e_F (0 : Int32) M5
  · exact xr_50 f_130_9

def wh_placeOf (a1 : Int32) (M : e_Me) : Option Int32 :=
  x_bd (wh_placeWith a1 (M 3 4) M) fun x1 =>
  some x1
theorem c_wh_placeOf (a1 : Int32) (M : e_Me) : x_C G 142 [.ref 3, .int a1] M (x_ri M) (wh_placeOf a1 M) := by
  refine x_C_of 2 [some (.ref 3), some (.int a1)] (by decide) ml_142 (Nat.le_of_ble_eq_true rfl) rfl ?_
  rw [wh_placeOf]
  refine xr_2 f_142_0 rfl ?_
  refine xr_1 f_142_1 rfl ?_
  refine xr_2 f_142_2 rfl ?_
  refine xr_30i f_142_3 h_3 rfl ?_
  refine xr_ci f_142_6 (Nat.le_of_ble_eq_true rfl) rfl rfl (xr_rv kd_143 h_3) (Nat.le_of_ble_eq_true rfl) mc_143 ms_143 (c_wh_placeWith a1 (M 3 4) M) ?_
  intro x1
  exact xr_51 f_142_9

def wh_worstTurn_l4  (M : e_Me) : Nat → Int32 → Int32 → Option Int32
  | 0, _, _ => none
  | F + 1, a1, a2 =>
    if (M 3 3) ≤ a2 then
      some a1
    else
      x_rd (M 6) 30 a2 fun x1 =>
      x_bd (ma_abs x1 M) fun x2 =>
      x_rd (M 6) 30 a1 fun x3 =>
      x_bd (ma_abs x3 M) fun x4 =>
      if x2 ≤ x4 then
        wh_worstTurn_l4 M F a1 (a2 + (1 : Int32))
      else
        wh_worstTurn_l4 M F a2 (a2 + (1 : Int32))
theorem c_wh_worstTurn_l4  (M : e_Me)  : ∀ (F : Nat) (a1 : Int32) (a2 : Int32), x_X G 150 0 0 (x_ri M) 4 [some (.ref 3), some (.int a1), some (.int a2)] [] M (wh_worstTurn_l4 M F a1 a2) := by
  intro F
  induction F with
  | zero => intro a1 a2; exact xr_none
  | succ F ih =>
    intro a1 a2
    rw [wh_worstTurn_l4]
    refine xr_1 f_150_4 rfl ?_
    refine xr_2 f_150_5 rfl ?_
    refine xr_30i f_150_6 h_3 rfl ?_
    refine xr_29_3 f_150_9 ?_ ?_
    · refine xr_1 f_150_41 rfl ?_
      exact xr_51 f_150_42
    · refine xr_2 f_150_12 rfl ?_
      refine xr_30r f_150_13 h_3 rfl ?_
      refine xr_1 f_150_16 rfl ?_
      refine xr_32 f_150_17 h_6 ?_
      intro x1
      refine xr_ci f_150_18 (Nat.le_of_ble_eq_true rfl) rfl rfl (xr_rs kd_264) (Nat.le_of_ble_eq_true rfl) mc_264 ms_264 (c_ma_abs x1 M) ?_
      intro x2
      refine xr_2 f_150_21 rfl ?_
      refine xr_30r f_150_22 h_3 rfl ?_
      refine xr_1 f_150_25 rfl ?_
      refine xr_32 f_150_26 h_6 ?_
      intro x3
      refine xr_ci f_150_27 (Nat.le_of_ble_eq_true rfl) rfl rfl (xr_rs kd_264) (Nat.le_of_ble_eq_true rfl) mc_264 ms_264 (c_ma_abs x3 M) ?_
      intro x4
      refine xr_29_5 f_150_30 ?_ ?_
      · refine xr_7 [some (.ref 3), some (.int a1), some (.int (a2 + (1 : Int32)))] f_150_35 rfl rfl rfl ?_
        refine xr_27 f_150_38 ?_
        exact ih a1 (a2 + (1 : Int32))
      · refine xr_1 f_150_33 rfl ?_
        refine xr_4 [some (.ref 3), some (.int a2), some (.int a2)] f_150_34 rfl rfl ?_
        refine xr_7 [some (.ref 3), some (.int a2), some (.int (a2 + (1 : Int32)))] f_150_35 rfl rfl rfl ?_
        refine xr_27 f_150_38 ?_
        exact ih a2 (a2 + (1 : Int32))

def wh_worstTurn  (M : e_Me) : Option Int32 :=
  wh_worstTurn_l4 M e_F (0 : Int32) (1 : Int32)
theorem c_wh_worstTurn  (M : e_Me) : x_C G 150 [.ref 3] M (x_ri M) (wh_worstTurn  M) := by
  refine x_C_of 3 [some (.ref 3), none, none] (by decide) ml_150 (Nat.le_of_ble_eq_true rfl) rfl ?_
  rw [wh_worstTurn]
  refine xr_0 f_150_0 ?_
  refine xr_4 [some (.ref 3), some (.int (0 : Int32)), none] f_150_1 rfl rfl ?_
  refine xr_0 f_150_2 ?_
  refine xr_4 [some (.ref 3), some (.int (0 : Int32)), some (.int (1 : Int32))] f_150_3 rfl rfl ?_
  exact c_wh_worstTurn_l4 M e_F (0 : Int32) (1 : Int32)

end
