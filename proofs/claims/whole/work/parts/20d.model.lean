/-! 20d.model: the functions that the methods answer by, and that they do; printed by wip/whole/dec.py -/
section
variable {G : e_G}
def md_begin_l42   : Nat → Int32 → e_Me → Option e_Me
  | 0, _, _ => none
  | F + 1, a2, M =>
    if (30 : Int32) ≤ a2 then
      some M
    else
      x_wr M 184 30 a2 (0 : Int32) fun M1 =>
      x_wr M1 185 30 a2 (0 : Int32) fun M2 =>
      x_wr M2 201 30 a2 (0 : Int32) fun M3 =>
      x_wr M3 202 30 a2 (900 : Int32) fun M4 =>
      md_begin_l42  F (a2 + (1 : Int32)) M4
theorem c_md_begin_l42    : ∀ (F : Nat) (a2 : Int32) (M : e_Me), x_X G 195 0 0 x_rv 42 [some (.ref 182), none, some (.int a2)] [] M (md_begin_l42  F a2 M) := by
  intro F
  induction F with
  | zero => intro a2 M; exact xr_none
  | succ F ih =>
    intro a2 M
    rw [md_begin_l42]
    refine xr_1 f_195_42 rfl ?_
    refine xr_0 f_195_43 ?_
    refine xr_29_3 f_195_45 ?_ ?_
    · exact xr_50 f_195_84
    · refine xr_2 f_195_48 rfl ?_
      refine xr_30r f_195_49 h_182 rfl ?_
      refine xr_1 f_195_52 rfl ?_
      refine xr_0 f_195_53 ?_
      refine xr_33 f_195_54 h_184 ?_
      intro M1
      refine xr_2 f_195_55 rfl ?_
      refine xr_30r f_195_56 h_182 rfl ?_
      refine xr_1 f_195_59 rfl ?_
      refine xr_0 f_195_60 ?_
      refine xr_33 f_195_61 h_185 ?_
      intro M2
      refine xr_2 f_195_62 rfl ?_
      refine xr_30r f_195_63 h_182 rfl ?_
      refine xr_1 f_195_66 rfl ?_
      refine xr_0 f_195_67 ?_
      refine xr_33 f_195_68 h_201 ?_
      intro M3
      refine xr_2 f_195_69 rfl ?_
      refine xr_30r f_195_70 h_182 rfl ?_
      refine xr_1 f_195_73 rfl ?_
      refine xr_0 f_195_74 ?_
      refine xr_33 f_195_77 h_202 ?_
      intro M4
      refine xr_7 [some (.ref 182), none, some (.int (a2 + (1 : Int32)))] f_195_78 rfl rfl rfl ?_
      refine xr_27 f_195_81 ?_
      exact ih (a2 + (1 : Int32)) M4

def md_begin (a1 : Int32) (M : e_Me) : Option e_Me :=
  x_lt (e_up M 182 0 a1) fun M1 =>
  x_lt (e_up M1 182 1 (0 : Int32)) fun M2 =>
  x_lt (e_up M2 182 2 (0 : Int32)) fun M3 =>
  x_lt (e_up M3 182 3 (0 : Int32)) fun M4 =>
  x_lt (e_up M4 182 12 (0 : Int32)) fun M5 =>
  x_lt (e_up M5 182 19 (0 : Int32)) fun M6 =>
  x_lt (e_up M6 182 31 (0 : Int32)) fun M7 =>
  x_lt (e_up M7 182 38 (0 : Int32)) fun M8 =>
  md_begin_l42  e_F (0 : Int32) M8
theorem c_md_begin (a1 : Int32) (M : e_Me) : x_C G 195 [.ref 182, .int a1] M x_rv (md_begin a1 M) := by
  refine x_C_of 3 [some (.ref 182), some (.int a1), none] (by decide) ml_195 (Nat.le_of_ble_eq_true rfl) rfl ?_
  rw [md_begin]
  refine xr_2 f_195_0 rfl ?_
  refine xr_1 f_195_1 rfl ?_
  refine xr_31 f_195_2 h_182 rfl ?_
  intro M1
  refine xr_2 f_195_5 rfl ?_
  refine xr_0 f_195_6 ?_
  refine xr_31 f_195_7 h_182 rfl ?_
  intro M2
  refine xr_2 f_195_10 rfl ?_
  refine xr_0 f_195_11 ?_
  refine xr_31 f_195_12 h_182 rfl ?_
  intro M3
  refine xr_2 f_195_15 rfl ?_
  refine xr_0 f_195_16 ?_
  refine xr_31 f_195_17 h_182 rfl ?_
  intro M4
  refine xr_2 f_195_20 rfl ?_
  refine xr_0 f_195_21 ?_
  refine xr_31 f_195_22 h_182 rfl ?_
  intro M5
  refine xr_2 f_195_25 rfl ?_
  refine xr_0 f_195_26 ?_
  refine xr_31 f_195_27 h_182 rfl ?_
  intro M6
  refine xr_2 f_195_30 rfl ?_
  refine xr_0 f_195_31 ?_
  refine xr_31 f_195_32 h_182 rfl ?_
  intro M7
  refine xr_2 f_195_35 rfl ?_
  refine xr_0 f_195_36 ?_
  refine xr_31 f_195_37 h_182 rfl ?_
  intro M8
  refine xr_0 f_195_40 ?_
  refine xr_4 [some (.ref 182), some (.int a1), some (.int (0 : Int32))] f_195_41 rfl rfl ?_
  refine xr_wk (L' := [some (.ref 182), none, some (.int (0 : Int32))]) [true, false, true] rfl ?_
  exact c_md_begin_l42 e_F (0 : Int32) M8

def md_in (a0 : Int64) (a2 : Int64) (a4 : Int64) (M : e_Me) : Option Int32 :=
  if (lg_cmp a0 a2) < 0 then
    some (0 : Int32)
  else
    if 0 < (lg_cmp a0 a4) then
      some (0 : Int32)
    else
      some (1 : Int32)
theorem c_md_in (a0 : Int64) (a2 : Int64) (a4 : Int64) (M : e_Me) : x_C G 193 [.long a0, .long a2, .long a4] M (x_ri M) (md_in a0 a2 a4 M) := by
  refine x_C_of 6 [some (.long a0), none, some (.long a2), none, some (.long a4), none] (by decide) ml_193 (Nat.le_of_ble_eq_true rfl) rfl ?_
  rw [md_in]
  refine xr_3 f_193_0 rfl ?_
  refine xr_3 f_193_1 rfl ?_
  refine xr_22 f_193_2 ?_
  refine xr_28_2 f_193_3 ?_ ?_
  · refine xr_0 f_193_17 ?_
    exact xr_52c f_193_18 (by decide)
  · refine xr_3 f_193_6 rfl ?_
    refine xr_3 f_193_7 rfl ?_
    refine xr_22 f_193_9 ?_
    refine xr_28_4 f_193_10 ?_ ?_
    · refine xr_0 f_193_17 ?_
      exact xr_52c f_193_18 (by decide)
    · refine xr_0 f_193_13 ?_
      refine xr_27 f_193_14 ?_
      exact xr_52c f_193_18 (by decide)

def md_size (a0 : Int32) (M : e_Me) : Option Int32 :=
  if 0 ≤ a0 then
    some a0
  else
    some (-a0)
theorem c_md_size (a0 : Int32) (M : e_Me) : x_C G 194 [.int a0] M (x_ri M) (md_size a0 M) := by
  refine x_C_of 1 [some (.int a0)] (by decide) ml_194 (Nat.le_of_ble_eq_true rfl) rfl ?_
  rw [md_size]
  refine xr_1 f_194_0 rfl ?_
  refine xr_28_3 f_194_1 ?_ ?_
  · refine xr_1 f_194_9 rfl ?_
    exact xr_51 f_194_10
  · refine xr_1 f_194_4 rfl ?_
    refine xr_11 f_194_5 ?_
    refine xr_27 f_194_6 ?_
    exact xr_51 f_194_10

def md_build_b33  (a1 : Int32) (M : e_Me) : Option (Int32 × e_Me) :=
  x_bd (md_begin a1 M) fun M1 =>
  some ((M1 182 0), M1)
theorem c_md_build_b33  (a1 : Int32) (M : e_Me)  : x_X G 196 0 0 x_rim 33 [some (.ref 182), some (.int a1)] [] M (md_build_b33 a1 M) := by
  rw [md_build_b33]
  refine xr_2 f_196_33 rfl ?_
  refine xr_1 f_196_34 rfl ?_
  refine xr_cv f_196_35 (Nat.le_of_ble_eq_true rfl) rfl rfl (xr_rv kd_195 h_182) (Nat.le_of_ble_eq_true rfl) mc_195 ms_195 (c_md_begin a1 M) ?_
  intro M1
  refine xr_2 f_196_38 rfl ?_
  refine xr_30i f_196_39 h_182 rfl ?_
  exact xr_51m f_196_42

def md_build (a1 : Int32) (M : e_Me) : Option (Int32 × e_Me) :=
  if a1 = (6 : Int32) then
    md_build_b33 a1 M
  else
    if a1 = (10 : Int32) then
      md_build_b33 a1 M
    else
      if a1 = (12 : Int32) then
        md_build_b33 a1 M
      else
        if a1 = (20 : Int32) then
          md_build_b33 a1 M
        else
          if a1 = (30 : Int32) then
            md_build_b33 a1 M
          else
            some ((-102 : Int32), M)
theorem c_md_build (a1 : Int32) (M : e_Me) : x_C G 196 [.ref 182, .int a1] M x_rim (md_build a1 M) := by
  refine x_C_of 2 [some (.ref 182), some (.int a1)] (by decide) ml_196 (Nat.le_of_ble_eq_true rfl) rfl ?_
  rw [md_build]
  refine xr_1 f_196_0 rfl ?_
  refine xr_0 f_196_1 ?_
  refine xr_29_0 f_196_3 ?_ ?_
  · exact c_md_build_b33 a1 M
  · refine xr_1 f_196_6 rfl ?_
    refine xr_0 f_196_7 ?_
    refine xr_29_0 f_196_9 ?_ ?_
    · exact c_md_build_b33 a1 M
    · refine xr_1 f_196_12 rfl ?_
      refine xr_0 f_196_13 ?_
      refine xr_29_0 f_196_15 ?_ ?_
      · exact c_md_build_b33 a1 M
      · refine xr_1 f_196_18 rfl ?_
        refine xr_0 f_196_19 ?_
        refine xr_29_0 f_196_21 ?_ ?_
        · exact c_md_build_b33 a1 M
        · refine xr_1 f_196_24 rfl ?_
          refine xr_0 f_196_25 ?_
          refine xr_29_0 f_196_27 ?_ ?_
          · exact c_md_build_b33 a1 M
          · refine xr_0 f_196_30 ?_
            exact xr_51m f_196_32

def md_reach (a0 : Int32) (M : e_Me) : Option Int32 :=
  if a0 = 0 then
    some (0 : Int32)
  else
  if a0 = 1 then
    some (10 : Int32)
  else
  if a0 = 2 then
    some (21 : Int32)
  else
  if a0 = 3 then
    some (31 : Int32)
  else
  if a0 = 4 then
    some (41 : Int32)
  else
  if a0 = 5 then
    some (50 : Int32)
  else
  if a0 = 6 then
    some (59 : Int32)
  else
  if a0 = 7 then
    some (67 : Int32)
  else
  if a0 = 8 then
    some (74 : Int32)
  else
  if a0 = 9 then
    some (81 : Int32)
  else
  if a0 = 10 then
    some (87 : Int32)
  else
  if a0 = 11 then
    some (91 : Int32)
  else
  if a0 = 12 then
    some (95 : Int32)
  else
  if a0 = 13 then
    some (98 : Int32)
  else
  if a0 = 14 then
    some (99 : Int32)
  else
  some (100 : Int32)
theorem c_md_reach (a0 : Int32) (M : e_Me) : x_C G 197 [.int a0] M (x_ri M) (md_reach a0 M) := by
  refine x_C_of 1 [some (.int a0)] (by decide) ml_197 (Nat.le_of_ble_eq_true rfl) rfl ?_
  rw [md_reach]
  refine xr_1 f_197_0 rfl ?_
  refine xr_47 f_197_1 rfl ?_
  refine xr_s1 ?_ ?_
  · refine xr_0 f_197_76 ?_
    exact xr_51 f_197_77
  refine xr_s1 ?_ ?_
  · refine xr_0 f_197_78 ?_
    exact xr_51 f_197_80
  refine xr_s1 ?_ ?_
  · refine xr_0 f_197_81 ?_
    exact xr_51 f_197_83
  refine xr_s1 ?_ ?_
  · refine xr_0 f_197_84 ?_
    exact xr_51 f_197_86
  refine xr_s1 ?_ ?_
  · refine xr_0 f_197_87 ?_
    exact xr_51 f_197_89
  refine xr_s1 ?_ ?_
  · refine xr_0 f_197_90 ?_
    exact xr_51 f_197_92
  refine xr_s1 ?_ ?_
  · refine xr_0 f_197_93 ?_
    exact xr_51 f_197_95
  refine xr_s1 ?_ ?_
  · refine xr_0 f_197_96 ?_
    exact xr_51 f_197_98
  refine xr_s1 ?_ ?_
  · refine xr_0 f_197_99 ?_
    exact xr_51 f_197_101
  refine xr_s1 ?_ ?_
  · refine xr_0 f_197_102 ?_
    exact xr_51 f_197_104
  refine xr_s1 ?_ ?_
  · refine xr_0 f_197_105 ?_
    exact xr_51 f_197_107
  refine xr_s1 ?_ ?_
  · refine xr_0 f_197_108 ?_
    exact xr_51 f_197_110
  refine xr_s1 ?_ ?_
  · refine xr_0 f_197_111 ?_
    exact xr_51 f_197_113
  refine xr_s1 ?_ ?_
  · refine xr_0 f_197_114 ?_
    exact xr_51 f_197_116
  refine xr_s1 ?_ ?_
  · refine xr_0 f_197_117 ?_
    exact xr_51 f_197_119
  refine xr_s0 ?_
  refine xr_0 f_197_120 ?_
  exact xr_51 f_197_122

def md_armOf_b29  (a2 : Int32) (s0 : Int32) (M : e_Me) : Option Int32 :=
  x_bd (md_reach s0 M) fun x1 =>
  if a2 ≤ (30 : Int32) then
    some x1
  else
    some (-x1)
theorem c_md_armOf_b29  (a2 : Int32) (s0 : Int32) (M : e_Me)  : x_X G 198 0 0 (x_ri M) 29 [none, none, some (.int a2), none, none] [.int s0] M (md_armOf_b29 a2 s0 M) := by
  rw [md_armOf_b29]
  refine xr_ci f_198_29 (Nat.le_of_ble_eq_true rfl) rfl rfl (xr_rs kd_197) (Nat.le_of_ble_eq_true rfl) mc_197 ms_197 (c_md_reach s0 M) ?_
  intro x1
  refine xr_4 [none, none, some (.int a2), none, some (.int x1)] f_198_32 rfl rfl ?_
  refine xr_1 f_198_34 rfl ?_
  refine xr_0 f_198_35 ?_
  refine xr_29_5 f_198_37 ?_ ?_
  · refine xr_1 f_198_46 rfl ?_
    exact xr_51 f_198_48
  · refine xr_1 f_198_40 rfl ?_
    refine xr_11 f_198_42 ?_
    refine xr_27 f_198_43 ?_
    exact xr_51 f_198_48

def md_armOf (a1 : Int32) (M : e_Me) : Option Int32 :=
  x_dv (M 182 0) <|
  x_lt (((60 : Int32) * a1) / (M 182 0)) fun y1 =>
  x_lt (x_rem y1 (30 : Int32)) fun y2 =>
  if y2 ≤ (15 : Int32) then
    md_armOf_b29 y1 y2 M
  else
    md_armOf_b29 y1 ((30 : Int32) - y2) M
theorem c_md_armOf (a1 : Int32) (M : e_Me) : x_C G 198 [.ref 182, .int a1] M (x_ri M) (md_armOf a1 M) := by
  refine x_C_of 5 [some (.ref 182), some (.int a1), none, none, none] (by decide) ml_198 (Nat.le_of_ble_eq_true rfl) rfl ?_
  rw [md_armOf]
  refine xr_0 f_198_0 ?_
  refine xr_1 f_198_2 rfl ?_
  refine xr_10 f_198_3 ?_
  refine xr_2 f_198_4 rfl ?_
  refine xr_30i f_198_5 h_182 rfl ?_
  refine xr_12 f_198_8 ?_
  refine xr_4l (fun y1 => [some (.ref 182), some (.int a1), some (.int y1), none, none]) f_198_9 rfl (fun _ => rfl) ?_
  intro y1
  refine xr_1 f_198_10 rfl ?_
  refine xr_0 f_198_11 ?_
  refine xr_13c f_198_13 (by decide) ?_
  refine xr_4l (fun y2 => [some (.ref 182), some (.int a1), some (.int y1), some (.int y2), none]) f_198_14 rfl (fun _ => rfl) ?_
  intro y2
  refine xr_1 f_198_15 rfl ?_
  refine xr_0 f_198_16 ?_
  refine xr_29_5 f_198_18 ?_ ?_
  · refine xr_1 f_198_28 rfl ?_
    refine xr_wk (L' := [none, none, some (.int y1), none, none]) [false, false, true, false, true] rfl ?_
    exact c_md_armOf_b29 y1 y2 M
  · refine xr_0 f_198_21 ?_
    refine xr_1 f_198_23 rfl ?_
    refine xr_9 f_198_24 ?_
    refine xr_27 f_198_25 ?_
    refine xr_wk (L' := [none, none, some (.int y1), none, none]) [false, false, true, false, true] rfl ?_
    exact c_md_armOf_b29 y1 ((30 : Int32) - y2) M

def md_arm (a1 : Int32) (M : e_Me) : Option Int32 :=
  x_bd (md_in (a1).toInt64 ((0 : Int32)).toInt64 (((M 182 0) - (1 : Int32))).toInt64 M) fun x1 =>
  if x1 = 0 then
    some (-1000 : Int32)
  else
    x_bd (md_armOf a1 M) fun x2 =>
    some x2
theorem c_md_arm (a1 : Int32) (M : e_Me) : x_C G 199 [.ref 182, .int a1] M (x_ri M) (md_arm a1 M) := by
  refine x_C_of 2 [some (.ref 182), some (.int a1)] (by decide) ml_199 (Nat.le_of_ble_eq_true rfl) rfl ?_
  rw [md_arm]
  refine xr_1 f_199_0 rfl ?_
  refine xr_19 f_199_1 ?_
  refine xr_23 f_199_2 ?_
  refine xr_2 f_199_3 rfl ?_
  refine xr_30i f_199_4 h_182 rfl ?_
  refine xr_0 f_199_7 ?_
  refine xr_9 f_199_8 ?_
  refine xr_19 f_199_9 ?_
  refine xr_ci f_199_10 (Nat.le_of_ble_eq_true rfl) rfl rfl (xr_rs kd_193) (Nat.le_of_ble_eq_true rfl) mc_193 ms_193 (c_md_in (a1).toInt64 ((0 : Int32)).toInt64 (((M 182 0) - (1 : Int32))).toInt64 M) ?_
  intro x1
  refine xr_28_0 f_199_13 ?_ ?_
  · refine xr_0 f_199_24 ?_
    exact xr_51 f_199_27
  · refine xr_2 f_199_16 rfl ?_
    refine xr_1 f_199_17 rfl ?_
    refine xr_ci f_199_18 (Nat.le_of_ble_eq_true rfl) rfl rfl (xr_rv kd_198 h_182) (Nat.le_of_ble_eq_true rfl) mc_198 ms_198 (c_md_armOf a1 M) ?_
    intro x2
    refine xr_27 f_199_21 ?_
    exact xr_51 f_199_27

def md_leanOf_l4  (a1 : Int32) (M : e_Me) : Nat → Int32 → Int32 → Option Int32
  | 0, _, _ => none
  | F + 1, a2, a3 =>
    if (M 182 0) ≤ a3 then
      some a2
    else
      x_rd (M 185) 30 a3 fun x1 =>
      x_dv (M 182 0) <|
      x_bd (md_armOf (x_rem (a3 + a1) (M 182 0)) M) fun x2 =>
      x_lt (a2 + (x1 * x2)) fun y3 =>
      md_leanOf_l4 a1 M F y3 (a3 + (1 : Int32))
theorem c_md_leanOf_l4  (a1 : Int32) (M : e_Me)  : ∀ (F : Nat) (a2 : Int32) (a3 : Int32), x_X G 200 0 0 (x_ri M) 4 [some (.ref 182), some (.int a1), some (.int a2), some (.int a3)] [] M (md_leanOf_l4 a1 M F a2 a3) := by
  intro F
  induction F with
  | zero => intro a2 a3; exact xr_none
  | succ F ih =>
    intro a2 a3
    rw [md_leanOf_l4]
    refine xr_1 f_200_4 rfl ?_
    refine xr_2 f_200_5 rfl ?_
    refine xr_30i f_200_6 h_182 rfl ?_
    refine xr_29_3 f_200_9 ?_ ?_
    · refine xr_1 f_200_40 rfl ?_
      exact xr_51 f_200_41
    · refine xr_1 f_200_12 rfl ?_
      refine xr_2 f_200_13 rfl ?_
      refine xr_30r f_200_14 h_182 rfl ?_
      refine xr_1 f_200_17 rfl ?_
      refine xr_32 f_200_18 h_185 ?_
      intro x1
      refine xr_2 f_200_19 rfl ?_
      refine xr_1 f_200_20 rfl ?_
      refine xr_1 f_200_21 rfl ?_
      refine xr_8 f_200_22 ?_
      refine xr_2 f_200_23 rfl ?_
      refine xr_30i f_200_24 h_182 rfl ?_
      refine xr_13 f_200_27 ?_
      refine xr_ci f_200_28 (Nat.le_of_ble_eq_true rfl) rfl rfl (xr_rv kd_198 h_182) (Nat.le_of_ble_eq_true rfl) mc_198 ms_198 (c_md_armOf (x_rem (a3 + a1) (M 182 0)) M) ?_
      intro x2
      refine xr_10 f_200_31 ?_
      refine xr_8 f_200_32 ?_
      refine xr_4l (fun y3 => [some (.ref 182), some (.int a1), some (.int y3), some (.int a3)]) f_200_33 rfl (fun _ => rfl) ?_
      intro y3
      refine xr_7 [some (.ref 182), some (.int a1), some (.int y3), some (.int (a3 + (1 : Int32)))] f_200_34 rfl rfl rfl ?_
      refine xr_27 f_200_37 ?_
      exact ih y3 (a3 + (1 : Int32))

def md_leanOf (a1 : Int32) (M : e_Me) : Option Int32 :=
  md_leanOf_l4 a1 M e_F (0 : Int32) (0 : Int32)
theorem c_md_leanOf (a1 : Int32) (M : e_Me) : x_C G 200 [.ref 182, .int a1] M (x_ri M) (md_leanOf a1 M) := by
  refine x_C_of 4 [some (.ref 182), some (.int a1), none, none] (by decide) ml_200 (Nat.le_of_ble_eq_true rfl) rfl ?_
  rw [md_leanOf]
  refine xr_0 f_200_0 ?_
  refine xr_4 [some (.ref 182), some (.int a1), some (.int (0 : Int32)), none] f_200_1 rfl rfl ?_
  refine xr_0 f_200_2 ?_
  refine xr_4 [some (.ref 182), some (.int a1), some (.int (0 : Int32)), some (.int (0 : Int32))] f_200_3 rfl rfl ?_
  exact c_md_leanOf_l4 a1 M e_F (0 : Int32) (0 : Int32)

def md_worstOf_l4  (M : e_Me) : Nat → Int32 → Int32 → Option Int32
  | 0, _, _ => none
  | F + 1, a1, a2 =>
    if (M 182 0) ≤ a2 then
      some a1
    else
      x_bd (md_leanOf a2 M) fun x1 =>
      x_bd (md_size x1 M) fun x2 =>
      x_bd (md_leanOf a1 M) fun x3 =>
      x_bd (md_size x3 M) fun x4 =>
      if x2 ≤ x4 then
        md_worstOf_l4 M F a1 (a2 + (1 : Int32))
      else
        md_worstOf_l4 M F a2 (a2 + (1 : Int32))
theorem c_md_worstOf_l4  (M : e_Me)  : ∀ (F : Nat) (a1 : Int32) (a2 : Int32), x_X G 201 0 0 (x_ri M) 4 [some (.ref 182), some (.int a1), some (.int a2)] [] M (md_worstOf_l4 M F a1 a2) := by
  intro F
  induction F with
  | zero => intro a1 a2; exact xr_none
  | succ F ih =>
    intro a1 a2
    rw [md_worstOf_l4]
    refine xr_1 f_201_4 rfl ?_
    refine xr_2 f_201_5 rfl ?_
    refine xr_30i f_201_6 h_182 rfl ?_
    refine xr_29_3 f_201_9 ?_ ?_
    · refine xr_1 f_201_43 rfl ?_
      exact xr_51 f_201_44
    · refine xr_2 f_201_12 rfl ?_
      refine xr_1 f_201_13 rfl ?_
      refine xr_ci f_201_14 (Nat.le_of_ble_eq_true rfl) rfl rfl (xr_rv kd_200 h_182) (Nat.le_of_ble_eq_true rfl) mc_200 ms_200 (c_md_leanOf a2 M) ?_
      intro x1
      refine xr_ci f_201_17 (Nat.le_of_ble_eq_true rfl) rfl rfl (xr_rs kd_194) (Nat.le_of_ble_eq_true rfl) mc_194 ms_194 (c_md_size x1 M) ?_
      intro x2
      refine xr_2 f_201_20 rfl ?_
      refine xr_1 f_201_21 rfl ?_
      refine xr_ci f_201_22 (Nat.le_of_ble_eq_true rfl) rfl rfl (xr_rv kd_200 h_182) (Nat.le_of_ble_eq_true rfl) mc_200 ms_200 (c_md_leanOf a1 M) ?_
      intro x3
      refine xr_ci f_201_25 (Nat.le_of_ble_eq_true rfl) rfl rfl (xr_rs kd_194) (Nat.le_of_ble_eq_true rfl) mc_194 ms_194 (c_md_size x3 M) ?_
      intro x4
      refine xr_29_5 f_201_28 ?_ ?_
      · refine xr_1 f_201_35 rfl ?_
        refine xr_4 [some (.ref 182), some (.int a1), some (.int a2)] f_201_36 rfl rfl ?_
        refine xr_7 [some (.ref 182), some (.int a1), some (.int (a2 + (1 : Int32)))] f_201_37 rfl rfl rfl ?_
        refine xr_27 f_201_40 ?_
        exact ih a1 (a2 + (1 : Int32))
      · refine xr_1 f_201_31 rfl ?_
        refine xr_27 f_201_32 ?_
        refine xr_4 [some (.ref 182), some (.int a2), some (.int a2)] f_201_36 rfl rfl ?_
        refine xr_7 [some (.ref 182), some (.int a2), some (.int (a2 + (1 : Int32)))] f_201_37 rfl rfl rfl ?_
        refine xr_27 f_201_40 ?_
        exact ih a2 (a2 + (1 : Int32))

def md_worstOf  (M : e_Me) : Option Int32 :=
  md_worstOf_l4 M e_F (0 : Int32) (1 : Int32)
theorem c_md_worstOf  (M : e_Me) : x_C G 201 [.ref 182] M (x_ri M) (md_worstOf  M) := by
  refine x_C_of 3 [some (.ref 182), none, none] (by decide) ml_201 (Nat.le_of_ble_eq_true rfl) rfl ?_
  rw [md_worstOf]
  refine xr_0 f_201_0 ?_
  refine xr_4 [some (.ref 182), some (.int (0 : Int32)), none] f_201_1 rfl rfl ?_
  refine xr_0 f_201_2 ?_
  refine xr_4 [some (.ref 182), some (.int (0 : Int32)), some (.int (1 : Int32))] f_201_3 rfl rfl ?_
  exact c_md_worstOf_l4 M e_F (0 : Int32) (1 : Int32)

def md_greatestOf  (M : e_Me) : Option Int32 :=
  x_bd (md_worstOf M) fun x1 =>
  x_bd (md_leanOf x1 M) fun x2 =>
  x_bd (md_size x2 M) fun x3 =>
  some x3
theorem c_md_greatestOf  (M : e_Me) : x_C G 202 [.ref 182] M (x_ri M) (md_greatestOf  M) := by
  refine x_C_of 1 [some (.ref 182)] (by decide) ml_202 (Nat.le_of_ble_eq_true rfl) rfl ?_
  rw [md_greatestOf]
  refine xr_2 f_202_0 rfl ?_
  refine xr_2 f_202_1 rfl ?_
  refine xr_ci f_202_2 (Nat.le_of_ble_eq_true rfl) rfl rfl (xr_rv kd_201 h_182) (Nat.le_of_ble_eq_true rfl) mc_201 ms_201 (c_md_worstOf M) ?_
  intro x1
  refine xr_ci f_202_5 (Nat.le_of_ble_eq_true rfl) rfl rfl (xr_rv kd_200 h_182) (Nat.le_of_ble_eq_true rfl) mc_200 ms_200 (c_md_leanOf x1 M) ?_
  intro x2
  refine xr_ci f_202_8 (Nat.le_of_ble_eq_true rfl) rfl rfl (xr_rs kd_194) (Nat.le_of_ble_eq_true rfl) mc_194 ms_194 (c_md_size x2 M) ?_
  intro x3
  exact xr_51 f_202_11

def md_atPlace (a1 : Int32) (M : e_Me) : Option Int32 :=
  x_dv (M 182 0) <|
  some (x_rem ((a1 - (M 182 1)) + (M 182 0)) (M 182 0))
theorem c_md_atPlace (a1 : Int32) (M : e_Me) : x_C G 203 [.ref 182, .int a1] M (x_ri M) (md_atPlace a1 M) := by
  refine x_C_of 2 [some (.ref 182), some (.int a1)] (by decide) ml_203 (Nat.le_of_ble_eq_true rfl) rfl ?_
  rw [md_atPlace]
  refine xr_1 f_203_0 rfl ?_
  refine xr_2 f_203_1 rfl ?_
  refine xr_30i f_203_2 h_182 rfl ?_
  refine xr_9 f_203_5 ?_
  refine xr_2 f_203_6 rfl ?_
  refine xr_30i f_203_7 h_182 rfl ?_
  refine xr_8 f_203_10 ?_
  refine xr_2 f_203_11 rfl ?_
  refine xr_30i f_203_12 h_182 rfl ?_
  refine xr_13 f_203_15 ?_
  exact xr_51 f_203_16

def md_personsIn_l4  (a1 : Int32) (M : e_Me) : Nat → Int32 → Int32 → Option Int32
  | 0, _, _ => none
  | F + 1, a2, a3 =>
    x_rd (M 184) 30 a1 fun x1 =>
    if x1 ≤ a3 then
      some a2
    else
      x_rd (M 183) 180 (((6 : Int32) * a1) + a3) fun x2 =>
      x_rd (M 186) 200 x2 fun x3 =>
      x_lt (a2 + x3) fun y4 =>
      md_personsIn_l4 a1 M F y4 (a3 + (1 : Int32))
theorem c_md_personsIn_l4  (a1 : Int32) (M : e_Me)  : ∀ (F : Nat) (a2 : Int32) (a3 : Int32), x_X G 204 0 0 (x_ri M) 4 [some (.ref 182), some (.int a1), some (.int a2), some (.int a3)] [] M (md_personsIn_l4 a1 M F a2 a3) := by
  intro F
  induction F with
  | zero => intro a2 a3; exact xr_none
  | succ F ih =>
    intro a2 a3
    rw [md_personsIn_l4]
    refine xr_1 f_204_4 rfl ?_
    refine xr_2 f_204_5 rfl ?_
    refine xr_30r f_204_6 h_182 rfl ?_
    refine xr_1 f_204_9 rfl ?_
    refine xr_32 f_204_10 h_184 ?_
    intro x1
    refine xr_29_3 f_204_11 ?_ ?_
    · refine xr_1 f_204_39 rfl ?_
      exact xr_51 f_204_40
    · refine xr_1 f_204_14 rfl ?_
      refine xr_2 f_204_15 rfl ?_
      refine xr_30r f_204_16 h_182 rfl ?_
      refine xr_2 f_204_19 rfl ?_
      refine xr_30r f_204_20 h_182 rfl ?_
      refine xr_0 f_204_23 ?_
      refine xr_1 f_204_25 rfl ?_
      refine xr_10 f_204_26 ?_
      refine xr_1 f_204_27 rfl ?_
      refine xr_8 f_204_28 ?_
      refine xr_32 f_204_29 h_183 ?_
      intro x2
      refine xr_32 f_204_30 h_186 ?_
      intro x3
      refine xr_8 f_204_31 ?_
      refine xr_4l (fun y4 => [some (.ref 182), some (.int a1), some (.int y4), some (.int a3)]) f_204_32 rfl (fun _ => rfl) ?_
      intro y4
      refine xr_7 [some (.ref 182), some (.int a1), some (.int y4), some (.int (a3 + (1 : Int32)))] f_204_33 rfl rfl rfl ?_
      refine xr_27 f_204_36 ?_
      exact ih y4 (a3 + (1 : Int32))

def md_personsIn (a1 : Int32) (M : e_Me) : Option Int32 :=
  md_personsIn_l4 a1 M e_F (0 : Int32) (0 : Int32)
theorem c_md_personsIn (a1 : Int32) (M : e_Me) : x_C G 204 [.ref 182, .int a1] M (x_ri M) (md_personsIn a1 M) := by
  refine x_C_of 4 [some (.ref 182), some (.int a1), none, none] (by decide) ml_204 (Nat.le_of_ble_eq_true rfl) rfl ?_
  rw [md_personsIn]
  refine xr_0 f_204_0 ?_
  refine xr_4 [some (.ref 182), some (.int a1), some (.int (0 : Int32)), none] f_204_1 rfl rfl ?_
  refine xr_0 f_204_2 ?_
  refine xr_4 [some (.ref 182), some (.int a1), some (.int (0 : Int32)), some (.int (0 : Int32))] f_204_3 rfl rfl ?_
  exact c_md_personsIn_l4 a1 M e_F (0 : Int32) (0 : Int32)

def md_upNow_l4  (M : e_Me) : Nat → Int32 → Int32 → Option Int32
  | 0, _, _ => none
  | F + 1, a1, a2 =>
    if (M 182 0) ≤ a2 then
      some a1
    else
      x_bd (md_personsIn a2 M) fun x1 =>
      x_lt (a1 + x1) fun y2 =>
      md_upNow_l4 M F y2 (a2 + (1 : Int32))
theorem c_md_upNow_l4  (M : e_Me)  : ∀ (F : Nat) (a1 : Int32) (a2 : Int32), x_X G 205 0 0 (x_ri M) 4 [some (.ref 182), some (.int a1), some (.int a2)] [] M (md_upNow_l4 M F a1 a2) := by
  intro F
  induction F with
  | zero => intro a1 a2; exact xr_none
  | succ F ih =>
    intro a1 a2
    rw [md_upNow_l4]
    refine xr_1 f_205_4 rfl ?_
    refine xr_2 f_205_5 rfl ?_
    refine xr_30i f_205_6 h_182 rfl ?_
    refine xr_29_3 f_205_9 ?_ ?_
    · refine xr_1 f_205_26 rfl ?_
      exact xr_51 f_205_27
    · refine xr_1 f_205_12 rfl ?_
      refine xr_2 f_205_13 rfl ?_
      refine xr_1 f_205_14 rfl ?_
      refine xr_ci f_205_15 (Nat.le_of_ble_eq_true rfl) rfl rfl (xr_rv kd_204 h_182) (Nat.le_of_ble_eq_true rfl) mc_204 ms_204 (c_md_personsIn a2 M) ?_
      intro x1
      refine xr_8 f_205_18 ?_
      refine xr_4l (fun y2 => [some (.ref 182), some (.int y2), some (.int a2)]) f_205_19 rfl (fun _ => rfl) ?_
      intro y2
      refine xr_7 [some (.ref 182), some (.int y2), some (.int (a2 + (1 : Int32)))] f_205_20 rfl rfl rfl ?_
      refine xr_27 f_205_23 ?_
      exact ih y2 (a2 + (1 : Int32))

def md_upNow  (M : e_Me) : Option Int32 :=
  md_upNow_l4 M e_F (0 : Int32) (0 : Int32)
theorem c_md_upNow  (M : e_Me) : x_C G 205 [.ref 182] M (x_ri M) (md_upNow  M) := by
  refine x_C_of 3 [some (.ref 182), none, none] (by decide) ml_205 (Nat.le_of_ble_eq_true rfl) rfl ?_
  rw [md_upNow]
  refine xr_0 f_205_0 ?_
  refine xr_4 [some (.ref 182), some (.int (0 : Int32)), none] f_205_1 rfl rfl ?_
  refine xr_0 f_205_2 ?_
  refine xr_4 [some (.ref 182), some (.int (0 : Int32)), some (.int (0 : Int32))] f_205_3 rfl rfl ?_
  exact c_md_upNow_l4 M e_F (0 : Int32) (0 : Int32)

def md_told_l88  (M : e_Me) : Nat → Int32 → Int32 → Option Int32
  | 0, _, _ => none
  | F + 1, a2, a3 =>
    if (M 182 19) ≤ a3 then
      some a2
    else
      x_rd (M 192) 30 a3 fun x1 =>
      x_rd (M 186) 200 x1 fun x2 =>
      x_lt (a2 + x2) fun y3 =>
      md_told_l88 M F y3 (a3 + (1 : Int32))
theorem c_md_told_l88  (M : e_Me)  : ∀ (F : Nat) (a2 : Int32) (a3 : Int32), x_X G 206 0 0 (x_ri M) 88 [some (.ref 182), none, some (.int a2), some (.int a3)] [] M (md_told_l88 M F a2 a3) := by
  intro F
  induction F with
  | zero => intro a2 a3; exact xr_none
  | succ F ih =>
    intro a2 a3
    rw [md_told_l88]
    refine xr_1 f_206_88 rfl ?_
    refine xr_2 f_206_89 rfl ?_
    refine xr_30i f_206_90 h_182 rfl ?_
    refine xr_29_3 f_206_93 ?_ ?_
    · refine xr_1 f_206_116 rfl ?_
      exact xr_51 f_206_117
    · refine xr_1 f_206_96 rfl ?_
      refine xr_2 f_206_97 rfl ?_
      refine xr_30r f_206_98 h_182 rfl ?_
      refine xr_2 f_206_101 rfl ?_
      refine xr_30r f_206_102 h_182 rfl ?_
      refine xr_1 f_206_105 rfl ?_
      refine xr_32 f_206_106 h_192 ?_
      intro x1
      refine xr_32 f_206_107 h_186 ?_
      intro x2
      refine xr_8 f_206_108 ?_
      refine xr_4l (fun y3 => [some (.ref 182), none, some (.int y3), some (.int a3)]) f_206_109 rfl (fun _ => rfl) ?_
      intro y3
      refine xr_7 [some (.ref 182), none, some (.int y3), some (.int (a3 + (1 : Int32)))] f_206_110 rfl rfl rfl ?_
      refine xr_27 f_206_113 ?_
      exact ih y3 (a3 + (1 : Int32))

def md_told (a1 : Int32) (M : e_Me) : Option Int32 :=
  if a1 = 0 then
    some (M 182 1)
  else
  if a1 = 1 then
    some (M 182 2)
  else
  if a1 = 2 then
    x_bd (md_atPlace (0 : Int32) M) fun x1 =>
    some x1
  else
  if a1 = 3 then
    x_bd (md_atPlace ((M 182 0) / (2 : Int32)) M) fun x2 =>
    some x2
  else
  if a1 = 4 then
    x_bd (md_upNow M) fun x3 =>
    some x3
  else
  if a1 = 5 then
    md_told_l88 M e_F (0 : Int32) (0 : Int32)
  else
  if a1 = 6 then
    some (M 182 3)
  else
  if a1 = 7 then
    some (M 182 12)
  else
  if a1 = 8 then
    if (M 182 8) = 0 then
      some (0 : Int32)
    else
      some (1 : Int32)
  else
  some (-102 : Int32)
theorem c_md_told (a1 : Int32) (M : e_Me) : x_C G 206 [.ref 182, .int a1] M (x_ri M) (md_told a1 M) := by
  refine x_C_of 4 [some (.ref 182), some (.int a1), none, none] (by decide) ml_206 (Nat.le_of_ble_eq_true rfl) rfl ?_
  rw [md_told]
  refine xr_1 f_206_0 rfl ?_
  refine xr_47 f_206_1 rfl ?_
  refine xr_s1 ?_ ?_
  · refine xr_2 f_206_52 rfl ?_
    refine xr_30i f_206_53 h_182 rfl ?_
    exact xr_51 f_206_56
  refine xr_s1 ?_ ?_
  · refine xr_2 f_206_57 rfl ?_
    refine xr_30i f_206_58 h_182 rfl ?_
    exact xr_51 f_206_61
  refine xr_s1 ?_ ?_
  · refine xr_2 f_206_62 rfl ?_
    refine xr_0 f_206_63 ?_
    refine xr_ci f_206_64 (Nat.le_of_ble_eq_true rfl) rfl rfl (xr_rv kd_203 h_182) (Nat.le_of_ble_eq_true rfl) mc_203 ms_203 (c_md_atPlace (0 : Int32) M) ?_
    intro x1
    exact xr_51 f_206_67
  refine xr_s1 ?_ ?_
  · refine xr_2 f_206_68 rfl ?_
    refine xr_2 f_206_69 rfl ?_
    refine xr_30i f_206_70 h_182 rfl ?_
    refine xr_0 f_206_73 ?_
    refine xr_12c f_206_74 (by decide) ?_
    refine xr_ci f_206_75 (Nat.le_of_ble_eq_true rfl) rfl rfl (xr_rv kd_203 h_182) (Nat.le_of_ble_eq_true rfl) mc_203 ms_203 (c_md_atPlace ((M 182 0) / (2 : Int32)) M) ?_
    intro x2
    exact xr_51 f_206_78
  refine xr_s1 ?_ ?_
  · refine xr_2 f_206_79 rfl ?_
    refine xr_ci f_206_80 (Nat.le_of_ble_eq_true rfl) rfl rfl (xr_rv kd_205 h_182) (Nat.le_of_ble_eq_true rfl) mc_205 ms_205 (c_md_upNow M) ?_
    intro x3
    exact xr_51 f_206_83
  refine xr_s1 ?_ ?_
  · refine xr_0 f_206_84 ?_
    refine xr_4 [some (.ref 182), some (.int a1), some (.int (0 : Int32)), none] f_206_85 rfl rfl ?_
    refine xr_0 f_206_86 ?_
    refine xr_4 [some (.ref 182), some (.int a1), some (.int (0 : Int32)), some (.int (0 : Int32))] f_206_87 rfl rfl ?_
    refine xr_wk (L' := [some (.ref 182), none, some (.int (0 : Int32)), some (.int (0 : Int32))]) [true, false, true, true] rfl ?_
    exact c_md_told_l88 M e_F (0 : Int32) (0 : Int32)
  refine xr_s1 ?_ ?_
  · refine xr_2 f_206_118 rfl ?_
    refine xr_30i f_206_119 h_182 rfl ?_
    exact xr_51 f_206_122
  refine xr_s1 ?_ ?_
  · refine xr_2 f_206_123 rfl ?_
    refine xr_30i f_206_124 h_182 rfl ?_
    exact xr_51 f_206_127
  refine xr_s1 ?_ ?_
  · refine xr_2 f_206_128 rfl ?_
    refine xr_30i f_206_129 h_182 rfl ?_
    refine xr_28_0 f_206_132 ?_ ?_
    · refine xr_0 f_206_139 ?_
      exact xr_51 f_206_140
    · refine xr_0 f_206_135 ?_
      refine xr_27 f_206_136 ?_
      exact xr_51 f_206_140
  refine xr_s0 ?_
  refine xr_0 f_206_141 ?_
  exact xr_51 f_206_143

def md_rule_b186  (a3 : Int32) (s0 : Int32) (M : e_Me) : Option (Int32 × e_Me) :=
  x_lt (e_up M 182 7 s0) fun M1 =>
  some (a3, M1)
theorem c_md_rule_b186  (a3 : Int32) (s0 : Int32) (M : e_Me)  : x_X G 207 0 0 x_rim 186 [none, none, none, some (.int a3)] [.int s0, .ref 182] M (md_rule_b186 a3 s0 M) := by
  rw [md_rule_b186]
  refine xr_31 f_207_186 h_182 rfl ?_
  intro M1
  refine xr_1 f_207_189 rfl ?_
  exact xr_51m f_207_190

def md_rule_b169  (a1 : Int32) (a2 : Int32) (a3 : Int32) (s0 : Int32) (M : e_Me) : Option (Int32 × e_Me) :=
  x_lt (e_up M 182 6 s0) fun M1 =>
  if a1 = (3 : Int32) then
    md_rule_b186 a3 a2 M1
  else
    md_rule_b186 a3 (M1 182 7) M1
theorem c_md_rule_b169  (a1 : Int32) (a2 : Int32) (a3 : Int32) (s0 : Int32) (M : e_Me)  : x_X G 207 0 0 x_rim 169 [some (.ref 182), some (.int a1), some (.int a2), some (.int a3)] [.int s0, .ref 182] M (md_rule_b169 a1 a2 a3 s0 M) := by
  rw [md_rule_b169]
  refine xr_31 f_207_169 h_182 rfl ?_
  intro M1
  refine xr_2 f_207_172 rfl ?_
  refine xr_1 f_207_173 rfl ?_
  refine xr_0 f_207_174 ?_
  refine xr_29_1 f_207_175 ?_ ?_
  · refine xr_2 f_207_182 rfl ?_
    refine xr_30i f_207_183 h_182 rfl ?_
    refine xr_wk (L' := [none, none, none, some (.int a3)]) [false, false, false, true] rfl ?_
    exact c_md_rule_b186 a3 (M1 182 7) M1
  · refine xr_1 f_207_178 rfl ?_
    refine xr_27 f_207_179 ?_
    refine xr_wk (L' := [none, none, none, some (.int a3)]) [false, false, false, true] rfl ?_
    exact c_md_rule_b186 a3 a2 M1

def md_rule_b152  (a1 : Int32) (a2 : Int32) (a3 : Int32) (s0 : Int32) (M : e_Me) : Option (Int32 × e_Me) :=
  x_lt (e_up M 182 5 s0) fun M1 =>
  if a1 = (2 : Int32) then
    md_rule_b169 a1 a2 a3 a2 M1
  else
    md_rule_b169 a1 a2 a3 (M1 182 6) M1
theorem c_md_rule_b152  (a1 : Int32) (a2 : Int32) (a3 : Int32) (s0 : Int32) (M : e_Me)  : x_X G 207 0 0 x_rim 152 [some (.ref 182), some (.int a1), some (.int a2), some (.int a3)] [.int s0, .ref 182] M (md_rule_b152 a1 a2 a3 s0 M) := by
  rw [md_rule_b152]
  refine xr_31 f_207_152 h_182 rfl ?_
  intro M1
  refine xr_2 f_207_155 rfl ?_
  refine xr_1 f_207_156 rfl ?_
  refine xr_0 f_207_157 ?_
  refine xr_29_1 f_207_158 ?_ ?_
  · refine xr_2 f_207_165 rfl ?_
    refine xr_30i f_207_166 h_182 rfl ?_
    exact c_md_rule_b169 a1 a2 a3 (M1 182 6) M1
  · refine xr_1 f_207_161 rfl ?_
    refine xr_27 f_207_162 ?_
    exact c_md_rule_b169 a1 a2 a3 a2 M1

def md_rule_b135  (a1 : Int32) (a2 : Int32) (a3 : Int32) (s0 : Int32) (M : e_Me) : Option (Int32 × e_Me) :=
  x_lt (e_up M 182 4 s0) fun M1 =>
  if a1 = (1 : Int32) then
    md_rule_b152 a1 a2 a3 a2 M1
  else
    md_rule_b152 a1 a2 a3 (M1 182 5) M1
theorem c_md_rule_b135  (a1 : Int32) (a2 : Int32) (a3 : Int32) (s0 : Int32) (M : e_Me)  : x_X G 207 0 0 x_rim 135 [some (.ref 182), some (.int a1), some (.int a2), some (.int a3)] [.int s0, .ref 182] M (md_rule_b135 a1 a2 a3 s0 M) := by
  rw [md_rule_b135]
  refine xr_31 f_207_135 h_182 rfl ?_
  intro M1
  refine xr_2 f_207_138 rfl ?_
  refine xr_1 f_207_139 rfl ?_
  refine xr_0 f_207_140 ?_
  refine xr_29_1 f_207_141 ?_ ?_
  · refine xr_2 f_207_148 rfl ?_
    refine xr_30i f_207_149 h_182 rfl ?_
    exact c_md_rule_b152 a1 a2 a3 (M1 182 5) M1
  · refine xr_1 f_207_144 rfl ?_
    refine xr_27 f_207_145 ?_
    exact c_md_rule_b152 a1 a2 a3 a2 M1

def md_rule_b121  (a1 : Int32) (a2 : Int32) (s0 : Int32) (M : e_Me) : Option (Int32 × e_Me) :=
  if a1 = 0 then
    md_rule_b135 a1 a2 s0 a2 M
  else
    md_rule_b135 a1 a2 s0 (M 182 4) M
theorem c_md_rule_b121  (a1 : Int32) (a2 : Int32) (s0 : Int32) (M : e_Me)  : x_X G 207 0 0 x_rim 121 [some (.ref 182), some (.int a1), some (.int a2), none] [.int s0] M (md_rule_b121 a1 a2 s0 M) := by
  rw [md_rule_b121]
  refine xr_4 [some (.ref 182), some (.int a1), some (.int a2), some (.int s0)] f_207_121 rfl rfl ?_
  refine xr_2 f_207_122 rfl ?_
  refine xr_1 f_207_123 rfl ?_
  refine xr_28_1 f_207_124 ?_ ?_
  · refine xr_2 f_207_131 rfl ?_
    refine xr_30i f_207_132 h_182 rfl ?_
    exact c_md_rule_b135 a1 a2 s0 (M 182 4) M
  · refine xr_1 f_207_127 rfl ?_
    refine xr_27 f_207_128 ?_
    exact c_md_rule_b135 a1 a2 s0 a2 M

def md_rule_b73  (a1 : Int32) (a2 : Int32) (s0 : Int64) (s1 : Int64) (s2 : Int64) (M : e_Me) : Option (Int32 × e_Me) :=
  x_bd (md_in s2 s1 s0 M) fun x1 =>
  if x1 = 0 then
    some ((-102 : Int32), M)
  else
    if a1 = 0 then
      md_rule_b121 a1 a2 (M 182 4) M
    else
      if a1 = (1 : Int32) then
        md_rule_b121 a1 a2 (M 182 5) M
      else
        if a1 = (2 : Int32) then
          md_rule_b121 a1 a2 (M 182 6) M
        else
          md_rule_b121 a1 a2 (M 182 7) M
theorem c_md_rule_b73  (a1 : Int32) (a2 : Int32) (s0 : Int64) (s1 : Int64) (s2 : Int64) (M : e_Me)  : x_X G 207 0 0 x_rim 73 [some (.ref 182), some (.int a1), some (.int a2), none] [.long s0, .long s1, .long s2] M (md_rule_b73 a1 a2 s0 s1 s2 M) := by
  rw [md_rule_b73]
  refine xr_ci f_207_73 (Nat.le_of_ble_eq_true rfl) rfl rfl (xr_rs kd_193) (Nat.le_of_ble_eq_true rfl) mc_193 ms_193 (c_md_in s2 s1 s0 M) ?_
  intro x1
  refine xr_28_1 f_207_76 ?_ ?_
  · refine xr_1 f_207_82 rfl ?_
    refine xr_28_1 f_207_83 ?_ ?_
    · refine xr_1 f_207_93 rfl ?_
      refine xr_0 f_207_94 ?_
      refine xr_29_1 f_207_95 ?_ ?_
      · refine xr_1 f_207_105 rfl ?_
        refine xr_0 f_207_106 ?_
        refine xr_29_1 f_207_107 ?_ ?_
        · refine xr_2 f_207_117 rfl ?_
          refine xr_30i f_207_118 h_182 rfl ?_
          exact c_md_rule_b121 a1 a2 (M 182 7) M
        · refine xr_2 f_207_110 rfl ?_
          refine xr_30i f_207_111 h_182 rfl ?_
          refine xr_27 f_207_114 ?_
          exact c_md_rule_b121 a1 a2 (M 182 6) M
      · refine xr_2 f_207_98 rfl ?_
        refine xr_30i f_207_99 h_182 rfl ?_
        refine xr_27 f_207_102 ?_
        exact c_md_rule_b121 a1 a2 (M 182 5) M
    · refine xr_2 f_207_86 rfl ?_
      refine xr_30i f_207_87 h_182 rfl ?_
      refine xr_27 f_207_90 ?_
      exact c_md_rule_b121 a1 a2 (M 182 4) M
  · refine xr_0 f_207_79 ?_
    exact xr_51m f_207_81

def md_rule_b38  (a1 : Int32) (a2 : Int32) (s0 : Int64) (s1 : Int64) (M : e_Me) : Option (Int32 × e_Me) :=
  if a1 = 0 then
    md_rule_b73 a1 a2 ((1000000 : Int32)).toInt64 s0 s1 M
  else
    if a1 = (1 : Int32) then
      md_rule_b73 a1 a2 ((10000 : Int32)).toInt64 s0 s1 M
    else
      if a1 = (2 : Int32) then
        md_rule_b73 a1 a2 ((500 : Int32)).toInt64 s0 s1 M
      else
        md_rule_b73 a1 a2 ((20 : Int32)).toInt64 s0 s1 M
theorem c_md_rule_b38  (a1 : Int32) (a2 : Int32) (s0 : Int64) (s1 : Int64) (M : e_Me)  : x_X G 207 0 0 x_rim 38 [some (.ref 182), some (.int a1), some (.int a2), none] [.long s0, .long s1] M (md_rule_b38 a1 a2 s0 s1 M) := by
  rw [md_rule_b38]
  refine xr_1 f_207_38 rfl ?_
  refine xr_28_1 f_207_39 ?_ ?_
  · refine xr_1 f_207_48 rfl ?_
    refine xr_0 f_207_49 ?_
    refine xr_29_1 f_207_50 ?_ ?_
    · refine xr_1 f_207_59 rfl ?_
      refine xr_0 f_207_60 ?_
      refine xr_29_1 f_207_61 ?_ ?_
      · refine xr_23 f_207_70 ?_
        exact c_md_rule_b73 a1 a2 ((20 : Int32)).toInt64 s0 s1 M
      · refine xr_23 f_207_64 ?_
        refine xr_27 f_207_67 ?_
        exact c_md_rule_b73 a1 a2 ((500 : Int32)).toInt64 s0 s1 M
    · refine xr_23 f_207_53 ?_
      refine xr_27 f_207_56 ?_
      exact c_md_rule_b73 a1 a2 ((10000 : Int32)).toInt64 s0 s1 M
  · refine xr_23 f_207_42 ?_
    refine xr_27 f_207_45 ?_
    exact c_md_rule_b73 a1 a2 ((1000000 : Int32)).toInt64 s0 s1 M

def md_rule (a1 : Int32) (a2 : Int32) (M : e_Me) : Option (Int32 × e_Me) :=
  x_bd (md_in (a1).toInt64 ((0 : Int32)).toInt64 ((3 : Int32)).toInt64 M) fun x1 =>
  if x1 = 0 then
    some ((-101 : Int32), M)
  else
    if a1 = (1 : Int32) then
      md_rule_b38 a1 a2 ((100 : Int32)).toInt64 (a2).toInt64 M
    else
      if a1 = (3 : Int32) then
        md_rule_b38 a1 a2 ((1 : Int32)).toInt64 (a2).toInt64 M
      else
        md_rule_b38 a1 a2 ((0 : Int32)).toInt64 (a2).toInt64 M
theorem c_md_rule (a1 : Int32) (a2 : Int32) (M : e_Me) : x_C G 207 [.ref 182, .int a1, .int a2] M x_rim (md_rule a1 a2 M) := by
  refine x_C_of 4 [some (.ref 182), some (.int a1), some (.int a2), none] (by decide) ml_207 (Nat.le_of_ble_eq_true rfl) rfl ?_
  rw [md_rule]
  refine xr_1 f_207_0 rfl ?_
  refine xr_19 f_207_1 ?_
  refine xr_23 f_207_2 ?_
  refine xr_23 f_207_3 ?_
  refine xr_ci f_207_6 (Nat.le_of_ble_eq_true rfl) rfl rfl (xr_rs kd_193) (Nat.le_of_ble_eq_true rfl) mc_193 ms_193 (c_md_in (a1).toInt64 ((0 : Int32)).toInt64 ((3 : Int32)).toInt64 M) ?_
  intro x1
  refine xr_28_1 f_207_9 ?_ ?_
  · refine xr_1 f_207_15 rfl ?_
    refine xr_19 f_207_16 ?_
    refine xr_1 f_207_17 rfl ?_
    refine xr_0 f_207_18 ?_
    refine xr_29_1 f_207_19 ?_ ?_
    · refine xr_1 f_207_28 rfl ?_
      refine xr_0 f_207_29 ?_
      refine xr_29_1 f_207_30 ?_ ?_
      · refine xr_23 f_207_37 ?_
        exact c_md_rule_b38 a1 a2 ((0 : Int32)).toInt64 (a2).toInt64 M
      · refine xr_23 f_207_33 ?_
        refine xr_27 f_207_34 ?_
        exact c_md_rule_b38 a1 a2 ((1 : Int32)).toInt64 (a2).toInt64 M
    · refine xr_23 f_207_22 ?_
      refine xr_27 f_207_25 ?_
      exact c_md_rule_b38 a1 a2 ((100 : Int32)).toInt64 (a2).toInt64 M
  · refine xr_0 f_207_12 ?_
    exact xr_51m f_207_14

def md_drive_b12  (a1 : Int32) (s0 : Int32) (M : e_Me) : Option (Int32 × e_Me) :=
  x_gb a1 <|
  x_lt (e_up M 182 8 a1) fun M1 =>
  some (s0, M1)
theorem c_md_drive_b12  (a1 : Int32) (s0 : Int32) (M : e_Me)  : x_X G 208 0 0 x_rim 12 [some (.ref 182), some (.int a1), none] [.int s0] M (md_drive_b12 a1 s0 M) := by
  rw [md_drive_b12]
  refine xr_4 [some (.ref 182), some (.int a1), some (.int s0)] f_208_12 rfl rfl ?_
  refine xr_2 f_208_13 rfl ?_
  refine xr_1 f_208_14 rfl ?_
  refine xr_31b f_208_15 h_182 rfl ?_
  intro M1
  refine xr_1 f_208_18 rfl ?_
  exact xr_51m f_208_19

def md_drive (a1 : Int32) (M : e_Me) : Option (Int32 × e_Me) :=
  if (M 182 8) = 0 then
    md_drive_b12 a1 (0 : Int32) M
  else
    md_drive_b12 a1 (1 : Int32) M
theorem c_md_drive (a1 : Int32) (M : e_Me) : x_C G 208 [.ref 182, .int a1] M x_rim (md_drive a1 M) := by
  refine x_C_of 3 [some (.ref 182), some (.int a1), none] (by decide) ml_208 (Nat.le_of_ble_eq_true rfl) rfl ?_
  rw [md_drive]
  refine xr_2 f_208_0 rfl ?_
  refine xr_30i f_208_1 h_182 rfl ?_
  refine xr_28_0 f_208_4 ?_ ?_
  · refine xr_0 f_208_11 ?_
    exact c_md_drive_b12 a1 (0 : Int32) M
  · refine xr_0 f_208_7 ?_
    refine xr_27 f_208_8 ?_
    exact c_md_drive_b12 a1 (1 : Int32) M

def md_lean (a1 : Int32) (M : e_Me) : Option Int32 :=
  x_bd (md_in (a1).toInt64 ((0 : Int32)).toInt64 (((M 182 0) - (1 : Int32))).toInt64 M) fun x1 =>
  if x1 = 0 then
    some (-1000000001 : Int32)
  else
    x_bd (md_leanOf a1 M) fun x2 =>
    some x2
theorem c_md_lean (a1 : Int32) (M : e_Me) : x_C G 209 [.ref 182, .int a1] M (x_ri M) (md_lean a1 M) := by
  refine x_C_of 2 [some (.ref 182), some (.int a1)] (by decide) ml_209 (Nat.le_of_ble_eq_true rfl) rfl ?_
  rw [md_lean]
  refine xr_1 f_209_0 rfl ?_
  refine xr_19 f_209_1 ?_
  refine xr_23 f_209_2 ?_
  refine xr_2 f_209_3 rfl ?_
  refine xr_30i f_209_4 h_182 rfl ?_
  refine xr_0 f_209_7 ?_
  refine xr_9 f_209_8 ?_
  refine xr_19 f_209_9 ?_
  refine xr_ci f_209_10 (Nat.le_of_ble_eq_true rfl) rfl rfl (xr_rs kd_193) (Nat.le_of_ble_eq_true rfl) mc_193 ms_193 (c_md_in (a1).toInt64 ((0 : Int32)).toInt64 (((M 182 0) - (1 : Int32))).toInt64 M) ?_
  intro x1
  refine xr_28_0 f_209_13 ?_ ?_
  · refine xr_0 f_209_24 ?_
    exact xr_51 f_209_26
  · refine xr_2 f_209_16 rfl ?_
    refine xr_1 f_209_17 rfl ?_
    refine xr_ci f_209_18 (Nat.le_of_ble_eq_true rfl) rfl rfl (xr_rv kd_200 h_182) (Nat.le_of_ble_eq_true rfl) mc_200 ms_200 (c_md_leanOf a1 M) ?_
    intro x2
    refine xr_27 f_209_21 ?_
    exact xr_51 f_209_26

def md_greatest  (M : e_Me) : Option Int32 :=
  x_bd (md_greatestOf M) fun x1 =>
  some x1
theorem c_md_greatest  (M : e_Me) : x_C G 210 [.ref 182] M (x_ri M) (md_greatest  M) := by
  refine x_C_of 1 [some (.ref 182)] (by decide) ml_210 (Nat.le_of_ble_eq_true rfl) rfl ?_
  rw [md_greatest]
  refine xr_2 f_210_0 rfl ?_
  refine xr_ci f_210_1 (Nat.le_of_ble_eq_true rfl) rfl rfl (xr_rv kd_202 h_182) (Nat.le_of_ble_eq_true rfl) mc_202 ms_202 (c_md_greatestOf M) ?_
  intro x1
  exact xr_51 f_210_4

def md_worst  (M : e_Me) : Option Int32 :=
  x_bd (md_worstOf M) fun x1 =>
  some x1
theorem c_md_worst  (M : e_Me) : x_C G 211 [.ref 182] M (x_ri M) (md_worst  M) := by
  refine x_C_of 1 [some (.ref 182)] (by decide) ml_211 (Nat.le_of_ble_eq_true rfl) rfl ?_
  rw [md_worst]
  refine xr_2 f_211_0 rfl ?_
  refine xr_ci f_211_1 (Nat.le_of_ble_eq_true rfl) rfl rfl (xr_rv kd_201 h_182) (Nat.le_of_ble_eq_true rfl) mc_201 ms_201 (c_md_worstOf M) ?_
  intro x1
  exact xr_51 f_211_4

def md_isCabin (a1 : Int32) (M : e_Me) : Option Int32 :=
  x_bd (md_in (a1).toInt64 ((0 : Int32)).toInt64 (((M 182 0) - (1 : Int32))).toInt64 M) fun x1 =>
  x_gb x1 (some x1)
theorem c_md_isCabin (a1 : Int32) (M : e_Me) : x_C G 212 [.ref 182, .int a1] M (x_ri M) (md_isCabin a1 M) := by
  refine x_C_of 2 [some (.ref 182), some (.int a1)] (by decide) ml_212 (Nat.le_of_ble_eq_true rfl) rfl ?_
  rw [md_isCabin]
  refine xr_1 f_212_0 rfl ?_
  refine xr_19 f_212_1 ?_
  refine xr_23 f_212_2 ?_
  refine xr_2 f_212_3 rfl ?_
  refine xr_30i f_212_4 h_182 rfl ?_
  refine xr_0 f_212_7 ?_
  refine xr_9 f_212_8 ?_
  refine xr_19 f_212_9 ?_
  refine xr_ci f_212_10 (Nat.le_of_ble_eq_true rfl) rfl rfl (xr_rs kd_193) (Nat.le_of_ble_eq_true rfl) mc_193 ms_193 (c_md_in (a1).toInt64 ((0 : Int32)).toInt64 (((M 182 0) - (1 : Int32))).toInt64 M) ?_
  intro x1
  exact xr_52 f_212_13

def md_load (a1 : Int32) (M : e_Me) : Option Int32 :=
  x_bd (md_isCabin a1 M) fun x1 =>
  if x1 = 0 then
    some (-101 : Int32)
  else
    x_rd (M 185) 30 a1 fun x2 =>
    some x2
theorem c_md_load (a1 : Int32) (M : e_Me) : x_C G 213 [.ref 182, .int a1] M (x_ri M) (md_load a1 M) := by
  refine x_C_of 2 [some (.ref 182), some (.int a1)] (by decide) ml_213 (Nat.le_of_ble_eq_true rfl) rfl ?_
  rw [md_load]
  refine xr_2 f_213_0 rfl ?_
  refine xr_1 f_213_1 rfl ?_
  refine xr_ci f_213_2 (Nat.le_of_ble_eq_true rfl) rfl rfl (xr_rv kd_212 h_182) (Nat.le_of_ble_eq_true rfl) mc_212 ms_212 (c_md_isCabin a1 M) ?_
  intro x1
  refine xr_28_0 f_213_5 ?_ ?_
  · refine xr_0 f_213_17 ?_
    exact xr_51 f_213_19
  · refine xr_2 f_213_8 rfl ?_
    refine xr_30r f_213_9 h_182 rfl ?_
    refine xr_1 f_213_12 rfl ?_
    refine xr_32 f_213_13 h_185 ?_
    intro x2
    refine xr_27 f_213_14 ?_
    exact xr_51 f_213_19

def md_isAlone_l4  (a1 : Int32) (M : e_Me) : Nat → Int32 → Int32 → Option Int32
  | 0, _, _ => none
  | F + 1, a2, a3 =>
    x_rd (M 184) 30 a1 fun x1 =>
    if x1 ≤ a3 then
      x_gb a2 (some a2)
    else
      if a2 = 0 then
        x_rd (M 183) 180 (((6 : Int32) * a1) + a3) fun x2 =>
        x_rd (M 188) 200 x2 fun x3 =>
        if (x_rem x3 (2 : Int32)) = (1 : Int32) then
          md_isAlone_l4 a1 M F (1 : Int32) (a3 + (1 : Int32))
        else
          md_isAlone_l4 a1 M F (0 : Int32) (a3 + (1 : Int32))
      else
        md_isAlone_l4 a1 M F (1 : Int32) (a3 + (1 : Int32))
theorem c_md_isAlone_l4  (a1 : Int32) (M : e_Me)  : ∀ (F : Nat) (a2 : Int32) (a3 : Int32), x_X G 214 0 0 (x_ri M) 4 [some (.ref 182), some (.int a1), some (.int a2), some (.int a3)] [] M (md_isAlone_l4 a1 M F a2 a3) := by
  intro F
  induction F with
  | zero => intro a2 a3; exact xr_none
  | succ F ih =>
    intro a2 a3
    rw [md_isAlone_l4]
    refine xr_1 f_214_4 rfl ?_
    refine xr_2 f_214_5 rfl ?_
    refine xr_30r f_214_6 h_182 rfl ?_
    refine xr_1 f_214_9 rfl ?_
    refine xr_32 f_214_10 h_184 ?_
    intro x1
    refine xr_29_3 f_214_11 ?_ ?_
    · refine xr_1 f_214_52 rfl ?_
      exact xr_52 f_214_53
    · refine xr_1 f_214_14 rfl ?_
      refine xr_28_1 f_214_15 ?_ ?_
      · refine xr_0 f_214_40 ?_
        refine xr_27 f_214_41 ?_
        refine xr_4 [some (.ref 182), some (.int a1), some (.int (1 : Int32)), some (.int a3)] f_214_45 rfl rfl ?_
        refine xr_7 [some (.ref 182), some (.int a1), some (.int (1 : Int32)), some (.int (a3 + (1 : Int32)))] f_214_46 rfl rfl rfl ?_
        refine xr_27 f_214_49 ?_
        exact ih (1 : Int32) (a3 + (1 : Int32))
      · refine xr_2 f_214_18 rfl ?_
        refine xr_30r f_214_19 h_182 rfl ?_
        refine xr_2 f_214_22 rfl ?_
        refine xr_30r f_214_23 h_182 rfl ?_
        refine xr_0 f_214_26 ?_
        refine xr_1 f_214_28 rfl ?_
        refine xr_10 f_214_29 ?_
        refine xr_1 f_214_30 rfl ?_
        refine xr_8 f_214_31 ?_
        refine xr_32 f_214_32 h_183 ?_
        intro x2
        refine xr_32 f_214_33 h_188 ?_
        intro x3
        refine xr_0 f_214_34 ?_
        refine xr_13c f_214_35 (by decide) ?_
        refine xr_0 f_214_36 ?_
        refine xr_29_1 f_214_37 ?_ ?_
        · refine xr_0 f_214_44 ?_
          refine xr_4 [some (.ref 182), some (.int a1), some (.int (0 : Int32)), some (.int a3)] f_214_45 rfl rfl ?_
          refine xr_7 [some (.ref 182), some (.int a1), some (.int (0 : Int32)), some (.int (a3 + (1 : Int32)))] f_214_46 rfl rfl rfl ?_
          refine xr_27 f_214_49 ?_
          exact ih (0 : Int32) (a3 + (1 : Int32))
        · refine xr_0 f_214_40 ?_
          refine xr_27 f_214_41 ?_
          refine xr_4 [some (.ref 182), some (.int a1), some (.int (1 : Int32)), some (.int a3)] f_214_45 rfl rfl ?_
          refine xr_7 [some (.ref 182), some (.int a1), some (.int (1 : Int32)), some (.int (a3 + (1 : Int32)))] f_214_46 rfl rfl rfl ?_
          refine xr_27 f_214_49 ?_
          exact ih (1 : Int32) (a3 + (1 : Int32))

def md_isAlone (a1 : Int32) (M : e_Me) : Option Int32 :=
  md_isAlone_l4 a1 M e_F (0 : Int32) (0 : Int32)
theorem c_md_isAlone (a1 : Int32) (M : e_Me) : x_C G 214 [.ref 182, .int a1] M (x_ri M) (md_isAlone a1 M) := by
  refine x_C_of 4 [some (.ref 182), some (.int a1), none, none] (by decide) ml_214 (Nat.le_of_ble_eq_true rfl) rfl ?_
  rw [md_isAlone]
  refine xr_0 f_214_0 ?_
  refine xr_4 [some (.ref 182), some (.int a1), some (.int (0 : Int32)), none] f_214_1 rfl rfl ?_
  refine xr_0 f_214_2 ?_
  refine xr_4 [some (.ref 182), some (.int a1), some (.int (0 : Int32)), some (.int (0 : Int32))] f_214_3 rfl rfl ?_
  exact c_md_isAlone_l4 a1 M e_F (0 : Int32) (0 : Int32)

def md_cabin (a1 : Int32) (a2 : Int32) (M : e_Me) : Option Int32 :=
  x_bd (md_isCabin a1 M) fun x1 =>
  if x1 = 0 then
    some (-101 : Int32)
  else
    if a2 = 0 then
      x_bd (md_personsIn a1 M) fun x4 =>
      some x4
    else
      if a2 = (1 : Int32) then
        x_rd (M 184) 30 a1 fun x3 =>
        some x3
      else
        if a2 = (2 : Int32) then
          x_bd (md_isAlone a1 M) fun x2 =>
          if x2 = 0 then
            some (0 : Int32)
          else
            some (1 : Int32)
        else
          if a2 = (3 : Int32) then
            x_dv (M 182 0) <|
            some (x_rem (a1 + (M 182 1)) (M 182 0))
          else
            some (-102 : Int32)
theorem c_md_cabin (a1 : Int32) (a2 : Int32) (M : e_Me) : x_C G 215 [.ref 182, .int a1, .int a2] M (x_ri M) (md_cabin a1 a2 M) := by
  refine x_C_of 3 [some (.ref 182), some (.int a1), some (.int a2)] (by decide) ml_215 (Nat.le_of_ble_eq_true rfl) rfl ?_
  rw [md_cabin]
  refine xr_2 f_215_0 rfl ?_
  refine xr_1 f_215_1 rfl ?_
  refine xr_ci f_215_2 (Nat.le_of_ble_eq_true rfl) rfl rfl (xr_rv kd_212 h_182) (Nat.le_of_ble_eq_true rfl) mc_212 ms_212 (c_md_isCabin a1 M) ?_
  intro x1
  refine xr_28_1 f_215_5 ?_ ?_
  · refine xr_1 f_215_11 rfl ?_
    refine xr_28_1 f_215_12 ?_ ?_
    · refine xr_1 f_215_23 rfl ?_
      refine xr_0 f_215_24 ?_
      refine xr_29_1 f_215_25 ?_ ?_
      · refine xr_1 f_215_37 rfl ?_
        refine xr_0 f_215_38 ?_
        refine xr_29_1 f_215_39 ?_ ?_
        · refine xr_1 f_215_58 rfl ?_
          refine xr_0 f_215_59 ?_
          refine xr_29_1 f_215_60 ?_ ?_
          · refine xr_0 f_215_77 ?_
            exact xr_51 f_215_79
          · refine xr_1 f_215_63 rfl ?_
            refine xr_2 f_215_64 rfl ?_
            refine xr_30i f_215_65 h_182 rfl ?_
            refine xr_8 f_215_68 ?_
            refine xr_2 f_215_69 rfl ?_
            refine xr_30i f_215_70 h_182 rfl ?_
            refine xr_13 f_215_73 ?_
            refine xr_27 f_215_74 ?_
            exact xr_51 f_215_79
        · refine xr_2 f_215_42 rfl ?_
          refine xr_1 f_215_43 rfl ?_
          refine xr_ci f_215_44 (Nat.le_of_ble_eq_true rfl) rfl rfl (xr_rv kd_214 h_182) (Nat.le_of_ble_eq_true rfl) mc_214 ms_214 (c_md_isAlone a1 M) ?_
          intro x2
          refine xr_28_0 f_215_47 ?_ ?_
          · refine xr_0 f_215_54 ?_
            refine xr_27 f_215_55 ?_
            exact xr_51 f_215_79
          · refine xr_0 f_215_50 ?_
            refine xr_27 f_215_51 ?_
            exact xr_51 f_215_79
      · refine xr_2 f_215_28 rfl ?_
        refine xr_30r f_215_29 h_182 rfl ?_
        refine xr_1 f_215_32 rfl ?_
        refine xr_32 f_215_33 h_184 ?_
        intro x3
        refine xr_27 f_215_34 ?_
        exact xr_51 f_215_79
    · refine xr_2 f_215_15 rfl ?_
      refine xr_1 f_215_16 rfl ?_
      refine xr_ci f_215_17 (Nat.le_of_ble_eq_true rfl) rfl rfl (xr_rv kd_204 h_182) (Nat.le_of_ble_eq_true rfl) mc_204 ms_204 (c_md_personsIn a1 M) ?_
      intro x4
      refine xr_27 f_215_20 ?_
      exact xr_51 f_215_79
  · refine xr_0 f_215_8 ?_
    exact xr_51 f_215_10

def md_inside (a1 : Int32) (a2 : Int32) (M : e_Me) : Option Int32 :=
  x_bd (md_isCabin a1 M) fun x1 =>
  if x1 = 0 then
    some (-101 : Int32)
  else
    x_rd (M 184) 30 a1 fun x2 =>
    x_bd (md_in (a2).toInt64 ((0 : Int32)).toInt64 ((x2 - (1 : Int32))).toInt64 M) fun x3 =>
    if x3 = 0 then
      some (-1 : Int32)
    else
      x_rd (M 183) 180 (((6 : Int32) * a1) + a2) fun x4 =>
      some x4
theorem c_md_inside (a1 : Int32) (a2 : Int32) (M : e_Me) : x_C G 216 [.ref 182, .int a1, .int a2] M (x_ri M) (md_inside a1 a2 M) := by
  refine x_C_of 3 [some (.ref 182), some (.int a1), some (.int a2)] (by decide) ml_216 (Nat.le_of_ble_eq_true rfl) rfl ?_
  rw [md_inside]
  refine xr_2 f_216_0 rfl ?_
  refine xr_1 f_216_1 rfl ?_
  refine xr_ci f_216_2 (Nat.le_of_ble_eq_true rfl) rfl rfl (xr_rv kd_212 h_182) (Nat.le_of_ble_eq_true rfl) mc_212 ms_212 (c_md_isCabin a1 M) ?_
  intro x1
  refine xr_28_1 f_216_5 ?_ ?_
  · refine xr_1 f_216_11 rfl ?_
    refine xr_19 f_216_12 ?_
    refine xr_23 f_216_13 ?_
    refine xr_2 f_216_14 rfl ?_
    refine xr_30r f_216_15 h_182 rfl ?_
    refine xr_1 f_216_18 rfl ?_
    refine xr_32 f_216_19 h_184 ?_
    intro x2
    refine xr_0 f_216_20 ?_
    refine xr_9 f_216_21 ?_
    refine xr_19 f_216_22 ?_
    refine xr_ci f_216_23 (Nat.le_of_ble_eq_true rfl) rfl rfl (xr_rs kd_193) (Nat.le_of_ble_eq_true rfl) mc_193 ms_193 (c_md_in (a2).toInt64 ((0 : Int32)).toInt64 ((x2 - (1 : Int32))).toInt64 M) ?_
    intro x3
    refine xr_28_0 f_216_26 ?_ ?_
    · refine xr_0 f_216_43 ?_
      exact xr_51 f_216_44
    · refine xr_2 f_216_29 rfl ?_
      refine xr_30r f_216_30 h_182 rfl ?_
      refine xr_0 f_216_33 ?_
      refine xr_1 f_216_35 rfl ?_
      refine xr_10 f_216_36 ?_
      refine xr_1 f_216_37 rfl ?_
      refine xr_8 f_216_38 ?_
      refine xr_32 f_216_39 h_183 ?_
      intro x4
      refine xr_27 f_216_40 ?_
      exact xr_51 f_216_44
  · refine xr_0 f_216_8 ?_
    exact xr_51 f_216_10

def md_whyOf_b70  (a1 : Int32) (s0 : Int32) (M : e_Me) : Option Int32 :=
  if s0 ≤ (M 182 5) then
    if a1 ≤ 0 then
      some (0 : Int32)
    else
      if (M 182 8) = 0 then
        some (3 : Int32)
      else
        some (0 : Int32)
  else
    some (2 : Int32)
theorem c_md_whyOf_b70  (a1 : Int32) (s0 : Int32) (M : e_Me)  : x_X G 217 0 0 (x_ri M) 70 [some (.ref 182), some (.int a1), none] [.int s0] M (md_whyOf_b70 a1 s0 M) := by
  rw [md_whyOf_b70]
  refine xr_4 [some (.ref 182), some (.int a1), some (.int s0)] f_217_70 rfl rfl ?_
  refine xr_1 f_217_71 rfl ?_
  refine xr_2 f_217_72 rfl ?_
  refine xr_30i f_217_73 h_182 rfl ?_
  refine xr_29_5 f_217_76 ?_ ?_
  · refine xr_1 f_217_81 rfl ?_
    refine xr_28_5 f_217_82 ?_ ?_
    · refine xr_0 f_217_96 ?_
      exact xr_51 f_217_97
    · refine xr_2 f_217_85 rfl ?_
      refine xr_30i f_217_86 h_182 rfl ?_
      refine xr_28_1 f_217_89 ?_ ?_
      · refine xr_0 f_217_96 ?_
        exact xr_51 f_217_97
      · refine xr_0 f_217_92 ?_
        refine xr_27 f_217_93 ?_
        exact xr_51 f_217_97
  · refine xr_0 f_217_79 ?_
    exact xr_51 f_217_80

def md_whyOf  (M : e_Me) : Option Int32 :=
  x_dv (M 182 0) <|
  x_bd (md_leanOf (x_rem ((M 182 1) + (1 : Int32)) (M 182 0)) M) fun x1 =>
  x_bd (md_size x1 M) fun x2 =>
  if x2 ≤ (M 182 4) then
    if 0 ≤ x1 then
      if (M 182 2) ≤ (M 182 6) then
        md_whyOf_b70 x1 (0 : Int32) M
      else
        md_whyOf_b70 x1 ((M 182 2) - (M 182 6)) M
    else
      md_whyOf_b70 x1 ((M 182 2) + ((-x1) / (100 : Int32))) M
  else
    some (1 : Int32)
theorem c_md_whyOf  (M : e_Me) : x_C G 217 [.ref 182] M (x_ri M) (md_whyOf  M) := by
  refine x_C_of 3 [some (.ref 182), none, none] (by decide) ml_217 (Nat.le_of_ble_eq_true rfl) rfl ?_
  rw [md_whyOf]
  refine xr_2 f_217_0 rfl ?_
  refine xr_2 f_217_1 rfl ?_
  refine xr_30i f_217_2 h_182 rfl ?_
  refine xr_0 f_217_5 ?_
  refine xr_8 f_217_6 ?_
  refine xr_2 f_217_7 rfl ?_
  refine xr_30i f_217_8 h_182 rfl ?_
  refine xr_13 f_217_11 ?_
  refine xr_ci f_217_12 (Nat.le_of_ble_eq_true rfl) rfl rfl (xr_rv kd_200 h_182) (Nat.le_of_ble_eq_true rfl) mc_200 ms_200 (c_md_leanOf (x_rem ((M 182 1) + (1 : Int32)) (M 182 0)) M) ?_
  intro x1
  refine xr_4 [some (.ref 182), some (.int x1), none] f_217_15 rfl rfl ?_
  refine xr_1 f_217_16 rfl ?_
  refine xr_ci f_217_17 (Nat.le_of_ble_eq_true rfl) rfl rfl (xr_rs kd_194) (Nat.le_of_ble_eq_true rfl) mc_194 ms_194 (c_md_size x1 M) ?_
  intro x2
  refine xr_2 f_217_20 rfl ?_
  refine xr_30i f_217_21 h_182 rfl ?_
  refine xr_29_5 f_217_24 ?_ ?_
  · refine xr_1 f_217_29 rfl ?_
    refine xr_28_3 f_217_30 ?_ ?_
    · refine xr_2 f_217_46 rfl ?_
      refine xr_30i f_217_47 h_182 rfl ?_
      refine xr_2 f_217_50 rfl ?_
      refine xr_30i f_217_51 h_182 rfl ?_
      refine xr_29_5 f_217_54 ?_ ?_
      · refine xr_0 f_217_69 ?_
        exact c_md_whyOf_b70 x1 (0 : Int32) M
      · refine xr_2 f_217_57 rfl ?_
        refine xr_30i f_217_58 h_182 rfl ?_
        refine xr_2 f_217_61 rfl ?_
        refine xr_30i f_217_62 h_182 rfl ?_
        refine xr_9 f_217_65 ?_
        refine xr_27 f_217_66 ?_
        exact c_md_whyOf_b70 x1 ((M 182 2) - (M 182 6)) M
    · refine xr_2 f_217_33 rfl ?_
      refine xr_30i f_217_34 h_182 rfl ?_
      refine xr_1 f_217_37 rfl ?_
      refine xr_11 f_217_38 ?_
      refine xr_0 f_217_39 ?_
      refine xr_12c f_217_41 (by decide) ?_
      refine xr_8 f_217_42 ?_
      refine xr_27 f_217_43 ?_
      exact c_md_whyOf_b70 x1 ((M 182 2) + ((-x1) / (100 : Int32))) M
  · refine xr_0 f_217_27 ?_
    exact xr_51 f_217_28

def md_goesOn_b82   (M : e_Me) : Option (Int32 × e_Me) :=
  x_lt (e_up M 182 3 ((M 182 3) + (1 : Int32))) fun M1 =>
  some ((1 : Int32), M1)
theorem c_md_goesOn_b82   (M : e_Me)  : x_X G 218 0 0 x_rim 82 [some (.ref 182), none] [] M (md_goesOn_b82  M) := by
  rw [md_goesOn_b82]
  refine xr_2 f_218_82 rfl ?_
  refine xr_24r f_218_83 ?_
  refine xr_30i f_218_84 h_182 rfl ?_
  refine xr_0 f_218_87 ?_
  refine xr_8 f_218_88 ?_
  refine xr_31 f_218_89 h_182 rfl ?_
  intro M1
  refine xr_0 f_218_92 ?_
  exact xr_52mc f_218_93 (by decide)

def md_goesOn_b79  (s0 : Int32) (M : e_Me) : Option (Int32 × e_Me) :=
  x_lt (e_up M 182 2 s0) fun M1 =>
  md_goesOn_b82 M1
theorem c_md_goesOn_b79  (s0 : Int32) (M : e_Me)  : x_X G 218 0 0 x_rim 79 [some (.ref 182), none] [.int s0, .ref 182] M (md_goesOn_b79 s0 M) := by
  rw [md_goesOn_b79]
  refine xr_31 f_218_79 h_182 rfl ?_
  intro M1
  exact c_md_goesOn_b82 M1

def md_goesOn  (M : e_Me) : Option (Int32 × e_Me) :=
  x_bd (md_whyOf M) fun x1 =>
  if x1 = 0 then
    x_dv (M 182 0) <|
    x_lt (e_up M 182 1 (x_rem ((M 182 1) + (1 : Int32)) (M 182 0))) fun M2 =>
    x_bd (md_leanOf (M2 182 1) M2) fun x3 =>
    if 0 ≤ x3 then
      if (M2 182 2) ≤ (M2 182 6) then
        md_goesOn_b79 (0 : Int32) M2
      else
        md_goesOn_b79 ((M2 182 2) - (M2 182 6)) M2
    else
      x_lt (e_up M2 182 2 ((M2 182 2) + ((-x3) / (100 : Int32)))) fun M4 =>
      md_goesOn_b82 M4
  else
    some ((0 : Int32), M)
theorem c_md_goesOn  (M : e_Me) : x_C G 218 [.ref 182] M x_rim (md_goesOn  M) := by
  refine x_C_of 2 [some (.ref 182), none] (by decide) ml_218 (Nat.le_of_ble_eq_true rfl) rfl ?_
  rw [md_goesOn]
  refine xr_2 f_218_0 rfl ?_
  refine xr_ci f_218_1 (Nat.le_of_ble_eq_true rfl) rfl rfl (xr_rv kd_217 h_182) (Nat.le_of_ble_eq_true rfl) mc_217 ms_217 (c_md_whyOf M) ?_
  intro x1
  refine xr_28_0 f_218_4 ?_ ?_
  · refine xr_2 f_218_9 rfl ?_
    refine xr_2 f_218_10 rfl ?_
    refine xr_30i f_218_11 h_182 rfl ?_
    refine xr_0 f_218_14 ?_
    refine xr_8 f_218_15 ?_
    refine xr_2 f_218_16 rfl ?_
    refine xr_30i f_218_17 h_182 rfl ?_
    refine xr_13 f_218_20 ?_
    refine xr_31 f_218_21 h_182 rfl ?_
    intro M2
    refine xr_2 f_218_24 rfl ?_
    refine xr_2 f_218_25 rfl ?_
    refine xr_30i f_218_26 h_182 rfl ?_
    refine xr_ci f_218_29 (Nat.le_of_ble_eq_true rfl) rfl rfl (xr_rv kd_200 h_182) (Nat.le_of_ble_eq_true rfl) mc_200 ms_200 (c_md_leanOf (M2 182 1) M2) ?_
    intro x3
    refine xr_4 [some (.ref 182), some (.int x3)] f_218_32 rfl rfl ?_
    refine xr_1 f_218_33 rfl ?_
    refine xr_28_3 f_218_34 ?_ ?_
    · refine xr_2 f_218_54 rfl ?_
      refine xr_2 f_218_55 rfl ?_
      refine xr_30i f_218_56 h_182 rfl ?_
      refine xr_2 f_218_59 rfl ?_
      refine xr_30i f_218_60 h_182 rfl ?_
      refine xr_29_5 f_218_63 ?_ ?_
      · refine xr_0 f_218_78 ?_
        refine xr_wk (L' := [some (.ref 182), none]) [true, false] rfl ?_
        exact c_md_goesOn_b79 (0 : Int32) M2
      · refine xr_2 f_218_66 rfl ?_
        refine xr_30i f_218_67 h_182 rfl ?_
        refine xr_2 f_218_70 rfl ?_
        refine xr_30i f_218_71 h_182 rfl ?_
        refine xr_9 f_218_74 ?_
        refine xr_27 f_218_75 ?_
        refine xr_wk (L' := [some (.ref 182), none]) [true, false] rfl ?_
        exact c_md_goesOn_b79 ((M2 182 2) - (M2 182 6)) M2
    · refine xr_2 f_218_37 rfl ?_
      refine xr_24r f_218_38 ?_
      refine xr_30i f_218_39 h_182 rfl ?_
      refine xr_1 f_218_42 rfl ?_
      refine xr_11 f_218_43 ?_
      refine xr_0 f_218_44 ?_
      refine xr_12c f_218_46 (by decide) ?_
      refine xr_8 f_218_47 ?_
      refine xr_31 f_218_48 h_182 rfl ?_
      intro M4
      refine xr_27 f_218_51 ?_
      refine xr_wk (L' := [some (.ref 182), none]) [true, false] rfl ?_
      exact c_md_goesOn_b82 M4
  · refine xr_0 f_218_7 ?_
    exact xr_52mc f_218_8 (by decide)

def md_step  (M : e_Me) : Option (Int32 × e_Me) :=
  x_bi (md_goesOn M) fun x1 M2 =>
  if x1 = 0 then
    some ((-103 : Int32), M2)
  else
    some ((M2 182 1), M2)
theorem c_md_step  (M : e_Me) : x_C G 219 [.ref 182] M x_rim (md_step  M) := by
  refine x_C_of 1 [some (.ref 182)] (by decide) ml_219 (Nat.le_of_ble_eq_true rfl) rfl ?_
  rw [md_step]
  refine xr_2 f_219_0 rfl ?_
  refine xr_cim f_219_1 (Nat.le_of_ble_eq_true rfl) rfl rfl (xr_rv kd_218 h_182) (Nat.le_of_ble_eq_true rfl) mc_218 ms_218 (c_md_goesOn M) ?_
  intro x1 M2
  refine xr_28_0 f_219_4 ?_ ?_
  · refine xr_0 f_219_14 ?_
    exact xr_51m f_219_16
  · refine xr_2 f_219_7 rfl ?_
    refine xr_30i f_219_8 h_182 rfl ?_
    refine xr_27 f_219_11 ?_
    exact xr_51m f_219_16

def md_why  (M : e_Me) : Option Int32 :=
  x_bd (md_whyOf M) fun x1 =>
  some x1
theorem c_md_why  (M : e_Me) : x_C G 220 [.ref 182] M (x_ri M) (md_why  M) := by
  refine x_C_of 1 [some (.ref 182)] (by decide) ml_220 (Nat.le_of_ble_eq_true rfl) rfl ?_
  rw [md_why]
  refine xr_2 f_220_0 rfl ?_
  refine xr_ci f_220_1 (Nat.le_of_ble_eq_true rfl) rfl rfl (xr_rv kd_217 h_182) (Nat.le_of_ble_eq_true rfl) mc_217 ms_217 (c_md_whyOf M) ?_
  intro x1
  exact xr_51 f_220_4

def md_stop_l49  (a2 : Int32) (a3 : Int32) : Nat → Int32 → e_Me → Option (Int32 × e_Me)
  | 0, _, _ => none
  | F + 1, a4, M =>
    x_rd (M 184) 30 a3 fun x1 =>
    if x1 ≤ a4 then
      some (a2, M)
    else
      x_rd (M 183) 180 (((6 : Int32) * a3) + a4) fun x2 =>
      x_wr M 190 200 x2 ((1 : Int32) &&& 1) fun M3 =>
      md_stop_l49 a2 a3 F (a4 + (1 : Int32)) M3
theorem c_md_stop_l49  (a2 : Int32) (a3 : Int32)  : ∀ (F : Nat) (a4 : Int32) (M : e_Me), x_X G 221 0 0 x_rim 49 [some (.ref 182), none, some (.int a2), some (.int a3), some (.int a4)] [] M (md_stop_l49 a2 a3 F a4 M) := by
  intro F
  induction F with
  | zero => intro a4 M; exact xr_none
  | succ F ih =>
    intro a4 M
    rw [md_stop_l49]
    refine xr_1 f_221_49 rfl ?_
    refine xr_2 f_221_51 rfl ?_
    refine xr_30r f_221_52 h_182 rfl ?_
    refine xr_1 f_221_55 rfl ?_
    refine xr_32 f_221_56 h_184 ?_
    intro x1
    refine xr_29_3 f_221_57 ?_ ?_
    · refine xr_1 f_221_84 rfl ?_
      exact xr_51m f_221_85
    · refine xr_2 f_221_60 rfl ?_
      refine xr_30r f_221_61 h_182 rfl ?_
      refine xr_2 f_221_64 rfl ?_
      refine xr_30r f_221_65 h_182 rfl ?_
      refine xr_0 f_221_68 ?_
      refine xr_1 f_221_70 rfl ?_
      refine xr_10 f_221_71 ?_
      refine xr_1 f_221_72 rfl ?_
      refine xr_8 f_221_74 ?_
      refine xr_32 f_221_75 h_183 ?_
      intro x2
      refine xr_0 f_221_76 ?_
      refine xr_35 f_221_77 h_190 ?_
      intro M3
      refine xr_7 [some (.ref 182), none, some (.int a2), some (.int a3), some (.int (a4 + (1 : Int32)))] f_221_78 rfl rfl rfl ?_
      refine xr_27 f_221_81 ?_
      exact ih (a4 + (1 : Int32)) M3

def md_stop_b35  (a2 : Int32) (M : e_Me) : Option (Int32 × e_Me) :=
  x_bd (md_atPlace ((M 182 0) / (2 : Int32)) M) fun x1 =>
  md_stop_l49 a2 x1 e_F (0 : Int32) M
theorem c_md_stop_b35  (a2 : Int32) (M : e_Me)  : x_X G 221 0 0 x_rim 35 [some (.ref 182), none, some (.int a2), none, none] [] M (md_stop_b35 a2 M) := by
  rw [md_stop_b35]
  refine xr_2 f_221_35 rfl ?_
  refine xr_2 f_221_36 rfl ?_
  refine xr_30i f_221_37 h_182 rfl ?_
  refine xr_0 f_221_40 ?_
  refine xr_12c f_221_41 (by decide) ?_
  refine xr_ci f_221_42 (Nat.le_of_ble_eq_true rfl) rfl rfl (xr_rv kd_203 h_182) (Nat.le_of_ble_eq_true rfl) mc_203 ms_203 (c_md_atPlace ((M 182 0) / (2 : Int32)) M) ?_
  intro x1
  refine xr_4 [some (.ref 182), none, some (.int a2), some (.int x1), none] f_221_45 rfl rfl ?_
  refine xr_0 f_221_46 ?_
  refine xr_4 [some (.ref 182), none, some (.int a2), some (.int x1), some (.int (0 : Int32))] f_221_47 rfl rfl ?_
  exact c_md_stop_l49 a2 x1 e_F (0 : Int32) M

def md_stop_l17  (a1 : Int32) : Nat → Int32 → e_Me → Option (Int32 × e_Me)
  | 0, _, _ => none
  | F + 1, a2, M =>
    if a1 ≤ a2 then
      md_stop_b35 a2 M
    else
      x_bi (md_goesOn M) fun x1 M2 =>
      if x1 = 0 then
        md_stop_b35 a2 M2
      else
        md_stop_l17 a1 F (a2 + (1 : Int32)) M2
theorem c_md_stop_l17  (a1 : Int32)  : ∀ (F : Nat) (a2 : Int32) (M : e_Me), x_X G 221 0 0 x_rim 17 [some (.ref 182), some (.int a1), some (.int a2), none, none] [] M (md_stop_l17 a1 F a2 M) := by
  intro F
  induction F with
  | zero => intro a2 M; exact xr_none
  | succ F ih =>
    intro a2 M
    rw [md_stop_l17]
    refine xr_1 f_221_17 rfl ?_
    refine xr_1 f_221_18 rfl ?_
    refine xr_29_3 f_221_19 ?_ ?_
    · refine xr_wk (L' := [some (.ref 182), none, some (.int a2), none, none]) [true, false, true, true, true] rfl ?_
      exact c_md_stop_b35 a2 M
    · refine xr_2 f_221_22 rfl ?_
      refine xr_cim f_221_23 (Nat.le_of_ble_eq_true rfl) rfl rfl (xr_rv kd_218 h_182) (Nat.le_of_ble_eq_true rfl) mc_218 ms_218 (c_md_goesOn M) ?_
      intro x1 M2
      refine xr_28_0 f_221_26 ?_ ?_
      · refine xr_wk (L' := [some (.ref 182), none, some (.int a2), none, none]) [true, false, true, true, true] rfl ?_
        exact c_md_stop_b35 a2 M2
      · refine xr_7 [some (.ref 182), some (.int a1), some (.int (a2 + (1 : Int32))), none, none] f_221_29 rfl rfl rfl ?_
        refine xr_27 f_221_32 ?_
        exact ih (a2 + (1 : Int32)) M2

def md_stop (a1 : Int32) (M : e_Me) : Option (Int32 × e_Me) :=
  x_bd (md_in (a1).toInt64 ((0 : Int32)).toInt64 ((60 : Int32)).toInt64 M) fun x1 =>
  if x1 = 0 then
    some ((-102 : Int32), M)
  else
    md_stop_l17 a1 e_F (0 : Int32) M
theorem c_md_stop (a1 : Int32) (M : e_Me) : x_C G 221 [.ref 182, .int a1] M x_rim (md_stop a1 M) := by
  refine x_C_of 5 [some (.ref 182), some (.int a1), none, none, none] (by decide) ml_221 (Nat.le_of_ble_eq_true rfl) rfl ?_
  rw [md_stop]
  refine xr_1 f_221_0 rfl ?_
  refine xr_19 f_221_1 ?_
  refine xr_23 f_221_2 ?_
  refine xr_23 f_221_3 ?_
  refine xr_ci f_221_6 (Nat.le_of_ble_eq_true rfl) rfl rfl (xr_rs kd_193) (Nat.le_of_ble_eq_true rfl) mc_193 ms_193 (c_md_in (a1).toInt64 ((0 : Int32)).toInt64 ((60 : Int32)).toInt64 M) ?_
  intro x1
  refine xr_28_1 f_221_9 ?_ ?_
  · refine xr_0 f_221_15 ?_
    refine xr_4 [some (.ref 182), some (.int a1), some (.int (0 : Int32)), none, none] f_221_16 rfl rfl ?_
    exact c_md_stop_l17 a1 e_F (0 : Int32) M
  · refine xr_0 f_221_12 ?_
    exact xr_51m f_221_14

def md_isWeight (a0 : Int32) (M : e_Me) : Option Int32 :=
  x_bd (md_in (a0).toInt64 ((5 : Int32)).toInt64 ((150 : Int32)).toInt64 M) fun x1 =>
  x_gb x1 (some x1)
theorem c_md_isWeight (a0 : Int32) (M : e_Me) : x_C G 222 [.int a0] M (x_ri M) (md_isWeight a0 M) := by
  refine x_C_of 1 [some (.int a0)] (by decide) ml_222 (Nat.le_of_ble_eq_true rfl) rfl ?_
  rw [md_isWeight]
  refine xr_1 f_222_0 rfl ?_
  refine xr_19 f_222_1 ?_
  refine xr_23 f_222_2 ?_
  refine xr_23 f_222_5 ?_
  refine xr_ci f_222_8 (Nat.le_of_ble_eq_true rfl) rfl rfl (xr_rs kd_193) (Nat.le_of_ble_eq_true rfl) mc_193 ms_193 (c_md_in (a0).toInt64 ((5 : Int32)).toInt64 ((150 : Int32)).toInt64 M) ?_
  intro x1
  exact xr_52 f_222_11

def md_come_b120  (a1 : Int32) (a5 : Int32) (a6 : Int32) (M : e_Me) : Option (Int32 × e_Me) :=
  x_wr M 186 200 (M 182 12) a1 fun M1 =>
  x_wr M1 187 200 (M1 182 12) a6 fun M2 =>
  x_wr M2 188 200 (M2 182 12) a5 fun M3 =>
  x_wr M3 189 200 (M3 182 12) (100 : Int32) fun M4 =>
  x_wr M4 190 200 (M4 182 12) ((0 : Int32) &&& 1) fun M5 =>
  x_wr M5 191 200 (M5 182 12) (0 : Int32) fun M6 =>
  x_wr M6 192 30 (M6 182 19) (M6 182 12) fun M7 =>
  x_lt (e_up M7 182 19 ((M7 182 19) + (1 : Int32))) fun M8 =>
  x_lt (e_up M8 182 12 ((M8 182 12) + (1 : Int32))) fun M9 =>
  some (((M9 182 12) - (1 : Int32)), M9)
theorem c_md_come_b120  (a1 : Int32) (a5 : Int32) (a6 : Int32) (M : e_Me)  : x_X G 223 0 0 x_rim 120 [some (.ref 182), some (.int a1), none, none, none, some (.int a5), some (.int a6), none] [] M (md_come_b120 a1 a5 a6 M) := by
  rw [md_come_b120]
  refine xr_2 f_223_120 rfl ?_
  refine xr_30r f_223_121 h_182 rfl ?_
  refine xr_2 f_223_124 rfl ?_
  refine xr_30i f_223_125 h_182 rfl ?_
  refine xr_1 f_223_128 rfl ?_
  refine xr_33 f_223_129 h_186 ?_
  intro M1
  refine xr_2 f_223_130 rfl ?_
  refine xr_30r f_223_131 h_182 rfl ?_
  refine xr_2 f_223_134 rfl ?_
  refine xr_30i f_223_135 h_182 rfl ?_
  refine xr_1 f_223_138 rfl ?_
  refine xr_33 f_223_140 h_187 ?_
  intro M2
  refine xr_2 f_223_141 rfl ?_
  refine xr_30r f_223_142 h_182 rfl ?_
  refine xr_2 f_223_145 rfl ?_
  refine xr_30i f_223_146 h_182 rfl ?_
  refine xr_1 f_223_149 rfl ?_
  refine xr_33 f_223_151 h_188 ?_
  intro M3
  refine xr_2 f_223_152 rfl ?_
  refine xr_30r f_223_153 h_182 rfl ?_
  refine xr_2 f_223_156 rfl ?_
  refine xr_30i f_223_157 h_182 rfl ?_
  refine xr_0 f_223_160 ?_
  refine xr_33 f_223_162 h_189 ?_
  intro M4
  refine xr_2 f_223_163 rfl ?_
  refine xr_30r f_223_164 h_182 rfl ?_
  refine xr_2 f_223_167 rfl ?_
  refine xr_30i f_223_168 h_182 rfl ?_
  refine xr_0 f_223_171 ?_
  refine xr_35 f_223_172 h_190 ?_
  intro M5
  refine xr_2 f_223_173 rfl ?_
  refine xr_30r f_223_174 h_182 rfl ?_
  refine xr_2 f_223_177 rfl ?_
  refine xr_30i f_223_178 h_182 rfl ?_
  refine xr_0 f_223_181 ?_
  refine xr_33 f_223_182 h_191 ?_
  intro M6
  refine xr_2 f_223_183 rfl ?_
  refine xr_30r f_223_184 h_182 rfl ?_
  refine xr_2 f_223_187 rfl ?_
  refine xr_30i f_223_188 h_182 rfl ?_
  refine xr_2 f_223_191 rfl ?_
  refine xr_30i f_223_192 h_182 rfl ?_
  refine xr_33 f_223_195 h_192 ?_
  intro M7
  refine xr_2 f_223_196 rfl ?_
  refine xr_24r f_223_197 ?_
  refine xr_30i f_223_198 h_182 rfl ?_
  refine xr_0 f_223_201 ?_
  refine xr_8 f_223_202 ?_
  refine xr_31 f_223_203 h_182 rfl ?_
  intro M8
  refine xr_2 f_223_206 rfl ?_
  refine xr_24r f_223_207 ?_
  refine xr_30i f_223_208 h_182 rfl ?_
  refine xr_0 f_223_211 ?_
  refine xr_8 f_223_212 ?_
  refine xr_31 f_223_213 h_182 rfl ?_
  intro M9
  refine xr_2 f_223_216 rfl ?_
  refine xr_30i f_223_217 h_182 rfl ?_
  refine xr_0 f_223_220 ?_
  refine xr_9 f_223_221 ?_
  exact xr_51m f_223_222

def md_come_l78  (a1 : Int32) (a2 : Int32) (a3 : Int32) (a4 : Int32) (a5 : Int32) (M : e_Me) : Nat → Int32 → Int32 → Option (Int32 × e_Me)
  | 0, _, _ => none
  | F + 1, a6, a7 =>
    if a1 ≤ a7 then
      md_come_b120 a1 a5 a6 M
    else
      if (x_rem a7 (3 : Int32)) = 0 then
        x_lt (a6 + a2) fun y3 =>
        md_come_l78 a1 a2 a3 a4 a5 M F y3 (a7 + (1 : Int32))
      else
        if (x_rem a7 (3 : Int32)) = (1 : Int32) then
          x_lt (a6 + a3) fun y2 =>
          md_come_l78 a1 a2 a3 a4 a5 M F y2 (a7 + (1 : Int32))
        else
          x_lt (a6 + a4) fun y1 =>
          md_come_l78 a1 a2 a3 a4 a5 M F y1 (a7 + (1 : Int32))
theorem c_md_come_l78  (a1 : Int32) (a2 : Int32) (a3 : Int32) (a4 : Int32) (a5 : Int32) (M : e_Me)  : ∀ (F : Nat) (a6 : Int32) (a7 : Int32), x_X G 223 0 0 x_rim 78 [some (.ref 182), some (.int a1), some (.int a2), some (.int a3), some (.int a4), some (.int a5), some (.int a6), some (.int a7)] [] M (md_come_l78 a1 a2 a3 a4 a5 M F a6 a7) := by
  intro F
  induction F with
  | zero => intro a6 a7; exact xr_none
  | succ F ih =>
    intro a6 a7
    rw [md_come_l78]
    refine xr_1 f_223_78 rfl ?_
    refine xr_1 f_223_80 rfl ?_
    refine xr_29_3 f_223_81 ?_ ?_
    · refine xr_wk (L' := [some (.ref 182), some (.int a1), none, none, none, some (.int a5), some (.int a6), none]) [true, true, false, false, false, true, true, false] rfl ?_
      exact c_md_come_b120 a1 a5 a6 M
    · refine xr_1 f_223_84 rfl ?_
      refine xr_1 f_223_86 rfl ?_
      refine xr_0 f_223_88 ?_
      refine xr_13c f_223_89 (by decide) ?_
      refine xr_28_1 f_223_90 ?_ ?_
      · refine xr_1 f_223_97 rfl ?_
        refine xr_0 f_223_99 ?_
        refine xr_13c f_223_100 (by decide) ?_
        refine xr_0 f_223_101 ?_
        refine xr_29_1 f_223_102 ?_ ?_
        · refine xr_1 f_223_109 rfl ?_
          refine xr_8 f_223_111 ?_
          refine xr_4l (fun y1 => [some (.ref 182), some (.int a1), some (.int a2), some (.int a3), some (.int a4), some (.int a5), some (.int y1), some (.int a7)]) f_223_112 rfl (fun _ => rfl) ?_
          intro y1
          refine xr_7 [some (.ref 182), some (.int a1), some (.int a2), some (.int a3), some (.int a4), some (.int a5), some (.int y1), some (.int (a7 + (1 : Int32)))] f_223_114 rfl rfl rfl ?_
          refine xr_27 f_223_117 ?_
          exact ih y1 (a7 + (1 : Int32))
        · refine xr_1 f_223_105 rfl ?_
          refine xr_27 f_223_106 ?_
          refine xr_8 f_223_111 ?_
          refine xr_4l (fun y2 => [some (.ref 182), some (.int a1), some (.int a2), some (.int a3), some (.int a4), some (.int a5), some (.int y2), some (.int a7)]) f_223_112 rfl (fun _ => rfl) ?_
          intro y2
          refine xr_7 [some (.ref 182), some (.int a1), some (.int a2), some (.int a3), some (.int a4), some (.int a5), some (.int y2), some (.int (a7 + (1 : Int32)))] f_223_114 rfl rfl rfl ?_
          refine xr_27 f_223_117 ?_
          exact ih y2 (a7 + (1 : Int32))
      · refine xr_1 f_223_93 rfl ?_
        refine xr_27 f_223_94 ?_
        refine xr_8 f_223_111 ?_
        refine xr_4l (fun y3 => [some (.ref 182), some (.int a1), some (.int a2), some (.int a3), some (.int a4), some (.int a5), some (.int y3), some (.int a7)]) f_223_112 rfl (fun _ => rfl) ?_
        intro y3
        refine xr_7 [some (.ref 182), some (.int a1), some (.int a2), some (.int a3), some (.int a4), some (.int a5), some (.int y3), some (.int (a7 + (1 : Int32)))] f_223_114 rfl rfl rfl ?_
        refine xr_27 f_223_117 ?_
        exact ih y3 (a7 + (1 : Int32))

def md_come (a1 : Int32) (a2 : Int32) (a3 : Int32) (a4 : Int32) (a5 : Int32) (M : e_Me) : Option (Int32 × e_Me) :=
  x_bd (md_in (a1).toInt64 ((1 : Int32)).toInt64 ((6 : Int32)).toInt64 M) fun x1 =>
  if x1 = 0 then
    some ((-102 : Int32), M)
  else
    x_bd (md_isWeight a2 M) fun x2 =>
    if x2 = 0 then
      some ((-102 : Int32), M)
    else
      x_bd (md_isWeight a3 M) fun x3 =>
      if x3 = 0 then
        some ((-102 : Int32), M)
      else
        x_bd (md_isWeight a4 M) fun x4 =>
        if x4 = 0 then
          some ((-102 : Int32), M)
        else
          x_bd (md_in (a5).toInt64 ((0 : Int32)).toInt64 ((3 : Int32)).toInt64 M) fun x5 =>
          if x5 = 0 then
            some ((-102 : Int32), M)
          else
            if (M 182 19) = (30 : Int32) then
              some ((-104 : Int32), M)
            else
              if (M 182 12) = (200 : Int32) then
                some ((-104 : Int32), M)
              else
                md_come_l78 a1 a2 a3 a4 a5 M e_F (0 : Int32) (0 : Int32)
theorem c_md_come (a1 : Int32) (a2 : Int32) (a3 : Int32) (a4 : Int32) (a5 : Int32) (M : e_Me) : x_C G 223 [.ref 182, .int a1, .int a2, .int a3, .int a4, .int a5] M x_rim (md_come a1 a2 a3 a4 a5 M) := by
  refine x_C_of 8 [some (.ref 182), some (.int a1), some (.int a2), some (.int a3), some (.int a4), some (.int a5), none, none] (by decide) ml_223 (Nat.le_of_ble_eq_true rfl) rfl ?_
  rw [md_come]
  refine xr_1 f_223_0 rfl ?_
  refine xr_19 f_223_1 ?_
  refine xr_23 f_223_2 ?_
  refine xr_23 f_223_3 ?_
  refine xr_ci f_223_6 (Nat.le_of_ble_eq_true rfl) rfl rfl (xr_rs kd_193) (Nat.le_of_ble_eq_true rfl) mc_193 ms_193 (c_md_in (a1).toInt64 ((1 : Int32)).toInt64 ((6 : Int32)).toInt64 M) ?_
  intro x1
  refine xr_28_0 f_223_9 ?_ ?_
  · refine xr_0 f_223_47 ?_
    exact xr_51m f_223_49
  · refine xr_1 f_223_12 rfl ?_
    refine xr_ci f_223_13 (Nat.le_of_ble_eq_true rfl) rfl rfl (xr_rs kd_222) (Nat.le_of_ble_eq_true rfl) mc_222 ms_222 (c_md_isWeight a2 M) ?_
    intro x2
    refine xr_28_0 f_223_16 ?_ ?_
    · refine xr_0 f_223_47 ?_
      exact xr_51m f_223_49
    · refine xr_1 f_223_19 rfl ?_
      refine xr_ci f_223_20 (Nat.le_of_ble_eq_true rfl) rfl rfl (xr_rs kd_222) (Nat.le_of_ble_eq_true rfl) mc_222 ms_222 (c_md_isWeight a3 M) ?_
      intro x3
      refine xr_28_0 f_223_23 ?_ ?_
      · refine xr_0 f_223_47 ?_
        exact xr_51m f_223_49
      · refine xr_1 f_223_26 rfl ?_
        refine xr_ci f_223_28 (Nat.le_of_ble_eq_true rfl) rfl rfl (xr_rs kd_222) (Nat.le_of_ble_eq_true rfl) mc_222 ms_222 (c_md_isWeight a4 M) ?_
        intro x4
        refine xr_28_0 f_223_31 ?_ ?_
        · refine xr_0 f_223_47 ?_
          exact xr_51m f_223_49
        · refine xr_1 f_223_34 rfl ?_
          refine xr_19 f_223_36 ?_
          refine xr_23 f_223_37 ?_
          refine xr_23 f_223_38 ?_
          refine xr_ci f_223_41 (Nat.le_of_ble_eq_true rfl) rfl rfl (xr_rs kd_193) (Nat.le_of_ble_eq_true rfl) mc_193 ms_193 (c_md_in (a5).toInt64 ((0 : Int32)).toInt64 ((3 : Int32)).toInt64 M) ?_
          intro x5
          refine xr_28_1 f_223_44 ?_ ?_
          · refine xr_2 f_223_50 rfl ?_
            refine xr_30i f_223_51 h_182 rfl ?_
            refine xr_0 f_223_54 ?_
            refine xr_29_0 f_223_56 ?_ ?_
            · refine xr_0 f_223_69 ?_
              exact xr_51m f_223_71
            · refine xr_2 f_223_59 rfl ?_
              refine xr_30i f_223_60 h_182 rfl ?_
              refine xr_0 f_223_63 ?_
              refine xr_29_1 f_223_66 ?_ ?_
              · refine xr_0 f_223_72 ?_
                refine xr_4 [some (.ref 182), some (.int a1), some (.int a2), some (.int a3), some (.int a4), some (.int a5), some (.int (0 : Int32)), none] f_223_73 rfl rfl ?_
                refine xr_0 f_223_75 ?_
                refine xr_4 [some (.ref 182), some (.int a1), some (.int a2), some (.int a3), some (.int a4), some (.int a5), some (.int (0 : Int32)), some (.int (0 : Int32))] f_223_76 rfl rfl ?_
                exact c_md_come_l78 a1 a2 a3 a4 a5 M e_F (0 : Int32) (0 : Int32)
              · refine xr_0 f_223_69 ?_
                exact xr_51m f_223_71
          · refine xr_0 f_223_47 ?_
            exact xr_51m f_223_49

def md_waits (a1 : Int32) (M : e_Me) : Option Int32 :=
  x_bd (md_in (a1).toInt64 ((0 : Int32)).toInt64 (((M 182 19) - (1 : Int32))).toInt64 M) fun x1 =>
  if x1 = 0 then
    some (-1 : Int32)
  else
    x_rd (M 192) 30 a1 fun x2 =>
    some x2
theorem c_md_waits (a1 : Int32) (M : e_Me) : x_C G 224 [.ref 182, .int a1] M (x_ri M) (md_waits a1 M) := by
  refine x_C_of 2 [some (.ref 182), some (.int a1)] (by decide) ml_224 (Nat.le_of_ble_eq_true rfl) rfl ?_
  rw [md_waits]
  refine xr_1 f_224_0 rfl ?_
  refine xr_19 f_224_1 ?_
  refine xr_23 f_224_2 ?_
  refine xr_2 f_224_3 rfl ?_
  refine xr_30i f_224_4 h_182 rfl ?_
  refine xr_0 f_224_7 ?_
  refine xr_9 f_224_8 ?_
  refine xr_19 f_224_9 ?_
  refine xr_ci f_224_10 (Nat.le_of_ble_eq_true rfl) rfl rfl (xr_rs kd_193) (Nat.le_of_ble_eq_true rfl) mc_193 ms_193 (c_md_in (a1).toInt64 ((0 : Int32)).toInt64 (((M 182 19) - (1 : Int32))).toInt64 M) ?_
  intro x1
  refine xr_28_0 f_224_13 ?_ ?_
  · refine xr_0 f_224_25 ?_
    exact xr_51 f_224_26
  · refine xr_2 f_224_16 rfl ?_
    refine xr_30r f_224_17 h_182 rfl ?_
    refine xr_1 f_224_20 rfl ?_
    refine xr_32 f_224_21 h_192 ?_
    intro x2
    refine xr_27 f_224_22 ?_
    exact xr_51 f_224_26

def md_mayBoard_b87  (a1 : Int32) (a2 : Int32) (s0 : Int32) (M : e_Me) : Option (Int32 × e_Me) :=
  x_rd (M 185) 30 a2 fun x1 =>
  x_rd (M 187) 200 a1 fun x2 =>
  x_wr M 185 30 a2 (x1 - x2) fun M3 =>
  x_gb s0 (some (s0, M3))
theorem c_md_mayBoard_b87  (a1 : Int32) (a2 : Int32) (s0 : Int32) (M : e_Me)  : x_X G 225 0 0 x_rim 87 [some (.ref 182), some (.int a1), some (.int a2), none] [.int s0] M (md_mayBoard_b87 a1 a2 s0 M) := by
  rw [md_mayBoard_b87]
  refine xr_4 [some (.ref 182), some (.int a1), some (.int a2), some (.int s0)] f_225_87 rfl rfl ?_
  refine xr_2 f_225_88 rfl ?_
  refine xr_30r f_225_89 h_182 rfl ?_
  refine xr_1 f_225_92 rfl ?_
  refine xr_25 f_225_93 ?_
  refine xr_32 f_225_94 h_185 ?_
  intro x1
  refine xr_2 f_225_95 rfl ?_
  refine xr_30r f_225_96 h_182 rfl ?_
  refine xr_1 f_225_99 rfl ?_
  refine xr_32 f_225_100 h_187 ?_
  intro x2
  refine xr_9 f_225_101 ?_
  refine xr_33 f_225_102 h_185 ?_
  intro M3
  refine xr_1 f_225_103 rfl ?_
  exact xr_52m f_225_104

def md_mayBoard_b56  (a1 : Int32) (a2 : Int32) (M : e_Me) : Option (Int32 × e_Me) :=
  x_rd (M 185) 30 a2 fun x1 =>
  x_rd (M 187) 200 a1 fun x2 =>
  x_wr M 185 30 a2 (x1 + x2) fun M3 =>
  x_bd (md_greatestOf M3) fun x4 =>
  if (M3 182 4) < x4 then
    md_mayBoard_b87 a1 a2 (0 : Int32) M3
  else
    md_mayBoard_b87 a1 a2 (1 : Int32) M3
theorem c_md_mayBoard_b56  (a1 : Int32) (a2 : Int32) (M : e_Me)  : x_X G 225 0 0 x_rim 56 [some (.ref 182), some (.int a1), some (.int a2), none] [] M (md_mayBoard_b56 a1 a2 M) := by
  rw [md_mayBoard_b56]
  refine xr_2 f_225_56 rfl ?_
  refine xr_30r f_225_57 h_182 rfl ?_
  refine xr_1 f_225_60 rfl ?_
  refine xr_25 f_225_61 ?_
  refine xr_32 f_225_62 h_185 ?_
  intro x1
  refine xr_2 f_225_63 rfl ?_
  refine xr_30r f_225_64 h_182 rfl ?_
  refine xr_1 f_225_67 rfl ?_
  refine xr_32 f_225_68 h_187 ?_
  intro x2
  refine xr_8 f_225_69 ?_
  refine xr_33 f_225_70 h_185 ?_
  intro M3
  refine xr_2 f_225_71 rfl ?_
  refine xr_ci f_225_72 (Nat.le_of_ble_eq_true rfl) rfl rfl (xr_rv kd_202 h_182) (Nat.le_of_ble_eq_true rfl) mc_202 ms_202 (c_md_greatestOf M3) ?_
  intro x4
  refine xr_2 f_225_75 rfl ?_
  refine xr_30i f_225_76 h_182 rfl ?_
  refine xr_29_4 f_225_79 ?_ ?_
  · refine xr_0 f_225_86 ?_
    exact c_md_mayBoard_b87 a1 a2 (0 : Int32) M3
  · refine xr_0 f_225_82 ?_
    refine xr_27 f_225_83 ?_
    exact c_md_mayBoard_b87 a1 a2 (1 : Int32) M3

def md_mayBoard (a1 : Int32) (M : e_Me) : Option (Int32 × e_Me) :=
  x_bd (md_atPlace (0 : Int32) M) fun x1 =>
  x_bd (md_personsIn x1 M) fun x2 =>
  x_rd (M 186) 200 a1 fun x3 =>
  if (x2 + x3) ≤ (6 : Int32) then
    x_rd (M 184) 30 x1 fun x4 =>
    if x4 ≤ 0 then
      md_mayBoard_b56 a1 x1 M
    else
      x_bd (md_isAlone x1 M) fun x5 =>
      if x5 = 0 then
        x_rd (M 188) 200 a1 fun x6 =>
        if (x_rem x6 (2 : Int32)) = (1 : Int32) then
          some ((0 : Int32), M)
        else
          md_mayBoard_b56 a1 x1 M
      else
        some ((0 : Int32), M)
  else
    some ((0 : Int32), M)
theorem c_md_mayBoard (a1 : Int32) (M : e_Me) : x_C G 225 [.ref 182, .int a1] M x_rim (md_mayBoard a1 M) := by
  refine x_C_of 4 [some (.ref 182), some (.int a1), none, none] (by decide) ml_225 (Nat.le_of_ble_eq_true rfl) rfl ?_
  rw [md_mayBoard]
  refine xr_2 f_225_0 rfl ?_
  refine xr_0 f_225_1 ?_
  refine xr_ci f_225_2 (Nat.le_of_ble_eq_true rfl) rfl rfl (xr_rv kd_203 h_182) (Nat.le_of_ble_eq_true rfl) mc_203 ms_203 (c_md_atPlace (0 : Int32) M) ?_
  intro x1
  refine xr_4 [some (.ref 182), some (.int a1), some (.int x1), none] f_225_5 rfl rfl ?_
  refine xr_2 f_225_6 rfl ?_
  refine xr_1 f_225_7 rfl ?_
  refine xr_ci f_225_8 (Nat.le_of_ble_eq_true rfl) rfl rfl (xr_rv kd_204 h_182) (Nat.le_of_ble_eq_true rfl) mc_204 ms_204 (c_md_personsIn x1 M) ?_
  intro x2
  refine xr_2 f_225_11 rfl ?_
  refine xr_30r f_225_12 h_182 rfl ?_
  refine xr_1 f_225_15 rfl ?_
  refine xr_32 f_225_16 h_186 ?_
  intro x3
  refine xr_8 f_225_17 ?_
  refine xr_0 f_225_18 ?_
  refine xr_29_5 f_225_20 ?_ ?_
  · refine xr_2 f_225_25 rfl ?_
    refine xr_30r f_225_26 h_182 rfl ?_
    refine xr_1 f_225_29 rfl ?_
    refine xr_32 f_225_30 h_184 ?_
    intro x4
    refine xr_28_5 f_225_31 ?_ ?_
    · exact c_md_mayBoard_b56 a1 x1 M
    · refine xr_2 f_225_34 rfl ?_
      refine xr_1 f_225_35 rfl ?_
      refine xr_ci f_225_36 (Nat.le_of_ble_eq_true rfl) rfl rfl (xr_rv kd_214 h_182) (Nat.le_of_ble_eq_true rfl) mc_214 ms_214 (c_md_isAlone x1 M) ?_
      intro x5
      refine xr_28_1 f_225_39 ?_ ?_
      · refine xr_0 f_225_54 ?_
        exact xr_52mc f_225_55 (by decide)
      · refine xr_2 f_225_42 rfl ?_
        refine xr_30r f_225_43 h_182 rfl ?_
        refine xr_1 f_225_46 rfl ?_
        refine xr_32 f_225_47 h_188 ?_
        intro x6
        refine xr_0 f_225_48 ?_
        refine xr_13c f_225_49 (by decide) ?_
        refine xr_0 f_225_50 ?_
        refine xr_29_1 f_225_51 ?_ ?_
        · exact c_md_mayBoard_b56 a1 x1 M
        · refine xr_0 f_225_54 ?_
          exact xr_52mc f_225_55 (by decide)
  · refine xr_0 f_225_23 ?_
    exact xr_52mc f_225_24 (by decide)

def md_may (a1 : Int32) (M : e_Me) : Option (Int32 × e_Me) :=
  x_bd (md_in (a1).toInt64 ((0 : Int32)).toInt64 (((M 182 19) - (1 : Int32))).toInt64 M) fun x1 =>
  if x1 = 0 then
    some ((-101 : Int32), M)
  else
    x_rd (M 192) 30 a1 fun x2 =>
    x_bi (md_mayBoard x2 M) fun x3 M4 =>
    if x3 = 0 then
      some ((0 : Int32), M4)
    else
      some ((1 : Int32), M4)
theorem c_md_may (a1 : Int32) (M : e_Me) : x_C G 226 [.ref 182, .int a1] M x_rim (md_may a1 M) := by
  refine x_C_of 2 [some (.ref 182), some (.int a1)] (by decide) ml_226 (Nat.le_of_ble_eq_true rfl) rfl ?_
  rw [md_may]
  refine xr_1 f_226_0 rfl ?_
  refine xr_19 f_226_1 ?_
  refine xr_23 f_226_2 ?_
  refine xr_2 f_226_3 rfl ?_
  refine xr_30i f_226_4 h_182 rfl ?_
  refine xr_0 f_226_7 ?_
  refine xr_9 f_226_8 ?_
  refine xr_19 f_226_9 ?_
  refine xr_ci f_226_10 (Nat.le_of_ble_eq_true rfl) rfl rfl (xr_rs kd_193) (Nat.le_of_ble_eq_true rfl) mc_193 ms_193 (c_md_in (a1).toInt64 ((0 : Int32)).toInt64 (((M 182 19) - (1 : Int32))).toInt64 M) ?_
  intro x1
  refine xr_28_1 f_226_13 ?_ ?_
  · refine xr_2 f_226_21 rfl ?_
    refine xr_2 f_226_22 rfl ?_
    refine xr_30r f_226_23 h_182 rfl ?_
    refine xr_1 f_226_26 rfl ?_
    refine xr_32 f_226_27 h_192 ?_
    intro x2
    refine xr_cim f_226_28 (Nat.le_of_ble_eq_true rfl) rfl rfl (xr_rv kd_225 h_182) (Nat.le_of_ble_eq_true rfl) mc_225 ms_225 (c_md_mayBoard x2 M) ?_
    intro x3 M4
    refine xr_28_0 f_226_31 ?_ ?_
    · refine xr_0 f_226_38 ?_
      exact xr_51m f_226_39
    · refine xr_0 f_226_34 ?_
      refine xr_27 f_226_35 ?_
      exact xr_51m f_226_39
  · refine xr_0 f_226_16 ?_
    refine xr_27 f_226_18 ?_
    exact xr_51m f_226_39

def md_takeOut_l12   : Nat → Int32 → e_Me → Option e_Me
  | 0, _, _ => none
  | F + 1, a2, M =>
    if (M 182 19) ≤ a2 then
      some M
    else
      x_rd (M 192) 30 (a2 + (1 : Int32)) fun x1 =>
      x_wr M 192 30 a2 x1 fun M2 =>
      md_takeOut_l12  F (a2 + (1 : Int32)) M2
theorem c_md_takeOut_l12    : ∀ (F : Nat) (a2 : Int32) (M : e_Me), x_X G 227 0 0 x_rv 12 [some (.ref 182), none, some (.int a2)] [] M (md_takeOut_l12  F a2 M) := by
  intro F
  induction F with
  | zero => intro a2 M; exact xr_none
  | succ F ih =>
    intro a2 M
    rw [md_takeOut_l12]
    refine xr_1 f_227_12 rfl ?_
    refine xr_2 f_227_13 rfl ?_
    refine xr_30i f_227_14 h_182 rfl ?_
    refine xr_29_3 f_227_17 ?_ ?_
    · exact xr_50 f_227_40
    · refine xr_2 f_227_20 rfl ?_
      refine xr_30r f_227_21 h_182 rfl ?_
      refine xr_1 f_227_24 rfl ?_
      refine xr_2 f_227_25 rfl ?_
      refine xr_30r f_227_26 h_182 rfl ?_
      refine xr_1 f_227_29 rfl ?_
      refine xr_0 f_227_30 ?_
      refine xr_8 f_227_31 ?_
      refine xr_32 f_227_32 h_192 ?_
      intro x1
      refine xr_33 f_227_33 h_192 ?_
      intro M2
      refine xr_7 [some (.ref 182), none, some (.int (a2 + (1 : Int32)))] f_227_34 rfl rfl rfl ?_
      refine xr_27 f_227_37 ?_
      exact ih (a2 + (1 : Int32)) M2

def md_takeOut (a1 : Int32) (M : e_Me) : Option e_Me :=
  x_lt (e_up M 182 19 ((M 182 19) - (1 : Int32))) fun M1 =>
  md_takeOut_l12  e_F a1 M1
theorem c_md_takeOut (a1 : Int32) (M : e_Me) : x_C G 227 [.ref 182, .int a1] M x_rv (md_takeOut a1 M) := by
  refine x_C_of 3 [some (.ref 182), some (.int a1), none] (by decide) ml_227 (Nat.le_of_ble_eq_true rfl) rfl ?_
  rw [md_takeOut]
  refine xr_2 f_227_0 rfl ?_
  refine xr_24r f_227_1 ?_
  refine xr_30i f_227_2 h_182 rfl ?_
  refine xr_0 f_227_5 ?_
  refine xr_9 f_227_6 ?_
  refine xr_31 f_227_7 h_182 rfl ?_
  intro M1
  refine xr_1 f_227_10 rfl ?_
  refine xr_4 [some (.ref 182), some (.int a1), some (.int a1)] f_227_11 rfl rfl ?_
  refine xr_wk (L' := [some (.ref 182), none, some (.int a1)]) [true, false, true] rfl ?_
  exact c_md_takeOut_l12 e_F a1 M1

def md_board_b53  (a1 : Int32) (a2 : Int32) (M : e_Me) : Option (Int32 × e_Me) :=
  x_bd (md_takeOut a1 M) fun M1 =>
  x_bd (md_atPlace (0 : Int32) M1) fun x2 =>
  x_rd (M1 184) 30 x2 fun x3 =>
  x_wr M1 183 180 (((6 : Int32) * x2) + x3) a2 fun M4 =>
  x_rd (M4 184) 30 x2 fun x5 =>
  x_wr M4 184 30 x2 (x5 + (1 : Int32)) fun M6 =>
  x_rd (M6 185) 30 x2 fun x7 =>
  x_rd (M6 187) 200 a2 fun x8 =>
  x_wr M6 185 30 x2 (x7 + x8) fun M9 =>
  x_wr M9 189 200 a2 x2 fun M10 =>
  some (a2, M10)
theorem c_md_board_b53  (a1 : Int32) (a2 : Int32) (M : e_Me)  : x_X G 228 0 0 x_rim 53 [some (.ref 182), some (.int a1), some (.int a2), none] [] M (md_board_b53 a1 a2 M) := by
  rw [md_board_b53]
  refine xr_2 f_228_53 rfl ?_
  refine xr_1 f_228_54 rfl ?_
  refine xr_cv f_228_55 (Nat.le_of_ble_eq_true rfl) rfl rfl (xr_rv kd_227 h_182) (Nat.le_of_ble_eq_true rfl) mc_227 ms_227 (c_md_takeOut a1 M) ?_
  intro M1
  refine xr_2 f_228_58 rfl ?_
  refine xr_0 f_228_59 ?_
  refine xr_ci f_228_60 (Nat.le_of_ble_eq_true rfl) rfl rfl (xr_rv kd_203 h_182) (Nat.le_of_ble_eq_true rfl) mc_203 ms_203 (c_md_atPlace (0 : Int32) M1) ?_
  intro x2
  refine xr_4 [some (.ref 182), some (.int a1), some (.int a2), some (.int x2)] f_228_63 rfl rfl ?_
  refine xr_2 f_228_64 rfl ?_
  refine xr_30r f_228_65 h_182 rfl ?_
  refine xr_0 f_228_68 ?_
  refine xr_1 f_228_70 rfl ?_
  refine xr_10 f_228_71 ?_
  refine xr_2 f_228_72 rfl ?_
  refine xr_30r f_228_73 h_182 rfl ?_
  refine xr_1 f_228_76 rfl ?_
  refine xr_32 f_228_77 h_184 ?_
  intro x3
  refine xr_8 f_228_78 ?_
  refine xr_1 f_228_79 rfl ?_
  refine xr_33 f_228_80 h_183 ?_
  intro M4
  refine xr_2 f_228_81 rfl ?_
  refine xr_30r f_228_82 h_182 rfl ?_
  refine xr_1 f_228_85 rfl ?_
  refine xr_25 f_228_86 ?_
  refine xr_32 f_228_87 h_184 ?_
  intro x5
  refine xr_0 f_228_88 ?_
  refine xr_8 f_228_89 ?_
  refine xr_33 f_228_90 h_184 ?_
  intro M6
  refine xr_2 f_228_91 rfl ?_
  refine xr_30r f_228_92 h_182 rfl ?_
  refine xr_1 f_228_95 rfl ?_
  refine xr_25 f_228_96 ?_
  refine xr_32 f_228_97 h_185 ?_
  intro x7
  refine xr_2 f_228_98 rfl ?_
  refine xr_30r f_228_99 h_182 rfl ?_
  refine xr_1 f_228_102 rfl ?_
  refine xr_32 f_228_103 h_187 ?_
  intro x8
  refine xr_8 f_228_104 ?_
  refine xr_33 f_228_105 h_185 ?_
  intro M9
  refine xr_2 f_228_106 rfl ?_
  refine xr_30r f_228_107 h_182 rfl ?_
  refine xr_1 f_228_110 rfl ?_
  refine xr_1 f_228_111 rfl ?_
  refine xr_33 f_228_112 h_189 ?_
  intro M10
  refine xr_1 f_228_113 rfl ?_
  exact xr_51m f_228_114

def md_board_l27  (a1 : Int32) (a2 : Int32) : Nat → Int32 → e_Me → Option (Int32 × e_Me)
  | 0, _, _ => none
  | F + 1, a3, M =>
    if a1 ≤ a3 then
      md_board_b53 a1 a2 M
    else
      x_rd (M 192) 30 a3 fun x1 =>
      x_rd (M 191) 200 x1 fun x2 =>
      x_wr M 191 200 x1 (x2 + (1 : Int32)) fun M3 =>
      md_board_l27 a1 a2 F (a3 + (1 : Int32)) M3
theorem c_md_board_l27  (a1 : Int32) (a2 : Int32)  : ∀ (F : Nat) (a3 : Int32) (M : e_Me), x_X G 228 0 0 x_rim 27 [some (.ref 182), some (.int a1), some (.int a2), some (.int a3)] [] M (md_board_l27 a1 a2 F a3 M) := by
  intro F
  induction F with
  | zero => intro a3 M; exact xr_none
  | succ F ih =>
    intro a3 M
    rw [md_board_l27]
    refine xr_1 f_228_27 rfl ?_
    refine xr_1 f_228_28 rfl ?_
    refine xr_29_3 f_228_29 ?_ ?_
    · refine xr_wk (L' := [some (.ref 182), some (.int a1), some (.int a2), none]) [true, true, true, false] rfl ?_
      exact c_md_board_b53 a1 a2 M
    · refine xr_2 f_228_32 rfl ?_
      refine xr_30r f_228_33 h_182 rfl ?_
      refine xr_2 f_228_36 rfl ?_
      refine xr_30r f_228_37 h_182 rfl ?_
      refine xr_1 f_228_40 rfl ?_
      refine xr_32 f_228_41 h_192 ?_
      intro x1
      refine xr_25 f_228_42 ?_
      refine xr_32 f_228_43 h_191 ?_
      intro x2
      refine xr_0 f_228_44 ?_
      refine xr_8 f_228_45 ?_
      refine xr_33 f_228_46 h_191 ?_
      intro M3
      refine xr_7 [some (.ref 182), some (.int a1), some (.int a2), some (.int (a3 + (1 : Int32)))] f_228_47 rfl rfl rfl ?_
      refine xr_27 f_228_50 ?_
      exact ih (a3 + (1 : Int32)) M3

def md_board_l2   : Nat → Int32 → e_Me → Option (Int32 × e_Me)
  | 0, _, _ => none
  | F + 1, a1, M =>
    if (M 182 19) ≤ a1 then
      some ((-1 : Int32), M)
    else
      x_rd (M 192) 30 a1 fun x1 =>
      x_bi (md_mayBoard x1 M) fun x2 M3 =>
      if x2 = 0 then
        x_rd (M3 191) 200 x1 fun x4 =>
        if x4 < (M3 182 7) then
          md_board_l2  F (a1 + (1 : Int32)) M3
        else
          some ((-1 : Int32), M3)
      else
        md_board_l27 a1 x1 e_F (0 : Int32) M3
theorem c_md_board_l2    : ∀ (F : Nat) (a1 : Int32) (M : e_Me), x_X G 228 0 0 x_rim 2 [some (.ref 182), some (.int a1), none, none] [] M (md_board_l2  F a1 M) := by
  intro F
  induction F with
  | zero => intro a1 M; exact xr_none
  | succ F ih =>
    intro a1 M
    rw [md_board_l2]
    refine xr_1 f_228_2 rfl ?_
    refine xr_2 f_228_3 rfl ?_
    refine xr_30i f_228_4 h_182 rfl ?_
    refine xr_29_3 f_228_7 ?_ ?_
    · refine xr_0 f_228_136 ?_
      exact xr_51m f_228_137
    · refine xr_2 f_228_10 rfl ?_
      refine xr_30r f_228_11 h_182 rfl ?_
      refine xr_1 f_228_14 rfl ?_
      refine xr_32 f_228_15 h_192 ?_
      intro x1
      refine xr_4 [some (.ref 182), some (.int a1), some (.int x1), none] f_228_16 rfl rfl ?_
      refine xr_2 f_228_17 rfl ?_
      refine xr_1 f_228_18 rfl ?_
      refine xr_cim f_228_19 (Nat.le_of_ble_eq_true rfl) rfl rfl (xr_rv kd_225 h_182) (Nat.le_of_ble_eq_true rfl) mc_225 ms_225 (c_md_mayBoard x1 M) ?_
      intro x2 M3
      refine xr_28_0 f_228_22 ?_ ?_
      · refine xr_2 f_228_115 rfl ?_
        refine xr_30r f_228_116 h_182 rfl ?_
        refine xr_1 f_228_119 rfl ?_
        refine xr_32 f_228_120 h_191 ?_
        intro x4
        refine xr_2 f_228_121 rfl ?_
        refine xr_30i f_228_122 h_182 rfl ?_
        refine xr_29_2 f_228_125 ?_ ?_
        · refine xr_7 [some (.ref 182), some (.int (a1 + (1 : Int32))), some (.int x1), none] f_228_130 rfl rfl rfl ?_
          refine xr_27 f_228_133 ?_
          refine xr_wk (L' := [some (.ref 182), some (.int (a1 + (1 : Int32))), none, none]) [true, true, false, true] rfl ?_
          exact ih (a1 + (1 : Int32)) M3
        · refine xr_0 f_228_128 ?_
          exact xr_51m f_228_129
      · refine xr_0 f_228_25 ?_
        refine xr_4 [some (.ref 182), some (.int a1), some (.int x1), some (.int (0 : Int32))] f_228_26 rfl rfl ?_
        exact c_md_board_l27 a1 x1 e_F (0 : Int32) M3

def md_board  (M : e_Me) : Option (Int32 × e_Me) :=
  md_board_l2  e_F (0 : Int32) M
theorem c_md_board  (M : e_Me) : x_C G 228 [.ref 182] M x_rim (md_board  M) := by
  refine x_C_of 4 [some (.ref 182), none, none, none] (by decide) ml_228 (Nat.le_of_ble_eq_true rfl) rfl ?_
  rw [md_board]
  refine xr_0 f_228_0 ?_
  refine xr_4 [some (.ref 182), some (.int (0 : Int32)), none, none] f_228_1 rfl rfl ?_
  exact c_md_board_l2 e_F (0 : Int32) M

def md_next  (M : e_Me) : Option (Int32 × e_Me) :=
  x_bi (md_board M) fun x1 M2 =>
  some (x1, M2)
theorem c_md_next  (M : e_Me) : x_C G 229 [.ref 182] M x_rim (md_next  M) := by
  refine x_C_of 1 [some (.ref 182)] (by decide) ml_229 (Nat.le_of_ble_eq_true rfl) rfl ?_
  rw [md_next]
  refine xr_2 f_229_0 rfl ?_
  refine xr_cim f_229_1 (Nat.le_of_ble_eq_true rfl) rfl rfl (xr_rv kd_228 h_182) (Nat.le_of_ble_eq_true rfl) mc_228 ms_228 (c_md_board M) ?_
  intro x1 M2
  exact xr_51m f_229_4

def md_fill_l2   : Nat → Int32 → e_Me → Option (Int32 × e_Me)
  | 0, _, _ => none
  | F + 1, a1, M =>
    x_bi (md_board M) fun x1 M2 =>
    if x1 = (-1 : Int32) then
      some (a1, M2)
    else
      md_fill_l2  F (a1 + (1 : Int32)) M2
theorem c_md_fill_l2    : ∀ (F : Nat) (a1 : Int32) (M : e_Me), x_X G 230 0 0 x_rim 2 [some (.ref 182), some (.int a1)] [] M (md_fill_l2  F a1 M) := by
  intro F
  induction F with
  | zero => intro a1 M; exact xr_none
  | succ F ih =>
    intro a1 M
    rw [md_fill_l2]
    refine xr_2 f_230_2 rfl ?_
    refine xr_cim f_230_3 (Nat.le_of_ble_eq_true rfl) rfl rfl (xr_rv kd_228 h_182) (Nat.le_of_ble_eq_true rfl) mc_228 ms_228 (c_md_board M) ?_
    intro x1 M2
    refine xr_0 f_230_6 ?_
    refine xr_29_0 f_230_7 ?_ ?_
    · refine xr_1 f_230_16 rfl ?_
      exact xr_51m f_230_17
    · refine xr_7 [some (.ref 182), some (.int (a1 + (1 : Int32)))] f_230_10 rfl rfl rfl ?_
      refine xr_27 f_230_13 ?_
      exact ih (a1 + (1 : Int32)) M2

def md_fill  (M : e_Me) : Option (Int32 × e_Me) :=
  md_fill_l2  e_F (0 : Int32) M
theorem c_md_fill  (M : e_Me) : x_C G 230 [.ref 182] M x_rim (md_fill  M) := by
  refine x_C_of 2 [some (.ref 182), none] (by decide) ml_230 (Nat.le_of_ble_eq_true rfl) rfl ?_
  rw [md_fill]
  refine xr_0 f_230_0 ?_
  refine xr_4 [some (.ref 182), some (.int (0 : Int32))] f_230_1 rfl rfl ?_
  exact c_md_fill_l2 e_F (0 : Int32) M

def md_tire (a1 : Int32) (M : e_Me) : Option (Int32 × e_Me) :=
  x_bd (md_in (a1).toInt64 ((0 : Int32)).toInt64 (((M 182 19) - (1 : Int32))).toInt64 M) fun x1 =>
  if x1 = 0 then
    some ((-101 : Int32), M)
  else
    x_rd (M 192) 30 a1 fun x2 =>
    x_bd (md_takeOut a1 M) fun M3 =>
    x_wr M3 189 200 x2 (101 : Int32) fun M4 =>
    some (x2, M4)
theorem c_md_tire (a1 : Int32) (M : e_Me) : x_C G 231 [.ref 182, .int a1] M x_rim (md_tire a1 M) := by
  refine x_C_of 3 [some (.ref 182), some (.int a1), none] (by decide) ml_231 (Nat.le_of_ble_eq_true rfl) rfl ?_
  rw [md_tire]
  refine xr_1 f_231_0 rfl ?_
  refine xr_19 f_231_1 ?_
  refine xr_23 f_231_2 ?_
  refine xr_2 f_231_3 rfl ?_
  refine xr_30i f_231_4 h_182 rfl ?_
  refine xr_0 f_231_7 ?_
  refine xr_9 f_231_8 ?_
  refine xr_19 f_231_9 ?_
  refine xr_ci f_231_10 (Nat.le_of_ble_eq_true rfl) rfl rfl (xr_rs kd_193) (Nat.le_of_ble_eq_true rfl) mc_193 ms_193 (c_md_in (a1).toInt64 ((0 : Int32)).toInt64 (((M 182 19) - (1 : Int32))).toInt64 M) ?_
  intro x1
  refine xr_28_1 f_231_13 ?_ ?_
  · refine xr_2 f_231_19 rfl ?_
    refine xr_30r f_231_20 h_182 rfl ?_
    refine xr_1 f_231_23 rfl ?_
    refine xr_32 f_231_24 h_192 ?_
    intro x2
    refine xr_4 [some (.ref 182), some (.int a1), some (.int x2)] f_231_25 rfl rfl ?_
    refine xr_2 f_231_26 rfl ?_
    refine xr_1 f_231_27 rfl ?_
    refine xr_cv f_231_28 (Nat.le_of_ble_eq_true rfl) rfl rfl (xr_rv kd_227 h_182) (Nat.le_of_ble_eq_true rfl) mc_227 ms_227 (c_md_takeOut a1 M) ?_
    intro M3
    refine xr_2 f_231_31 rfl ?_
    refine xr_30r f_231_32 h_182 rfl ?_
    refine xr_1 f_231_35 rfl ?_
    refine xr_0 f_231_36 ?_
    refine xr_33 f_231_38 h_189 ?_
    intro M4
    refine xr_1 f_231_39 rfl ?_
    exact xr_51m f_231_40
  · refine xr_0 f_231_16 ?_
    exact xr_51m f_231_18

def md_leave_b172  (a1 : Int32) (M : e_Me) : Option (Int32 × e_Me) :=
  x_wr M 189 200 a1 (101 : Int32) fun M1 =>
  x_rd (M1 186) 200 a1 fun x2 =>
  some (x2, M1)
theorem c_md_leave_b172  (a1 : Int32) (M : e_Me)  : x_X G 232 0 0 x_rim 172 [some (.ref 182), some (.int a1), none, none, none, none] [] M (md_leave_b172 a1 M) := by
  rw [md_leave_b172]
  refine xr_2 f_232_172 rfl ?_
  refine xr_30r f_232_173 h_182 rfl ?_
  refine xr_1 f_232_176 rfl ?_
  refine xr_0 f_232_177 ?_
  refine xr_33 f_232_179 h_189 ?_
  intro M1
  refine xr_2 f_232_180 rfl ?_
  refine xr_30r f_232_181 h_182 rfl ?_
  refine xr_1 f_232_184 rfl ?_
  refine xr_32 f_232_185 h_186 ?_
  intro x2
  exact xr_51m f_232_186

def md_leave_l129  (a1 : Int32) (a2 : Int32) : Nat → Int32 → e_Me → Option (Int32 × e_Me)
  | 0, _, _ => none
  | F + 1, a5, M =>
    x_rd (M 184) 30 a2 fun x1 =>
    if x1 ≤ a5 then
      md_leave_b172 a1 M
    else
      x_rd (M 183) 180 ((((6 : Int32) * a2) + a5) + (1 : Int32)) fun x2 =>
      x_wr M 183 180 (((6 : Int32) * a2) + a5) x2 fun M3 =>
      md_leave_l129 a1 a2 F (a5 + (1 : Int32)) M3
theorem c_md_leave_l129  (a1 : Int32) (a2 : Int32)  : ∀ (F : Nat) (a5 : Int32) (M : e_Me), x_X G 232 0 0 x_rim 129 [some (.ref 182), some (.int a1), some (.int a2), none, none, some (.int a5)] [] M (md_leave_l129 a1 a2 F a5 M) := by
  intro F
  induction F with
  | zero => intro a5 M; exact xr_none
  | succ F ih =>
    intro a5 M
    rw [md_leave_l129]
    refine xr_1 f_232_129 rfl ?_
    refine xr_2 f_232_131 rfl ?_
    refine xr_30r f_232_132 h_182 rfl ?_
    refine xr_1 f_232_135 rfl ?_
    refine xr_32 f_232_136 h_184 ?_
    intro x1
    refine xr_29_3 f_232_137 ?_ ?_
    · refine xr_wk (L' := [some (.ref 182), some (.int a1), none, none, none, none]) [true, true, false, true, true, false] rfl ?_
      exact c_md_leave_b172 a1 M
    · refine xr_2 f_232_140 rfl ?_
      refine xr_30r f_232_141 h_182 rfl ?_
      refine xr_0 f_232_144 ?_
      refine xr_1 f_232_146 rfl ?_
      refine xr_10 f_232_147 ?_
      refine xr_1 f_232_148 rfl ?_
      refine xr_8 f_232_150 ?_
      refine xr_2 f_232_151 rfl ?_
      refine xr_30r f_232_152 h_182 rfl ?_
      refine xr_0 f_232_155 ?_
      refine xr_1 f_232_157 rfl ?_
      refine xr_10 f_232_158 ?_
      refine xr_1 f_232_159 rfl ?_
      refine xr_8 f_232_161 ?_
      refine xr_0 f_232_162 ?_
      refine xr_8 f_232_163 ?_
      refine xr_32 f_232_164 h_183 ?_
      intro x2
      refine xr_33 f_232_165 h_183 ?_
      intro M3
      refine xr_7 [some (.ref 182), some (.int a1), some (.int a2), none, none, some (.int (a5 + (1 : Int32)))] f_232_166 rfl rfl rfl ?_
      refine xr_27 f_232_169 ?_
      exact ih (a5 + (1 : Int32)) M3

def md_leave_b119  (a1 : Int32) (a2 : Int32) (a5 : Int32) (M : e_Me) : Option (Int32 × e_Me) :=
  x_rd (M 184) 30 a2 fun x1 =>
  x_wr M 184 30 a2 (x1 - (1 : Int32)) fun M2 =>
  md_leave_l129 a1 a2 e_F a5 M2
theorem c_md_leave_b119  (a1 : Int32) (a2 : Int32) (a5 : Int32) (M : e_Me)  : x_X G 232 0 0 x_rim 119 [some (.ref 182), some (.int a1), some (.int a2), none, none, some (.int a5)] [] M (md_leave_b119 a1 a2 a5 M) := by
  rw [md_leave_b119]
  refine xr_2 f_232_119 rfl ?_
  refine xr_30r f_232_120 h_182 rfl ?_
  refine xr_1 f_232_123 rfl ?_
  refine xr_25 f_232_124 ?_
  refine xr_32 f_232_125 h_184 ?_
  intro x1
  refine xr_0 f_232_126 ?_
  refine xr_9 f_232_127 ?_
  refine xr_33 f_232_128 h_184 ?_
  intro M2
  exact c_md_leave_l129 a1 a2 e_F a5 M2

def md_leave_l97  (a1 : Int32) (a2 : Int32) (M : e_Me) : Nat → Int32 → Option (Int32 × e_Me)
  | 0, _ => none
  | F + 1, a5 =>
    x_rd (M 183) 180 (((6 : Int32) * a2) + a5) fun x1 =>
    if x1 = a1 then
      md_leave_b119 a1 a2 a5 M
    else
      md_leave_l97 a1 a2 M F (a5 + (1 : Int32))
theorem c_md_leave_l97  (a1 : Int32) (a2 : Int32) (M : e_Me)  : ∀ (F : Nat) (a5 : Int32), x_X G 232 0 0 x_rim 97 [some (.ref 182), some (.int a1), some (.int a2), none, none, some (.int a5)] [] M (md_leave_l97 a1 a2 M F a5) := by
  intro F
  induction F with
  | zero => intro a5; exact xr_none
  | succ F ih =>
    intro a5
    rw [md_leave_l97]
    refine xr_2 f_232_97 rfl ?_
    refine xr_30r f_232_98 h_182 rfl ?_
    refine xr_0 f_232_101 ?_
    refine xr_1 f_232_103 rfl ?_
    refine xr_10 f_232_104 ?_
    refine xr_1 f_232_105 rfl ?_
    refine xr_8 f_232_107 ?_
    refine xr_32 f_232_108 h_183 ?_
    intro x1
    refine xr_1 f_232_109 rfl ?_
    refine xr_29_0 f_232_110 ?_ ?_
    · exact c_md_leave_b119 a1 a2 a5 M
    · refine xr_7 [some (.ref 182), some (.int a1), some (.int a2), none, none, some (.int (a5 + (1 : Int32)))] f_232_113 rfl rfl rfl ?_
      refine xr_27 f_232_116 ?_
      exact ih (a5 + (1 : Int32))

def md_leave (a1 : Int32) (M : e_Me) : Option (Int32 × e_Me) :=
  x_bd (md_atPlace (0 : Int32) M) fun x1 =>
  x_bd (md_in (a1).toInt64 ((0 : Int32)).toInt64 (((M 182 12) - (1 : Int32))).toInt64 M) fun x2 =>
  if x2 = 0 then
    some ((-101 : Int32), M)
  else
    x_rd (M 189) 200 a1 fun x3 =>
    if x3 = x1 then
      x_bd (md_greatestOf M) fun x4 =>
      x_rd (M 185) 30 x1 fun x5 =>
      x_rd (M 187) 200 a1 fun x6 =>
      x_wr M 185 30 x1 (x5 - x6) fun M7 =>
      x_bd (md_greatestOf M7) fun x8 =>
      if x8 ≤ (M7 182 4) then
        md_leave_l97 a1 x1 M7 e_F (0 : Int32)
      else
        if x8 < x4 then
          md_leave_l97 a1 x1 M7 e_F (0 : Int32)
        else
          x_rd (M7 185) 30 x1 fun x9 =>
          x_rd (M7 187) 200 a1 fun x10 =>
          x_wr M7 185 30 x1 (x9 + x10) fun M11 =>
          some ((-103 : Int32), M11)
    else
      some ((-101 : Int32), M)
theorem c_md_leave (a1 : Int32) (M : e_Me) : x_C G 232 [.ref 182, .int a1] M x_rim (md_leave a1 M) := by
  refine x_C_of 6 [some (.ref 182), some (.int a1), none, none, none, none] (by decide) ml_232 (Nat.le_of_ble_eq_true rfl) rfl ?_
  rw [md_leave]
  refine xr_2 f_232_0 rfl ?_
  refine xr_0 f_232_1 ?_
  refine xr_ci f_232_2 (Nat.le_of_ble_eq_true rfl) rfl rfl (xr_rv kd_203 h_182) (Nat.le_of_ble_eq_true rfl) mc_203 ms_203 (c_md_atPlace (0 : Int32) M) ?_
  intro x1
  refine xr_4 [some (.ref 182), some (.int a1), some (.int x1), none, none, none] f_232_5 rfl rfl ?_
  refine xr_1 f_232_6 rfl ?_
  refine xr_19 f_232_7 ?_
  refine xr_23 f_232_8 ?_
  refine xr_2 f_232_9 rfl ?_
  refine xr_30i f_232_10 h_182 rfl ?_
  refine xr_0 f_232_13 ?_
  refine xr_9 f_232_14 ?_
  refine xr_19 f_232_15 ?_
  refine xr_ci f_232_16 (Nat.le_of_ble_eq_true rfl) rfl rfl (xr_rs kd_193) (Nat.le_of_ble_eq_true rfl) mc_193 ms_193 (c_md_in (a1).toInt64 ((0 : Int32)).toInt64 (((M 182 12) - (1 : Int32))).toInt64 M) ?_
  intro x2
  refine xr_28_0 f_232_19 ?_ ?_
  · refine xr_0 f_232_32 ?_
    exact xr_51m f_232_34
  · refine xr_2 f_232_22 rfl ?_
    refine xr_30r f_232_23 h_182 rfl ?_
    refine xr_1 f_232_26 rfl ?_
    refine xr_32 f_232_27 h_189 ?_
    intro x3
    refine xr_1 f_232_28 rfl ?_
    refine xr_29_0 f_232_29 ?_ ?_
    · refine xr_2 f_232_35 rfl ?_
      refine xr_ci f_232_36 (Nat.le_of_ble_eq_true rfl) rfl rfl (xr_rv kd_202 h_182) (Nat.le_of_ble_eq_true rfl) mc_202 ms_202 (c_md_greatestOf M) ?_
      intro x4
      refine xr_4 [some (.ref 182), some (.int a1), some (.int x1), some (.int x4), none, none] f_232_39 rfl rfl ?_
      refine xr_2 f_232_40 rfl ?_
      refine xr_30r f_232_41 h_182 rfl ?_
      refine xr_1 f_232_44 rfl ?_
      refine xr_25 f_232_45 ?_
      refine xr_32 f_232_46 h_185 ?_
      intro x5
      refine xr_2 f_232_47 rfl ?_
      refine xr_30r f_232_48 h_182 rfl ?_
      refine xr_1 f_232_51 rfl ?_
      refine xr_32 f_232_52 h_187 ?_
      intro x6
      refine xr_9 f_232_53 ?_
      refine xr_33 f_232_54 h_185 ?_
      intro M7
      refine xr_2 f_232_55 rfl ?_
      refine xr_ci f_232_56 (Nat.le_of_ble_eq_true rfl) rfl rfl (xr_rv kd_202 h_182) (Nat.le_of_ble_eq_true rfl) mc_202 ms_202 (c_md_greatestOf M7) ?_
      intro x8
      refine xr_4 [some (.ref 182), some (.int a1), some (.int x1), some (.int x4), some (.int x8), none] f_232_59 rfl rfl ?_
      refine xr_1 f_232_61 rfl ?_
      refine xr_2 f_232_63 rfl ?_
      refine xr_30i f_232_64 h_182 rfl ?_
      refine xr_29_5 f_232_67 ?_ ?_
      · refine xr_0 f_232_94 ?_
        refine xr_4 [some (.ref 182), some (.int a1), some (.int x1), some (.int x4), some (.int x8), some (.int (0 : Int32))] f_232_95 rfl rfl ?_
        refine xr_wk (L' := [some (.ref 182), some (.int a1), some (.int x1), none, none, some (.int (0 : Int32))]) [true, true, true, false, false, true] rfl ?_
        exact c_md_leave_l97 a1 x1 M7 e_F (0 : Int32)
      · refine xr_1 f_232_70 rfl ?_
        refine xr_1 f_232_72 rfl ?_
        refine xr_29_2 f_232_73 ?_ ?_
        · refine xr_0 f_232_94 ?_
          refine xr_4 [some (.ref 182), some (.int a1), some (.int x1), some (.int x4), some (.int x8), some (.int (0 : Int32))] f_232_95 rfl rfl ?_
          refine xr_wk (L' := [some (.ref 182), some (.int a1), some (.int x1), none, none, some (.int (0 : Int32))]) [true, true, true, false, false, true] rfl ?_
          exact c_md_leave_l97 a1 x1 M7 e_F (0 : Int32)
        · refine xr_2 f_232_76 rfl ?_
          refine xr_30r f_232_77 h_182 rfl ?_
          refine xr_1 f_232_80 rfl ?_
          refine xr_25 f_232_81 ?_
          refine xr_32 f_232_82 h_185 ?_
          intro x9
          refine xr_2 f_232_83 rfl ?_
          refine xr_30r f_232_84 h_182 rfl ?_
          refine xr_1 f_232_87 rfl ?_
          refine xr_32 f_232_88 h_187 ?_
          intro x10
          refine xr_8 f_232_89 ?_
          refine xr_33 f_232_90 h_185 ?_
          intro M11
          refine xr_0 f_232_91 ?_
          exact xr_51m f_232_93
    · refine xr_0 f_232_32 ?_
      exact xr_51m f_232_34

def md_partyOf (a1 : Int32) (a2 : Int32) (M : e_Me) : Option Int32 :=
  if a2 = 0 then
    x_rd (M 186) 200 a1 fun x1 =>
    some x1
  else
  if a2 = 1 then
    x_rd (M 187) 200 a1 fun x2 =>
    some x2
  else
  if a2 = 2 then
    x_rd (M 188) 200 a1 fun x3 =>
    some x3
  else
  if a2 = 3 then
    x_rd (M 189) 200 a1 fun x4 =>
    some x4
  else
  if a2 = 4 then
    x_rd (M 190) 200 a1 fun x5 =>
    if x5 = 0 then
      some (0 : Int32)
    else
      some (1 : Int32)
  else
  if a2 = 5 then
    x_rd (M 191) 200 a1 fun x6 =>
    some x6
  else
  some (-102 : Int32)
theorem c_md_partyOf (a1 : Int32) (a2 : Int32) (M : e_Me) : x_C G 233 [.ref 182, .int a1, .int a2] M (x_ri M) (md_partyOf a1 a2 M) := by
  refine x_C_of 3 [some (.ref 182), some (.int a1), some (.int a2)] (by decide) ml_233 (Nat.le_of_ble_eq_true rfl) rfl ?_
  rw [md_partyOf]
  refine xr_1 f_233_0 rfl ?_
  refine xr_47 f_233_1 rfl ?_
  refine xr_s1 ?_ ?_
  · refine xr_2 f_233_40 rfl ?_
    refine xr_30r f_233_41 h_182 rfl ?_
    refine xr_1 f_233_44 rfl ?_
    refine xr_32 f_233_45 h_186 ?_
    intro x1
    exact xr_51 f_233_46
  refine xr_s1 ?_ ?_
  · refine xr_2 f_233_47 rfl ?_
    refine xr_30r f_233_48 h_182 rfl ?_
    refine xr_1 f_233_51 rfl ?_
    refine xr_32 f_233_52 h_187 ?_
    intro x2
    exact xr_51 f_233_53
  refine xr_s1 ?_ ?_
  · refine xr_2 f_233_54 rfl ?_
    refine xr_30r f_233_55 h_182 rfl ?_
    refine xr_1 f_233_58 rfl ?_
    refine xr_32 f_233_59 h_188 ?_
    intro x3
    exact xr_51 f_233_60
  refine xr_s1 ?_ ?_
  · refine xr_2 f_233_61 rfl ?_
    refine xr_30r f_233_62 h_182 rfl ?_
    refine xr_1 f_233_65 rfl ?_
    refine xr_32 f_233_66 h_189 ?_
    intro x4
    exact xr_51 f_233_67
  refine xr_s1 ?_ ?_
  · refine xr_2 f_233_68 rfl ?_
    refine xr_30r f_233_69 h_182 rfl ?_
    refine xr_1 f_233_72 rfl ?_
    refine xr_34 f_233_73 h_190 ?_
    intro x5
    refine xr_28_0 f_233_74 ?_ ?_
    · refine xr_0 f_233_81 ?_
      exact xr_51 f_233_82
    · refine xr_0 f_233_77 ?_
      refine xr_27 f_233_78 ?_
      exact xr_51 f_233_82
  refine xr_s1 ?_ ?_
  · refine xr_2 f_233_83 rfl ?_
    refine xr_30r f_233_84 h_182 rfl ?_
    refine xr_1 f_233_87 rfl ?_
    refine xr_32 f_233_88 h_191 ?_
    intro x6
    exact xr_51 f_233_89
  refine xr_s0 ?_
  refine xr_0 f_233_90 ?_
  exact xr_51 f_233_92

def md_party (a1 : Int32) (a2 : Int32) (M : e_Me) : Option Int32 :=
  x_bd (md_in (a1).toInt64 ((0 : Int32)).toInt64 (((M 182 12) - (1 : Int32))).toInt64 M) fun x1 =>
  if x1 = 0 then
    some (-101 : Int32)
  else
    x_bd (md_partyOf a1 a2 M) fun x2 =>
    some x2
theorem c_md_party (a1 : Int32) (a2 : Int32) (M : e_Me) : x_C G 234 [.ref 182, .int a1, .int a2] M (x_ri M) (md_party a1 a2 M) := by
  refine x_C_of 3 [some (.ref 182), some (.int a1), some (.int a2)] (by decide) ml_234 (Nat.le_of_ble_eq_true rfl) rfl ?_
  rw [md_party]
  refine xr_1 f_234_0 rfl ?_
  refine xr_19 f_234_1 ?_
  refine xr_23 f_234_2 ?_
  refine xr_2 f_234_3 rfl ?_
  refine xr_30i f_234_4 h_182 rfl ?_
  refine xr_0 f_234_7 ?_
  refine xr_9 f_234_8 ?_
  refine xr_19 f_234_9 ?_
  refine xr_ci f_234_10 (Nat.le_of_ble_eq_true rfl) rfl rfl (xr_rs kd_193) (Nat.le_of_ble_eq_true rfl) mc_193 ms_193 (c_md_in (a1).toInt64 ((0 : Int32)).toInt64 (((M 182 12) - (1 : Int32))).toInt64 M) ?_
  intro x1
  refine xr_28_0 f_234_13 ?_ ?_
  · refine xr_0 f_234_25 ?_
    exact xr_51 f_234_27
  · refine xr_2 f_234_16 rfl ?_
    refine xr_1 f_234_17 rfl ?_
    refine xr_1 f_234_18 rfl ?_
    refine xr_ci f_234_19 (Nat.le_of_ble_eq_true rfl) rfl rfl (xr_rv kd_233 h_182) (Nat.le_of_ble_eq_true rfl) mc_233 ms_233 (c_md_partyOf a1 a2 M) ?_
    intro x2
    refine xr_27 f_234_22 ?_
    exact xr_51 f_234_27

def md_findLoaded_l7   : Nat → Int32 → e_Me → Option e_Me
  | 0, _, _ => none
  | F + 1, a1, M =>
    if (M 182 0) ≤ a1 then
      some M
    else
      x_rd (M 185) 30 a1 fun x1 =>
      x_wr M 193 30 a1 x1 fun M2 =>
      x_rd (M2 185) 30 a1 fun x3 =>
      if x3 ≤ 0 then
        md_findLoaded_l7  F (a1 + (1 : Int32)) M2
      else
        x_wr M2 194 30 (M2 182 24) a1 fun M4 =>
        x_lt (e_up M4 182 24 ((M4 182 24) + (1 : Int32))) fun M5 =>
        md_findLoaded_l7  F (a1 + (1 : Int32)) M5
theorem c_md_findLoaded_l7    : ∀ (F : Nat) (a1 : Int32) (M : e_Me), x_X G 235 0 0 x_rv 7 [some (.ref 182), some (.int a1)] [] M (md_findLoaded_l7  F a1 M) := by
  intro F
  induction F with
  | zero => intro a1 M; exact xr_none
  | succ F ih =>
    intro a1 M
    rw [md_findLoaded_l7]
    refine xr_1 f_235_7 rfl ?_
    refine xr_2 f_235_8 rfl ?_
    refine xr_30i f_235_9 h_182 rfl ?_
    refine xr_29_3 f_235_12 ?_ ?_
    · exact xr_50 f_235_62
    · refine xr_2 f_235_15 rfl ?_
      refine xr_30r f_235_16 h_182 rfl ?_
      refine xr_1 f_235_19 rfl ?_
      refine xr_2 f_235_20 rfl ?_
      refine xr_30r f_235_21 h_182 rfl ?_
      refine xr_1 f_235_24 rfl ?_
      refine xr_32 f_235_25 h_185 ?_
      intro x1
      refine xr_33 f_235_26 h_193 ?_
      intro M2
      refine xr_2 f_235_27 rfl ?_
      refine xr_30r f_235_28 h_182 rfl ?_
      refine xr_1 f_235_31 rfl ?_
      refine xr_32 f_235_32 h_185 ?_
      intro x3
      refine xr_28_5 f_235_33 ?_ ?_
      · refine xr_7 [some (.ref 182), some (.int (a1 + (1 : Int32)))] f_235_56 rfl rfl rfl ?_
        refine xr_27 f_235_59 ?_
        exact ih (a1 + (1 : Int32)) M2
      · refine xr_2 f_235_36 rfl ?_
        refine xr_30r f_235_37 h_182 rfl ?_
        refine xr_2 f_235_40 rfl ?_
        refine xr_30i f_235_41 h_182 rfl ?_
        refine xr_1 f_235_44 rfl ?_
        refine xr_33 f_235_45 h_194 ?_
        intro M4
        refine xr_2 f_235_46 rfl ?_
        refine xr_24r f_235_47 ?_
        refine xr_30i f_235_48 h_182 rfl ?_
        refine xr_0 f_235_51 ?_
        refine xr_8 f_235_52 ?_
        refine xr_31 f_235_53 h_182 rfl ?_
        intro M5
        refine xr_7 [some (.ref 182), some (.int (a1 + (1 : Int32)))] f_235_56 rfl rfl rfl ?_
        refine xr_27 f_235_59 ?_
        exact ih (a1 + (1 : Int32)) M5

def md_findLoaded  (M : e_Me) : Option e_Me :=
  x_lt (e_up M 182 24 (0 : Int32)) fun M1 =>
  md_findLoaded_l7  e_F (0 : Int32) M1
theorem c_md_findLoaded  (M : e_Me) : x_C G 235 [.ref 182] M x_rv (md_findLoaded  M) := by
  refine x_C_of 2 [some (.ref 182), none] (by decide) ml_235 (Nat.le_of_ble_eq_true rfl) rfl ?_
  rw [md_findLoaded]
  refine xr_2 f_235_0 rfl ?_
  refine xr_0 f_235_1 ?_
  refine xr_31 f_235_2 h_182 rfl ?_
  intro M1
  refine xr_0 f_235_5 ?_
  refine xr_4 [some (.ref 182), some (.int (0 : Int32))] f_235_6 rfl rfl ?_
  exact c_md_findLoaded_l7 e_F (0 : Int32) M1

def md_tryOrder_b86 (k17 : Int32 → Int32 → e_Me → Option e_Me) (k25 : Int32 → e_Me → Option e_Me) (a1 : Int32) (a2 : Int32) (s0 : Int32) (M : e_Me) : Option e_Me :=
  x_lt (e_up M 182 27 s0) fun M1 =>
  k25 a1 M1
theorem c_md_tryOrder_b86 (k17 : Int32 → Int32 → e_Me → Option e_Me) (k25 : Int32 → e_Me → Option e_Me) (a1 : Int32) (a2 : Int32) (s0 : Int32) (M : e_Me) (hk17 : ∀ (a1 : Int32) (a2 : Int32) (M : e_Me), x_X G 236 0 0 x_rv 17 [some (.ref 182), some (.int a1), some (.int a2), none] [] M (k17 a1 a2 M)) (hk25 : ∀ (a1 : Int32) (M : e_Me), x_X G 236 0 0 x_rv 25 [some (.ref 182), some (.int a1), some (.int a2), none] [] M (k25 a1 M)) : x_X G 236 0 0 x_rv 86 [some (.ref 182), some (.int a1), some (.int a2), none] [.int s0, .ref 182] M (md_tryOrder_b86 k17 k25 a1 a2 s0 M) := by
  rw [md_tryOrder_b86]
  refine xr_31 f_236_86 h_182 rfl ?_
  intro M1
  refine xr_27 f_236_89 ?_
  exact hk25 a1 M1

def md_tryOrder_b92 (k17 : Int32 → Int32 → e_Me → Option e_Me) (a1 : Int32) (a2 : Int32) (M : e_Me) : Option e_Me :=
  x_rd (M 195) 6 a2 fun x1 =>
  x_wr M 185 30 x1 (0 : Int32) fun M2 =>
  k17 a1 (a2 + (1 : Int32)) M2
theorem c_md_tryOrder_b92 (k17 : Int32 → Int32 → e_Me → Option e_Me) (a1 : Int32) (a2 : Int32) (M : e_Me) (hk17 : ∀ (a1 : Int32) (a2 : Int32) (M : e_Me), x_X G 236 0 0 x_rv 17 [some (.ref 182), some (.int a1), some (.int a2), none] [] M (k17 a1 a2 M)) : x_X G 236 0 0 x_rv 92 [some (.ref 182), some (.int a1), some (.int a2), none] [] M (md_tryOrder_b92 k17 a1 a2 M) := by
  rw [md_tryOrder_b92]
  refine xr_2 f_236_92 rfl ?_
  refine xr_30r f_236_93 h_182 rfl ?_
  refine xr_2 f_236_96 rfl ?_
  refine xr_30r f_236_97 h_182 rfl ?_
  refine xr_1 f_236_100 rfl ?_
  refine xr_32 f_236_101 h_195 ?_
  intro x1
  refine xr_0 f_236_102 ?_
  refine xr_33 f_236_103 h_185 ?_
  intro M2
  refine xr_7 [some (.ref 182), some (.int a1), some (.int (a2 + (1 : Int32))), none] f_236_104 rfl rfl rfl ?_
  refine xr_27 f_236_107 ?_
  exact hk17 a1 (a2 + (1 : Int32)) M2

def md_tryOrder_l25 (k17 : Int32 → Int32 → e_Me → Option e_Me) (a2 : Int32) : Nat → Int32 → e_Me → Option e_Me
  | 0, _, _ => none
  | F + 1, a1, M =>
    x_rd (M 195) 6 a2 fun x1 =>
    x_dv (M 182 0) <|
    if (x_rem (x1 + a1) (M 182 0)) = 0 then
      md_tryOrder_b92 k17 a1 a2 M
    else
      x_dv (M 182 0) <|
      x_lt (x_rem (a1 + (1 : Int32)) (M 182 0)) fun y2 =>
      x_lt (e_up M 182 28 ((M 182 28) + (1 : Int32))) fun M3 =>
      x_bd (md_leanOf y2 M3) fun x4 =>
      x_bd (md_size x4 M3) fun x5 =>
      if x5 ≤ (M3 182 27) then
        md_tryOrder_b86 k17 (md_tryOrder_l25 k17 a2 F) y2 a2 (M3 182 27) M3
      else
        md_tryOrder_b86 k17 (md_tryOrder_l25 k17 a2 F) y2 a2 x5 M3
theorem c_md_tryOrder_l25 (k17 : Int32 → Int32 → e_Me → Option e_Me) (a2 : Int32) (hk17 : ∀ (a1 : Int32) (a2 : Int32) (M : e_Me), x_X G 236 0 0 x_rv 17 [some (.ref 182), some (.int a1), some (.int a2), none] [] M (k17 a1 a2 M)) : ∀ (F : Nat) (a1 : Int32) (M : e_Me), x_X G 236 0 0 x_rv 25 [some (.ref 182), some (.int a1), some (.int a2), none] [] M (md_tryOrder_l25 k17 a2 F a1 M) := by
  intro F
  induction F with
  | zero => intro a1 M; exact xr_none
  | succ F ih =>
    intro a1 M
    rw [md_tryOrder_l25]
    refine xr_2 f_236_25 rfl ?_
    refine xr_30r f_236_26 h_182 rfl ?_
    refine xr_1 f_236_29 rfl ?_
    refine xr_32 f_236_30 h_195 ?_
    intro x1
    refine xr_1 f_236_31 rfl ?_
    refine xr_8 f_236_32 ?_
    refine xr_2 f_236_33 rfl ?_
    refine xr_30i f_236_34 h_182 rfl ?_
    refine xr_13 f_236_37 ?_
    refine xr_28_0 f_236_38 ?_ ?_
    · exact c_md_tryOrder_b92 k17 a1 a2 M hk17
    · refine xr_1 f_236_41 rfl ?_
      refine xr_0 f_236_42 ?_
      refine xr_8 f_236_43 ?_
      refine xr_2 f_236_44 rfl ?_
      refine xr_30i f_236_45 h_182 rfl ?_
      refine xr_13 f_236_48 ?_
      refine xr_4l (fun y2 => [some (.ref 182), some (.int y2), some (.int a2), none]) f_236_49 rfl (fun _ => rfl) ?_
      intro y2
      refine xr_2 f_236_50 rfl ?_
      refine xr_24r f_236_51 ?_
      refine xr_30i f_236_52 h_182 rfl ?_
      refine xr_0 f_236_55 ?_
      refine xr_8 f_236_56 ?_
      refine xr_31 f_236_57 h_182 rfl ?_
      intro M3
      refine xr_2 f_236_60 rfl ?_
      refine xr_1 f_236_61 rfl ?_
      refine xr_ci f_236_62 (Nat.le_of_ble_eq_true rfl) rfl rfl (xr_rv kd_200 h_182) (Nat.le_of_ble_eq_true rfl) mc_200 ms_200 (c_md_leanOf y2 M3) ?_
      intro x4
      refine xr_ci f_236_65 (Nat.le_of_ble_eq_true rfl) rfl rfl (xr_rs kd_194) (Nat.le_of_ble_eq_true rfl) mc_194 ms_194 (c_md_size x4 M3) ?_
      intro x5
      refine xr_4 [some (.ref 182), some (.int y2), some (.int a2), some (.int x5)] f_236_68 rfl rfl ?_
      refine xr_2 f_236_69 rfl ?_
      refine xr_1 f_236_70 rfl ?_
      refine xr_2 f_236_71 rfl ?_
      refine xr_30i f_236_72 h_182 rfl ?_
      refine xr_29_5 f_236_75 ?_ ?_
      · refine xr_2 f_236_82 rfl ?_
        refine xr_30i f_236_83 h_182 rfl ?_
        refine xr_wk (L' := [some (.ref 182), some (.int y2), some (.int a2), none]) [true, true, true, false] rfl ?_
        exact c_md_tryOrder_b86 k17 (md_tryOrder_l25 k17 a2 F) y2 a2 (M3 182 27) M3 hk17 ih
      · refine xr_1 f_236_78 rfl ?_
        refine xr_27 f_236_79 ?_
        refine xr_wk (L' := [some (.ref 182), some (.int y2), some (.int a2), none]) [true, true, true, false] rfl ?_
        exact c_md_tryOrder_b86 k17 (md_tryOrder_l25 k17 a2 F) y2 a2 x5 M3 hk17 ih

def md_tryOrder_l112   : Nat → Int32 → e_Me → Option e_Me
  | 0, _, _ => none
  | F + 1, a2, M =>
    if (M 182 0) ≤ a2 then
      some M
    else
      x_rd (M 193) 30 a2 fun x1 =>
      x_wr M 185 30 a2 x1 fun M2 =>
      md_tryOrder_l112  F (a2 + (1 : Int32)) M2
theorem c_md_tryOrder_l112    : ∀ (F : Nat) (a2 : Int32) (M : e_Me), x_X G 236 0 0 x_rv 112 [some (.ref 182), none, some (.int a2), none] [] M (md_tryOrder_l112  F a2 M) := by
  intro F
  induction F with
  | zero => intro a2 M; exact xr_none
  | succ F ih =>
    intro a2 M
    rw [md_tryOrder_l112]
    refine xr_1 f_236_112 rfl ?_
    refine xr_2 f_236_113 rfl ?_
    refine xr_30i f_236_114 h_182 rfl ?_
    refine xr_29_3 f_236_117 ?_ ?_
    · exact xr_50 f_236_138
    · refine xr_2 f_236_120 rfl ?_
      refine xr_30r f_236_121 h_182 rfl ?_
      refine xr_1 f_236_124 rfl ?_
      refine xr_2 f_236_125 rfl ?_
      refine xr_30r f_236_126 h_182 rfl ?_
      refine xr_1 f_236_129 rfl ?_
      refine xr_32 f_236_130 h_193 ?_
      intro x1
      refine xr_33 f_236_131 h_185 ?_
      intro M2
      refine xr_7 [some (.ref 182), none, some (.int (a2 + (1 : Int32))), none] f_236_132 rfl rfl rfl ?_
      refine xr_27 f_236_135 ?_
      exact ih (a2 + (1 : Int32)) M2

def md_tryOrder_l17   : Nat → Int32 → Int32 → e_Me → Option e_Me
  | 0, _, _, _ => none
  | F + 1, a1, a2, M =>
    if (M 182 24) ≤ a2 then
      md_tryOrder_l112  e_F (0 : Int32) M
    else
      md_tryOrder_l25 (md_tryOrder_l17  F) a2 e_F a1 M
theorem c_md_tryOrder_l17    : ∀ (F : Nat) (a1 : Int32) (a2 : Int32) (M : e_Me), x_X G 236 0 0 x_rv 17 [some (.ref 182), some (.int a1), some (.int a2), none] [] M (md_tryOrder_l17  F a1 a2 M) := by
  intro F
  induction F with
  | zero => intro a1 a2 M; exact xr_none
  | succ F ih =>
    intro a1 a2 M
    rw [md_tryOrder_l17]
    refine xr_1 f_236_17 rfl ?_
    refine xr_2 f_236_18 rfl ?_
    refine xr_30i f_236_19 h_182 rfl ?_
    refine xr_29_3 f_236_22 ?_ ?_
    · refine xr_0 f_236_110 ?_
      refine xr_4 [some (.ref 182), some (.int a1), some (.int (0 : Int32)), none] f_236_111 rfl rfl ?_
      refine xr_wk (L' := [some (.ref 182), none, some (.int (0 : Int32)), none]) [true, false, true, true] rfl ?_
      exact c_md_tryOrder_l112 e_F (0 : Int32) M
    · exact c_md_tryOrder_l25 (md_tryOrder_l17  F) a2 ih e_F a1 M

def md_tryOrder  (M : e_Me) : Option e_Me :=
  x_lt (M 182 1) fun y1 =>
  x_lt (e_up M 182 27 (0 : Int32)) fun M2 =>
  x_lt (e_up M2 182 28 (0 : Int32)) fun M3 =>
  md_tryOrder_l17  e_F y1 (0 : Int32) M3
theorem c_md_tryOrder  (M : e_Me) : x_C G 236 [.ref 182] M x_rv (md_tryOrder  M) := by
  refine x_C_of 4 [some (.ref 182), none, none, none] (by decide) ml_236 (Nat.le_of_ble_eq_true rfl) rfl ?_
  rw [md_tryOrder]
  refine xr_2 f_236_0 rfl ?_
  refine xr_30i f_236_1 h_182 rfl ?_
  refine xr_4l (fun y1 => [some (.ref 182), some (.int y1), none, none]) f_236_4 rfl (fun _ => rfl) ?_
  intro y1
  refine xr_2 f_236_5 rfl ?_
  refine xr_0 f_236_6 ?_
  refine xr_31 f_236_7 h_182 rfl ?_
  intro M2
  refine xr_2 f_236_10 rfl ?_
  refine xr_0 f_236_11 ?_
  refine xr_31 f_236_12 h_182 rfl ?_
  intro M3
  refine xr_0 f_236_15 ?_
  refine xr_4 [some (.ref 182), some (.int y1), some (.int (0 : Int32)), none] f_236_16 rfl rfl ?_
  exact c_md_tryOrder_l17 e_F y1 (0 : Int32) M3

def md_layOrder_b62 (k11 : Int32 → Int32 → Int32 → Int32 → e_Me → Option e_Me) (k46 : Int32 → Int32 → Option e_Me) (a3 : Int32) (a4 : Int32) (a5 : Int32) (a6 : Int32) (a7 : Int32) (a8 : Int32) (M : e_Me) : Option e_Me :=
  if ((a5 >>> (a8 &&& 31)) &&& (1 : Int32)) = (1 : Int32) then
    x_lt (a7 - (0 : Int32)) fun y2 =>
    k46 y2 (a8 + (1 : Int32))
  else
    x_lt (a7 - (1 : Int32)) fun y1 =>
    k46 y1 (a8 + (1 : Int32))
theorem c_md_layOrder_b62 (k11 : Int32 → Int32 → Int32 → Int32 → e_Me → Option e_Me) (k46 : Int32 → Int32 → Option e_Me) (a3 : Int32) (a4 : Int32) (a5 : Int32) (a6 : Int32) (a7 : Int32) (a8 : Int32) (M : e_Me) (hk11 : ∀ (a3 : Int32) (a4 : Int32) (a5 : Int32) (a6 : Int32) (M : e_Me), x_X G 237 0 0 x_rv 11 [some (.ref 182), none, none, some (.int a3), some (.int a4), some (.int a5), some (.int a6), none, none] [] M (k11 a3 a4 a5 a6 M)) (hk46 : ∀ (a7 : Int32) (a8 : Int32), x_X G 237 0 0 x_rv 46 [some (.ref 182), none, none, some (.int a3), some (.int a4), some (.int a5), some (.int a6), some (.int a7), some (.int a8)] [] M (k46 a7 a8)) : x_X G 237 0 0 x_rv 62 [some (.ref 182), none, none, some (.int a3), some (.int a4), some (.int a5), some (.int a6), some (.int a7), some (.int a8)] [] M (md_layOrder_b62 k11 k46 a3 a4 a5 a6 a7 a8 M) := by
  rw [md_layOrder_b62]
  refine xr_1 f_237_62 rfl ?_
  refine xr_1 f_237_64 rfl ?_
  refine xr_1 f_237_66 rfl ?_
  refine xr_15 f_237_68 ?_
  refine xr_0 f_237_69 ?_
  refine xr_16 f_237_70 ?_
  refine xr_0 f_237_71 ?_
  refine xr_29_1 f_237_72 ?_ ?_
  · refine xr_0 f_237_79 ?_
    refine xr_9 f_237_80 ?_
    refine xr_4l (fun y1 => [some (.ref 182), none, none, some (.int a3), some (.int a4), some (.int a5), some (.int a6), some (.int y1), some (.int a8)]) f_237_81 rfl (fun _ => rfl) ?_
    intro y1
    refine xr_7 [some (.ref 182), none, none, some (.int a3), some (.int a4), some (.int a5), some (.int a6), some (.int y1), some (.int (a8 + (1 : Int32)))] f_237_83 rfl rfl rfl ?_
    refine xr_27 f_237_86 ?_
    exact hk46 y1 (a8 + (1 : Int32))
  · refine xr_0 f_237_75 ?_
    refine xr_27 f_237_76 ?_
    refine xr_9 f_237_80 ?_
    refine xr_4l (fun y2 => [some (.ref 182), none, none, some (.int a3), some (.int a4), some (.int a5), some (.int a6), some (.int y2), some (.int a8)]) f_237_81 rfl (fun _ => rfl) ?_
    intro y2
    refine xr_7 [some (.ref 182), none, none, some (.int a3), some (.int a4), some (.int a5), some (.int a6), some (.int y2), some (.int (a8 + (1 : Int32)))] f_237_83 rfl rfl rfl ?_
    refine xr_27 f_237_86 ?_
    exact hk46 y2 (a8 + (1 : Int32))

def md_layOrder_b89 (k11 : Int32 → Int32 → Int32 → Int32 → e_Me → Option e_Me) (a3 : Int32) (a4 : Int32) (a5 : Int32) (a6 : Int32) (a8 : Int32) (M : e_Me) : Option e_Me :=
  x_lt (a5 ||| ((1 : Int32) <<< (a8 &&& 31))) fun y1 =>
  x_rd (M 194) 30 a8 fun x2 =>
  x_wr M 195 6 a6 x2 fun M3 =>
  k11 a3 a4 y1 (a6 + (1 : Int32)) M3
theorem c_md_layOrder_b89 (k11 : Int32 → Int32 → Int32 → Int32 → e_Me → Option e_Me) (a3 : Int32) (a4 : Int32) (a5 : Int32) (a6 : Int32) (a8 : Int32) (M : e_Me) (hk11 : ∀ (a3 : Int32) (a4 : Int32) (a5 : Int32) (a6 : Int32) (M : e_Me), x_X G 237 0 0 x_rv 11 [some (.ref 182), none, none, some (.int a3), some (.int a4), some (.int a5), some (.int a6), none, none] [] M (k11 a3 a4 a5 a6 M)) : x_X G 237 0 0 x_rv 89 [some (.ref 182), none, none, some (.int a3), some (.int a4), some (.int a5), some (.int a6), none, some (.int a8)] [] M (md_layOrder_b89 k11 a3 a4 a5 a6 a8 M) := by
  rw [md_layOrder_b89]
  refine xr_1 f_237_89 rfl ?_
  refine xr_0 f_237_91 ?_
  refine xr_1 f_237_92 rfl ?_
  refine xr_14 f_237_94 ?_
  refine xr_17 f_237_95 ?_
  refine xr_4l (fun y1 => [some (.ref 182), none, none, some (.int a3), some (.int a4), some (.int y1), some (.int a6), none, some (.int a8)]) f_237_96 rfl (fun _ => rfl) ?_
  intro y1
  refine xr_2 f_237_98 rfl ?_
  refine xr_30r f_237_99 h_182 rfl ?_
  refine xr_1 f_237_102 rfl ?_
  refine xr_2 f_237_104 rfl ?_
  refine xr_30r f_237_105 h_182 rfl ?_
  refine xr_1 f_237_108 rfl ?_
  refine xr_32 f_237_110 h_194 ?_
  intro x2
  refine xr_33 f_237_111 h_195 ?_
  intro M3
  refine xr_7 [some (.ref 182), none, none, some (.int a3), some (.int a4), some (.int y1), some (.int (a6 + (1 : Int32))), none, some (.int a8)] f_237_112 rfl rfl rfl ?_
  refine xr_27 f_237_115 ?_
  refine xr_wk (L' := [some (.ref 182), none, none, some (.int a3), some (.int a4), some (.int y1), some (.int (a6 + (1 : Int32))), none, none]) [true, true, true, true, true, true, true, true, false] rfl ?_
  exact hk11 a3 a4 y1 (a6 + (1 : Int32)) M3

def md_layOrder_l46 (k11 : Int32 → Int32 → Int32 → Int32 → e_Me → Option e_Me) (a3 : Int32) (a4 : Int32) (a5 : Int32) (a6 : Int32) (M : e_Me) : Nat → Int32 → Int32 → Option e_Me
  | 0, _, _ => none
  | F + 1, a7, a8 =>
    if 0 < a7 then
      md_layOrder_b62 k11 (md_layOrder_l46 k11 a3 a4 a5 a6 M F) a3 a4 a5 a6 a7 a8 M
    else
      if ((a5 >>> (a8 &&& 31)) &&& (1 : Int32)) = (1 : Int32) then
        md_layOrder_b62 k11 (md_layOrder_l46 k11 a3 a4 a5 a6 M F) a3 a4 a5 a6 a7 a8 M
      else
        md_layOrder_b89 k11 a3 a4 a5 a6 a8 M
theorem c_md_layOrder_l46 (k11 : Int32 → Int32 → Int32 → Int32 → e_Me → Option e_Me) (a3 : Int32) (a4 : Int32) (a5 : Int32) (a6 : Int32) (M : e_Me) (hk11 : ∀ (a3 : Int32) (a4 : Int32) (a5 : Int32) (a6 : Int32) (M : e_Me), x_X G 237 0 0 x_rv 11 [some (.ref 182), none, none, some (.int a3), some (.int a4), some (.int a5), some (.int a6), none, none] [] M (k11 a3 a4 a5 a6 M)) : ∀ (F : Nat) (a7 : Int32) (a8 : Int32), x_X G 237 0 0 x_rv 46 [some (.ref 182), none, none, some (.int a3), some (.int a4), some (.int a5), some (.int a6), some (.int a7), some (.int a8)] [] M (md_layOrder_l46 k11 a3 a4 a5 a6 M F a7 a8) := by
  intro F
  induction F with
  | zero => intro a7 a8; exact xr_none
  | succ F ih =>
    intro a7 a8
    rw [md_layOrder_l46]
    refine xr_1 f_237_46 rfl ?_
    refine xr_28_4 f_237_48 ?_ ?_
    · exact c_md_layOrder_b62 k11 (md_layOrder_l46 k11 a3 a4 a5 a6 M F) a3 a4 a5 a6 a7 a8 M hk11 ih
    · refine xr_1 f_237_51 rfl ?_
      refine xr_1 f_237_53 rfl ?_
      refine xr_15 f_237_55 ?_
      refine xr_0 f_237_56 ?_
      refine xr_16 f_237_57 ?_
      refine xr_0 f_237_58 ?_
      refine xr_29_1 f_237_59 ?_ ?_
      · refine xr_wk (L' := [some (.ref 182), none, none, some (.int a3), some (.int a4), some (.int a5), some (.int a6), none, some (.int a8)]) [true, true, true, true, true, true, true, false, true] rfl ?_
        exact c_md_layOrder_b89 k11 a3 a4 a5 a6 a8 M hk11
      · exact c_md_layOrder_b62 k11 (md_layOrder_l46 k11 a3 a4 a5 a6 M F) a3 a4 a5 a6 a7 a8 M hk11 ih

def md_layOrder_l11   : Nat → Int32 → Int32 → Int32 → Int32 → e_Me → Option e_Me
  | 0, _, _, _, _, _ => none
  | F + 1, a3, a4, a5, a6, M =>
    if (M 182 24) ≤ a6 then
      some M
    else
      x_dv ((M 182 24) - a6) <|
      x_lt (a4 / ((M 182 24) - a6)) fun y1 =>
      x_dv y1 <|
      x_lt (a3 / y1) fun y2 =>
      x_dv y1 <|
      x_lt (x_rem a3 y1) fun y3 =>
      md_layOrder_l46 (md_layOrder_l11  F) y3 y1 a5 a6 M e_F y2 (0 : Int32)
theorem c_md_layOrder_l11    : ∀ (F : Nat) (a3 : Int32) (a4 : Int32) (a5 : Int32) (a6 : Int32) (M : e_Me), x_X G 237 0 0 x_rv 11 [some (.ref 182), none, none, some (.int a3), some (.int a4), some (.int a5), some (.int a6), none, none] [] M (md_layOrder_l11  F a3 a4 a5 a6 M) := by
  intro F
  induction F with
  | zero => intro a3 a4 a5 a6 M; exact xr_none
  | succ F ih =>
    intro a3 a4 a5 a6 M
    rw [md_layOrder_l11]
    refine xr_1 f_237_11 rfl ?_
    refine xr_2 f_237_13 rfl ?_
    refine xr_30i f_237_14 h_182 rfl ?_
    refine xr_29_3 f_237_17 ?_ ?_
    · exact xr_50 f_237_118
    · refine xr_1 f_237_20 rfl ?_
      refine xr_2 f_237_22 rfl ?_
      refine xr_30i f_237_23 h_182 rfl ?_
      refine xr_1 f_237_26 rfl ?_
      refine xr_9 f_237_28 ?_
      refine xr_12 f_237_29 ?_
      refine xr_4l (fun y1 => [some (.ref 182), none, none, some (.int a3), some (.int y1), some (.int a5), some (.int a6), none, none]) f_237_30 rfl (fun _ => rfl) ?_
      intro y1
      refine xr_1 f_237_32 rfl ?_
      refine xr_1 f_237_33 rfl ?_
      refine xr_12 f_237_35 ?_
      refine xr_4l (fun y2 => [some (.ref 182), none, none, some (.int a3), some (.int y1), some (.int a5), some (.int a6), some (.int y2), none]) f_237_36 rfl (fun _ => rfl) ?_
      intro y2
      refine xr_1 f_237_38 rfl ?_
      refine xr_1 f_237_39 rfl ?_
      refine xr_13 f_237_41 ?_
      refine xr_4l (fun y3 => [some (.ref 182), none, none, some (.int y3), some (.int y1), some (.int a5), some (.int a6), some (.int y2), none]) f_237_42 rfl (fun _ => rfl) ?_
      intro y3
      refine xr_0 f_237_43 ?_
      refine xr_4 [some (.ref 182), none, none, some (.int y3), some (.int y1), some (.int a5), some (.int a6), some (.int y2), some (.int (0 : Int32))] f_237_44 rfl rfl ?_
      exact c_md_layOrder_l46 (md_layOrder_l11  F) y3 y1 a5 a6 M ih e_F y2 (0 : Int32)

def md_layOrder (a1 : Int32) (a2 : Int32) (M : e_Me) : Option e_Me :=
  md_layOrder_l11  e_F a1 a2 (0 : Int32) (0 : Int32) M
theorem c_md_layOrder (a1 : Int32) (a2 : Int32) (M : e_Me) : x_C G 237 [.ref 182, .int a1, .int a2] M x_rv (md_layOrder a1 a2 M) := by
  refine x_C_of 9 [some (.ref 182), some (.int a1), some (.int a2), none, none, none, none, none, none] (by decide) ml_237 (Nat.le_of_ble_eq_true rfl) rfl ?_
  rw [md_layOrder]
  refine xr_1 f_237_0 rfl ?_
  refine xr_4 [some (.ref 182), some (.int a1), some (.int a2), some (.int a1), none, none, none, none, none] f_237_1 rfl rfl ?_
  refine xr_1 f_237_2 rfl ?_
  refine xr_4 [some (.ref 182), some (.int a1), some (.int a2), some (.int a1), some (.int a2), none, none, none, none] f_237_3 rfl rfl ?_
  refine xr_0 f_237_5 ?_
  refine xr_4 [some (.ref 182), some (.int a1), some (.int a2), some (.int a1), some (.int a2), some (.int (0 : Int32)), none, none, none] f_237_6 rfl rfl ?_
  refine xr_0 f_237_8 ?_
  refine xr_4 [some (.ref 182), some (.int a1), some (.int a2), some (.int a1), some (.int a2), some (.int (0 : Int32)), some (.int (0 : Int32)), none, none] f_237_9 rfl rfl ?_
  refine xr_wk (L' := [some (.ref 182), none, none, some (.int a1), some (.int a2), some (.int (0 : Int32)), some (.int (0 : Int32)), none, none]) [true, false, false, true, true, true, true, true, true] rfl ?_
  exact c_md_layOrder_l11 e_F a1 a2 (0 : Int32) (0 : Int32) M

def md_findBest_l108 (k34 : Int32 → e_Me → Option e_Me) (a1 : Int32) (a2 : Int32) : Nat → Int32 → e_Me → Option e_Me
  | 0, _, _ => none
  | F + 1, a3, M =>
    if (M 182 24) ≤ a3 then
      k34 (a2 + (1 : Int32)) M
    else
      x_rd (M 195) 6 a3 fun x1 =>
      x_wr M 196 6 a3 x1 fun M2 =>
      md_findBest_l108 k34 a1 a2 F (a3 + (1 : Int32)) M2
theorem c_md_findBest_l108 (k34 : Int32 → e_Me → Option e_Me) (a1 : Int32) (a2 : Int32) (hk34 : ∀ (a2 : Int32) (M : e_Me), x_X G 238 0 0 x_rv 34 [some (.ref 182), some (.int a1), some (.int a2), none] [] M (k34 a2 M)) : ∀ (F : Nat) (a3 : Int32) (M : e_Me), x_X G 238 0 0 x_rv 108 [some (.ref 182), some (.int a1), some (.int a2), some (.int a3)] [] M (md_findBest_l108 k34 a1 a2 F a3 M) := by
  intro F
  induction F with
  | zero => intro a3 M; exact xr_none
  | succ F ih =>
    intro a3 M
    rw [md_findBest_l108]
    refine xr_1 f_238_108 rfl ?_
    refine xr_2 f_238_109 rfl ?_
    refine xr_30i f_238_110 h_182 rfl ?_
    refine xr_29_3 f_238_113 ?_ ?_
    · refine xr_7 [some (.ref 182), some (.int a1), some (.int (a2 + (1 : Int32))), some (.int a3)] f_238_134 rfl rfl rfl ?_
      refine xr_27 f_238_137 ?_
      refine xr_wk (L' := [some (.ref 182), some (.int a1), some (.int (a2 + (1 : Int32))), none]) [true, true, true, false] rfl ?_
      exact hk34 (a2 + (1 : Int32)) M
    · refine xr_2 f_238_116 rfl ?_
      refine xr_30r f_238_117 h_182 rfl ?_
      refine xr_1 f_238_120 rfl ?_
      refine xr_2 f_238_121 rfl ?_
      refine xr_30r f_238_122 h_182 rfl ?_
      refine xr_1 f_238_125 rfl ?_
      refine xr_32 f_238_126 h_195 ?_
      intro x1
      refine xr_33 f_238_127 h_196 ?_
      intro M2
      refine xr_7 [some (.ref 182), some (.int a1), some (.int a2), some (.int (a3 + (1 : Int32)))] f_238_128 rfl rfl rfl ?_
      refine xr_27 f_238_131 ?_
      exact ih (a3 + (1 : Int32)) M2

def md_findBest_b90 (k34 : Int32 → e_Me → Option e_Me) (a1 : Int32) (a2 : Int32) (M : e_Me) : Option e_Me :=
  x_lt (e_up M 182 29 (M 182 27)) fun M1 =>
  x_lt (e_up M1 182 30 (M1 182 28)) fun M2 =>
  md_findBest_l108 k34 a1 a2 e_F (0 : Int32) M2
theorem c_md_findBest_b90 (k34 : Int32 → e_Me → Option e_Me) (a1 : Int32) (a2 : Int32) (M : e_Me) (hk34 : ∀ (a2 : Int32) (M : e_Me), x_X G 238 0 0 x_rv 34 [some (.ref 182), some (.int a1), some (.int a2), none] [] M (k34 a2 M)) : x_X G 238 0 0 x_rv 90 [some (.ref 182), some (.int a1), some (.int a2), none] [] M (md_findBest_b90 k34 a1 a2 M) := by
  rw [md_findBest_b90]
  refine xr_2 f_238_90 rfl ?_
  refine xr_2 f_238_91 rfl ?_
  refine xr_30i f_238_92 h_182 rfl ?_
  refine xr_31 f_238_95 h_182 rfl ?_
  intro M1
  refine xr_2 f_238_98 rfl ?_
  refine xr_2 f_238_99 rfl ?_
  refine xr_30i f_238_100 h_182 rfl ?_
  refine xr_31 f_238_103 h_182 rfl ?_
  intro M2
  refine xr_0 f_238_106 ?_
  refine xr_4 [some (.ref 182), some (.int a1), some (.int a2), some (.int (0 : Int32))] f_238_107 rfl rfl ?_
  exact c_md_findBest_l108 k34 a1 a2 hk34 e_F (0 : Int32) M2

def md_findBest_l34  (a1 : Int32) : Nat → Int32 → e_Me → Option e_Me
  | 0, _, _ => none
  | F + 1, a2, M =>
    if a1 ≤ a2 then
      some M
    else
      x_bd (md_layOrder a2 a1 M) fun M1 =>
      x_bd (md_tryOrder M1) fun M2 =>
      if (M2 182 29) = (-1 : Int32) then
        md_findBest_b90 (md_findBest_l34 a1 F) a1 a2 M2
      else
        if (M2 182 27) < (M2 182 29) then
          md_findBest_b90 (md_findBest_l34 a1 F) a1 a2 M2
        else
          if (M2 182 27) = (M2 182 29) then
            if (M2 182 30) ≤ (M2 182 28) then
              md_findBest_l34 a1 F (a2 + (1 : Int32)) M2
            else
              md_findBest_b90 (md_findBest_l34 a1 F) a1 a2 M2
          else
            md_findBest_l34 a1 F (a2 + (1 : Int32)) M2
theorem c_md_findBest_l34  (a1 : Int32)  : ∀ (F : Nat) (a2 : Int32) (M : e_Me), x_X G 238 0 0 x_rv 34 [some (.ref 182), some (.int a1), some (.int a2), none] [] M (md_findBest_l34 a1 F a2 M) := by
  intro F
  induction F with
  | zero => intro a2 M; exact xr_none
  | succ F ih =>
    intro a2 M
    rw [md_findBest_l34]
    refine xr_1 f_238_34 rfl ?_
    refine xr_1 f_238_35 rfl ?_
    refine xr_29_3 f_238_36 ?_ ?_
    · exact xr_50 f_238_140
    · refine xr_2 f_238_39 rfl ?_
      refine xr_1 f_238_40 rfl ?_
      refine xr_1 f_238_41 rfl ?_
      refine xr_cv f_238_42 (Nat.le_of_ble_eq_true rfl) rfl rfl (xr_rv kd_237 h_182) (Nat.le_of_ble_eq_true rfl) mc_237 ms_237 (c_md_layOrder a2 a1 M) ?_
      intro M1
      refine xr_2 f_238_45 rfl ?_
      refine xr_cv f_238_46 (Nat.le_of_ble_eq_true rfl) rfl rfl (xr_rv kd_236 h_182) (Nat.le_of_ble_eq_true rfl) mc_236 ms_236 (c_md_tryOrder M1) ?_
      intro M2
      refine xr_2 f_238_49 rfl ?_
      refine xr_30i f_238_50 h_182 rfl ?_
      refine xr_0 f_238_53 ?_
      refine xr_29_0 f_238_54 ?_ ?_
      · exact c_md_findBest_b90 (md_findBest_l34 a1 F) a1 a2 M2 ih
      · refine xr_2 f_238_57 rfl ?_
        refine xr_30i f_238_58 h_182 rfl ?_
        refine xr_2 f_238_61 rfl ?_
        refine xr_30i f_238_62 h_182 rfl ?_
        refine xr_29_2 f_238_65 ?_ ?_
        · exact c_md_findBest_b90 (md_findBest_l34 a1 F) a1 a2 M2 ih
        · refine xr_2 f_238_68 rfl ?_
          refine xr_30i f_238_69 h_182 rfl ?_
          refine xr_2 f_238_72 rfl ?_
          refine xr_30i f_238_73 h_182 rfl ?_
          refine xr_29_1 f_238_76 ?_ ?_
          · refine xr_7 [some (.ref 182), some (.int a1), some (.int (a2 + (1 : Int32))), none] f_238_134 rfl rfl rfl ?_
            refine xr_27 f_238_137 ?_
            exact ih (a2 + (1 : Int32)) M2
          · refine xr_2 f_238_79 rfl ?_
            refine xr_30i f_238_80 h_182 rfl ?_
            refine xr_2 f_238_83 rfl ?_
            refine xr_30i f_238_84 h_182 rfl ?_
            refine xr_29_3 f_238_87 ?_ ?_
            · refine xr_7 [some (.ref 182), some (.int a1), some (.int (a2 + (1 : Int32))), none] f_238_134 rfl rfl rfl ?_
              refine xr_27 f_238_137 ?_
              exact ih (a2 + (1 : Int32)) M2
            · exact c_md_findBest_b90 (md_findBest_l34 a1 F) a1 a2 M2 ih

def md_findBest_b22  (a1 : Int32) (M : e_Me) : Option e_Me :=
  x_lt (e_up M 182 29 (-1 : Int32)) fun M1 =>
  x_lt (e_up M1 182 30 (0 : Int32)) fun M2 =>
  md_findBest_l34 a1 e_F (0 : Int32) M2
theorem c_md_findBest_b22  (a1 : Int32) (M : e_Me)  : x_X G 238 0 0 x_rv 22 [some (.ref 182), some (.int a1), none, none] [] M (md_findBest_b22 a1 M) := by
  rw [md_findBest_b22]
  refine xr_2 f_238_22 rfl ?_
  refine xr_0 f_238_23 ?_
  refine xr_31 f_238_24 h_182 rfl ?_
  intro M1
  refine xr_2 f_238_27 rfl ?_
  refine xr_0 f_238_28 ?_
  refine xr_31 f_238_29 h_182 rfl ?_
  intro M2
  refine xr_0 f_238_32 ?_
  refine xr_4 [some (.ref 182), some (.int a1), some (.int (0 : Int32)), none] f_238_33 rfl rfl ?_
  exact c_md_findBest_l34 a1 e_F (0 : Int32) M2

def md_findBest_l4  (M : e_Me) : Nat → Int32 → Int32 → Option e_Me
  | 0, _, _ => none
  | F + 1, a1, a2 =>
    if (M 182 24) < a2 then
      md_findBest_b22 a1 M
    else
      x_lt (a1 * a2) fun y1 =>
      md_findBest_l4 M F y1 (a2 + (1 : Int32))
theorem c_md_findBest_l4  (M : e_Me)  : ∀ (F : Nat) (a1 : Int32) (a2 : Int32), x_X G 238 0 0 x_rv 4 [some (.ref 182), some (.int a1), some (.int a2), none] [] M (md_findBest_l4 M F a1 a2) := by
  intro F
  induction F with
  | zero => intro a1 a2; exact xr_none
  | succ F ih =>
    intro a1 a2
    rw [md_findBest_l4]
    refine xr_1 f_238_4 rfl ?_
    refine xr_2 f_238_5 rfl ?_
    refine xr_30i f_238_6 h_182 rfl ?_
    refine xr_29_4 f_238_9 ?_ ?_
    · refine xr_wk (L' := [some (.ref 182), some (.int a1), none, none]) [true, true, false, true] rfl ?_
      exact c_md_findBest_b22 a1 M
    · refine xr_1 f_238_12 rfl ?_
      refine xr_1 f_238_13 rfl ?_
      refine xr_10 f_238_14 ?_
      refine xr_4l (fun y1 => [some (.ref 182), some (.int y1), some (.int a2), none]) f_238_15 rfl (fun _ => rfl) ?_
      intro y1
      refine xr_7 [some (.ref 182), some (.int y1), some (.int (a2 + (1 : Int32))), none] f_238_16 rfl rfl rfl ?_
      refine xr_27 f_238_19 ?_
      exact ih y1 (a2 + (1 : Int32))

def md_findBest  (M : e_Me) : Option e_Me :=
  md_findBest_l4 M e_F (1 : Int32) (2 : Int32)
theorem c_md_findBest  (M : e_Me) : x_C G 238 [.ref 182] M x_rv (md_findBest  M) := by
  refine x_C_of 4 [some (.ref 182), none, none, none] (by decide) ml_238 (Nat.le_of_ble_eq_true rfl) rfl ?_
  rw [md_findBest]
  refine xr_0 f_238_0 ?_
  refine xr_4 [some (.ref 182), some (.int (1 : Int32)), none, none] f_238_1 rfl rfl ?_
  refine xr_0 f_238_2 ?_
  refine xr_4 [some (.ref 182), some (.int (1 : Int32)), some (.int (2 : Int32)), none] f_238_3 rfl rfl ?_
  exact c_md_findBest_l4 M e_F (1 : Int32) (2 : Int32)

def md_order (a1 : Int32) (M : e_Me) : Option (Int32 × e_Me) :=
  x_bd (md_in (a1).toInt64 ((0 : Int32)).toInt64 ((1 : Int32)).toInt64 M) fun x1 =>
  if x1 = 0 then
    some ((-102 : Int32), M)
  else
    x_bd (md_findLoaded M) fun M2 =>
    if (6 : Int32) < (M2 182 24) then
      some ((-103 : Int32), M2)
    else
      if (M2 182 21) = (30 : Int32) then
        some ((-103 : Int32), M2)
      else
        x_lt (e_up M2 182 21 ((M2 182 21) + (1 : Int32))) fun M3 =>
        if (M3 182 24) = 0 then
          some ((-1 : Int32), M3)
        else
          x_bd (md_findBest M3) fun M4 =>
          if a1 = 0 then
            some ((M4 182 29), M4)
          else
            some ((M4 182 30), M4)
theorem c_md_order (a1 : Int32) (M : e_Me) : x_C G 239 [.ref 182, .int a1] M x_rim (md_order a1 M) := by
  refine x_C_of 2 [some (.ref 182), some (.int a1)] (by decide) ml_239 (Nat.le_of_ble_eq_true rfl) rfl ?_
  rw [md_order]
  refine xr_1 f_239_0 rfl ?_
  refine xr_19 f_239_1 ?_
  refine xr_23 f_239_2 ?_
  refine xr_23 f_239_3 ?_
  refine xr_ci f_239_4 (Nat.le_of_ble_eq_true rfl) rfl rfl (xr_rs kd_193) (Nat.le_of_ble_eq_true rfl) mc_193 ms_193 (c_md_in (a1).toInt64 ((0 : Int32)).toInt64 ((1 : Int32)).toInt64 M) ?_
  intro x1
  refine xr_28_1 f_239_7 ?_ ?_
  · refine xr_2 f_239_13 rfl ?_
    refine xr_cv f_239_14 (Nat.le_of_ble_eq_true rfl) rfl rfl (xr_rv kd_235 h_182) (Nat.le_of_ble_eq_true rfl) mc_235 ms_235 (c_md_findLoaded M) ?_
    intro M2
    refine xr_2 f_239_17 rfl ?_
    refine xr_30i f_239_18 h_182 rfl ?_
    refine xr_0 f_239_21 ?_
    refine xr_29_4 f_239_23 ?_ ?_
    · refine xr_0 f_239_35 ?_
      exact xr_51m f_239_37
    · refine xr_2 f_239_26 rfl ?_
      refine xr_30i f_239_27 h_182 rfl ?_
      refine xr_0 f_239_30 ?_
      refine xr_29_1 f_239_32 ?_ ?_
      · refine xr_2 f_239_38 rfl ?_
        refine xr_24r f_239_39 ?_
        refine xr_30i f_239_40 h_182 rfl ?_
        refine xr_0 f_239_43 ?_
        refine xr_8 f_239_44 ?_
        refine xr_31 f_239_45 h_182 rfl ?_
        intro M3
        refine xr_2 f_239_48 rfl ?_
        refine xr_30i f_239_49 h_182 rfl ?_
        refine xr_28_1 f_239_52 ?_ ?_
        · refine xr_2 f_239_57 rfl ?_
          refine xr_cv f_239_58 (Nat.le_of_ble_eq_true rfl) rfl rfl (xr_rv kd_238 h_182) (Nat.le_of_ble_eq_true rfl) mc_238 ms_238 (c_md_findBest M3) ?_
          intro M4
          refine xr_1 f_239_61 rfl ?_
          refine xr_28_1 f_239_62 ?_ ?_
          · refine xr_2 f_239_72 rfl ?_
            refine xr_30i f_239_73 h_182 rfl ?_
            exact xr_51m f_239_76
          · refine xr_2 f_239_65 rfl ?_
            refine xr_30i f_239_66 h_182 rfl ?_
            refine xr_27 f_239_69 ?_
            exact xr_51m f_239_76
        · refine xr_0 f_239_55 ?_
          exact xr_51m f_239_56
      · refine xr_0 f_239_35 ?_
        exact xr_51m f_239_37
  · refine xr_0 f_239_10 ?_
    exact xr_51m f_239_12

def md_ordered (a1 : Int32) (M : e_Me) : Option (Int32 × e_Me) :=
  x_bd (md_findLoaded M) fun M1 =>
  if (6 : Int32) < (M1 182 24) then
    some ((-103 : Int32), M1)
  else
    if (M1 182 21) = (30 : Int32) then
      some ((-103 : Int32), M1)
    else
      x_lt (e_up M1 182 21 ((M1 182 21) + (1 : Int32))) fun M2 =>
      x_bd (md_in (a1).toInt64 ((0 : Int32)).toInt64 (((M2 182 24) - (1 : Int32))).toInt64 M2) fun x3 =>
      if x3 = 0 then
        some ((-1 : Int32), M2)
      else
        x_bd (md_findBest M2) fun M4 =>
        x_rd (M4 196) 6 a1 fun x5 =>
        some (x5, M4)
theorem c_md_ordered (a1 : Int32) (M : e_Me) : x_C G 240 [.ref 182, .int a1] M x_rim (md_ordered a1 M) := by
  refine x_C_of 2 [some (.ref 182), some (.int a1)] (by decide) ml_240 (Nat.le_of_ble_eq_true rfl) rfl ?_
  rw [md_ordered]
  refine xr_2 f_240_0 rfl ?_
  refine xr_cv f_240_1 (Nat.le_of_ble_eq_true rfl) rfl rfl (xr_rv kd_235 h_182) (Nat.le_of_ble_eq_true rfl) mc_235 ms_235 (c_md_findLoaded M) ?_
  intro M1
  refine xr_2 f_240_4 rfl ?_
  refine xr_30i f_240_5 h_182 rfl ?_
  refine xr_0 f_240_8 ?_
  refine xr_29_4 f_240_10 ?_ ?_
  · refine xr_0 f_240_22 ?_
    exact xr_51m f_240_24
  · refine xr_2 f_240_13 rfl ?_
    refine xr_30i f_240_14 h_182 rfl ?_
    refine xr_0 f_240_17 ?_
    refine xr_29_1 f_240_19 ?_ ?_
    · refine xr_2 f_240_25 rfl ?_
      refine xr_24r f_240_26 ?_
      refine xr_30i f_240_27 h_182 rfl ?_
      refine xr_0 f_240_30 ?_
      refine xr_8 f_240_31 ?_
      refine xr_31 f_240_32 h_182 rfl ?_
      intro M2
      refine xr_1 f_240_35 rfl ?_
      refine xr_19 f_240_36 ?_
      refine xr_23 f_240_37 ?_
      refine xr_2 f_240_38 rfl ?_
      refine xr_30i f_240_39 h_182 rfl ?_
      refine xr_0 f_240_42 ?_
      refine xr_9 f_240_43 ?_
      refine xr_19 f_240_44 ?_
      refine xr_ci f_240_45 (Nat.le_of_ble_eq_true rfl) rfl rfl (xr_rs kd_193) (Nat.le_of_ble_eq_true rfl) mc_193 ms_193 (c_md_in (a1).toInt64 ((0 : Int32)).toInt64 (((M2 182 24) - (1 : Int32))).toInt64 M2) ?_
      intro x3
      refine xr_28_1 f_240_48 ?_ ?_
      · refine xr_2 f_240_53 rfl ?_
        refine xr_cv f_240_54 (Nat.le_of_ble_eq_true rfl) rfl rfl (xr_rv kd_238 h_182) (Nat.le_of_ble_eq_true rfl) mc_238 ms_238 (c_md_findBest M2) ?_
        intro M4
        refine xr_2 f_240_57 rfl ?_
        refine xr_30r f_240_58 h_182 rfl ?_
        refine xr_1 f_240_61 rfl ?_
        refine xr_32 f_240_62 h_196 ?_
        intro x5
        exact xr_51m f_240_63
      · refine xr_0 f_240_51 ?_
        exact xr_51m f_240_52
    · refine xr_0 f_240_22 ?_
      exact xr_51m f_240_24

def md_cost_b113 (k39 : Int32 → Int32 → Int32 → Int32 → e_Me → Option (Int32 × e_Me)) (a2 : Int32) (a3 : Int32) (a5 : Int32) (s0 : Int32) (M : e_Me) : Option (Int32 × e_Me) :=
  x_rd (M 195) 6 a5 fun x1 =>
  x_lt (a3 ||| ((1 : Int32) <<< (x1 &&& 31))) fun y2 =>
  k39 a2 y2 s0 (a5 + (-1 : Int32)) M
theorem c_md_cost_b113 (k39 : Int32 → Int32 → Int32 → Int32 → e_Me → Option (Int32 × e_Me)) (a2 : Int32) (a3 : Int32) (a5 : Int32) (s0 : Int32) (M : e_Me) (hk39 : ∀ (a2 : Int32) (a3 : Int32) (a4 : Int32) (a5 : Int32) (M : e_Me), x_X G 241 0 0 x_rim 39 [some (.ref 182), none, some (.int a2), some (.int a3), some (.int a4), some (.int a5)] [] M (k39 a2 a3 a4 a5 M)) : x_X G 241 0 0 x_rim 113 [some (.ref 182), none, some (.int a2), some (.int a3), none, some (.int a5)] [.int s0] M (md_cost_b113 k39 a2 a3 a5 s0 M) := by
  rw [md_cost_b113]
  refine xr_4 [some (.ref 182), none, some (.int a2), some (.int a3), some (.int s0), some (.int a5)] f_241_113 rfl rfl ?_
  refine xr_1 f_241_115 rfl ?_
  refine xr_0 f_241_116 ?_
  refine xr_2 f_241_117 rfl ?_
  refine xr_30r f_241_118 h_182 rfl ?_
  refine xr_1 f_241_121 rfl ?_
  refine xr_32 f_241_123 h_195 ?_
  intro x1
  refine xr_14 f_241_124 ?_
  refine xr_17 f_241_125 ?_
  refine xr_4l (fun y2 => [some (.ref 182), none, some (.int a2), some (.int y2), some (.int s0), some (.int a5)]) f_241_126 rfl (fun _ => rfl) ?_
  intro y2
  refine xr_7 [some (.ref 182), none, some (.int a2), some (.int y2), some (.int s0), some (.int (a5 + (-1 : Int32)))] f_241_127 rfl rfl rfl ?_
  refine xr_27 f_241_130 ?_
  exact hk39 a2 y2 s0 (a5 + (-1 : Int32)) M

def md_cost_b133  (a2 : Int32) (a4 : Int32) (M : e_Me) : Option (Int32 × e_Me) :=
  if a4 = 0 then
    some ((-102 : Int32), M)
  else
    if a2 = 0 then
      x_bd (md_tryOrder M) fun M1 =>
      some ((M1 182 27), M1)
    else
      some ((-102 : Int32), M)
theorem c_md_cost_b133  (a2 : Int32) (a4 : Int32) (M : e_Me)  : x_X G 241 0 0 x_rim 133 [some (.ref 182), none, some (.int a2), none, some (.int a4), none] [] M (md_cost_b133 a2 a4 M) := by
  rw [md_cost_b133]
  refine xr_1 f_241_133 rfl ?_
  refine xr_28_0 f_241_135 ?_ ?_
  · refine xr_0 f_241_142 ?_
    exact xr_51m f_241_144
  · refine xr_1 f_241_138 rfl ?_
    refine xr_28_0 f_241_139 ?_ ?_
    · refine xr_2 f_241_145 rfl ?_
      refine xr_cv f_241_146 (Nat.le_of_ble_eq_true rfl) rfl rfl (xr_rv kd_236 h_182) (Nat.le_of_ble_eq_true rfl) mc_236 ms_236 (c_md_tryOrder M) ?_
      intro M1
      refine xr_2 f_241_149 rfl ?_
      refine xr_30i f_241_150 h_182 rfl ?_
      exact xr_51m f_241_153
    · refine xr_0 f_241_142 ?_
      exact xr_51m f_241_144

def md_cost_l39   : Nat → Int32 → Int32 → Int32 → Int32 → e_Me → Option (Int32 × e_Me)
  | 0, _, _, _, _, _ => none
  | F + 1, a2, a3, a4, a5, M =>
    if a5 < 0 then
      md_cost_b133 a2 a4 M
    else
      if a4 = 0 then
        md_cost_b133 a2 a4 M
      else
        x_wr M 195 6 a5 (x_rem a2 (30 : Int32)) fun M1 =>
        x_lt (a2 / (30 : Int32)) fun y2 =>
        x_rd (M1 195) 6 a5 fun x3 =>
        if (M1 182 0) ≤ x3 then
          md_cost_b113 (md_cost_l39  F) y2 a3 a5 (0 : Int32) M1
        else
          x_rd (M1 195) 6 a5 fun x4 =>
          x_rd (M1 193) 30 x4 fun x5 =>
          if x5 ≤ 0 then
            md_cost_b113 (md_cost_l39  F) y2 a3 a5 (0 : Int32) M1
          else
            x_rd (M1 195) 6 a5 fun x6 =>
            if ((a3 >>> (x6 &&& 31)) &&& (1 : Int32)) = 0 then
              md_cost_b113 (md_cost_l39  F) y2 a3 a5 (1 : Int32) M1
            else
              md_cost_b113 (md_cost_l39  F) y2 a3 a5 (0 : Int32) M1
theorem c_md_cost_l39    : ∀ (F : Nat) (a2 : Int32) (a3 : Int32) (a4 : Int32) (a5 : Int32) (M : e_Me), x_X G 241 0 0 x_rim 39 [some (.ref 182), none, some (.int a2), some (.int a3), some (.int a4), some (.int a5)] [] M (md_cost_l39  F a2 a3 a4 a5 M) := by
  intro F
  induction F with
  | zero => intro a2 a3 a4 a5 M; exact xr_none
  | succ F ih =>
    intro a2 a3 a4 a5 M
    rw [md_cost_l39]
    refine xr_1 f_241_39 rfl ?_
    refine xr_28_2 f_241_41 ?_ ?_
    · refine xr_wk (L' := [some (.ref 182), none, some (.int a2), none, some (.int a4), none]) [true, true, true, false, true, false] rfl ?_
      exact c_md_cost_b133 a2 a4 M
    · refine xr_1 f_241_44 rfl ?_
      refine xr_28_0 f_241_46 ?_ ?_
      · refine xr_wk (L' := [some (.ref 182), none, some (.int a2), none, some (.int a4), none]) [true, true, true, false, true, false] rfl ?_
        exact c_md_cost_b133 a2 a4 M
      · refine xr_2 f_241_49 rfl ?_
        refine xr_30r f_241_50 h_182 rfl ?_
        refine xr_1 f_241_53 rfl ?_
        refine xr_1 f_241_55 rfl ?_
        refine xr_0 f_241_56 ?_
        refine xr_13c f_241_58 (by decide) ?_
        refine xr_33 f_241_59 h_195 ?_
        intro M1
        refine xr_1 f_241_60 rfl ?_
        refine xr_0 f_241_61 ?_
        refine xr_12c f_241_63 (by decide) ?_
        refine xr_4l (fun y2 => [some (.ref 182), none, some (.int y2), some (.int a3), some (.int a4), some (.int a5)]) f_241_64 rfl (fun _ => rfl) ?_
        intro y2
        refine xr_2 f_241_65 rfl ?_
        refine xr_30r f_241_66 h_182 rfl ?_
        refine xr_1 f_241_69 rfl ?_
        refine xr_32 f_241_71 h_195 ?_
        intro x3
        refine xr_2 f_241_72 rfl ?_
        refine xr_30i f_241_73 h_182 rfl ?_
        refine xr_29_3 f_241_76 ?_ ?_
        · refine xr_0 f_241_112 ?_
          refine xr_wk (L' := [some (.ref 182), none, some (.int y2), some (.int a3), none, some (.int a5)]) [true, true, true, true, false, true] rfl ?_
          exact c_md_cost_b113 (md_cost_l39  F) y2 a3 a5 (0 : Int32) M1 ih
        · refine xr_2 f_241_79 rfl ?_
          refine xr_30r f_241_80 h_182 rfl ?_
          refine xr_2 f_241_83 rfl ?_
          refine xr_30r f_241_84 h_182 rfl ?_
          refine xr_1 f_241_87 rfl ?_
          refine xr_32 f_241_89 h_195 ?_
          intro x4
          refine xr_32 f_241_90 h_193 ?_
          intro x5
          refine xr_28_5 f_241_91 ?_ ?_
          · refine xr_0 f_241_112 ?_
            refine xr_wk (L' := [some (.ref 182), none, some (.int y2), some (.int a3), none, some (.int a5)]) [true, true, true, true, false, true] rfl ?_
            exact c_md_cost_b113 (md_cost_l39  F) y2 a3 a5 (0 : Int32) M1 ih
          · refine xr_1 f_241_94 rfl ?_
            refine xr_2 f_241_95 rfl ?_
            refine xr_30r f_241_96 h_182 rfl ?_
            refine xr_1 f_241_99 rfl ?_
            refine xr_32 f_241_101 h_195 ?_
            intro x6
            refine xr_15 f_241_102 ?_
            refine xr_0 f_241_103 ?_
            refine xr_16 f_241_104 ?_
            refine xr_28_1 f_241_105 ?_ ?_
            · refine xr_0 f_241_112 ?_
              refine xr_wk (L' := [some (.ref 182), none, some (.int y2), some (.int a3), none, some (.int a5)]) [true, true, true, true, false, true] rfl ?_
              exact c_md_cost_b113 (md_cost_l39  F) y2 a3 a5 (0 : Int32) M1 ih
            · refine xr_0 f_241_108 ?_
              refine xr_27 f_241_109 ?_
              refine xr_wk (L' := [some (.ref 182), none, some (.int y2), some (.int a3), none, some (.int a5)]) [true, true, true, true, false, true] rfl ?_
              exact c_md_cost_b113 (md_cost_l39  F) y2 a3 a5 (1 : Int32) M1 ih

def md_cost_b29  (a2 : Int32) (a3 : Int32) (s0 : Int32) (M : e_Me) : Option (Int32 × e_Me) :=
  x_lt ((M 182 24) - (1 : Int32)) fun y1 =>
  md_cost_l39  e_F a2 a3 s0 y1 M
theorem c_md_cost_b29  (a2 : Int32) (a3 : Int32) (s0 : Int32) (M : e_Me)  : x_X G 241 0 0 x_rim 29 [some (.ref 182), none, some (.int a2), some (.int a3), none, none] [.int s0] M (md_cost_b29 a2 a3 s0 M) := by
  rw [md_cost_b29]
  refine xr_4 [some (.ref 182), none, some (.int a2), some (.int a3), some (.int s0), none] f_241_29 rfl rfl ?_
  refine xr_2 f_241_31 rfl ?_
  refine xr_30i f_241_32 h_182 rfl ?_
  refine xr_0 f_241_35 ?_
  refine xr_9 f_241_36 ?_
  refine xr_4l (fun y1 => [some (.ref 182), none, some (.int a2), some (.int a3), some (.int s0), some (.int y1)]) f_241_37 rfl (fun _ => rfl) ?_
  intro y1
  exact c_md_cost_l39 e_F a2 a3 s0 y1 M

def md_cost (a1 : Int32) (M : e_Me) : Option (Int32 × e_Me) :=
  x_bd (md_findLoaded M) fun M1 =>
  if (M1 182 24) ≤ (6 : Int32) then
    if a1 < 0 then
      md_cost_b29 a1 (0 : Int32) (0 : Int32) M1
    else
      md_cost_b29 a1 (0 : Int32) (1 : Int32) M1
  else
    some ((-103 : Int32), M1)
theorem c_md_cost (a1 : Int32) (M : e_Me) : x_C G 241 [.ref 182, .int a1] M x_rim (md_cost a1 M) := by
  refine x_C_of 6 [some (.ref 182), some (.int a1), none, none, none, none] (by decide) ml_241 (Nat.le_of_ble_eq_true rfl) rfl ?_
  rw [md_cost]
  refine xr_2 f_241_0 rfl ?_
  refine xr_cv f_241_1 (Nat.le_of_ble_eq_true rfl) rfl rfl (xr_rv kd_235 h_182) (Nat.le_of_ble_eq_true rfl) mc_235 ms_235 (c_md_findLoaded M) ?_
  intro M1
  refine xr_2 f_241_4 rfl ?_
  refine xr_30i f_241_5 h_182 rfl ?_
  refine xr_0 f_241_8 ?_
  refine xr_29_5 f_241_10 ?_ ?_
  · refine xr_1 f_241_16 rfl ?_
    refine xr_4 [some (.ref 182), some (.int a1), some (.int a1), none, none, none] f_241_17 rfl rfl ?_
    refine xr_0 f_241_18 ?_
    refine xr_4 [some (.ref 182), some (.int a1), some (.int a1), some (.int (0 : Int32)), none, none] f_241_19 rfl rfl ?_
    refine xr_1 f_241_20 rfl ?_
    refine xr_28_2 f_241_21 ?_ ?_
    · refine xr_0 f_241_28 ?_
      refine xr_wk (L' := [some (.ref 182), none, some (.int a1), some (.int (0 : Int32)), none, none]) [true, false, true, true, true, true] rfl ?_
      exact c_md_cost_b29 a1 (0 : Int32) (0 : Int32) M1
    · refine xr_0 f_241_24 ?_
      refine xr_27 f_241_25 ?_
      refine xr_wk (L' := [some (.ref 182), none, some (.int a1), some (.int (0 : Int32)), none, none]) [true, false, true, true, true, true] rfl ?_
      exact c_md_cost_b29 a1 (0 : Int32) (1 : Int32) M1
  · refine xr_0 f_241_13 ?_
    exact xr_51m f_241_15

def md_rollOn_b96 (k4 : Int32 → Int32 → e_Me → Option (Int32 × e_Me)) (a1 : Int32) (a2 : Int32) (a3 : Int32) (s0 : Int32) (M : e_Me) : Option (Int32 × e_Me) :=
  x_lt (e_up M 182 1 s0) fun M1 =>
  if a3 ≤ 0 then
    x_lt (a1 + (1 : Int32)) fun y2 =>
    k4 y2 a2 M1
  else
    x_lt (a1 + (-1 : Int32)) fun y3 =>
    k4 y3 a2 M1
theorem c_md_rollOn_b96 (k4 : Int32 → Int32 → e_Me → Option (Int32 × e_Me)) (a1 : Int32) (a2 : Int32) (a3 : Int32) (s0 : Int32) (M : e_Me) (hk4 : ∀ (a1 : Int32) (a2 : Int32) (M : e_Me), x_X G 242 0 0 x_rim 4 [some (.ref 182), some (.int a1), some (.int a2), none, none, none] [] M (k4 a1 a2 M)) : x_X G 242 0 0 x_rim 96 [some (.ref 182), some (.int a1), some (.int a2), some (.int a3), none, none] [.int s0, .ref 182] M (md_rollOn_b96 k4 a1 a2 a3 s0 M) := by
  rw [md_rollOn_b96]
  refine xr_31 f_242_96 h_182 rfl ?_
  intro M1
  refine xr_1 f_242_99 rfl ?_
  refine xr_1 f_242_100 rfl ?_
  refine xr_28_5 f_242_101 ?_ ?_
  · refine xr_0 f_242_108 ?_
    refine xr_8 f_242_109 ?_
    refine xr_4l (fun y2 => [some (.ref 182), some (.int y2), some (.int a2), some (.int a3), none, none]) f_242_110 rfl (fun _ => rfl) ?_
    intro y2
    refine xr_27 f_242_111 ?_
    refine xr_wk (L' := [some (.ref 182), some (.int y2), some (.int a2), none, none, none]) [true, true, true, false, true, true] rfl ?_
    exact hk4 y2 a2 M1
  · refine xr_0 f_242_104 ?_
    refine xr_27 f_242_105 ?_
    refine xr_8 f_242_109 ?_
    refine xr_4l (fun y3 => [some (.ref 182), some (.int y3), some (.int a2), some (.int a3), none, none]) f_242_110 rfl (fun _ => rfl) ?_
    intro y3
    refine xr_27 f_242_111 ?_
    refine xr_wk (L' := [some (.ref 182), some (.int y3), some (.int a2), none, none, none]) [true, true, true, false, true, true] rfl ?_
    exact hk4 y3 a2 M1

def md_rollOn_b79 (k4 : Int32 → Int32 → e_Me → Option (Int32 × e_Me)) (a1 : Int32) (a3 : Int32) (a4 : Int32) (a5 : Int32) (s0 : Int32) (M : e_Me) : Option (Int32 × e_Me) :=
  if s0 = 0 then
    k4 a1 s0 M
  else
    if a3 ≤ 0 then
      md_rollOn_b96 k4 a1 s0 a3 a5 M
    else
      md_rollOn_b96 k4 a1 s0 a3 a4 M
theorem c_md_rollOn_b79 (k4 : Int32 → Int32 → e_Me → Option (Int32 × e_Me)) (a1 : Int32) (a3 : Int32) (a4 : Int32) (a5 : Int32) (s0 : Int32) (M : e_Me) (hk4 : ∀ (a1 : Int32) (a2 : Int32) (M : e_Me), x_X G 242 0 0 x_rim 4 [some (.ref 182), some (.int a1), some (.int a2), none, none, none] [] M (k4 a1 a2 M)) : x_X G 242 0 0 x_rim 79 [some (.ref 182), some (.int a1), none, some (.int a3), some (.int a4), some (.int a5)] [.int s0] M (md_rollOn_b79 k4 a1 a3 a4 a5 s0 M) := by
  rw [md_rollOn_b79]
  refine xr_4 [some (.ref 182), some (.int a1), some (.int s0), some (.int a3), some (.int a4), some (.int a5)] f_242_79 rfl rfl ?_
  refine xr_1 f_242_80 rfl ?_
  refine xr_28_0 f_242_81 ?_ ?_
  · refine xr_27 f_242_111 ?_
    refine xr_wk (L' := [some (.ref 182), some (.int a1), some (.int s0), none, none, none]) [true, true, true, false, false, false] rfl ?_
    exact hk4 a1 s0 M
  · refine xr_2 f_242_84 rfl ?_
    refine xr_1 f_242_85 rfl ?_
    refine xr_28_5 f_242_86 ?_ ?_
    · refine xr_1 f_242_94 rfl ?_
      refine xr_wk (L' := [some (.ref 182), some (.int a1), some (.int s0), some (.int a3), none, none]) [true, true, true, true, false, false] rfl ?_
      exact c_md_rollOn_b96 k4 a1 s0 a3 a5 M hk4
    · refine xr_1 f_242_89 rfl ?_
      refine xr_27 f_242_91 ?_
      refine xr_wk (L' := [some (.ref 182), some (.int a1), some (.int s0), some (.int a3), none, none]) [true, true, true, true, false, false] rfl ?_
      exact c_md_rollOn_b96 k4 a1 s0 a3 a4 M hk4

def md_rollOn_b61 (k4 : Int32 → Int32 → e_Me → Option (Int32 × e_Me)) (a1 : Int32) (a3 : Int32) (a4 : Int32) (a5 : Int32) (M : e_Me) : Option (Int32 × e_Me) :=
  if 0 ≤ a3 then
    md_rollOn_b79 k4 a1 a3 a4 a5 (0 : Int32) M
  else
    x_bd (md_leanOf a5 M) fun x1 =>
    if 0 < x1 then
      md_rollOn_b79 k4 a1 a3 a4 a5 (0 : Int32) M
    else
      md_rollOn_b79 k4 a1 a3 a4 a5 (1 : Int32) M
theorem c_md_rollOn_b61 (k4 : Int32 → Int32 → e_Me → Option (Int32 × e_Me)) (a1 : Int32) (a3 : Int32) (a4 : Int32) (a5 : Int32) (M : e_Me) (hk4 : ∀ (a1 : Int32) (a2 : Int32) (M : e_Me), x_X G 242 0 0 x_rim 4 [some (.ref 182), some (.int a1), some (.int a2), none, none, none] [] M (k4 a1 a2 M)) : x_X G 242 0 0 x_rim 61 [some (.ref 182), some (.int a1), none, some (.int a3), some (.int a4), some (.int a5)] [] M (md_rollOn_b61 k4 a1 a3 a4 a5 M) := by
  rw [md_rollOn_b61]
  refine xr_1 f_242_61 rfl ?_
  refine xr_28_3 f_242_62 ?_ ?_
  · refine xr_0 f_242_78 ?_
    exact c_md_rollOn_b79 k4 a1 a3 a4 a5 (0 : Int32) M hk4
  · refine xr_2 f_242_65 rfl ?_
    refine xr_1 f_242_66 rfl ?_
    refine xr_ci f_242_68 (Nat.le_of_ble_eq_true rfl) rfl rfl (xr_rv kd_200 h_182) (Nat.le_of_ble_eq_true rfl) mc_200 ms_200 (c_md_leanOf a5 M) ?_
    intro x1
    refine xr_28_4 f_242_71 ?_ ?_
    · refine xr_0 f_242_78 ?_
      exact c_md_rollOn_b79 k4 a1 a3 a4 a5 (0 : Int32) M hk4
    · refine xr_0 f_242_74 ?_
      refine xr_27 f_242_75 ?_
      exact c_md_rollOn_b79 k4 a1 a3 a4 a5 (1 : Int32) M hk4

def md_rollOn_l4   : Nat → Int32 → Int32 → e_Me → Option (Int32 × e_Me)
  | 0, _, _, _ => none
  | F + 1, a1, a2, M =>
    if a2 = 0 then
      some (a1, M)
    else
      x_bd (md_leanOf (M 182 1) M) fun x1 =>
      x_dv (M 182 0) <|
      x_lt (x_rem (((M 182 1) + (M 182 0)) - (1 : Int32)) (M 182 0)) fun y2 =>
      x_dv (M 182 0) <|
      x_lt (x_rem ((M 182 1) + (1 : Int32)) (M 182 0)) fun y3 =>
      if x1 ≤ 0 then
        md_rollOn_b61 (md_rollOn_l4  F) a1 x1 y2 y3 M
      else
        x_bd (md_leanOf y2 M) fun x4 =>
        if 0 ≤ x4 then
          md_rollOn_b79 (md_rollOn_l4  F) a1 x1 y2 y3 (1 : Int32) M
        else
          md_rollOn_b61 (md_rollOn_l4  F) a1 x1 y2 y3 M
theorem c_md_rollOn_l4    : ∀ (F : Nat) (a1 : Int32) (a2 : Int32) (M : e_Me), x_X G 242 0 0 x_rim 4 [some (.ref 182), some (.int a1), some (.int a2), none, none, none] [] M (md_rollOn_l4  F a1 a2 M) := by
  intro F
  induction F with
  | zero => intro a1 a2 M; exact xr_none
  | succ F ih =>
    intro a1 a2 M
    rw [md_rollOn_l4]
    refine xr_1 f_242_4 rfl ?_
    refine xr_28_0 f_242_5 ?_ ?_
    · refine xr_1 f_242_114 rfl ?_
      exact xr_51m f_242_115
    · refine xr_2 f_242_8 rfl ?_
      refine xr_2 f_242_9 rfl ?_
      refine xr_30i f_242_10 h_182 rfl ?_
      refine xr_ci f_242_13 (Nat.le_of_ble_eq_true rfl) rfl rfl (xr_rv kd_200 h_182) (Nat.le_of_ble_eq_true rfl) mc_200 ms_200 (c_md_leanOf (M 182 1) M) ?_
      intro x1
      refine xr_4 [some (.ref 182), some (.int a1), some (.int a2), some (.int x1), none, none] f_242_16 rfl rfl ?_
      refine xr_2 f_242_17 rfl ?_
      refine xr_30i f_242_18 h_182 rfl ?_
      refine xr_2 f_242_21 rfl ?_
      refine xr_30i f_242_22 h_182 rfl ?_
      refine xr_8 f_242_25 ?_
      refine xr_0 f_242_26 ?_
      refine xr_9 f_242_27 ?_
      refine xr_2 f_242_28 rfl ?_
      refine xr_30i f_242_29 h_182 rfl ?_
      refine xr_13 f_242_32 ?_
      refine xr_4l (fun y2 => [some (.ref 182), some (.int a1), some (.int a2), some (.int x1), some (.int y2), none]) f_242_33 rfl (fun _ => rfl) ?_
      intro y2
      refine xr_2 f_242_35 rfl ?_
      refine xr_30i f_242_36 h_182 rfl ?_
      refine xr_0 f_242_39 ?_
      refine xr_8 f_242_40 ?_
      refine xr_2 f_242_41 rfl ?_
      refine xr_30i f_242_42 h_182 rfl ?_
      refine xr_13 f_242_45 ?_
      refine xr_4l (fun y3 => [some (.ref 182), some (.int a1), some (.int a2), some (.int x1), some (.int y2), some (.int y3)]) f_242_46 rfl (fun _ => rfl) ?_
      intro y3
      refine xr_1 f_242_48 rfl ?_
      refine xr_28_5 f_242_49 ?_ ?_
      · refine xr_wk (L' := [some (.ref 182), some (.int a1), none, some (.int x1), some (.int y2), some (.int y3)]) [true, true, false, true, true, true] rfl ?_
        exact c_md_rollOn_b61 (md_rollOn_l4  F) a1 x1 y2 y3 M ih
      · refine xr_2 f_242_52 rfl ?_
        refine xr_1 f_242_53 rfl ?_
        refine xr_ci f_242_55 (Nat.le_of_ble_eq_true rfl) rfl rfl (xr_rv kd_200 h_182) (Nat.le_of_ble_eq_true rfl) mc_200 ms_200 (c_md_leanOf y2 M) ?_
        intro x4
        refine xr_28_3 f_242_58 ?_ ?_
        · refine xr_0 f_242_74 ?_
          refine xr_27 f_242_75 ?_
          refine xr_wk (L' := [some (.ref 182), some (.int a1), none, some (.int x1), some (.int y2), some (.int y3)]) [true, true, false, true, true, true] rfl ?_
          exact c_md_rollOn_b79 (md_rollOn_l4  F) a1 x1 y2 y3 (1 : Int32) M ih
        · refine xr_wk (L' := [some (.ref 182), some (.int a1), none, some (.int x1), some (.int y2), some (.int y3)]) [true, true, false, true, true, true] rfl ?_
          exact c_md_rollOn_b61 (md_rollOn_l4  F) a1 x1 y2 y3 M ih

def md_rollOn  (M : e_Me) : Option (Int32 × e_Me) :=
  md_rollOn_l4  e_F (0 : Int32) (1 : Int32) M
theorem c_md_rollOn  (M : e_Me) : x_C G 242 [.ref 182] M x_rim (md_rollOn  M) := by
  refine x_C_of 6 [some (.ref 182), none, none, none, none, none] (by decide) ml_242 (Nat.le_of_ble_eq_true rfl) rfl ?_
  rw [md_rollOn]
  refine xr_0 f_242_0 ?_
  refine xr_4 [some (.ref 182), some (.int (0 : Int32)), none, none, none, none] f_242_1 rfl rfl ?_
  refine xr_0 f_242_2 ?_
  refine xr_4 [some (.ref 182), some (.int (0 : Int32)), some (.int (1 : Int32)), none, none, none] f_242_3 rfl rfl ?_
  exact c_md_rollOn_l4 e_F (0 : Int32) (1 : Int32) M

def md_roll  (M : e_Me) : Option (Int32 × e_Me) :=
  x_bi (md_rollOn M) fun x1 M2 =>
  some (x1, M2)
theorem c_md_roll  (M : e_Me) : x_C G 243 [.ref 182] M x_rim (md_roll  M) := by
  refine x_C_of 1 [some (.ref 182)] (by decide) ml_243 (Nat.le_of_ble_eq_true rfl) rfl ?_
  rw [md_roll]
  refine xr_2 f_243_0 rfl ?_
  refine xr_cim f_243_1 (Nat.le_of_ble_eq_true rfl) rfl rfl (xr_rv kd_242 h_182) (Nat.le_of_ble_eq_true rfl) mc_242 ms_242 (c_md_rollOn M) ?_
  intro x1 M2
  exact xr_51m f_243_4

def md_letOut_b70 (k7 : Int32 → e_Me → Option (Int32 × e_Me)) (a1 : Int32) (a2 : Int32) (M : e_Me) : Option (Int32 × e_Me) :=
  x_wr M 184 30 a2 (0 : Int32) fun M1 =>
  x_wr M1 185 30 a2 (0 : Int32) fun M2 =>
  x_bi (md_rollOn M2) fun x3 M4 =>
  k7 a1 M4
theorem c_md_letOut_b70 (k7 : Int32 → e_Me → Option (Int32 × e_Me)) (a1 : Int32) (a2 : Int32) (M : e_Me) (hk7 : ∀ (a1 : Int32) (M : e_Me), x_X G 244 0 0 x_rim 7 [some (.ref 182), some (.int a1), none, none] [] M (k7 a1 M)) : x_X G 244 0 0 x_rim 70 [some (.ref 182), some (.int a1), some (.int a2), none] [] M (md_letOut_b70 k7 a1 a2 M) := by
  rw [md_letOut_b70]
  refine xr_2 f_244_70 rfl ?_
  refine xr_30r f_244_71 h_182 rfl ?_
  refine xr_1 f_244_74 rfl ?_
  refine xr_0 f_244_75 ?_
  refine xr_33 f_244_76 h_184 ?_
  intro M1
  refine xr_2 f_244_77 rfl ?_
  refine xr_30r f_244_78 h_182 rfl ?_
  refine xr_1 f_244_81 rfl ?_
  refine xr_0 f_244_82 ?_
  refine xr_33 f_244_83 h_185 ?_
  intro M2
  refine xr_2 f_244_84 rfl ?_
  refine xr_cim f_244_85 (Nat.le_of_ble_eq_true rfl) rfl rfl (xr_rv kd_242 h_182) (Nat.le_of_ble_eq_true rfl) mc_242 ms_242 (c_md_rollOn M2) ?_
  intro x3 M4
  refine xr_26i f_244_88 ?_
  refine xr_27 f_244_89 ?_
  refine xr_wk (L' := [some (.ref 182), some (.int a1), none, none]) [true, true, false, true] rfl ?_
  exact hk7 a1 M4

def md_letOut_l36 (k7 : Int32 → e_Me → Option (Int32 × e_Me)) (a1 : Int32) (a2 : Int32) : Nat → Int32 → e_Me → Option (Int32 × e_Me)
  | 0, _, _ => none
  | F + 1, a3, M =>
    x_rd (M 184) 30 a2 fun x1 =>
    if x1 ≤ a3 then
      md_letOut_b70 k7 a1 a2 M
    else
      x_rd (M 183) 180 (((6 : Int32) * a2) + a3) fun x2 =>
      x_wr M 189 200 x2 (101 : Int32) fun M3 =>
      md_letOut_l36 k7 a1 a2 F (a3 + (1 : Int32)) M3
theorem c_md_letOut_l36 (k7 : Int32 → e_Me → Option (Int32 × e_Me)) (a1 : Int32) (a2 : Int32) (hk7 : ∀ (a1 : Int32) (M : e_Me), x_X G 244 0 0 x_rim 7 [some (.ref 182), some (.int a1), none, none] [] M (k7 a1 M)) : ∀ (F : Nat) (a3 : Int32) (M : e_Me), x_X G 244 0 0 x_rim 36 [some (.ref 182), some (.int a1), some (.int a2), some (.int a3)] [] M (md_letOut_l36 k7 a1 a2 F a3 M) := by
  intro F
  induction F with
  | zero => intro a3 M; exact xr_none
  | succ F ih =>
    intro a3 M
    rw [md_letOut_l36]
    refine xr_1 f_244_36 rfl ?_
    refine xr_2 f_244_37 rfl ?_
    refine xr_30r f_244_38 h_182 rfl ?_
    refine xr_1 f_244_41 rfl ?_
    refine xr_32 f_244_42 h_184 ?_
    intro x1
    refine xr_29_3 f_244_43 ?_ ?_
    · refine xr_wk (L' := [some (.ref 182), some (.int a1), some (.int a2), none]) [true, true, true, false] rfl ?_
      exact c_md_letOut_b70 k7 a1 a2 M hk7
    · refine xr_2 f_244_46 rfl ?_
      refine xr_30r f_244_47 h_182 rfl ?_
      refine xr_2 f_244_50 rfl ?_
      refine xr_30r f_244_51 h_182 rfl ?_
      refine xr_0 f_244_54 ?_
      refine xr_1 f_244_56 rfl ?_
      refine xr_10 f_244_57 ?_
      refine xr_1 f_244_58 rfl ?_
      refine xr_8 f_244_59 ?_
      refine xr_32 f_244_60 h_183 ?_
      intro x2
      refine xr_0 f_244_61 ?_
      refine xr_33 f_244_63 h_189 ?_
      intro M3
      refine xr_7 [some (.ref 182), some (.int a1), some (.int a2), some (.int (a3 + (1 : Int32)))] f_244_64 rfl rfl rfl ?_
      refine xr_27 f_244_67 ?_
      exact ih (a3 + (1 : Int32)) M3

def md_letOut_l7   : Nat → Int32 → e_Me → Option (Int32 × e_Me)
  | 0, _, _ => none
  | F + 1, a1, M =>
    x_bd (md_atPlace (0 : Int32) M) fun x1 =>
    x_rd (M 184) 30 x1 fun x2 =>
    if x2 ≤ 0 then
      some (a1, M)
    else
      x_bd (md_atPlace (0 : Int32) M) fun x3 =>
      x_bd (md_personsIn x3 M) fun x4 =>
      x_lt (a1 + x4) fun y5 =>
      md_letOut_l36 (md_letOut_l7  F) y5 x3 e_F (0 : Int32) M
theorem c_md_letOut_l7    : ∀ (F : Nat) (a1 : Int32) (M : e_Me), x_X G 244 0 0 x_rim 7 [some (.ref 182), some (.int a1), none, none] [] M (md_letOut_l7  F a1 M) := by
  intro F
  induction F with
  | zero => intro a1 M; exact xr_none
  | succ F ih =>
    intro a1 M
    rw [md_letOut_l7]
    refine xr_2 f_244_7 rfl ?_
    refine xr_30r f_244_8 h_182 rfl ?_
    refine xr_2 f_244_11 rfl ?_
    refine xr_0 f_244_12 ?_
    refine xr_ci f_244_13 (Nat.le_of_ble_eq_true rfl) rfl rfl (xr_rv kd_203 h_182) (Nat.le_of_ble_eq_true rfl) mc_203 ms_203 (c_md_atPlace (0 : Int32) M) ?_
    intro x1
    refine xr_32 f_244_16 h_184 ?_
    intro x2
    refine xr_28_5 f_244_17 ?_ ?_
    · refine xr_1 f_244_92 rfl ?_
      exact xr_51m f_244_93
    · refine xr_2 f_244_20 rfl ?_
      refine xr_0 f_244_21 ?_
      refine xr_ci f_244_22 (Nat.le_of_ble_eq_true rfl) rfl rfl (xr_rv kd_203 h_182) (Nat.le_of_ble_eq_true rfl) mc_203 ms_203 (c_md_atPlace (0 : Int32) M) ?_
      intro x3
      refine xr_4 [some (.ref 182), some (.int a1), some (.int x3), none] f_244_25 rfl rfl ?_
      refine xr_1 f_244_26 rfl ?_
      refine xr_2 f_244_27 rfl ?_
      refine xr_1 f_244_28 rfl ?_
      refine xr_ci f_244_29 (Nat.le_of_ble_eq_true rfl) rfl rfl (xr_rv kd_204 h_182) (Nat.le_of_ble_eq_true rfl) mc_204 ms_204 (c_md_personsIn x3 M) ?_
      intro x4
      refine xr_8 f_244_32 ?_
      refine xr_4l (fun y5 => [some (.ref 182), some (.int y5), some (.int x3), none]) f_244_33 rfl (fun _ => rfl) ?_
      intro y5
      refine xr_0 f_244_34 ?_
      refine xr_4 [some (.ref 182), some (.int y5), some (.int x3), some (.int (0 : Int32))] f_244_35 rfl rfl ?_
      exact c_md_letOut_l36 (md_letOut_l7  F) y5 x3 ih e_F (0 : Int32) M

def md_letOut  (M : e_Me) : Option (Int32 × e_Me) :=
  x_bi (md_rollOn M) fun x1 M2 =>
  md_letOut_l7  e_F (0 : Int32) M2
theorem c_md_letOut  (M : e_Me) : x_C G 244 [.ref 182] M x_rim (md_letOut  M) := by
  refine x_C_of 4 [some (.ref 182), none, none, none] (by decide) ml_244 (Nat.le_of_ble_eq_true rfl) rfl ?_
  rw [md_letOut]
  refine xr_0 f_244_0 ?_
  refine xr_4 [some (.ref 182), some (.int (0 : Int32)), none, none] f_244_1 rfl rfl ?_
  refine xr_2 f_244_2 rfl ?_
  refine xr_cim f_244_3 (Nat.le_of_ble_eq_true rfl) rfl rfl (xr_rv kd_242 h_182) (Nat.le_of_ble_eq_true rfl) mc_242 ms_242 (c_md_rollOn M) ?_
  intro x1 M2
  refine xr_26i f_244_6 ?_
  exact c_md_letOut_l7 e_F (0 : Int32) M2

def md_stranded_l94  (a2 : Int32) : Nat → Int32 → e_Me → Option (Int32 × e_Me)
  | 0, _, _ => none
  | F + 1, a3, M =>
    if (M 182 0) ≤ a3 then
      some (a2, M)
    else
      x_rd (M 193) 30 a3 fun x1 =>
      x_wr M 185 30 a3 x1 fun M2 =>
      md_stranded_l94 a2 F (a3 + (1 : Int32)) M2
theorem c_md_stranded_l94  (a2 : Int32)  : ∀ (F : Nat) (a3 : Int32) (M : e_Me), x_X G 245 0 0 x_rim 94 [some (.ref 182), none, some (.int a2), some (.int a3)] [] M (md_stranded_l94 a2 F a3 M) := by
  intro F
  induction F with
  | zero => intro a3 M; exact xr_none
  | succ F ih =>
    intro a3 M
    rw [md_stranded_l94]
    refine xr_1 f_245_94 rfl ?_
    refine xr_2 f_245_95 rfl ?_
    refine xr_30i f_245_96 h_182 rfl ?_
    refine xr_29_3 f_245_99 ?_ ?_
    · refine xr_1 f_245_120 rfl ?_
      exact xr_51m f_245_121
    · refine xr_2 f_245_102 rfl ?_
      refine xr_30r f_245_103 h_182 rfl ?_
      refine xr_1 f_245_106 rfl ?_
      refine xr_2 f_245_107 rfl ?_
      refine xr_30r f_245_108 h_182 rfl ?_
      refine xr_1 f_245_111 rfl ?_
      refine xr_32 f_245_112 h_193 ?_
      intro x1
      refine xr_33 f_245_113 h_185 ?_
      intro M2
      refine xr_7 [some (.ref 182), none, some (.int a2), some (.int (a3 + (1 : Int32)))] f_245_114 rfl rfl rfl ?_
      refine xr_27 f_245_117 ?_
      exact ih (a3 + (1 : Int32)) M2

def md_stranded_b87  (a1 : Int32) (a2 : Int32) (M : e_Me) : Option (Int32 × e_Me) :=
  x_lt (e_up M 182 1 a1) fun M1 =>
  md_stranded_l94 a2 e_F (0 : Int32) M1
theorem c_md_stranded_b87  (a1 : Int32) (a2 : Int32) (M : e_Me)  : x_X G 245 0 0 x_rim 87 [some (.ref 182), some (.int a1), some (.int a2), none] [] M (md_stranded_b87 a1 a2 M) := by
  rw [md_stranded_b87]
  refine xr_2 f_245_87 rfl ?_
  refine xr_1 f_245_88 rfl ?_
  refine xr_31 f_245_89 h_182 rfl ?_
  intro M1
  refine xr_0 f_245_92 ?_
  refine xr_4 [some (.ref 182), some (.int a1), some (.int a2), some (.int (0 : Int32))] f_245_93 rfl rfl ?_
  refine xr_wk (L' := [some (.ref 182), none, some (.int a2), some (.int (0 : Int32))]) [true, false, true, true] rfl ?_
  exact c_md_stranded_l94 a2 e_F (0 : Int32) M1

def md_stranded_l43  (a1 : Int32) : Nat → Int32 → e_Me → Option (Int32 × e_Me)
  | 0, _, _ => none
  | F + 1, a2, M =>
    x_bd (md_atPlace (0 : Int32) M) fun x1 =>
    x_rd (M 185) 30 x1 fun x2 =>
    if x2 ≤ 0 then
      md_stranded_b87 a1 a2 M
    else
      x_bd (md_atPlace (0 : Int32) M) fun x3 =>
      x_bd (md_personsIn x3 M) fun x4 =>
      x_lt (a2 - x4) fun y5 =>
      x_bd (md_atPlace (0 : Int32) M) fun x6 =>
      x_wr M 185 30 x6 (0 : Int32) fun M7 =>
      x_bi (md_rollOn M7) fun x8 M9 =>
      md_stranded_l43 a1 F y5 M9
theorem c_md_stranded_l43  (a1 : Int32)  : ∀ (F : Nat) (a2 : Int32) (M : e_Me), x_X G 245 0 0 x_rim 43 [some (.ref 182), some (.int a1), some (.int a2), none] [] M (md_stranded_l43 a1 F a2 M) := by
  intro F
  induction F with
  | zero => intro a2 M; exact xr_none
  | succ F ih =>
    intro a2 M
    rw [md_stranded_l43]
    refine xr_2 f_245_43 rfl ?_
    refine xr_30r f_245_44 h_182 rfl ?_
    refine xr_2 f_245_47 rfl ?_
    refine xr_0 f_245_48 ?_
    refine xr_ci f_245_49 (Nat.le_of_ble_eq_true rfl) rfl rfl (xr_rv kd_203 h_182) (Nat.le_of_ble_eq_true rfl) mc_203 ms_203 (c_md_atPlace (0 : Int32) M) ?_
    intro x1
    refine xr_32 f_245_52 h_185 ?_
    intro x2
    refine xr_28_5 f_245_53 ?_ ?_
    · exact c_md_stranded_b87 a1 a2 M
    · refine xr_1 f_245_56 rfl ?_
      refine xr_2 f_245_57 rfl ?_
      refine xr_2 f_245_58 rfl ?_
      refine xr_0 f_245_59 ?_
      refine xr_ci f_245_60 (Nat.le_of_ble_eq_true rfl) rfl rfl (xr_rv kd_203 h_182) (Nat.le_of_ble_eq_true rfl) mc_203 ms_203 (c_md_atPlace (0 : Int32) M) ?_
      intro x3
      refine xr_ci f_245_63 (Nat.le_of_ble_eq_true rfl) rfl rfl (xr_rv kd_204 h_182) (Nat.le_of_ble_eq_true rfl) mc_204 ms_204 (c_md_personsIn x3 M) ?_
      intro x4
      refine xr_9 f_245_66 ?_
      refine xr_4l (fun y5 => [some (.ref 182), some (.int a1), some (.int y5), none]) f_245_67 rfl (fun _ => rfl) ?_
      intro y5
      refine xr_2 f_245_68 rfl ?_
      refine xr_30r f_245_69 h_182 rfl ?_
      refine xr_2 f_245_72 rfl ?_
      refine xr_0 f_245_73 ?_
      refine xr_ci f_245_74 (Nat.le_of_ble_eq_true rfl) rfl rfl (xr_rv kd_203 h_182) (Nat.le_of_ble_eq_true rfl) mc_203 ms_203 (c_md_atPlace (0 : Int32) M) ?_
      intro x6
      refine xr_0 f_245_77 ?_
      refine xr_33 f_245_78 h_185 ?_
      intro M7
      refine xr_2 f_245_79 rfl ?_
      refine xr_cim f_245_80 (Nat.le_of_ble_eq_true rfl) rfl rfl (xr_rv kd_242 h_182) (Nat.le_of_ble_eq_true rfl) mc_242 ms_242 (c_md_rollOn M7) ?_
      intro x8 M9
      refine xr_26i f_245_83 ?_
      refine xr_27 f_245_84 ?_
      exact ih y5 M9

def md_stranded_b38  (a1 : Int32) (a2 : Int32) (M : e_Me) : Option (Int32 × e_Me) :=
  x_bi (md_rollOn M) fun x1 M2 =>
  md_stranded_l43 a1 e_F a2 M2
theorem c_md_stranded_b38  (a1 : Int32) (a2 : Int32) (M : e_Me)  : x_X G 245 0 0 x_rim 38 [some (.ref 182), some (.int a1), some (.int a2), none] [] M (md_stranded_b38 a1 a2 M) := by
  rw [md_stranded_b38]
  refine xr_2 f_245_38 rfl ?_
  refine xr_cim f_245_39 (Nat.le_of_ble_eq_true rfl) rfl rfl (xr_rv kd_242 h_182) (Nat.le_of_ble_eq_true rfl) mc_242 ms_242 (c_md_rollOn M) ?_
  intro x1 M2
  refine xr_26i f_245_42 ?_
  exact c_md_stranded_l43 a1 e_F a2 M2

def md_stranded_l12  (a1 : Int32) (a2 : Int32) : Nat → Int32 → e_Me → Option (Int32 × e_Me)
  | 0, _, _ => none
  | F + 1, a3, M =>
    if (M 182 0) ≤ a3 then
      md_stranded_b38 a1 a2 M
    else
      x_rd (M 185) 30 a3 fun x1 =>
      x_wr M 193 30 a3 x1 fun M2 =>
      md_stranded_l12 a1 a2 F (a3 + (1 : Int32)) M2
theorem c_md_stranded_l12  (a1 : Int32) (a2 : Int32)  : ∀ (F : Nat) (a3 : Int32) (M : e_Me), x_X G 245 0 0 x_rim 12 [some (.ref 182), some (.int a1), some (.int a2), some (.int a3)] [] M (md_stranded_l12 a1 a2 F a3 M) := by
  intro F
  induction F with
  | zero => intro a3 M; exact xr_none
  | succ F ih =>
    intro a3 M
    rw [md_stranded_l12]
    refine xr_1 f_245_12 rfl ?_
    refine xr_2 f_245_13 rfl ?_
    refine xr_30i f_245_14 h_182 rfl ?_
    refine xr_29_3 f_245_17 ?_ ?_
    · refine xr_wk (L' := [some (.ref 182), some (.int a1), some (.int a2), none]) [true, true, true, false] rfl ?_
      exact c_md_stranded_b38 a1 a2 M
    · refine xr_2 f_245_20 rfl ?_
      refine xr_30r f_245_21 h_182 rfl ?_
      refine xr_1 f_245_24 rfl ?_
      refine xr_2 f_245_25 rfl ?_
      refine xr_30r f_245_26 h_182 rfl ?_
      refine xr_1 f_245_29 rfl ?_
      refine xr_32 f_245_30 h_185 ?_
      intro x1
      refine xr_33 f_245_31 h_193 ?_
      intro M2
      refine xr_7 [some (.ref 182), some (.int a1), some (.int a2), some (.int (a3 + (1 : Int32)))] f_245_32 rfl rfl rfl ?_
      refine xr_27 f_245_35 ?_
      exact ih (a3 + (1 : Int32)) M2

def md_stranded  (M : e_Me) : Option (Int32 × e_Me) :=
  x_lt (M 182 1) fun y1 =>
  x_bd (md_upNow M) fun x2 =>
  md_stranded_l12 y1 x2 e_F (0 : Int32) M
theorem c_md_stranded  (M : e_Me) : x_C G 245 [.ref 182] M x_rim (md_stranded  M) := by
  refine x_C_of 4 [some (.ref 182), none, none, none] (by decide) ml_245 (Nat.le_of_ble_eq_true rfl) rfl ?_
  rw [md_stranded]
  refine xr_2 f_245_0 rfl ?_
  refine xr_30i f_245_1 h_182 rfl ?_
  refine xr_4l (fun y1 => [some (.ref 182), some (.int y1), none, none]) f_245_4 rfl (fun _ => rfl) ?_
  intro y1
  refine xr_2 f_245_5 rfl ?_
  refine xr_ci f_245_6 (Nat.le_of_ble_eq_true rfl) rfl rfl (xr_rv kd_205 h_182) (Nat.le_of_ble_eq_true rfl) mc_205 ms_205 (c_md_upNow M) ?_
  intro x2
  refine xr_4 [some (.ref 182), some (.int y1), some (.int x2), none] f_245_9 rfl rfl ?_
  refine xr_0 f_245_10 ?_
  refine xr_4 [some (.ref 182), some (.int y1), some (.int x2), some (.int (0 : Int32))] f_245_11 rfl rfl ?_
  exact c_md_stranded_l12 y1 x2 e_F (0 : Int32) M

def md_note_b27  (a1 : Int32) (a2 : Int32) (s0 : Int64) (s1 : Int64) (s2 : Int64) (M : e_Me) : Option (Int32 × e_Me) :=
  x_bd (md_in s2 s1 s0 M) fun x1 =>
  if x1 = 0 then
    some ((-102 : Int32), M)
  else
    if (M 182 31) = (40 : Int32) then
      some ((-104 : Int32), M)
    else
      x_wr M 197 40 (M 182 31) a1 fun M2 =>
      x_wr M2 198 40 (M2 182 31) a2 fun M3 =>
      x_lt (e_up M3 182 31 ((M3 182 31) + (1 : Int32))) fun M4 =>
      some ((M4 182 31), M4)
theorem c_md_note_b27  (a1 : Int32) (a2 : Int32) (s0 : Int64) (s1 : Int64) (s2 : Int64) (M : e_Me)  : x_X G 246 0 0 x_rim 27 [some (.ref 182), some (.int a1), some (.int a2)] [.long s0, .long s1, .long s2] M (md_note_b27 a1 a2 s0 s1 s2 M) := by
  rw [md_note_b27]
  refine xr_ci f_246_27 (Nat.le_of_ble_eq_true rfl) rfl rfl (xr_rs kd_193) (Nat.le_of_ble_eq_true rfl) mc_193 ms_193 (c_md_in s2 s1 s0 M) ?_
  intro x1
  refine xr_28_1 f_246_30 ?_ ?_
  · refine xr_2 f_246_36 rfl ?_
    refine xr_30i f_246_37 h_182 rfl ?_
    refine xr_0 f_246_40 ?_
    refine xr_29_1 f_246_42 ?_ ?_
    · refine xr_2 f_246_48 rfl ?_
      refine xr_30r f_246_49 h_182 rfl ?_
      refine xr_2 f_246_52 rfl ?_
      refine xr_30i f_246_53 h_182 rfl ?_
      refine xr_1 f_246_56 rfl ?_
      refine xr_33 f_246_57 h_197 ?_
      intro M2
      refine xr_2 f_246_58 rfl ?_
      refine xr_30r f_246_59 h_182 rfl ?_
      refine xr_2 f_246_62 rfl ?_
      refine xr_30i f_246_63 h_182 rfl ?_
      refine xr_1 f_246_66 rfl ?_
      refine xr_33 f_246_67 h_198 ?_
      intro M3
      refine xr_2 f_246_68 rfl ?_
      refine xr_24r f_246_69 ?_
      refine xr_30i f_246_70 h_182 rfl ?_
      refine xr_0 f_246_73 ?_
      refine xr_8 f_246_74 ?_
      refine xr_31 f_246_75 h_182 rfl ?_
      intro M4
      refine xr_2 f_246_78 rfl ?_
      refine xr_30i f_246_79 h_182 rfl ?_
      exact xr_51m f_246_82
    · refine xr_0 f_246_45 ?_
      exact xr_51m f_246_47
  · refine xr_0 f_246_33 ?_
    exact xr_51m f_246_35

def md_note (a1 : Int32) (a2 : Int32) (M : e_Me) : Option (Int32 × e_Me) :=
  x_bd (md_in (a1).toInt64 ((0 : Int32)).toInt64 ((2 : Int32)).toInt64 M) fun x1 =>
  if x1 = 0 then
    some ((-102 : Int32), M)
  else
    if a1 = (2 : Int32) then
      md_note_b27 a1 a2 ((0 : Int32)).toInt64 ((0 : Int32)).toInt64 (a2).toInt64 M
    else
      md_note_b27 a1 a2 ((36 : Int32)).toInt64 ((0 : Int32)).toInt64 (a2).toInt64 M
theorem c_md_note (a1 : Int32) (a2 : Int32) (M : e_Me) : x_C G 246 [.ref 182, .int a1, .int a2] M x_rim (md_note a1 a2 M) := by
  refine x_C_of 3 [some (.ref 182), some (.int a1), some (.int a2)] (by decide) ml_246 (Nat.le_of_ble_eq_true rfl) rfl ?_
  rw [md_note]
  refine xr_1 f_246_0 rfl ?_
  refine xr_19 f_246_1 ?_
  refine xr_23 f_246_2 ?_
  refine xr_23 f_246_3 ?_
  refine xr_ci f_246_6 (Nat.le_of_ble_eq_true rfl) rfl rfl (xr_rs kd_193) (Nat.le_of_ble_eq_true rfl) mc_193 ms_193 (c_md_in (a1).toInt64 ((0 : Int32)).toInt64 ((2 : Int32)).toInt64 M) ?_
  intro x1
  refine xr_28_0 f_246_9 ?_ ?_
  · refine xr_0 f_246_33 ?_
    exact xr_51m f_246_35
  · refine xr_1 f_246_12 rfl ?_
    refine xr_19 f_246_13 ?_
    refine xr_23 f_246_14 ?_
    refine xr_1 f_246_15 rfl ?_
    refine xr_0 f_246_16 ?_
    refine xr_29_1 f_246_17 ?_ ?_
    · refine xr_23 f_246_24 ?_
      exact c_md_note_b27 a1 a2 ((36 : Int32)).toInt64 ((0 : Int32)).toInt64 (a2).toInt64 M
    · refine xr_23 f_246_20 ?_
      refine xr_27 f_246_21 ?_
      exact c_md_note_b27 a1 a2 ((0 : Int32)).toInt64 ((0 : Int32)).toInt64 (a2).toInt64 M

def md_follow_b30 (k10 : Int32 → e_Me → Option e_Me) (a1 : Int32) (a2 : Int32) (a3 : Int32) (s0 : Int32) (s1 : Int32) (M : e_Me) : Option e_Me :=
  x_wr M 199 181 s1 (s0 &&& 1) fun M1 =>
  k10 (a3 + (1 : Int32)) M1
theorem c_md_follow_b30 (k10 : Int32 → e_Me → Option e_Me) (a1 : Int32) (a2 : Int32) (a3 : Int32) (s0 : Int32) (s1 : Int32) (M : e_Me) (hk10 : ∀ (a3 : Int32) (M : e_Me), x_X G 247 0 0 x_rv 10 [some (.ref 182), some (.int a1), some (.int a2), some (.int a3), none, none, none, none] [] M (k10 a3 M)) : x_X G 247 0 0 x_rv 30 [some (.ref 182), some (.int a1), some (.int a2), some (.int a3), none, none, none, none] [.int s0, .int s1, .ref 199] M (md_follow_b30 k10 a1 a2 a3 s0 s1 M) := by
  rw [md_follow_b30]
  refine xr_35 f_247_30 h_199 ?_
  intro M1
  refine xr_7 [some (.ref 182), some (.int a1), some (.int a2), some (.int (a3 + (1 : Int32))), none, none, none, none] f_247_31 rfl rfl rfl ?_
  refine xr_27 f_247_34 ?_
  exact hk10 (a3 + (1 : Int32)) M1

def md_follow_b185 (k39 : Int32 → e_Me → Option e_Me) (k111 : Int32 → e_Me → Option e_Me) (k129 : Int32 → e_Me → Option e_Me) (a2 : Int32) (a3 : Int32) (a4 : Int32) (a5 : Int32) (a6 : Int32) (a7 : Int32) (s0 : Int32) (s1 : Int32) (M : e_Me) : Option e_Me :=
  x_wr M 200 181 s1 (s0 &&& 1) fun M1 =>
  k129 (a7 + (1 : Int32)) M1
theorem c_md_follow_b185 (k39 : Int32 → e_Me → Option e_Me) (k111 : Int32 → e_Me → Option e_Me) (k129 : Int32 → e_Me → Option e_Me) (a2 : Int32) (a3 : Int32) (a4 : Int32) (a5 : Int32) (a6 : Int32) (a7 : Int32) (s0 : Int32) (s1 : Int32) (M : e_Me) (hk39 : ∀ (a3 : Int32) (M : e_Me), x_X G 247 0 0 x_rv 39 [some (.ref 182), none, some (.int a2), some (.int a3), none, none, none, none] [] M (k39 a3 M)) (hk111 : ∀ (a6 : Int32) (M : e_Me), x_X G 247 0 0 x_rv 111 [some (.ref 182), none, some (.int a2), some (.int a3), some (.int a4), some (.int a5), some (.int a6), none] [] M (k111 a6 M)) (hk129 : ∀ (a7 : Int32) (M : e_Me), x_X G 247 0 0 x_rv 129 [some (.ref 182), none, some (.int a2), some (.int a3), some (.int a4), some (.int a5), some (.int a6), some (.int a7)] [] M (k129 a7 M)) : x_X G 247 0 0 x_rv 185 [some (.ref 182), none, some (.int a2), some (.int a3), some (.int a4), some (.int a5), some (.int a6), some (.int a7)] [.int s0, .int s1, .ref 200] M (md_follow_b185 k39 k111 k129 a2 a3 a4 a5 a6 a7 s0 s1 M) := by
  rw [md_follow_b185]
  refine xr_35 f_247_185 h_200 ?_
  intro M1
  refine xr_7 [some (.ref 182), none, some (.int a2), some (.int a3), some (.int a4), some (.int a5), some (.int a6), some (.int (a7 + (1 : Int32)))] f_247_186 rfl rfl rfl ?_
  refine xr_27 f_247_189 ?_
  exact hk129 (a7 + (1 : Int32)) M1

def md_follow_l129 (k39 : Int32 → e_Me → Option e_Me) (k111 : Int32 → e_Me → Option e_Me) (a2 : Int32) (a3 : Int32) (a4 : Int32) (a5 : Int32) (a6 : Int32) : Nat → Int32 → e_Me → Option e_Me
  | 0, _, _ => none
  | F + 1, a7, M =>
    if a5 < a7 then
      k111 (a6 + (1 : Int32)) M
    else
      x_rd (M 200) 181 a6 fun x1 =>
      if x1 = 0 then
        x_bd (md_in ((a6 - a7)).toInt64 ((0 : Int32)).toInt64 (a2).toInt64 M) fun x2 =>
        if x2 = 0 then
          md_follow_b185 k39 k111 (md_follow_l129 k39 k111 a2 a3 a4 a5 a6 F) a2 a3 a4 a5 a6 a7 (0 : Int32) a6 M
        else
          x_rd (M 199) 181 (a6 - a7) fun x3 =>
          if x3 = 0 then
            md_follow_b185 k39 k111 (md_follow_l129 k39 k111 a2 a3 a4 a5 a6 F) a2 a3 a4 a5 a6 a7 (0 : Int32) a6 M
          else
            md_follow_b185 k39 k111 (md_follow_l129 k39 k111 a2 a3 a4 a5 a6 F) a2 a3 a4 a5 a6 a7 (1 : Int32) a6 M
      else
        md_follow_b185 k39 k111 (md_follow_l129 k39 k111 a2 a3 a4 a5 a6 F) a2 a3 a4 a5 a6 a7 (1 : Int32) a6 M
theorem c_md_follow_l129 (k39 : Int32 → e_Me → Option e_Me) (k111 : Int32 → e_Me → Option e_Me) (a2 : Int32) (a3 : Int32) (a4 : Int32) (a5 : Int32) (a6 : Int32) (hk39 : ∀ (a3 : Int32) (M : e_Me), x_X G 247 0 0 x_rv 39 [some (.ref 182), none, some (.int a2), some (.int a3), none, none, none, none] [] M (k39 a3 M)) (hk111 : ∀ (a6 : Int32) (M : e_Me), x_X G 247 0 0 x_rv 111 [some (.ref 182), none, some (.int a2), some (.int a3), some (.int a4), some (.int a5), some (.int a6), none] [] M (k111 a6 M)) : ∀ (F : Nat) (a7 : Int32) (M : e_Me), x_X G 247 0 0 x_rv 129 [some (.ref 182), none, some (.int a2), some (.int a3), some (.int a4), some (.int a5), some (.int a6), some (.int a7)] [] M (md_follow_l129 k39 k111 a2 a3 a4 a5 a6 F a7 M) := by
  intro F
  induction F with
  | zero => intro a7 M; exact xr_none
  | succ F ih =>
    intro a7 M
    rw [md_follow_l129]
    refine xr_1 f_247_129 rfl ?_
    refine xr_1 f_247_131 rfl ?_
    refine xr_29_4 f_247_133 ?_ ?_
    · refine xr_7 [some (.ref 182), none, some (.int a2), some (.int a3), some (.int a4), some (.int a5), some (.int (a6 + (1 : Int32))), some (.int a7)] f_247_192 rfl rfl rfl ?_
      refine xr_27 f_247_195 ?_
      refine xr_wk (L' := [some (.ref 182), none, some (.int a2), some (.int a3), some (.int a4), some (.int a5), some (.int (a6 + (1 : Int32))), none]) [true, true, true, true, true, true, true, false] rfl ?_
      exact hk111 (a6 + (1 : Int32)) M
    · refine xr_2 f_247_136 rfl ?_
      refine xr_30r f_247_137 h_182 rfl ?_
      refine xr_1 f_247_140 rfl ?_
      refine xr_2 f_247_142 rfl ?_
      refine xr_30r f_247_143 h_182 rfl ?_
      refine xr_1 f_247_146 rfl ?_
      refine xr_34 f_247_148 h_200 ?_
      intro x1
      refine xr_28_1 f_247_149 ?_ ?_
      · refine xr_0 f_247_180 ?_
        refine xr_27 f_247_181 ?_
        exact c_md_follow_b185 k39 k111 (md_follow_l129 k39 k111 a2 a3 a4 a5 a6 F) a2 a3 a4 a5 a6 a7 (1 : Int32) a6 M hk39 hk111 ih
      · refine xr_1 f_247_152 rfl ?_
        refine xr_1 f_247_154 rfl ?_
        refine xr_9 f_247_156 ?_
        refine xr_19 f_247_157 ?_
        refine xr_23 f_247_158 ?_
        refine xr_1 f_247_159 rfl ?_
        refine xr_19 f_247_160 ?_
        refine xr_ci f_247_161 (Nat.le_of_ble_eq_true rfl) rfl rfl (xr_rs kd_193) (Nat.le_of_ble_eq_true rfl) mc_193 ms_193 (c_md_in ((a6 - a7)).toInt64 ((0 : Int32)).toInt64 (a2).toInt64 M) ?_
        intro x2
        refine xr_28_0 f_247_164 ?_ ?_
        · refine xr_0 f_247_184 ?_
          exact c_md_follow_b185 k39 k111 (md_follow_l129 k39 k111 a2 a3 a4 a5 a6 F) a2 a3 a4 a5 a6 a7 (0 : Int32) a6 M hk39 hk111 ih
        · refine xr_2 f_247_167 rfl ?_
          refine xr_30r f_247_168 h_182 rfl ?_
          refine xr_1 f_247_171 rfl ?_
          refine xr_1 f_247_173 rfl ?_
          refine xr_9 f_247_175 ?_
          refine xr_34 f_247_176 h_199 ?_
          intro x3
          refine xr_28_0 f_247_177 ?_ ?_
          · refine xr_0 f_247_184 ?_
            exact c_md_follow_b185 k39 k111 (md_follow_l129 k39 k111 a2 a3 a4 a5 a6 F) a2 a3 a4 a5 a6 a7 (0 : Int32) a6 M hk39 hk111 ih
          · refine xr_0 f_247_180 ?_
            refine xr_27 f_247_181 ?_
            exact c_md_follow_b185 k39 k111 (md_follow_l129 k39 k111 a2 a3 a4 a5 a6 F) a2 a3 a4 a5 a6 a7 (1 : Int32) a6 M hk39 hk111 ih

def md_follow_l201 (k39 : Int32 → e_Me → Option e_Me) (a2 : Int32) (a3 : Int32) : Nat → Int32 → e_Me → Option e_Me
  | 0, _, _ => none
  | F + 1, a6, M =>
    if a2 < a6 then
      k39 (a3 + (1 : Int32)) M
    else
      x_rd (M 200) 181 a6 fun x1 =>
      x_wr M 199 181 a6 (x1 &&& 1) fun M2 =>
      md_follow_l201 k39 a2 a3 F (a6 + (1 : Int32)) M2
theorem c_md_follow_l201 (k39 : Int32 → e_Me → Option e_Me) (a2 : Int32) (a3 : Int32) (hk39 : ∀ (a3 : Int32) (M : e_Me), x_X G 247 0 0 x_rv 39 [some (.ref 182), none, some (.int a2), some (.int a3), none, none, none, none] [] M (k39 a3 M)) : ∀ (F : Nat) (a6 : Int32) (M : e_Me), x_X G 247 0 0 x_rv 201 [some (.ref 182), none, some (.int a2), some (.int a3), none, none, some (.int a6), none] [] M (md_follow_l201 k39 a2 a3 F a6 M) := by
  intro F
  induction F with
  | zero => intro a6 M; exact xr_none
  | succ F ih =>
    intro a6 M
    rw [md_follow_l201]
    refine xr_1 f_247_201 rfl ?_
    refine xr_1 f_247_203 rfl ?_
    refine xr_29_4 f_247_204 ?_ ?_
    · refine xr_7 [some (.ref 182), none, some (.int a2), some (.int (a3 + (1 : Int32))), none, none, some (.int a6), none] f_247_227 rfl rfl rfl ?_
      refine xr_27 f_247_230 ?_
      refine xr_wk (L' := [some (.ref 182), none, some (.int a2), some (.int (a3 + (1 : Int32))), none, none, none, none]) [true, true, true, true, true, true, false, true] rfl ?_
      exact hk39 (a3 + (1 : Int32)) M
    · refine xr_2 f_247_207 rfl ?_
      refine xr_30r f_247_208 h_182 rfl ?_
      refine xr_1 f_247_211 rfl ?_
      refine xr_2 f_247_213 rfl ?_
      refine xr_30r f_247_214 h_182 rfl ?_
      refine xr_1 f_247_217 rfl ?_
      refine xr_34 f_247_219 h_200 ?_
      intro x1
      refine xr_35 f_247_220 h_199 ?_
      intro M2
      refine xr_7 [some (.ref 182), none, some (.int a2), some (.int a3), none, none, some (.int (a6 + (1 : Int32))), none] f_247_221 rfl rfl rfl ?_
      refine xr_27 f_247_224 ?_
      exact ih (a6 + (1 : Int32)) M2

def md_follow_l111 (k39 : Int32 → e_Me → Option e_Me) (a2 : Int32) (a3 : Int32) (a4 : Int32) (a5 : Int32) : Nat → Int32 → e_Me → Option e_Me
  | 0, _, _ => none
  | F + 1, a6, M =>
    if a2 < a6 then
      md_follow_l201 k39 a2 a3 e_F (0 : Int32) M
    else
      x_wr M 200 181 a6 ((0 : Int32) &&& 1) fun M1 =>
      md_follow_l129 k39 (md_follow_l111 k39 a2 a3 a4 a5 F) a2 a3 a4 a5 a6 e_F a4 M1
theorem c_md_follow_l111 (k39 : Int32 → e_Me → Option e_Me) (a2 : Int32) (a3 : Int32) (a4 : Int32) (a5 : Int32) (hk39 : ∀ (a3 : Int32) (M : e_Me), x_X G 247 0 0 x_rv 39 [some (.ref 182), none, some (.int a2), some (.int a3), none, none, none, none] [] M (k39 a3 M)) : ∀ (F : Nat) (a6 : Int32) (M : e_Me), x_X G 247 0 0 x_rv 111 [some (.ref 182), none, some (.int a2), some (.int a3), some (.int a4), some (.int a5), some (.int a6), none] [] M (md_follow_l111 k39 a2 a3 a4 a5 F a6 M) := by
  intro F
  induction F with
  | zero => intro a6 M; exact xr_none
  | succ F ih =>
    intro a6 M
    rw [md_follow_l111]
    refine xr_1 f_247_111 rfl ?_
    refine xr_1 f_247_113 rfl ?_
    refine xr_29_4 f_247_114 ?_ ?_
    · refine xr_0 f_247_198 ?_
      refine xr_4 [some (.ref 182), none, some (.int a2), some (.int a3), some (.int a4), some (.int a5), some (.int (0 : Int32)), none] f_247_199 rfl rfl ?_
      refine xr_wk (L' := [some (.ref 182), none, some (.int a2), some (.int a3), none, none, some (.int (0 : Int32)), none]) [true, true, true, true, false, false, true, true] rfl ?_
      exact c_md_follow_l201 k39 a2 a3 hk39 e_F (0 : Int32) M
    · refine xr_2 f_247_117 rfl ?_
      refine xr_30r f_247_118 h_182 rfl ?_
      refine xr_1 f_247_121 rfl ?_
      refine xr_0 f_247_123 ?_
      refine xr_35 f_247_124 h_200 ?_
      intro M1
      refine xr_1 f_247_125 rfl ?_
      refine xr_4 [some (.ref 182), none, some (.int a2), some (.int a3), some (.int a4), some (.int a5), some (.int a6), some (.int a4)] f_247_127 rfl rfl ?_
      exact c_md_follow_l129 k39 (md_follow_l111 k39 a2 a3 a4 a5 F) a2 a3 a4 a5 a6 hk39 ih e_F a4 M1

def md_follow_b87 (k39 : Int32 → e_Me → Option e_Me) (a2 : Int32) (a3 : Int32) (s0 : Int32) (M : e_Me) : Option e_Me :=
  x_rd (M 197) 40 a3 fun x1 =>
  if x1 = (2 : Int32) then
    md_follow_l111 k39 a2 a3 s0 (36 : Int32) e_F (0 : Int32) M
  else
    md_follow_l111 k39 a2 a3 s0 s0 e_F (0 : Int32) M
theorem c_md_follow_b87 (k39 : Int32 → e_Me → Option e_Me) (a2 : Int32) (a3 : Int32) (s0 : Int32) (M : e_Me) (hk39 : ∀ (a3 : Int32) (M : e_Me), x_X G 247 0 0 x_rv 39 [some (.ref 182), none, some (.int a2), some (.int a3), none, none, none, none] [] M (k39 a3 M)) : x_X G 247 0 0 x_rv 87 [some (.ref 182), none, some (.int a2), some (.int a3), none, none, none, none] [.int s0] M (md_follow_b87 k39 a2 a3 s0 M) := by
  rw [md_follow_b87]
  refine xr_4 [some (.ref 182), none, some (.int a2), some (.int a3), some (.int s0), none, none, none] f_247_87 rfl rfl ?_
  refine xr_2 f_247_89 rfl ?_
  refine xr_30r f_247_90 h_182 rfl ?_
  refine xr_1 f_247_93 rfl ?_
  refine xr_32 f_247_94 h_197 ?_
  intro x1
  refine xr_0 f_247_95 ?_
  refine xr_29_1 f_247_96 ?_ ?_
  · refine xr_1 f_247_104 rfl ?_
    refine xr_4 [some (.ref 182), none, some (.int a2), some (.int a3), some (.int s0), some (.int s0), none, none] f_247_106 rfl rfl ?_
    refine xr_0 f_247_108 ?_
    refine xr_4 [some (.ref 182), none, some (.int a2), some (.int a3), some (.int s0), some (.int s0), some (.int (0 : Int32)), none] f_247_109 rfl rfl ?_
    exact c_md_follow_l111 k39 a2 a3 s0 s0 hk39 e_F (0 : Int32) M
  · refine xr_0 f_247_99 ?_
    refine xr_27 f_247_101 ?_
    refine xr_4 [some (.ref 182), none, some (.int a2), some (.int a3), some (.int s0), some (.int (36 : Int32)), none, none] f_247_106 rfl rfl ?_
    refine xr_0 f_247_108 ?_
    refine xr_4 [some (.ref 182), none, some (.int a2), some (.int a3), some (.int s0), some (.int (36 : Int32)), some (.int (0 : Int32)), none] f_247_109 rfl rfl ?_
    exact c_md_follow_l111 k39 a2 a3 s0 (36 : Int32) hk39 e_F (0 : Int32) M

def md_follow_l39  (a2 : Int32) : Nat → Int32 → e_Me → Option e_Me
  | 0, _, _ => none
  | F + 1, a3, M =>
    if (M 182 31) ≤ a3 then
      some M
    else
      x_rd (M 197) 40 a3 fun x1 =>
      if x1 = 0 then
        x_rd (M 198) 40 a3 fun x4 =>
        md_follow_b87 (md_follow_l39 a2 F) a2 a3 x4 M
      else
        x_rd (M 197) 40 a3 fun x2 =>
        if x2 = (1 : Int32) then
          x_rd (M 198) 40 a3 fun x3 =>
          md_follow_b87 (md_follow_l39 a2 F) a2 a3 (-x3) M
        else
          md_follow_b87 (md_follow_l39 a2 F) a2 a3 (-36 : Int32) M
theorem c_md_follow_l39  (a2 : Int32)  : ∀ (F : Nat) (a3 : Int32) (M : e_Me), x_X G 247 0 0 x_rv 39 [some (.ref 182), none, some (.int a2), some (.int a3), none, none, none, none] [] M (md_follow_l39 a2 F a3 M) := by
  intro F
  induction F with
  | zero => intro a3 M; exact xr_none
  | succ F ih =>
    intro a3 M
    rw [md_follow_l39]
    refine xr_1 f_247_39 rfl ?_
    refine xr_2 f_247_40 rfl ?_
    refine xr_30i f_247_41 h_182 rfl ?_
    refine xr_29_3 f_247_44 ?_ ?_
    · exact xr_50 f_247_233
    · refine xr_2 f_247_47 rfl ?_
      refine xr_30r f_247_48 h_182 rfl ?_
      refine xr_1 f_247_51 rfl ?_
      refine xr_32 f_247_52 h_197 ?_
      intro x1
      refine xr_28_1 f_247_53 ?_ ?_
      · refine xr_2 f_247_65 rfl ?_
        refine xr_30r f_247_66 h_182 rfl ?_
        refine xr_1 f_247_69 rfl ?_
        refine xr_32 f_247_70 h_197 ?_
        intro x2
        refine xr_0 f_247_71 ?_
        refine xr_29_1 f_247_72 ?_ ?_
        · refine xr_0 f_247_85 ?_
          exact c_md_follow_b87 (md_follow_l39 a2 F) a2 a3 (-36 : Int32) M ih
        · refine xr_2 f_247_75 rfl ?_
          refine xr_30r f_247_76 h_182 rfl ?_
          refine xr_1 f_247_79 rfl ?_
          refine xr_32 f_247_80 h_198 ?_
          intro x3
          refine xr_11 f_247_81 ?_
          refine xr_27 f_247_82 ?_
          exact c_md_follow_b87 (md_follow_l39 a2 F) a2 a3 (-x3) M ih
      · refine xr_2 f_247_56 rfl ?_
        refine xr_30r f_247_57 h_182 rfl ?_
        refine xr_1 f_247_60 rfl ?_
        refine xr_32 f_247_61 h_198 ?_
        intro x4
        refine xr_27 f_247_62 ?_
        exact c_md_follow_b87 (md_follow_l39 a2 F) a2 a3 x4 M ih

def md_follow_l10  (a1 : Int32) (a2 : Int32) : Nat → Int32 → e_Me → Option e_Me
  | 0, _, _ => none
  | F + 1, a3, M =>
    if a2 < a3 then
      md_follow_l39 a2 e_F (0 : Int32) M
    else
      if a3 = a1 then
        md_follow_b30 (md_follow_l10 a1 a2 F) a1 a2 a3 (1 : Int32) a3 M
      else
        md_follow_b30 (md_follow_l10 a1 a2 F) a1 a2 a3 (0 : Int32) a3 M
theorem c_md_follow_l10  (a1 : Int32) (a2 : Int32)  : ∀ (F : Nat) (a3 : Int32) (M : e_Me), x_X G 247 0 0 x_rv 10 [some (.ref 182), some (.int a1), some (.int a2), some (.int a3), none, none, none, none] [] M (md_follow_l10 a1 a2 F a3 M) := by
  intro F
  induction F with
  | zero => intro a3 M; exact xr_none
  | succ F ih =>
    intro a3 M
    rw [md_follow_l10]
    refine xr_1 f_247_10 rfl ?_
    refine xr_1 f_247_11 rfl ?_
    refine xr_29_4 f_247_12 ?_ ?_
    · refine xr_0 f_247_37 ?_
      refine xr_4 [some (.ref 182), some (.int a1), some (.int a2), some (.int (0 : Int32)), none, none, none, none] f_247_38 rfl rfl ?_
      refine xr_wk (L' := [some (.ref 182), none, some (.int a2), some (.int (0 : Int32)), none, none, none, none]) [true, false, true, true, true, true, true, true] rfl ?_
      exact c_md_follow_l39 a2 e_F (0 : Int32) M
    · refine xr_2 f_247_15 rfl ?_
      refine xr_30r f_247_16 h_182 rfl ?_
      refine xr_1 f_247_19 rfl ?_
      refine xr_1 f_247_20 rfl ?_
      refine xr_1 f_247_21 rfl ?_
      refine xr_29_1 f_247_22 ?_ ?_
      · refine xr_0 f_247_29 ?_
        exact c_md_follow_b30 (md_follow_l10 a1 a2 F) a1 a2 a3 (0 : Int32) a3 M ih
      · refine xr_0 f_247_25 ?_
        refine xr_27 f_247_26 ?_
        exact c_md_follow_b30 (md_follow_l10 a1 a2 F) a1 a2 a3 (1 : Int32) a3 M ih

def md_follow (a1 : Int32) (M : e_Me) : Option e_Me :=
  x_lt ((6 : Int32) * (M 182 0)) fun y1 =>
  md_follow_l10 a1 y1 e_F (0 : Int32) M
theorem c_md_follow (a1 : Int32) (M : e_Me) : x_C G 247 [.ref 182, .int a1] M x_rv (md_follow a1 M) := by
  refine x_C_of 8 [some (.ref 182), some (.int a1), none, none, none, none, none, none] (by decide) ml_247 (Nat.le_of_ble_eq_true rfl) rfl ?_
  rw [md_follow]
  refine xr_0 f_247_0 ?_
  refine xr_2 f_247_2 rfl ?_
  refine xr_30i f_247_3 h_182 rfl ?_
  refine xr_10 f_247_6 ?_
  refine xr_4l (fun y1 => [some (.ref 182), some (.int a1), some (.int y1), none, none, none, none, none]) f_247_7 rfl (fun _ => rfl) ?_
  intro y1
  refine xr_0 f_247_8 ?_
  refine xr_4 [some (.ref 182), some (.int a1), some (.int y1), some (.int (0 : Int32)), none, none, none, none] f_247_9 rfl rfl ?_
  exact c_md_follow_l10 a1 y1 e_F (0 : Int32) M

def md_endOf_l4  (a1 : Int32) (M : e_Me) : Nat → Int32 → Int32 → Option Int32
  | 0, _, _ => none
  | F + 1, a2, a3 =>
    if ((6 : Int32) * (M 182 0)) < a3 then
      some a2
    else
      x_rd (M 199) 181 a3 fun x1 =>
      if x1 = 0 then
        md_endOf_l4 a1 M F a2 (a3 + (1 : Int32))
      else
        if a1 = (1 : Int32) then
          md_endOf_l4 a1 M F a3 (a3 + (1 : Int32))
        else
          if a2 = (-1 : Int32) then
            md_endOf_l4 a1 M F a3 (a3 + (1 : Int32))
          else
            md_endOf_l4 a1 M F a2 (a3 + (1 : Int32))
theorem c_md_endOf_l4  (a1 : Int32) (M : e_Me)  : ∀ (F : Nat) (a2 : Int32) (a3 : Int32), x_X G 248 0 0 (x_ri M) 4 [some (.ref 182), some (.int a1), some (.int a2), some (.int a3)] [] M (md_endOf_l4 a1 M F a2 a3) := by
  intro F
  induction F with
  | zero => intro a2 a3; exact xr_none
  | succ F ih =>
    intro a2 a3
    rw [md_endOf_l4]
    refine xr_1 f_248_4 rfl ?_
    refine xr_0 f_248_5 ?_
    refine xr_2 f_248_7 rfl ?_
    refine xr_30i f_248_8 h_182 rfl ?_
    refine xr_10 f_248_11 ?_
    refine xr_29_4 f_248_12 ?_ ?_
    · refine xr_1 f_248_46 rfl ?_
      exact xr_51 f_248_47
    · refine xr_2 f_248_15 rfl ?_
      refine xr_30r f_248_16 h_182 rfl ?_
      refine xr_1 f_248_19 rfl ?_
      refine xr_34 f_248_20 h_199 ?_
      intro x1
      refine xr_28_0 f_248_21 ?_ ?_
      · refine xr_1 f_248_38 rfl ?_
        refine xr_4 [some (.ref 182), some (.int a1), some (.int a2), some (.int a3)] f_248_39 rfl rfl ?_
        refine xr_7 [some (.ref 182), some (.int a1), some (.int a2), some (.int (a3 + (1 : Int32)))] f_248_40 rfl rfl rfl ?_
        refine xr_27 f_248_43 ?_
        exact ih a2 (a3 + (1 : Int32))
      · refine xr_1 f_248_24 rfl ?_
        refine xr_0 f_248_25 ?_
        refine xr_29_0 f_248_26 ?_ ?_
        · refine xr_1 f_248_34 rfl ?_
          refine xr_27 f_248_35 ?_
          refine xr_4 [some (.ref 182), some (.int a1), some (.int a3), some (.int a3)] f_248_39 rfl rfl ?_
          refine xr_7 [some (.ref 182), some (.int a1), some (.int a3), some (.int (a3 + (1 : Int32)))] f_248_40 rfl rfl rfl ?_
          refine xr_27 f_248_43 ?_
          exact ih a3 (a3 + (1 : Int32))
        · refine xr_1 f_248_29 rfl ?_
          refine xr_0 f_248_30 ?_
          refine xr_29_1 f_248_31 ?_ ?_
          · refine xr_1 f_248_38 rfl ?_
            refine xr_4 [some (.ref 182), some (.int a1), some (.int a2), some (.int a3)] f_248_39 rfl rfl ?_
            refine xr_7 [some (.ref 182), some (.int a1), some (.int a2), some (.int (a3 + (1 : Int32)))] f_248_40 rfl rfl rfl ?_
            refine xr_27 f_248_43 ?_
            exact ih a2 (a3 + (1 : Int32))
          · refine xr_1 f_248_34 rfl ?_
            refine xr_27 f_248_35 ?_
            refine xr_4 [some (.ref 182), some (.int a1), some (.int a3), some (.int a3)] f_248_39 rfl rfl ?_
            refine xr_7 [some (.ref 182), some (.int a1), some (.int a3), some (.int (a3 + (1 : Int32)))] f_248_40 rfl rfl rfl ?_
            refine xr_27 f_248_43 ?_
            exact ih a3 (a3 + (1 : Int32))

def md_endOf (a1 : Int32) (M : e_Me) : Option Int32 :=
  md_endOf_l4 a1 M e_F (-1 : Int32) (0 : Int32)
theorem c_md_endOf (a1 : Int32) (M : e_Me) : x_C G 248 [.ref 182, .int a1] M (x_ri M) (md_endOf a1 M) := by
  refine x_C_of 4 [some (.ref 182), some (.int a1), none, none] (by decide) ml_248 (Nat.le_of_ble_eq_true rfl) rfl ?_
  rw [md_endOf]
  refine xr_0 f_248_0 ?_
  refine xr_4 [some (.ref 182), some (.int a1), some (.int (-1 : Int32)), none] f_248_1 rfl rfl ?_
  refine xr_0 f_248_2 ?_
  refine xr_4 [some (.ref 182), some (.int a1), some (.int (-1 : Int32)), some (.int (0 : Int32))] f_248_3 rfl rfl ?_
  exact c_md_endOf_l4 a1 M e_F (-1 : Int32) (0 : Int32)

def md_up (a1 : Int32) (a2 : Int32) (M : e_Me) : Option (Int32 × e_Me) :=
  x_bd (md_in (a1).toInt64 ((0 : Int32)).toInt64 (((6 : Int32) * (M 182 0))).toInt64 M) fun x1 =>
  if x1 = 0 then
    some ((-102 : Int32), M)
  else
    x_bd (md_in (a2).toInt64 ((0 : Int32)).toInt64 ((1 : Int32)).toInt64 M) fun x2 =>
    if x2 = 0 then
      some ((-102 : Int32), M)
    else
      x_bd (md_follow a1 M) fun M3 =>
      x_bd (md_endOf a2 M3) fun x4 =>
      some (x4, M3)
theorem c_md_up (a1 : Int32) (a2 : Int32) (M : e_Me) : x_C G 249 [.ref 182, .int a1, .int a2] M x_rim (md_up a1 a2 M) := by
  refine x_C_of 3 [some (.ref 182), some (.int a1), some (.int a2)] (by decide) ml_249 (Nat.le_of_ble_eq_true rfl) rfl ?_
  rw [md_up]
  refine xr_1 f_249_0 rfl ?_
  refine xr_19 f_249_1 ?_
  refine xr_23 f_249_2 ?_
  refine xr_0 f_249_3 ?_
  refine xr_2 f_249_5 rfl ?_
  refine xr_30i f_249_6 h_182 rfl ?_
  refine xr_10 f_249_9 ?_
  refine xr_19 f_249_10 ?_
  refine xr_ci f_249_11 (Nat.le_of_ble_eq_true rfl) rfl rfl (xr_rs kd_193) (Nat.le_of_ble_eq_true rfl) mc_193 ms_193 (c_md_in (a1).toInt64 ((0 : Int32)).toInt64 (((6 : Int32) * (M 182 0))).toInt64 M) ?_
  intro x1
  refine xr_28_0 f_249_14 ?_ ?_
  · refine xr_0 f_249_27 ?_
    exact xr_51m f_249_29
  · refine xr_1 f_249_17 rfl ?_
    refine xr_19 f_249_18 ?_
    refine xr_23 f_249_19 ?_
    refine xr_23 f_249_20 ?_
    refine xr_ci f_249_21 (Nat.le_of_ble_eq_true rfl) rfl rfl (xr_rs kd_193) (Nat.le_of_ble_eq_true rfl) mc_193 ms_193 (c_md_in (a2).toInt64 ((0 : Int32)).toInt64 ((1 : Int32)).toInt64 M) ?_
    intro x2
    refine xr_28_1 f_249_24 ?_ ?_
    · refine xr_2 f_249_30 rfl ?_
      refine xr_1 f_249_31 rfl ?_
      refine xr_cv f_249_32 (Nat.le_of_ble_eq_true rfl) rfl rfl (xr_rv kd_247 h_182) (Nat.le_of_ble_eq_true rfl) mc_247 ms_247 (c_md_follow a1 M) ?_
      intro M3
      refine xr_2 f_249_35 rfl ?_
      refine xr_1 f_249_36 rfl ?_
      refine xr_ci f_249_37 (Nat.le_of_ble_eq_true rfl) rfl rfl (xr_rv kd_248 h_182) (Nat.le_of_ble_eq_true rfl) mc_248 ms_248 (c_md_endOf a2 M3) ?_
      intro x4
      exact xr_51m f_249_40
    · refine xr_0 f_249_27 ?_
      exact xr_51m f_249_29

def md_begins_l4   : Nat → Int32 → Int32 → e_Me → Option (Int32 × e_Me)
  | 0, _, _, _ => none
  | F + 1, a1, a2, M =>
    if ((6 : Int32) * (M 182 0)) < a2 then
      some (a1, M)
    else
      x_bd (md_follow a2 M) fun M1 =>
      x_bd (md_endOf (0 : Int32) M1) fun x2 =>
      if x2 = (-1 : Int32) then
        x_lt (a1 + (0 : Int32)) fun y4 =>
        md_begins_l4  F y4 (a2 + (1 : Int32)) M1
      else
        x_lt (a1 + (1 : Int32)) fun y3 =>
        md_begins_l4  F y3 (a2 + (1 : Int32)) M1
theorem c_md_begins_l4    : ∀ (F : Nat) (a1 : Int32) (a2 : Int32) (M : e_Me), x_X G 250 0 0 x_rim 4 [some (.ref 182), some (.int a1), some (.int a2)] [] M (md_begins_l4  F a1 a2 M) := by
  intro F
  induction F with
  | zero => intro a1 a2 M; exact xr_none
  | succ F ih =>
    intro a1 a2 M
    rw [md_begins_l4]
    refine xr_1 f_250_4 rfl ?_
    refine xr_0 f_250_5 ?_
    refine xr_2 f_250_7 rfl ?_
    refine xr_30i f_250_8 h_182 rfl ?_
    refine xr_10 f_250_11 ?_
    refine xr_29_4 f_250_12 ?_ ?_
    · refine xr_1 f_250_43 rfl ?_
      exact xr_51m f_250_44
    · refine xr_2 f_250_15 rfl ?_
      refine xr_1 f_250_16 rfl ?_
      refine xr_cv f_250_17 (Nat.le_of_ble_eq_true rfl) rfl rfl (xr_rv kd_247 h_182) (Nat.le_of_ble_eq_true rfl) mc_247 ms_247 (c_md_follow a2 M) ?_
      intro M1
      refine xr_1 f_250_20 rfl ?_
      refine xr_2 f_250_21 rfl ?_
      refine xr_0 f_250_22 ?_
      refine xr_ci f_250_23 (Nat.le_of_ble_eq_true rfl) rfl rfl (xr_rv kd_248 h_182) (Nat.le_of_ble_eq_true rfl) mc_248 ms_248 (c_md_endOf (0 : Int32) M1) ?_
      intro x2
      refine xr_0 f_250_26 ?_
      refine xr_29_1 f_250_27 ?_ ?_
      · refine xr_0 f_250_34 ?_
        refine xr_8 f_250_35 ?_
        refine xr_4l (fun y3 => [some (.ref 182), some (.int y3), some (.int a2)]) f_250_36 rfl (fun _ => rfl) ?_
        intro y3
        refine xr_7 [some (.ref 182), some (.int y3), some (.int (a2 + (1 : Int32)))] f_250_37 rfl rfl rfl ?_
        refine xr_27 f_250_40 ?_
        exact ih y3 (a2 + (1 : Int32)) M1
      · refine xr_0 f_250_30 ?_
        refine xr_27 f_250_31 ?_
        refine xr_8 f_250_35 ?_
        refine xr_4l (fun y4 => [some (.ref 182), some (.int y4), some (.int a2)]) f_250_36 rfl (fun _ => rfl) ?_
        intro y4
        refine xr_7 [some (.ref 182), some (.int y4), some (.int (a2 + (1 : Int32)))] f_250_37 rfl rfl rfl ?_
        refine xr_27 f_250_40 ?_
        exact ih y4 (a2 + (1 : Int32)) M1

def md_begins  (M : e_Me) : Option (Int32 × e_Me) :=
  md_begins_l4  e_F (0 : Int32) (0 : Int32) M
theorem c_md_begins  (M : e_Me) : x_C G 250 [.ref 182] M x_rim (md_begins  M) := by
  refine x_C_of 3 [some (.ref 182), none, none] (by decide) ml_250 (Nat.le_of_ble_eq_true rfl) rfl ?_
  rw [md_begins]
  refine xr_0 f_250_0 ?_
  refine xr_4 [some (.ref 182), some (.int (0 : Int32)), none] f_250_1 rfl rfl ?_
  refine xr_0 f_250_2 ?_
  refine xr_4 [some (.ref 182), some (.int (0 : Int32)), some (.int (0 : Int32))] f_250_3 rfl rfl ?_
  exact c_md_begins_l4 e_F (0 : Int32) (0 : Int32) M

def md_tear  (M : e_Me) : Option (Int32 × e_Me) :=
  x_lt (M 182 31) fun y1 =>
  x_lt (e_up M 182 31 (0 : Int32)) fun M2 =>
  some (y1, M2)
theorem c_md_tear  (M : e_Me) : x_C G 251 [.ref 182] M x_rim (md_tear  M) := by
  refine x_C_of 2 [some (.ref 182), none] (by decide) ml_251 (Nat.le_of_ble_eq_true rfl) rfl ?_
  rw [md_tear]
  refine xr_2 f_251_0 rfl ?_
  refine xr_30i f_251_1 h_182 rfl ?_
  refine xr_4l (fun y1 => [some (.ref 182), some (.int y1)]) f_251_4 rfl (fun _ => rfl) ?_
  intro y1
  refine xr_2 f_251_5 rfl ?_
  refine xr_0 f_251_6 ?_
  refine xr_31 f_251_7 h_182 rfl ?_
  intro M2
  refine xr_1 f_251_10 rfl ?_
  exact xr_51m f_251_11

def md_guess (a1 : Int32) (a2 : Int32) (a3 : Int32) (M : e_Me) : Option (Int32 × e_Me) :=
  x_bd (md_isCabin a1 M) fun x1 =>
  if x1 = 0 then
    some ((-101 : Int32), M)
  else
    x_bd (md_in (a2).toInt64 ((0 : Int32)).toInt64 ((900 : Int32)).toInt64 M) fun x2 =>
    if x2 = 0 then
      some ((-102 : Int32), M)
    else
      x_bd (md_in (a3).toInt64 (a2).toInt64 ((900 : Int32)).toInt64 M) fun x3 =>
      if x3 = 0 then
        some ((-102 : Int32), M)
      else
        x_wr M 201 30 a1 a2 fun M4 =>
        x_wr M4 202 30 a1 a3 fun M5 =>
        some ((1 : Int32), M5)
theorem c_md_guess (a1 : Int32) (a2 : Int32) (a3 : Int32) (M : e_Me) : x_C G 252 [.ref 182, .int a1, .int a2, .int a3] M x_rim (md_guess a1 a2 a3 M) := by
  refine x_C_of 4 [some (.ref 182), some (.int a1), some (.int a2), some (.int a3)] (by decide) ml_252 (Nat.le_of_ble_eq_true rfl) rfl ?_
  rw [md_guess]
  refine xr_2 f_252_0 rfl ?_
  refine xr_1 f_252_1 rfl ?_
  refine xr_ci f_252_2 (Nat.le_of_ble_eq_true rfl) rfl rfl (xr_rv kd_212 h_182) (Nat.le_of_ble_eq_true rfl) mc_212 ms_212 (c_md_isCabin a1 M) ?_
  intro x1
  refine xr_28_1 f_252_5 ?_ ?_
  · refine xr_1 f_252_11 rfl ?_
    refine xr_19 f_252_12 ?_
    refine xr_23 f_252_13 ?_
    refine xr_23 f_252_14 ?_
    refine xr_ci f_252_17 (Nat.le_of_ble_eq_true rfl) rfl rfl (xr_rs kd_193) (Nat.le_of_ble_eq_true rfl) mc_193 ms_193 (c_md_in (a2).toInt64 ((0 : Int32)).toInt64 ((900 : Int32)).toInt64 M) ?_
    intro x2
    refine xr_28_0 f_252_20 ?_ ?_
    · refine xr_0 f_252_36 ?_
      exact xr_51m f_252_38
    · refine xr_1 f_252_23 rfl ?_
      refine xr_19 f_252_24 ?_
      refine xr_1 f_252_25 rfl ?_
      refine xr_19 f_252_26 ?_
      refine xr_23 f_252_27 ?_
      refine xr_ci f_252_30 (Nat.le_of_ble_eq_true rfl) rfl rfl (xr_rs kd_193) (Nat.le_of_ble_eq_true rfl) mc_193 ms_193 (c_md_in (a3).toInt64 (a2).toInt64 ((900 : Int32)).toInt64 M) ?_
      intro x3
      refine xr_28_1 f_252_33 ?_ ?_
      · refine xr_2 f_252_39 rfl ?_
        refine xr_30r f_252_40 h_182 rfl ?_
        refine xr_1 f_252_43 rfl ?_
        refine xr_1 f_252_44 rfl ?_
        refine xr_33 f_252_45 h_201 ?_
        intro M4
        refine xr_2 f_252_46 rfl ?_
        refine xr_30r f_252_47 h_182 rfl ?_
        refine xr_1 f_252_50 rfl ?_
        refine xr_1 f_252_51 rfl ?_
        refine xr_33 f_252_52 h_202 ?_
        intro M5
        refine xr_0 f_252_53 ?_
        exact xr_51m f_252_54
      · refine xr_0 f_252_36 ?_
        exact xr_51m f_252_38
  · refine xr_0 f_252_8 ?_
    exact xr_51m f_252_10

def md_read (a1 : Int32) (a2 : Int32) (a3 : Int32) (M : e_Me) : Option (Int32 × e_Me) :=
  x_bd (md_in (a1).toInt64 ((0 : Int32)).toInt64 (((M 182 0) - (1 : Int32))).toInt64 M) fun x1 =>
  if x1 = 0 then
    some ((-101 : Int32), M)
  else
    x_bd (md_in (a2).toInt64 ((-2000000 : Int32)).toInt64 ((2000000 : Int32)).toInt64 M) fun x2 =>
    if x2 = 0 then
      some ((-102 : Int32), M)
    else
      x_bd (md_in (a3).toInt64 ((0 : Int32)).toInt64 ((100000 : Int32)).toInt64 M) fun x3 =>
      if x3 = 0 then
        some ((-102 : Int32), M)
      else
        if (M 182 38) = (12 : Int32) then
          some ((-104 : Int32), M)
        else
          x_wr M 203 12 (M 182 38) a1 fun M4 =>
          x_wr M4 204 12 (M4 182 38) a2 fun M5 =>
          x_wr M5 205 12 (M5 182 38) a3 fun M6 =>
          x_lt (e_up M6 182 38 ((M6 182 38) + (1 : Int32))) fun M7 =>
          some ((M7 182 38), M7)
theorem c_md_read (a1 : Int32) (a2 : Int32) (a3 : Int32) (M : e_Me) : x_C G 253 [.ref 182, .int a1, .int a2, .int a3] M x_rim (md_read a1 a2 a3 M) := by
  refine x_C_of 4 [some (.ref 182), some (.int a1), some (.int a2), some (.int a3)] (by decide) ml_253 (Nat.le_of_ble_eq_true rfl) rfl ?_
  rw [md_read]
  refine xr_1 f_253_0 rfl ?_
  refine xr_19 f_253_1 ?_
  refine xr_23 f_253_2 ?_
  refine xr_2 f_253_3 rfl ?_
  refine xr_30i f_253_4 h_182 rfl ?_
  refine xr_0 f_253_7 ?_
  refine xr_9 f_253_8 ?_
  refine xr_19 f_253_9 ?_
  refine xr_ci f_253_10 (Nat.le_of_ble_eq_true rfl) rfl rfl (xr_rs kd_193) (Nat.le_of_ble_eq_true rfl) mc_193 ms_193 (c_md_in (a1).toInt64 ((0 : Int32)).toInt64 (((M 182 0) - (1 : Int32))).toInt64 M) ?_
  intro x1
  refine xr_28_1 f_253_13 ?_ ?_
  · refine xr_1 f_253_19 rfl ?_
    refine xr_19 f_253_20 ?_
    refine xr_23 f_253_21 ?_
    refine xr_23 f_253_24 ?_
    refine xr_ci f_253_27 (Nat.le_of_ble_eq_true rfl) rfl rfl (xr_rs kd_193) (Nat.le_of_ble_eq_true rfl) mc_193 ms_193 (c_md_in (a2).toInt64 ((-2000000 : Int32)).toInt64 ((2000000 : Int32)).toInt64 M) ?_
    intro x2
    refine xr_28_0 f_253_30 ?_ ?_
    · refine xr_0 f_253_45 ?_
      exact xr_51m f_253_47
    · refine xr_1 f_253_33 rfl ?_
      refine xr_19 f_253_34 ?_
      refine xr_23 f_253_35 ?_
      refine xr_23 f_253_36 ?_
      refine xr_ci f_253_39 (Nat.le_of_ble_eq_true rfl) rfl rfl (xr_rs kd_193) (Nat.le_of_ble_eq_true rfl) mc_193 ms_193 (c_md_in (a3).toInt64 ((0 : Int32)).toInt64 ((100000 : Int32)).toInt64 M) ?_
      intro x3
      refine xr_28_1 f_253_42 ?_ ?_
      · refine xr_2 f_253_48 rfl ?_
        refine xr_30i f_253_49 h_182 rfl ?_
        refine xr_0 f_253_52 ?_
        refine xr_29_1 f_253_54 ?_ ?_
        · refine xr_2 f_253_60 rfl ?_
          refine xr_30r f_253_61 h_182 rfl ?_
          refine xr_2 f_253_64 rfl ?_
          refine xr_30i f_253_65 h_182 rfl ?_
          refine xr_1 f_253_68 rfl ?_
          refine xr_33 f_253_69 h_203 ?_
          intro M4
          refine xr_2 f_253_70 rfl ?_
          refine xr_30r f_253_71 h_182 rfl ?_
          refine xr_2 f_253_74 rfl ?_
          refine xr_30i f_253_75 h_182 rfl ?_
          refine xr_1 f_253_78 rfl ?_
          refine xr_33 f_253_79 h_204 ?_
          intro M5
          refine xr_2 f_253_80 rfl ?_
          refine xr_30r f_253_81 h_182 rfl ?_
          refine xr_2 f_253_84 rfl ?_
          refine xr_30i f_253_85 h_182 rfl ?_
          refine xr_1 f_253_88 rfl ?_
          refine xr_33 f_253_89 h_205 ?_
          intro M6
          refine xr_2 f_253_90 rfl ?_
          refine xr_24r f_253_91 ?_
          refine xr_30i f_253_92 h_182 rfl ?_
          refine xr_0 f_253_95 ?_
          refine xr_8 f_253_96 ?_
          refine xr_31 f_253_97 h_182 rfl ?_
          intro M7
          refine xr_2 f_253_100 rfl ?_
          refine xr_30i f_253_101 h_182 rfl ?_
          exact xr_51m f_253_104
        · refine xr_0 f_253_57 ?_
          exact xr_51m f_253_59
      · refine xr_0 f_253_45 ?_
        exact xr_51m f_253_47
  · refine xr_0 f_253_16 ?_
    exact xr_51m f_253_18

def md_forget  (M : e_Me) : Option (Int32 × e_Me) :=
  x_lt (M 182 38) fun y1 =>
  x_lt (e_up M 182 38 (0 : Int32)) fun M2 =>
  some (y1, M2)
theorem c_md_forget  (M : e_Me) : x_C G 254 [.ref 182] M x_rim (md_forget  M) := by
  refine x_C_of 2 [some (.ref 182), none] (by decide) ml_254 (Nat.le_of_ble_eq_true rfl) rfl ?_
  rw [md_forget]
  refine xr_2 f_254_0 rfl ?_
  refine xr_30i f_254_1 h_182 rfl ?_
  refine xr_4l (fun y1 => [some (.ref 182), some (.int y1)]) f_254_4 rfl (fun _ => rfl) ?_
  intro y1
  refine xr_2 f_254_5 rfl ?_
  refine xr_0 f_254_6 ?_
  refine xr_31 f_254_7 h_182 rfl ?_
  intro M2
  refine xr_1 f_254_10 rfl ?_
  exact xr_51m f_254_11

def md_down_b28  (a2 : Int32) (s0 : Int32) (s1 : Int32) (M : e_Me) : Option Int32 :=
  if s1 = s0 then
    some a2
  else
    some (a2 - (1 : Int32))
theorem c_md_down_b28  (a2 : Int32) (s0 : Int32) (s1 : Int32) (M : e_Me)  : x_X G 255 0 0 (x_ri M) 28 [none, none, some (.int a2)] [.int s0, .int s1] M (md_down_b28 a2 s0 s1 M) := by
  rw [md_down_b28]
  refine xr_29_0 f_255_28 ?_ ?_
  · refine xr_1 f_255_37 rfl ?_
    exact xr_51 f_255_38
  · refine xr_1 f_255_31 rfl ?_
    refine xr_0 f_255_32 ?_
    refine xr_9 f_255_33 ?_
    refine xr_27 f_255_34 ?_
    exact xr_51 f_255_38

def md_down_b19  (a1 : Int32) (a2 : Int32) (s0 : Int32) (M : e_Me) : Option Int32 :=
  if 0 ≤ a1 then
    md_down_b28 a2 (0 : Int32) s0 M
  else
    md_down_b28 a2 (1 : Int32) s0 M
theorem c_md_down_b19  (a1 : Int32) (a2 : Int32) (s0 : Int32) (M : e_Me)  : x_X G 255 0 0 (x_ri M) 19 [none, some (.int a1), some (.int a2)] [.int s0] M (md_down_b19 a1 a2 s0 M) := by
  rw [md_down_b19]
  refine xr_1 f_255_19 rfl ?_
  refine xr_28_3 f_255_20 ?_ ?_
  · refine xr_0 f_255_27 ?_
    refine xr_wk (L' := [none, none, some (.int a2)]) [true, false, true] rfl ?_
    exact c_md_down_b28 a2 (0 : Int32) s0 M
  · refine xr_0 f_255_23 ?_
    refine xr_27 f_255_24 ?_
    refine xr_wk (L' := [none, none, some (.int a2)]) [true, false, true] rfl ?_
    exact c_md_down_b28 a2 (1 : Int32) s0 M

def md_down (a0 : Int32) (a1 : Int32) (M : e_Me) : Option Int32 :=
  x_dv a1 <|
  x_lt (a0 / a1) fun y1 =>
  x_dv a1 <|
  if (x_rem a0 a1) = 0 then
    some y1
  else
    if 0 ≤ a0 then
      md_down_b19 a1 y1 (0 : Int32) M
    else
      md_down_b19 a1 y1 (1 : Int32) M
theorem c_md_down (a0 : Int32) (a1 : Int32) (M : e_Me) : x_C G 255 [.int a0, .int a1] M (x_ri M) (md_down a0 a1 M) := by
  refine x_C_of 3 [some (.int a0), some (.int a1), none] (by decide) ml_255 (Nat.le_of_ble_eq_true rfl) rfl ?_
  rw [md_down]
  refine xr_1 f_255_0 rfl ?_
  refine xr_1 f_255_1 rfl ?_
  refine xr_12 f_255_2 ?_
  refine xr_4l (fun y1 => [some (.int a0), some (.int a1), some (.int y1)]) f_255_3 rfl (fun _ => rfl) ?_
  intro y1
  refine xr_1 f_255_4 rfl ?_
  refine xr_1 f_255_5 rfl ?_
  refine xr_13 f_255_6 ?_
  refine xr_28_0 f_255_7 ?_ ?_
  · refine xr_1 f_255_37 rfl ?_
    exact xr_51 f_255_38
  · refine xr_1 f_255_10 rfl ?_
    refine xr_28_3 f_255_11 ?_ ?_
    · refine xr_0 f_255_18 ?_
      refine xr_wk (L' := [none, some (.int a1), some (.int y1)]) [false, true, true] rfl ?_
      exact c_md_down_b19 a1 y1 (0 : Int32) M
    · refine xr_0 f_255_14 ?_
      refine xr_27 f_255_15 ?_
      refine xr_wk (L' := [none, some (.int a1), some (.int y1)]) [false, true, true] rfl ?_
      exact c_md_down_b19 a1 y1 (1 : Int32) M

def md_upward (a0 : Int32) (a1 : Int32) (M : e_Me) : Option Int32 :=
  x_bd (md_down (-a0) a1 M) fun x1 =>
  some (-x1)
theorem c_md_upward (a0 : Int32) (a1 : Int32) (M : e_Me) : x_C G 256 [.int a0, .int a1] M (x_ri M) (md_upward a0 a1 M) := by
  refine x_C_of 2 [some (.int a0), some (.int a1)] (by decide) ml_256 (Nat.le_of_ble_eq_true rfl) rfl ?_
  rw [md_upward]
  refine xr_1 f_256_0 rfl ?_
  refine xr_11 f_256_1 ?_
  refine xr_1 f_256_2 rfl ?_
  refine xr_ci f_256_3 (Nat.le_of_ble_eq_true rfl) rfl rfl (xr_rs kd_255) (Nat.le_of_ble_eq_true rfl) mc_255 ms_255 (c_md_down (-a0) a1 M) ?_
  intro x1
  refine xr_11 f_256_6 ?_
  exact xr_51 f_256_7

def md_narrow_b96 (k32 : Int32 → Int32 → Int32 → Option (Int32 × e_Me)) (a1 : Int32) (a2 : Int32) (a4 : Int32) (a5 : Int32) (a6 : Int32) (s0 : Int32) (s1 : Int32) (M : e_Me) : Option (Int32 × e_Me) :=
  x_lt (s1 - s0) fun y1 =>
  if a6 ≤ 0 then
    x_rd (M 207) 30 a5 fun x2 =>
    x_lt (a4 - (a6 * x2)) fun y3 =>
    k32 y1 y3 (a5 + (1 : Int32))
  else
    x_rd (M 206) 30 a5 fun x4 =>
    x_lt (a4 - (a6 * x4)) fun y5 =>
    k32 y1 y5 (a5 + (1 : Int32))
theorem c_md_narrow_b96 (k32 : Int32 → Int32 → Int32 → Option (Int32 × e_Me)) (a1 : Int32) (a2 : Int32) (a4 : Int32) (a5 : Int32) (a6 : Int32) (s0 : Int32) (s1 : Int32) (M : e_Me) (hk32 : ∀ (a3 : Int32) (a4 : Int32) (a5 : Int32), x_X G 257 0 0 x_rim 32 [some (.ref 182), some (.int a1), some (.int a2), some (.int a3), some (.int a4), some (.int a5), none, none] [] M (k32 a3 a4 a5)) : x_X G 257 0 0 x_rim 96 [some (.ref 182), some (.int a1), some (.int a2), none, some (.int a4), some (.int a5), some (.int a6), none] [.int s0, .int s1] M (md_narrow_b96 k32 a1 a2 a4 a5 a6 s0 s1 M) := by
  rw [md_narrow_b96]
  refine xr_9 f_257_96 ?_
  refine xr_4l (fun y1 => [some (.ref 182), some (.int a1), some (.int a2), some (.int y1), some (.int a4), some (.int a5), some (.int a6), none]) f_257_97 rfl (fun _ => rfl) ?_
  intro y1
  refine xr_1 f_257_98 rfl ?_
  refine xr_1 f_257_100 rfl ?_
  refine xr_28_5 f_257_102 ?_ ?_
  · refine xr_1 f_257_118 rfl ?_
    refine xr_2 f_257_120 rfl ?_
    refine xr_30r f_257_121 h_182 rfl ?_
    refine xr_1 f_257_124 rfl ?_
    refine xr_32 f_257_126 h_207 ?_
    intro x2
    refine xr_10 f_257_127 ?_
    refine xr_9 f_257_128 ?_
    refine xr_4l (fun y3 => [some (.ref 182), some (.int a1), some (.int a2), some (.int y1), some (.int y3), some (.int a5), some (.int a6), none]) f_257_129 rfl (fun _ => rfl) ?_
    intro y3
    refine xr_7 [some (.ref 182), some (.int a1), some (.int a2), some (.int y1), some (.int y3), some (.int (a5 + (1 : Int32))), some (.int a6), none] f_257_131 rfl rfl rfl ?_
    refine xr_27 f_257_134 ?_
    refine xr_wk (L' := [some (.ref 182), some (.int a1), some (.int a2), some (.int y1), some (.int y3), some (.int (a5 + (1 : Int32))), none, none]) [true, true, true, true, true, true, false, true] rfl ?_
    exact hk32 y1 y3 (a5 + (1 : Int32))
  · refine xr_1 f_257_105 rfl ?_
    refine xr_2 f_257_107 rfl ?_
    refine xr_30r f_257_108 h_182 rfl ?_
    refine xr_1 f_257_111 rfl ?_
    refine xr_32 f_257_113 h_206 ?_
    intro x4
    refine xr_10 f_257_114 ?_
    refine xr_27 f_257_115 ?_
    refine xr_9 f_257_128 ?_
    refine xr_4l (fun y5 => [some (.ref 182), some (.int a1), some (.int a2), some (.int y1), some (.int y5), some (.int a5), some (.int a6), none]) f_257_129 rfl (fun _ => rfl) ?_
    intro y5
    refine xr_7 [some (.ref 182), some (.int a1), some (.int a2), some (.int y1), some (.int y5), some (.int (a5 + (1 : Int32))), some (.int a6), none] f_257_131 rfl rfl rfl ?_
    refine xr_27 f_257_134 ?_
    refine xr_wk (L' := [some (.ref 182), some (.int a1), some (.int a2), some (.int y1), some (.int y5), some (.int (a5 + (1 : Int32))), none, none]) [true, true, true, true, true, true, false, true] rfl ?_
    exact hk32 y1 y5 (a5 + (1 : Int32))

def md_narrow_b277  (a1 : Int32) (s0 : Int32) (s1 : Int32) (M : e_Me) : Option (Int32 × e_Me) :=
  x_wr M 207 30 s1 s0 fun M1 =>
  x_rd (M1 206) 30 a1 fun x2 =>
  x_rd (M1 207) 30 a1 fun x3 =>
  if x3 < x2 then
    some ((0 : Int32), M1)
  else
    some ((1 : Int32), M1)
theorem c_md_narrow_b277  (a1 : Int32) (s0 : Int32) (s1 : Int32) (M : e_Me)  : x_X G 257 0 0 x_rim 277 [some (.ref 182), some (.int a1), none, none, none, none, none, none] [.int s0, .int s1, .ref 207] M (md_narrow_b277 a1 s0 s1 M) := by
  rw [md_narrow_b277]
  refine xr_33 f_257_277 h_207 ?_
  intro M1
  refine xr_2 f_257_278 rfl ?_
  refine xr_30r f_257_279 h_182 rfl ?_
  refine xr_1 f_257_282 rfl ?_
  refine xr_32 f_257_283 h_206 ?_
  intro x2
  refine xr_2 f_257_284 rfl ?_
  refine xr_30r f_257_285 h_182 rfl ?_
  refine xr_1 f_257_288 rfl ?_
  refine xr_32 f_257_289 h_207 ?_
  intro x3
  refine xr_29_4 f_257_290 ?_ ?_
  · refine xr_0 f_257_297 ?_
    exact xr_52mc f_257_298 (by decide)
  · refine xr_0 f_257_293 ?_
    refine xr_27 f_257_294 ?_
    exact xr_52mc f_257_298 (by decide)

def md_narrow_b249  (a1 : Int32) (a7 : Int32) (s0 : Int32) (s1 : Int32) (M : e_Me) : Option (Int32 × e_Me) :=
  x_wr M 206 30 s1 s0 fun M1 =>
  x_rd (M1 207) 30 a1 fun x2 =>
  if x2 ≤ a7 then
    x_rd (M1 207) 30 a1 fun x3 =>
    md_narrow_b277 a1 x3 a1 M1
  else
    md_narrow_b277 a1 a7 a1 M1
theorem c_md_narrow_b249  (a1 : Int32) (a7 : Int32) (s0 : Int32) (s1 : Int32) (M : e_Me)  : x_X G 257 0 0 x_rim 249 [some (.ref 182), some (.int a1), none, none, none, none, none, some (.int a7)] [.int s0, .int s1, .ref 206] M (md_narrow_b249 a1 a7 s0 s1 M) := by
  rw [md_narrow_b249]
  refine xr_33 f_257_249 h_206 ?_
  intro M1
  refine xr_2 f_257_250 rfl ?_
  refine xr_30r f_257_251 h_182 rfl ?_
  refine xr_1 f_257_254 rfl ?_
  refine xr_1 f_257_255 rfl ?_
  refine xr_2 f_257_257 rfl ?_
  refine xr_30r f_257_258 h_182 rfl ?_
  refine xr_1 f_257_261 rfl ?_
  refine xr_32 f_257_262 h_207 ?_
  intro x2
  refine xr_29_3 f_257_263 ?_ ?_
  · refine xr_2 f_257_271 rfl ?_
    refine xr_30r f_257_272 h_182 rfl ?_
    refine xr_1 f_257_275 rfl ?_
    refine xr_32 f_257_276 h_207 ?_
    intro x3
    refine xr_wk (L' := [some (.ref 182), some (.int a1), none, none, none, none, none, none]) [true, true, true, true, true, true, true, false] rfl ?_
    exact c_md_narrow_b277 a1 x3 a1 M1
  · refine xr_1 f_257_266 rfl ?_
    refine xr_27 f_257_268 ?_
    refine xr_wk (L' := [some (.ref 182), some (.int a1), none, none, none, none, none, none]) [true, true, true, true, true, true, true, false] rfl ?_
    exact c_md_narrow_b277 a1 a7 a1 M1

def md_narrow_b220  (a1 : Int32) (a6 : Int32) (s0 : Int32) (M : e_Me) : Option (Int32 × e_Me) :=
  x_rd (M 206) 30 a1 fun x1 =>
  if a6 ≤ x1 then
    x_rd (M 206) 30 a1 fun x2 =>
    md_narrow_b249 a1 s0 x2 a1 M
  else
    md_narrow_b249 a1 s0 a6 a1 M
theorem c_md_narrow_b220  (a1 : Int32) (a6 : Int32) (s0 : Int32) (M : e_Me)  : x_X G 257 0 0 x_rim 220 [some (.ref 182), some (.int a1), none, none, none, none, some (.int a6), none] [.int s0] M (md_narrow_b220 a1 a6 s0 M) := by
  rw [md_narrow_b220]
  refine xr_4 [some (.ref 182), some (.int a1), none, none, none, none, some (.int a6), some (.int s0)] f_257_220 rfl rfl ?_
  refine xr_2 f_257_222 rfl ?_
  refine xr_30r f_257_223 h_182 rfl ?_
  refine xr_1 f_257_226 rfl ?_
  refine xr_1 f_257_227 rfl ?_
  refine xr_2 f_257_229 rfl ?_
  refine xr_30r f_257_230 h_182 rfl ?_
  refine xr_1 f_257_233 rfl ?_
  refine xr_32 f_257_234 h_206 ?_
  intro x1
  refine xr_29_5 f_257_235 ?_ ?_
  · refine xr_2 f_257_243 rfl ?_
    refine xr_30r f_257_244 h_182 rfl ?_
    refine xr_1 f_257_247 rfl ?_
    refine xr_32 f_257_248 h_206 ?_
    intro x2
    refine xr_wk (L' := [some (.ref 182), some (.int a1), none, none, none, none, none, some (.int s0)]) [true, true, true, true, true, true, false, true] rfl ?_
    exact c_md_narrow_b249 a1 s0 x2 a1 M
  · refine xr_1 f_257_238 rfl ?_
    refine xr_27 f_257_240 ?_
    refine xr_wk (L' := [some (.ref 182), some (.int a1), none, none, none, none, none, some (.int s0)]) [true, true, true, true, true, true, false, true] rfl ?_
    exact c_md_narrow_b249 a1 s0 a6 a1 M

def md_narrow_b197  (a1 : Int32) (a3 : Int32) (a4 : Int32) (a5 : Int32) (s0 : Int32) (M : e_Me) : Option (Int32 × e_Me) :=
  if a5 ≤ 0 then
    x_bd (md_down a3 a5 M) fun x1 =>
    md_narrow_b220 a1 s0 x1 M
  else
    x_bd (md_down a4 a5 M) fun x2 =>
    md_narrow_b220 a1 s0 x2 M
theorem c_md_narrow_b197  (a1 : Int32) (a3 : Int32) (a4 : Int32) (a5 : Int32) (s0 : Int32) (M : e_Me)  : x_X G 257 0 0 x_rim 197 [some (.ref 182), some (.int a1), none, some (.int a3), some (.int a4), some (.int a5), none, none] [.int s0] M (md_narrow_b197 a1 a3 a4 a5 s0 M) := by
  rw [md_narrow_b197]
  refine xr_4 [some (.ref 182), some (.int a1), none, some (.int a3), some (.int a4), some (.int a5), some (.int s0), none] f_257_197 rfl rfl ?_
  refine xr_1 f_257_199 rfl ?_
  refine xr_28_5 f_257_201 ?_ ?_
  · refine xr_1 f_257_214 rfl ?_
    refine xr_1 f_257_215 rfl ?_
    refine xr_ci f_257_217 (Nat.le_of_ble_eq_true rfl) rfl rfl (xr_rs kd_255) (Nat.le_of_ble_eq_true rfl) mc_255 ms_255 (c_md_down a3 a5 M) ?_
    intro x1
    refine xr_wk (L' := [some (.ref 182), some (.int a1), none, none, none, none, some (.int s0), none]) [true, true, true, false, false, false, true, true] rfl ?_
    exact c_md_narrow_b220 a1 s0 x1 M
  · refine xr_1 f_257_204 rfl ?_
    refine xr_1 f_257_206 rfl ?_
    refine xr_ci f_257_208 (Nat.le_of_ble_eq_true rfl) rfl rfl (xr_rs kd_255) (Nat.le_of_ble_eq_true rfl) mc_255 ms_255 (c_md_down a4 a5 M) ?_
    intro x2
    refine xr_27 f_257_211 ?_
    refine xr_wk (L' := [some (.ref 182), some (.int a1), none, none, none, none, some (.int s0), none]) [true, true, true, false, false, false, true, true] rfl ?_
    exact c_md_narrow_b220 a1 s0 x2 M

def md_narrow_b137  (a1 : Int32) (a2 : Int32) (a3 : Int32) (a4 : Int32) (M : e_Me) : Option (Int32 × e_Me) :=
  x_rd (M 203) 12 a2 fun x1 =>
  x_dv (M 182 0) <|
  x_bd (md_armOf (x_rem (a1 + x1) (M 182 0)) M) fun x2 =>
  if x2 = 0 then
    if 0 < a3 then
      some ((0 : Int32), M)
    else
      if a4 < 0 then
        some ((0 : Int32), M)
      else
        some ((1 : Int32), M)
  else
    if x2 ≤ 0 then
      x_bd (md_upward a4 x2 M) fun x3 =>
      md_narrow_b197 a1 a3 a4 x2 x3 M
    else
      x_bd (md_upward a3 x2 M) fun x4 =>
      md_narrow_b197 a1 a3 a4 x2 x4 M
theorem c_md_narrow_b137  (a1 : Int32) (a2 : Int32) (a3 : Int32) (a4 : Int32) (M : e_Me)  : x_X G 257 0 0 x_rim 137 [some (.ref 182), some (.int a1), some (.int a2), some (.int a3), some (.int a4), none, none, none] [] M (md_narrow_b137 a1 a2 a3 a4 M) := by
  rw [md_narrow_b137]
  refine xr_2 f_257_137 rfl ?_
  refine xr_1 f_257_138 rfl ?_
  refine xr_2 f_257_139 rfl ?_
  refine xr_30r f_257_140 h_182 rfl ?_
  refine xr_1 f_257_143 rfl ?_
  refine xr_32 f_257_144 h_203 ?_
  intro x1
  refine xr_8 f_257_145 ?_
  refine xr_2 f_257_146 rfl ?_
  refine xr_30i f_257_147 h_182 rfl ?_
  refine xr_13 f_257_150 ?_
  refine xr_ci f_257_151 (Nat.le_of_ble_eq_true rfl) rfl rfl (xr_rv kd_198 h_182) (Nat.le_of_ble_eq_true rfl) mc_198 ms_198 (c_md_armOf (x_rem (a1 + x1) (M 182 0)) M) ?_
  intro x2
  refine xr_4 [some (.ref 182), some (.int a1), some (.int a2), some (.int a3), some (.int a4), some (.int x2), none, none] f_257_154 rfl rfl ?_
  refine xr_1 f_257_156 rfl ?_
  refine xr_28_1 f_257_158 ?_ ?_
  · refine xr_1 f_257_176 rfl ?_
    refine xr_28_5 f_257_178 ?_ ?_
    · refine xr_1 f_257_190 rfl ?_
      refine xr_1 f_257_192 rfl ?_
      refine xr_ci f_257_194 (Nat.le_of_ble_eq_true rfl) rfl rfl (xr_rs kd_256) (Nat.le_of_ble_eq_true rfl) mc_256 ms_256 (c_md_upward a4 x2 M) ?_
      intro x3
      refine xr_wk (L' := [some (.ref 182), some (.int a1), none, some (.int a3), some (.int a4), some (.int x2), none, none]) [true, true, false, true, true, true, true, true] rfl ?_
      exact c_md_narrow_b197 a1 a3 a4 x2 x3 M
    · refine xr_1 f_257_181 rfl ?_
      refine xr_1 f_257_182 rfl ?_
      refine xr_ci f_257_184 (Nat.le_of_ble_eq_true rfl) rfl rfl (xr_rs kd_256) (Nat.le_of_ble_eq_true rfl) mc_256 ms_256 (c_md_upward a3 x2 M) ?_
      intro x4
      refine xr_27 f_257_187 ?_
      refine xr_wk (L' := [some (.ref 182), some (.int a1), none, some (.int a3), some (.int a4), some (.int x2), none, none]) [true, true, false, true, true, true, true, true] rfl ?_
      exact c_md_narrow_b197 a1 a3 a4 x2 x4 M
  · refine xr_1 f_257_161 rfl ?_
    refine xr_28_4 f_257_162 ?_ ?_
    · refine xr_0 f_257_174 ?_
      exact xr_52mc f_257_175 (by decide)
    · refine xr_1 f_257_165 rfl ?_
      refine xr_28_2 f_257_167 ?_ ?_
      · refine xr_0 f_257_174 ?_
        exact xr_52mc f_257_175 (by decide)
      · refine xr_0 f_257_170 ?_
        refine xr_27 f_257_171 ?_
        exact xr_52mc f_257_175 (by decide)

def md_narrow_l32  (a1 : Int32) (a2 : Int32) (M : e_Me) : Nat → Int32 → Int32 → Int32 → Option (Int32 × e_Me)
  | 0, _, _, _ => none
  | F + 1, a3, a4, a5 =>
    if (M 182 0) ≤ a5 then
      md_narrow_b137 a1 a2 a3 a4 M
    else
      if a5 = a1 then
        md_narrow_l32 a1 a2 M F a3 a4 (a5 + (1 : Int32))
      else
        x_rd (M 203) 12 a2 fun x1 =>
        x_dv (M 182 0) <|
        x_bd (md_armOf (x_rem (a5 + x1) (M 182 0)) M) fun x2 =>
        if x2 ≤ 0 then
          x_rd (M 206) 30 a5 fun x3 =>
          md_narrow_b96 (md_narrow_l32 a1 a2 M F) a1 a2 a4 a5 x2 (x2 * x3) a3 M
        else
          x_rd (M 207) 30 a5 fun x4 =>
          md_narrow_b96 (md_narrow_l32 a1 a2 M F) a1 a2 a4 a5 x2 (x2 * x4) a3 M
theorem c_md_narrow_l32  (a1 : Int32) (a2 : Int32) (M : e_Me)  : ∀ (F : Nat) (a3 : Int32) (a4 : Int32) (a5 : Int32), x_X G 257 0 0 x_rim 32 [some (.ref 182), some (.int a1), some (.int a2), some (.int a3), some (.int a4), some (.int a5), none, none] [] M (md_narrow_l32 a1 a2 M F a3 a4 a5) := by
  intro F
  induction F with
  | zero => intro a3 a4 a5; exact xr_none
  | succ F ih =>
    intro a3 a4 a5
    rw [md_narrow_l32]
    refine xr_1 f_257_32 rfl ?_
    refine xr_2 f_257_34 rfl ?_
    refine xr_30i f_257_35 h_182 rfl ?_
    refine xr_29_3 f_257_38 ?_ ?_
    · refine xr_wk (L' := [some (.ref 182), some (.int a1), some (.int a2), some (.int a3), some (.int a4), none, none, none]) [true, true, true, true, true, false, true, true] rfl ?_
      exact c_md_narrow_b137 a1 a2 a3 a4 M
    · refine xr_1 f_257_41 rfl ?_
      refine xr_1 f_257_43 rfl ?_
      refine xr_29_0 f_257_44 ?_ ?_
      · refine xr_7 [some (.ref 182), some (.int a1), some (.int a2), some (.int a3), some (.int a4), some (.int (a5 + (1 : Int32))), none, none] f_257_131 rfl rfl rfl ?_
        refine xr_27 f_257_134 ?_
        exact ih a3 a4 (a5 + (1 : Int32))
      · refine xr_2 f_257_47 rfl ?_
        refine xr_1 f_257_48 rfl ?_
        refine xr_2 f_257_50 rfl ?_
        refine xr_30r f_257_51 h_182 rfl ?_
        refine xr_1 f_257_54 rfl ?_
        refine xr_32 f_257_55 h_203 ?_
        intro x1
        refine xr_8 f_257_56 ?_
        refine xr_2 f_257_57 rfl ?_
        refine xr_30i f_257_58 h_182 rfl ?_
        refine xr_13 f_257_61 ?_
        refine xr_ci f_257_62 (Nat.le_of_ble_eq_true rfl) rfl rfl (xr_rv kd_198 h_182) (Nat.le_of_ble_eq_true rfl) mc_198 ms_198 (c_md_armOf (x_rem (a5 + x1) (M 182 0)) M) ?_
        intro x2
        refine xr_4 [some (.ref 182), some (.int a1), some (.int a2), some (.int a3), some (.int a4), some (.int a5), some (.int x2), none] f_257_65 rfl rfl ?_
        refine xr_1 f_257_67 rfl ?_
        refine xr_1 f_257_68 rfl ?_
        refine xr_28_5 f_257_70 ?_ ?_
        · refine xr_1 f_257_86 rfl ?_
          refine xr_2 f_257_88 rfl ?_
          refine xr_30r f_257_89 h_182 rfl ?_
          refine xr_1 f_257_92 rfl ?_
          refine xr_32 f_257_94 h_206 ?_
          intro x3
          refine xr_10 f_257_95 ?_
          refine xr_wk (L' := [some (.ref 182), some (.int a1), some (.int a2), none, some (.int a4), some (.int a5), some (.int x2), none]) [true, true, true, false, true, true, true, true] rfl ?_
          exact c_md_narrow_b96 (md_narrow_l32 a1 a2 M F) a1 a2 a4 a5 x2 (x2 * x3) a3 M ih
        · refine xr_1 f_257_73 rfl ?_
          refine xr_2 f_257_75 rfl ?_
          refine xr_30r f_257_76 h_182 rfl ?_
          refine xr_1 f_257_79 rfl ?_
          refine xr_32 f_257_81 h_207 ?_
          intro x4
          refine xr_10 f_257_82 ?_
          refine xr_27 f_257_83 ?_
          refine xr_wk (L' := [some (.ref 182), some (.int a1), some (.int a2), none, some (.int a4), some (.int a5), some (.int x2), none]) [true, true, true, false, true, true, true, true] rfl ?_
          exact c_md_narrow_b96 (md_narrow_l32 a1 a2 M F) a1 a2 a4 a5 x2 (x2 * x4) a3 M ih

def md_narrow (a1 : Int32) (a2 : Int32) (M : e_Me) : Option (Int32 × e_Me) :=
  x_rd (M 204) 12 a2 fun x1 =>
  x_rd (M 205) 12 a2 fun x2 =>
  x_lt (x1 - x2) fun y3 =>
  x_rd (M 204) 12 a2 fun x4 =>
  x_rd (M 205) 12 a2 fun x5 =>
  x_lt (x4 + x5) fun y6 =>
  md_narrow_l32 a1 a2 M e_F y3 y6 (0 : Int32)
theorem c_md_narrow (a1 : Int32) (a2 : Int32) (M : e_Me) : x_C G 257 [.ref 182, .int a1, .int a2] M x_rim (md_narrow a1 a2 M) := by
  refine x_C_of 8 [some (.ref 182), some (.int a1), some (.int a2), none, none, none, none, none] (by decide) ml_257 (Nat.le_of_ble_eq_true rfl) rfl ?_
  rw [md_narrow]
  refine xr_2 f_257_0 rfl ?_
  refine xr_30r f_257_1 h_182 rfl ?_
  refine xr_1 f_257_4 rfl ?_
  refine xr_32 f_257_5 h_204 ?_
  intro x1
  refine xr_2 f_257_6 rfl ?_
  refine xr_30r f_257_7 h_182 rfl ?_
  refine xr_1 f_257_10 rfl ?_
  refine xr_32 f_257_11 h_205 ?_
  intro x2
  refine xr_9 f_257_12 ?_
  refine xr_4l (fun y3 => [some (.ref 182), some (.int a1), some (.int a2), some (.int y3), none, none, none, none]) f_257_13 rfl (fun _ => rfl) ?_
  intro y3
  refine xr_2 f_257_14 rfl ?_
  refine xr_30r f_257_15 h_182 rfl ?_
  refine xr_1 f_257_18 rfl ?_
  refine xr_32 f_257_19 h_204 ?_
  intro x4
  refine xr_2 f_257_20 rfl ?_
  refine xr_30r f_257_21 h_182 rfl ?_
  refine xr_1 f_257_24 rfl ?_
  refine xr_32 f_257_25 h_205 ?_
  intro x5
  refine xr_8 f_257_26 ?_
  refine xr_4l (fun y6 => [some (.ref 182), some (.int a1), some (.int a2), some (.int y3), some (.int y6), none, none, none]) f_257_27 rfl (fun _ => rfl) ?_
  intro y6
  refine xr_0 f_257_29 ?_
  refine xr_4 [some (.ref 182), some (.int a1), some (.int a2), some (.int y3), some (.int y6), some (.int (0 : Int32)), none, none] f_257_30 rfl rfl ?_
  exact c_md_narrow_l32 a1 a2 M e_F y3 y6 (0 : Int32)

def md_narrowAll_l52 (k42 : Int32 → e_Me → Option (Int32 × e_Me)) (a1 : Int32) : Nat → Int32 → e_Me → Option (Int32 × e_Me)
  | 0, _, _ => none
  | F + 1, a2, M =>
    if (M 182 0) ≤ a2 then
      k42 (a1 + (1 : Int32)) M
    else
      x_bi (md_narrow a2 a1 M) fun x1 M2 =>
      if x1 = 0 then
        some (a1, M2)
      else
        md_narrowAll_l52 k42 a1 F (a2 + (1 : Int32)) M2
theorem c_md_narrowAll_l52 (k42 : Int32 → e_Me → Option (Int32 × e_Me)) (a1 : Int32) (hk42 : ∀ (a1 : Int32) (M : e_Me), x_X G 258 0 0 x_rim 42 [some (.ref 182), some (.int a1), none] [] M (k42 a1 M)) : ∀ (F : Nat) (a2 : Int32) (M : e_Me), x_X G 258 0 0 x_rim 52 [some (.ref 182), some (.int a1), some (.int a2)] [] M (md_narrowAll_l52 k42 a1 F a2 M) := by
  intro F
  induction F with
  | zero => intro a2 M; exact xr_none
  | succ F ih =>
    intro a2 M
    rw [md_narrowAll_l52]
    refine xr_1 f_258_52 rfl ?_
    refine xr_2 f_258_53 rfl ?_
    refine xr_30i f_258_54 h_182 rfl ?_
    refine xr_29_3 f_258_57 ?_ ?_
    · refine xr_7 [some (.ref 182), some (.int (a1 + (1 : Int32))), some (.int a2)] f_258_77 rfl rfl rfl ?_
      refine xr_27 f_258_80 ?_
      refine xr_wk (L' := [some (.ref 182), some (.int (a1 + (1 : Int32))), none]) [true, true, false] rfl ?_
      exact hk42 (a1 + (1 : Int32)) M
    · refine xr_2 f_258_60 rfl ?_
      refine xr_1 f_258_61 rfl ?_
      refine xr_1 f_258_62 rfl ?_
      refine xr_cim f_258_63 (Nat.le_of_ble_eq_true rfl) rfl rfl (xr_rv kd_257 h_182) (Nat.le_of_ble_eq_true rfl) mc_257 ms_257 (c_md_narrow a2 a1 M) ?_
      intro x1 M2
      refine xr_28_1 f_258_66 ?_ ?_
      · refine xr_7 [some (.ref 182), some (.int a1), some (.int (a2 + (1 : Int32)))] f_258_71 rfl rfl rfl ?_
        refine xr_27 f_258_74 ?_
        exact ih (a2 + (1 : Int32)) M2
      · refine xr_1 f_258_69 rfl ?_
        exact xr_51m f_258_70

def md_narrowAll_l42   : Nat → Int32 → e_Me → Option (Int32 × e_Me)
  | 0, _, _ => none
  | F + 1, a1, M =>
    if (M 182 38) ≤ a1 then
      some ((-1 : Int32), M)
    else
      md_narrowAll_l52 (md_narrowAll_l42  F) a1 e_F (0 : Int32) M
theorem c_md_narrowAll_l42    : ∀ (F : Nat) (a1 : Int32) (M : e_Me), x_X G 258 0 0 x_rim 42 [some (.ref 182), some (.int a1), none] [] M (md_narrowAll_l42  F a1 M) := by
  intro F
  induction F with
  | zero => intro a1 M; exact xr_none
  | succ F ih =>
    intro a1 M
    rw [md_narrowAll_l42]
    refine xr_1 f_258_42 rfl ?_
    refine xr_2 f_258_43 rfl ?_
    refine xr_30i f_258_44 h_182 rfl ?_
    refine xr_29_3 f_258_47 ?_ ?_
    · refine xr_0 f_258_83 ?_
      exact xr_51m f_258_84
    · refine xr_0 f_258_50 ?_
      refine xr_4 [some (.ref 182), some (.int a1), some (.int (0 : Int32))] f_258_51 rfl rfl ?_
      exact c_md_narrowAll_l52 (md_narrowAll_l42  F) a1 ih e_F (0 : Int32) M

def md_narrowAll_l2   : Nat → Int32 → e_Me → Option (Int32 × e_Me)
  | 0, _, _ => none
  | F + 1, a1, M =>
    if (M 182 0) ≤ a1 then
      md_narrowAll_l42  e_F (0 : Int32) M
    else
      x_rd (M 201) 30 a1 fun x1 =>
      x_wr M 206 30 a1 x1 fun M2 =>
      x_rd (M2 202) 30 a1 fun x3 =>
      x_wr M2 207 30 a1 x3 fun M4 =>
      md_narrowAll_l2  F (a1 + (1 : Int32)) M4
theorem c_md_narrowAll_l2    : ∀ (F : Nat) (a1 : Int32) (M : e_Me), x_X G 258 0 0 x_rim 2 [some (.ref 182), some (.int a1), none] [] M (md_narrowAll_l2  F a1 M) := by
  intro F
  induction F with
  | zero => intro a1 M; exact xr_none
  | succ F ih =>
    intro a1 M
    rw [md_narrowAll_l2]
    refine xr_1 f_258_2 rfl ?_
    refine xr_2 f_258_3 rfl ?_
    refine xr_30i f_258_4 h_182 rfl ?_
    refine xr_29_3 f_258_7 ?_ ?_
    · refine xr_0 f_258_40 ?_
      refine xr_4 [some (.ref 182), some (.int (0 : Int32)), none] f_258_41 rfl rfl ?_
      exact c_md_narrowAll_l42 e_F (0 : Int32) M
    · refine xr_2 f_258_10 rfl ?_
      refine xr_30r f_258_11 h_182 rfl ?_
      refine xr_1 f_258_14 rfl ?_
      refine xr_2 f_258_15 rfl ?_
      refine xr_30r f_258_16 h_182 rfl ?_
      refine xr_1 f_258_19 rfl ?_
      refine xr_32 f_258_20 h_201 ?_
      intro x1
      refine xr_33 f_258_21 h_206 ?_
      intro M2
      refine xr_2 f_258_22 rfl ?_
      refine xr_30r f_258_23 h_182 rfl ?_
      refine xr_1 f_258_26 rfl ?_
      refine xr_2 f_258_27 rfl ?_
      refine xr_30r f_258_28 h_182 rfl ?_
      refine xr_1 f_258_31 rfl ?_
      refine xr_32 f_258_32 h_202 ?_
      intro x3
      refine xr_33 f_258_33 h_207 ?_
      intro M4
      refine xr_7 [some (.ref 182), some (.int (a1 + (1 : Int32))), none] f_258_34 rfl rfl rfl ?_
      refine xr_27 f_258_37 ?_
      exact ih (a1 + (1 : Int32)) M4

def md_narrowAll  (M : e_Me) : Option (Int32 × e_Me) :=
  md_narrowAll_l2  e_F (0 : Int32) M
theorem c_md_narrowAll  (M : e_Me) : x_C G 258 [.ref 182] M x_rim (md_narrowAll  M) := by
  refine x_C_of 3 [some (.ref 182), none, none] (by decide) ml_258 (Nat.le_of_ble_eq_true rfl) rfl ?_
  rw [md_narrowAll]
  refine xr_0 f_258_0 ?_
  refine xr_4 [some (.ref 182), some (.int (0 : Int32)), none] f_258_1 rfl rfl ?_
  exact c_md_narrowAll_l2 e_F (0 : Int32) M

def md_fit (a1 : Int32) (a2 : Int32) (M : e_Me) : Option (Int32 × e_Me) :=
  x_bd (md_isCabin a1 M) fun x1 =>
  if x1 = 0 then
    some ((-101 : Int32), M)
  else
    x_bd (md_in (a2).toInt64 ((0 : Int32)).toInt64 ((1 : Int32)).toInt64 M) fun x2 =>
    if x2 = 0 then
      some ((-102 : Int32), M)
    else
      x_bi (md_narrowAll M) fun x3 M4 =>
      if x3 = (-1 : Int32) then
        if a2 = 0 then
          x_rd (M4 206) 30 a1 fun x6 =>
          some (x6, M4)
        else
          x_rd (M4 207) 30 a1 fun x5 =>
          some (x5, M4)
      else
        some ((-1 : Int32), M4)
theorem c_md_fit (a1 : Int32) (a2 : Int32) (M : e_Me) : x_C G 259 [.ref 182, .int a1, .int a2] M x_rim (md_fit a1 a2 M) := by
  refine x_C_of 3 [some (.ref 182), some (.int a1), some (.int a2)] (by decide) ml_259 (Nat.le_of_ble_eq_true rfl) rfl ?_
  rw [md_fit]
  refine xr_2 f_259_0 rfl ?_
  refine xr_1 f_259_1 rfl ?_
  refine xr_ci f_259_2 (Nat.le_of_ble_eq_true rfl) rfl rfl (xr_rv kd_212 h_182) (Nat.le_of_ble_eq_true rfl) mc_212 ms_212 (c_md_isCabin a1 M) ?_
  intro x1
  refine xr_28_1 f_259_5 ?_ ?_
  · refine xr_1 f_259_11 rfl ?_
    refine xr_19 f_259_12 ?_
    refine xr_23 f_259_13 ?_
    refine xr_23 f_259_14 ?_
    refine xr_ci f_259_15 (Nat.le_of_ble_eq_true rfl) rfl rfl (xr_rs kd_193) (Nat.le_of_ble_eq_true rfl) mc_193 ms_193 (c_md_in (a2).toInt64 ((0 : Int32)).toInt64 ((1 : Int32)).toInt64 M) ?_
    intro x2
    refine xr_28_1 f_259_18 ?_ ?_
    · refine xr_2 f_259_24 rfl ?_
      refine xr_cim f_259_25 (Nat.le_of_ble_eq_true rfl) rfl rfl (xr_rv kd_258 h_182) (Nat.le_of_ble_eq_true rfl) mc_258 ms_258 (c_md_narrowAll M) ?_
      intro x3 M4
      refine xr_0 f_259_28 ?_
      refine xr_29_0 f_259_29 ?_ ?_
      · refine xr_1 f_259_36 rfl ?_
        refine xr_28_1 f_259_37 ?_ ?_
        · refine xr_2 f_259_49 rfl ?_
          refine xr_30r f_259_50 h_182 rfl ?_
          refine xr_1 f_259_53 rfl ?_
          refine xr_32 f_259_54 h_207 ?_
          intro x5
          exact xr_51m f_259_55
        · refine xr_2 f_259_40 rfl ?_
          refine xr_30r f_259_41 h_182 rfl ?_
          refine xr_1 f_259_44 rfl ?_
          refine xr_32 f_259_45 h_206 ?_
          intro x6
          refine xr_27 f_259_46 ?_
          exact xr_51m f_259_55
      · refine xr_0 f_259_32 ?_
        refine xr_27 f_259_33 ?_
        exact xr_51m f_259_55
    · refine xr_0 f_259_21 ?_
      exact xr_51m f_259_23
  · refine xr_0 f_259_8 ?_
    exact xr_51m f_259_10

def md_breaks  (M : e_Me) : Option (Int32 × e_Me) :=
  x_bi (md_narrowAll M) fun x1 M2 =>
  some (x1, M2)
theorem c_md_breaks  (M : e_Me) : x_C G 260 [.ref 182] M x_rim (md_breaks  M) := by
  refine x_C_of 1 [some (.ref 182)] (by decide) ml_260 (Nat.le_of_ble_eq_true rfl) rfl ?_
  rw [md_breaks]
  refine xr_2 f_260_0 rfl ?_
  refine xr_cim f_260_1 (Nat.le_of_ble_eq_true rfl) rfl rfl (xr_rv kd_258 h_182) (Nat.le_of_ble_eq_true rfl) mc_258 ms_258 (c_md_narrowAll M) ?_
  intro x1 M2
  exact xr_51m f_260_4

def md_agree_l14  (M : e_Me) : Nat → Int32 → Int32 → Option (Int32 × e_Me)
  | 0, _, _ => none
  | F + 1, a1, a2 =>
    if (M 182 0) ≤ a2 then
      some (a1, M)
    else
      x_rd (M 185) 30 a2 fun x1 =>
      x_rd (M 206) 30 a2 fun x2 =>
      x_rd (M 207) 30 a2 fun x3 =>
      x_bd (md_in (x1).toInt64 (x2).toInt64 (x3).toInt64 M) fun x4 =>
      if x4 = 0 then
        x_lt (a1 + (0 : Int32)) fun y5 =>
        md_agree_l14 M F y5 (a2 + (1 : Int32))
      else
        x_lt (a1 + (1 : Int32)) fun y6 =>
        md_agree_l14 M F y6 (a2 + (1 : Int32))
theorem c_md_agree_l14  (M : e_Me)  : ∀ (F : Nat) (a1 : Int32) (a2 : Int32), x_X G 261 0 0 x_rim 14 [some (.ref 182), some (.int a1), some (.int a2)] [] M (md_agree_l14 M F a1 a2) := by
  intro F
  induction F with
  | zero => intro a1 a2; exact xr_none
  | succ F ih =>
    intro a1 a2
    rw [md_agree_l14]
    refine xr_1 f_261_14 rfl ?_
    refine xr_2 f_261_15 rfl ?_
    refine xr_30i f_261_16 h_182 rfl ?_
    refine xr_29_3 f_261_19 ?_ ?_
    · refine xr_1 f_261_63 rfl ?_
      exact xr_51m f_261_64
    · refine xr_1 f_261_22 rfl ?_
      refine xr_2 f_261_23 rfl ?_
      refine xr_30r f_261_24 h_182 rfl ?_
      refine xr_1 f_261_27 rfl ?_
      refine xr_32 f_261_28 h_185 ?_
      intro x1
      refine xr_19 f_261_29 ?_
      refine xr_2 f_261_30 rfl ?_
      refine xr_30r f_261_31 h_182 rfl ?_
      refine xr_1 f_261_34 rfl ?_
      refine xr_32 f_261_35 h_206 ?_
      intro x2
      refine xr_19 f_261_36 ?_
      refine xr_2 f_261_37 rfl ?_
      refine xr_30r f_261_38 h_182 rfl ?_
      refine xr_1 f_261_41 rfl ?_
      refine xr_32 f_261_42 h_207 ?_
      intro x3
      refine xr_19 f_261_43 ?_
      refine xr_ci f_261_44 (Nat.le_of_ble_eq_true rfl) rfl rfl (xr_rs kd_193) (Nat.le_of_ble_eq_true rfl) mc_193 ms_193 (c_md_in (x1).toInt64 (x2).toInt64 (x3).toInt64 M) ?_
      intro x4
      refine xr_28_0 f_261_47 ?_ ?_
      · refine xr_0 f_261_54 ?_
        refine xr_8 f_261_55 ?_
        refine xr_4l (fun y5 => [some (.ref 182), some (.int y5), some (.int a2)]) f_261_56 rfl (fun _ => rfl) ?_
        intro y5
        refine xr_7 [some (.ref 182), some (.int y5), some (.int (a2 + (1 : Int32)))] f_261_57 rfl rfl rfl ?_
        refine xr_27 f_261_60 ?_
        exact ih y5 (a2 + (1 : Int32))
      · refine xr_0 f_261_50 ?_
        refine xr_27 f_261_51 ?_
        refine xr_8 f_261_55 ?_
        refine xr_4l (fun y6 => [some (.ref 182), some (.int y6), some (.int a2)]) f_261_56 rfl (fun _ => rfl) ?_
        intro y6
        refine xr_7 [some (.ref 182), some (.int y6), some (.int (a2 + (1 : Int32)))] f_261_57 rfl rfl rfl ?_
        refine xr_27 f_261_60 ?_
        exact ih y6 (a2 + (1 : Int32))

def md_agree  (M : e_Me) : Option (Int32 × e_Me) :=
  x_bi (md_narrowAll M) fun x1 M2 =>
  if x1 = (-1 : Int32) then
    md_agree_l14 M2 e_F (0 : Int32) (0 : Int32)
  else
    some ((-1 : Int32), M2)
theorem c_md_agree  (M : e_Me) : x_C G 261 [.ref 182] M x_rim (md_agree  M) := by
  refine x_C_of 3 [some (.ref 182), none, none] (by decide) ml_261 (Nat.le_of_ble_eq_true rfl) rfl ?_
  rw [md_agree]
  refine xr_2 f_261_0 rfl ?_
  refine xr_cim f_261_1 (Nat.le_of_ble_eq_true rfl) rfl rfl (xr_rv kd_258 h_182) (Nat.le_of_ble_eq_true rfl) mc_258 ms_258 (c_md_narrowAll M) ?_
  intro x1 M2
  refine xr_0 f_261_4 ?_
  refine xr_29_0 f_261_5 ?_ ?_
  · refine xr_0 f_261_10 ?_
    refine xr_4 [some (.ref 182), some (.int (0 : Int32)), none] f_261_11 rfl rfl ?_
    refine xr_0 f_261_12 ?_
    refine xr_4 [some (.ref 182), some (.int (0 : Int32)), some (.int (0 : Int32))] f_261_13 rfl rfl ?_
    exact c_md_agree_l14 M2 e_F (0 : Int32) (0 : Int32)
  · refine xr_0 f_261_8 ?_
    exact xr_51m f_261_9

def md_digest_l145 (k134 : Int64 → Int32 → Option Int64) (a3 : Int32) (M : e_Me) : Nat → Int64 → Int32 → Option Int64
  | 0, _, _ => none
  | F + 1, a1, a4 =>
    if (6 : Int32) ≤ a4 then
      k134 a1 (a3 + (1 : Int32))
    else
      x_bd (md_partyOf a3 a4 M) fun x1 =>
      x_lt ((((31 : Int32)).toInt64 * a1) + (x1).toInt64) fun y2 =>
      md_digest_l145 k134 a3 M F y2 (a4 + (1 : Int32))
theorem c_md_digest_l145 (k134 : Int64 → Int32 → Option Int64) (a3 : Int32) (M : e_Me) (hk134 : ∀ (a1 : Int64) (a3 : Int32), x_X G 262 0 0 (x_rl M) 134 [some (.ref 182), some (.long a1), none, some (.int a3), none] [] M (k134 a1 a3)) : ∀ (F : Nat) (a1 : Int64) (a4 : Int32), x_X G 262 0 0 (x_rl M) 145 [some (.ref 182), some (.long a1), none, some (.int a3), some (.int a4)] [] M (md_digest_l145 k134 a3 M F a1 a4) := by
  intro F
  induction F with
  | zero => intro a1 a4; exact xr_none
  | succ F ih =>
    intro a1 a4
    rw [md_digest_l145]
    refine xr_1 f_262_145 rfl ?_
    refine xr_0 f_262_147 ?_
    refine xr_29_3 f_262_149 ?_ ?_
    · refine xr_7 [some (.ref 182), some (.long a1), none, some (.int (a3 + (1 : Int32))), some (.int a4)] f_262_173 rfl rfl rfl ?_
      refine xr_27 f_262_176 ?_
      refine xr_wk (L' := [some (.ref 182), some (.long a1), none, some (.int (a3 + (1 : Int32))), none]) [true, true, true, true, false] rfl ?_
      exact hk134 a1 (a3 + (1 : Int32))
    · refine xr_23 f_262_152 ?_
      refine xr_3 f_262_155 rfl ?_
      refine xr_21 f_262_156 ?_
      refine xr_2 f_262_157 rfl ?_
      refine xr_1 f_262_158 rfl ?_
      refine xr_1 f_262_159 rfl ?_
      refine xr_ci f_262_161 (Nat.le_of_ble_eq_true rfl) rfl rfl (xr_rv kd_233 h_182) (Nat.le_of_ble_eq_true rfl) mc_233 ms_233 (c_md_partyOf a3 a4 M) ?_
      intro x1
      refine xr_19 f_262_164 ?_
      refine xr_20 f_262_165 ?_
      refine xr_6l (fun y2 => [some (.ref 182), some (.long y2), none, some (.int a3), some (.int a4)]) f_262_166 rfl (fun _ => rfl) ?_
      intro y2
      refine xr_7 [some (.ref 182), some (.long y2), none, some (.int a3), some (.int (a4 + (1 : Int32)))] f_262_167 rfl rfl rfl ?_
      refine xr_27 f_262_170 ?_
      exact ih y2 (a4 + (1 : Int32))

def md_digest_l222 (k211 : Int64 → Int32 → Option Int64) (a3 : Int32) (M : e_Me) : Nat → Int64 → Int32 → Option Int64
  | 0, _, _ => none
  | F + 1, a1, a4 =>
    x_rd (M 184) 30 a3 fun x1 =>
    if x1 ≤ a4 then
      k211 a1 (a3 + (1 : Int32))
    else
      x_rd (M 183) 180 (((6 : Int32) * a3) + a4) fun x2 =>
      x_lt ((((31 : Int32)).toInt64 * a1) + (x2).toInt64) fun y3 =>
      md_digest_l222 k211 a3 M F y3 (a4 + (1 : Int32))
theorem c_md_digest_l222 (k211 : Int64 → Int32 → Option Int64) (a3 : Int32) (M : e_Me) (hk211 : ∀ (a1 : Int64) (a3 : Int32), x_X G 262 0 0 (x_rl M) 211 [some (.ref 182), some (.long a1), none, some (.int a3), none] [] M (k211 a1 a3)) : ∀ (F : Nat) (a1 : Int64) (a4 : Int32), x_X G 262 0 0 (x_rl M) 222 [some (.ref 182), some (.long a1), none, some (.int a3), some (.int a4)] [] M (md_digest_l222 k211 a3 M F a1 a4) := by
  intro F
  induction F with
  | zero => intro a1 a4; exact xr_none
  | succ F ih =>
    intro a1 a4
    rw [md_digest_l222]
    refine xr_1 f_262_222 rfl ?_
    refine xr_2 f_262_224 rfl ?_
    refine xr_30r f_262_225 h_182 rfl ?_
    refine xr_1 f_262_228 rfl ?_
    refine xr_32 f_262_229 h_184 ?_
    intro x1
    refine xr_29_3 f_262_230 ?_ ?_
    · refine xr_7 [some (.ref 182), some (.long a1), none, some (.int (a3 + (1 : Int32))), some (.int a4)] f_262_259 rfl rfl rfl ?_
      refine xr_27 f_262_262 ?_
      refine xr_wk (L' := [some (.ref 182), some (.long a1), none, some (.int (a3 + (1 : Int32))), none]) [true, true, true, true, false] rfl ?_
      exact hk211 a1 (a3 + (1 : Int32))
    · refine xr_23 f_262_233 ?_
      refine xr_3 f_262_236 rfl ?_
      refine xr_21 f_262_237 ?_
      refine xr_2 f_262_238 rfl ?_
      refine xr_30r f_262_239 h_182 rfl ?_
      refine xr_0 f_262_242 ?_
      refine xr_1 f_262_244 rfl ?_
      refine xr_10 f_262_245 ?_
      refine xr_1 f_262_246 rfl ?_
      refine xr_8 f_262_248 ?_
      refine xr_32 f_262_249 h_183 ?_
      intro x2
      refine xr_19 f_262_250 ?_
      refine xr_20 f_262_251 ?_
      refine xr_6l (fun y3 => [some (.ref 182), some (.long y3), none, some (.int a3), some (.int a4)]) f_262_252 rfl (fun _ => rfl) ?_
      intro y3
      refine xr_7 [some (.ref 182), some (.long y3), none, some (.int a3), some (.int (a4 + (1 : Int32)))] f_262_253 rfl rfl rfl ?_
      refine xr_27 f_262_256 ?_
      exact ih y3 (a4 + (1 : Int32))

def md_digest_l355  (M : e_Me) : Nat → Int64 → Int32 → Option Int64
  | 0, _, _ => none
  | F + 1, a1, a3 =>
    if (M 182 38) ≤ a3 then
      some a1
    else
      x_rd (M 203) 12 a3 fun x1 =>
      x_lt ((((31 : Int32)).toInt64 * a1) + (x1).toInt64) fun y2 =>
      x_rd (M 204) 12 a3 fun x3 =>
      x_lt ((((31 : Int32)).toInt64 * y2) + (x3).toInt64) fun y4 =>
      x_rd (M 205) 12 a3 fun x5 =>
      x_lt ((((31 : Int32)).toInt64 * y4) + (x5).toInt64) fun y6 =>
      md_digest_l355 M F y6 (a3 + (1 : Int32))
theorem c_md_digest_l355  (M : e_Me)  : ∀ (F : Nat) (a1 : Int64) (a3 : Int32), x_X G 262 0 0 (x_rl M) 355 [some (.ref 182), some (.long a1), none, some (.int a3), none] [] M (md_digest_l355 M F a1 a3) := by
  intro F
  induction F with
  | zero => intro a1 a3; exact xr_none
  | succ F ih =>
    intro a1 a3
    rw [md_digest_l355]
    refine xr_1 f_262_355 rfl ?_
    refine xr_2 f_262_356 rfl ?_
    refine xr_30i f_262_357 h_182 rfl ?_
    refine xr_29_3 f_262_360 ?_ ?_
    · refine xr_3 f_262_411 rfl ?_
      exact xr_53 f_262_412
    · refine xr_23 f_262_363 ?_
      refine xr_3 f_262_366 rfl ?_
      refine xr_21 f_262_367 ?_
      refine xr_2 f_262_368 rfl ?_
      refine xr_30r f_262_369 h_182 rfl ?_
      refine xr_1 f_262_372 rfl ?_
      refine xr_32 f_262_373 h_203 ?_
      intro x1
      refine xr_19 f_262_374 ?_
      refine xr_20 f_262_375 ?_
      refine xr_6l (fun y2 => [some (.ref 182), some (.long y2), none, some (.int a3), none]) f_262_376 rfl (fun _ => rfl) ?_
      intro y2
      refine xr_23 f_262_377 ?_
      refine xr_3 f_262_380 rfl ?_
      refine xr_21 f_262_381 ?_
      refine xr_2 f_262_382 rfl ?_
      refine xr_30r f_262_383 h_182 rfl ?_
      refine xr_1 f_262_386 rfl ?_
      refine xr_32 f_262_387 h_204 ?_
      intro x3
      refine xr_19 f_262_388 ?_
      refine xr_20 f_262_389 ?_
      refine xr_6l (fun y4 => [some (.ref 182), some (.long y4), none, some (.int a3), none]) f_262_390 rfl (fun _ => rfl) ?_
      intro y4
      refine xr_23 f_262_391 ?_
      refine xr_3 f_262_394 rfl ?_
      refine xr_21 f_262_395 ?_
      refine xr_2 f_262_396 rfl ?_
      refine xr_30r f_262_397 h_182 rfl ?_
      refine xr_1 f_262_400 rfl ?_
      refine xr_32 f_262_401 h_205 ?_
      intro x5
      refine xr_19 f_262_402 ?_
      refine xr_20 f_262_403 ?_
      refine xr_6l (fun y6 => [some (.ref 182), some (.long y6), none, some (.int a3), none]) f_262_404 rfl (fun _ => rfl) ?_
      intro y6
      refine xr_7 [some (.ref 182), some (.long y6), none, some (.int (a3 + (1 : Int32))), none] f_262_405 rfl rfl rfl ?_
      refine xr_27 f_262_408 ?_
      exact ih y6 (a3 + (1 : Int32))

def md_digest_l311  (M : e_Me) : Nat → Int64 → Int32 → Option Int64
  | 0, _, _ => none
  | F + 1, a1, a3 =>
    if (M 182 0) ≤ a3 then
      md_digest_l355 M e_F a1 (0 : Int32)
    else
      x_rd (M 201) 30 a3 fun x1 =>
      x_lt ((((31 : Int32)).toInt64 * a1) + (x1).toInt64) fun y2 =>
      x_rd (M 202) 30 a3 fun x3 =>
      x_lt ((((31 : Int32)).toInt64 * y2) + (x3).toInt64) fun y4 =>
      md_digest_l311 M F y4 (a3 + (1 : Int32))
theorem c_md_digest_l311  (M : e_Me)  : ∀ (F : Nat) (a1 : Int64) (a3 : Int32), x_X G 262 0 0 (x_rl M) 311 [some (.ref 182), some (.long a1), none, some (.int a3), none] [] M (md_digest_l311 M F a1 a3) := by
  intro F
  induction F with
  | zero => intro a1 a3; exact xr_none
  | succ F ih =>
    intro a1 a3
    rw [md_digest_l311]
    refine xr_1 f_262_311 rfl ?_
    refine xr_2 f_262_312 rfl ?_
    refine xr_30i f_262_313 h_182 rfl ?_
    refine xr_29_3 f_262_316 ?_ ?_
    · refine xr_0 f_262_353 ?_
      refine xr_4 [some (.ref 182), some (.long a1), none, some (.int (0 : Int32)), none] f_262_354 rfl rfl ?_
      exact c_md_digest_l355 M e_F a1 (0 : Int32)
    · refine xr_23 f_262_319 ?_
      refine xr_3 f_262_322 rfl ?_
      refine xr_21 f_262_323 ?_
      refine xr_2 f_262_324 rfl ?_
      refine xr_30r f_262_325 h_182 rfl ?_
      refine xr_1 f_262_328 rfl ?_
      refine xr_32 f_262_329 h_201 ?_
      intro x1
      refine xr_19 f_262_330 ?_
      refine xr_20 f_262_331 ?_
      refine xr_6l (fun y2 => [some (.ref 182), some (.long y2), none, some (.int a3), none]) f_262_332 rfl (fun _ => rfl) ?_
      intro y2
      refine xr_23 f_262_333 ?_
      refine xr_3 f_262_336 rfl ?_
      refine xr_21 f_262_337 ?_
      refine xr_2 f_262_338 rfl ?_
      refine xr_30r f_262_339 h_182 rfl ?_
      refine xr_1 f_262_342 rfl ?_
      refine xr_32 f_262_343 h_202 ?_
      intro x3
      refine xr_19 f_262_344 ?_
      refine xr_20 f_262_345 ?_
      refine xr_6l (fun y4 => [some (.ref 182), some (.long y4), none, some (.int a3), none]) f_262_346 rfl (fun _ => rfl) ?_
      intro y4
      refine xr_7 [some (.ref 182), some (.long y4), none, some (.int (a3 + (1 : Int32))), none] f_262_347 rfl rfl rfl ?_
      refine xr_27 f_262_350 ?_
      exact ih y4 (a3 + (1 : Int32))

def md_digest_l267  (M : e_Me) : Nat → Int64 → Int32 → Option Int64
  | 0, _, _ => none
  | F + 1, a1, a3 =>
    if (M 182 31) ≤ a3 then
      md_digest_l311 M e_F a1 (0 : Int32)
    else
      x_rd (M 197) 40 a3 fun x1 =>
      x_lt ((((31 : Int32)).toInt64 * a1) + (x1).toInt64) fun y2 =>
      x_rd (M 198) 40 a3 fun x3 =>
      x_lt ((((31 : Int32)).toInt64 * y2) + (x3).toInt64) fun y4 =>
      md_digest_l267 M F y4 (a3 + (1 : Int32))
theorem c_md_digest_l267  (M : e_Me)  : ∀ (F : Nat) (a1 : Int64) (a3 : Int32), x_X G 262 0 0 (x_rl M) 267 [some (.ref 182), some (.long a1), none, some (.int a3), none] [] M (md_digest_l267 M F a1 a3) := by
  intro F
  induction F with
  | zero => intro a1 a3; exact xr_none
  | succ F ih =>
    intro a1 a3
    rw [md_digest_l267]
    refine xr_1 f_262_267 rfl ?_
    refine xr_2 f_262_268 rfl ?_
    refine xr_30i f_262_269 h_182 rfl ?_
    refine xr_29_3 f_262_272 ?_ ?_
    · refine xr_0 f_262_309 ?_
      refine xr_4 [some (.ref 182), some (.long a1), none, some (.int (0 : Int32)), none] f_262_310 rfl rfl ?_
      exact c_md_digest_l311 M e_F a1 (0 : Int32)
    · refine xr_23 f_262_275 ?_
      refine xr_3 f_262_278 rfl ?_
      refine xr_21 f_262_279 ?_
      refine xr_2 f_262_280 rfl ?_
      refine xr_30r f_262_281 h_182 rfl ?_
      refine xr_1 f_262_284 rfl ?_
      refine xr_32 f_262_285 h_197 ?_
      intro x1
      refine xr_19 f_262_286 ?_
      refine xr_20 f_262_287 ?_
      refine xr_6l (fun y2 => [some (.ref 182), some (.long y2), none, some (.int a3), none]) f_262_288 rfl (fun _ => rfl) ?_
      intro y2
      refine xr_23 f_262_289 ?_
      refine xr_3 f_262_292 rfl ?_
      refine xr_21 f_262_293 ?_
      refine xr_2 f_262_294 rfl ?_
      refine xr_30r f_262_295 h_182 rfl ?_
      refine xr_1 f_262_298 rfl ?_
      refine xr_32 f_262_299 h_198 ?_
      intro x3
      refine xr_19 f_262_300 ?_
      refine xr_20 f_262_301 ?_
      refine xr_6l (fun y4 => [some (.ref 182), some (.long y4), none, some (.int a3), none]) f_262_302 rfl (fun _ => rfl) ?_
      intro y4
      refine xr_7 [some (.ref 182), some (.long y4), none, some (.int (a3 + (1 : Int32))), none] f_262_303 rfl rfl rfl ?_
      refine xr_27 f_262_306 ?_
      exact ih y4 (a3 + (1 : Int32))

def md_digest_l211  (M : e_Me) : Nat → Int64 → Int32 → Option Int64
  | 0, _, _ => none
  | F + 1, a1, a3 =>
    if (M 182 0) ≤ a3 then
      md_digest_l267 M e_F a1 (0 : Int32)
    else
      md_digest_l222 (md_digest_l211 M F) a3 M e_F a1 (0 : Int32)
theorem c_md_digest_l211  (M : e_Me)  : ∀ (F : Nat) (a1 : Int64) (a3 : Int32), x_X G 262 0 0 (x_rl M) 211 [some (.ref 182), some (.long a1), none, some (.int a3), none] [] M (md_digest_l211 M F a1 a3) := by
  intro F
  induction F with
  | zero => intro a1 a3; exact xr_none
  | succ F ih =>
    intro a1 a3
    rw [md_digest_l211]
    refine xr_1 f_262_211 rfl ?_
    refine xr_2 f_262_212 rfl ?_
    refine xr_30i f_262_213 h_182 rfl ?_
    refine xr_29_3 f_262_216 ?_ ?_
    · refine xr_0 f_262_265 ?_
      refine xr_4 [some (.ref 182), some (.long a1), none, some (.int (0 : Int32)), none] f_262_266 rfl rfl ?_
      exact c_md_digest_l267 M e_F a1 (0 : Int32)
    · refine xr_0 f_262_219 ?_
      refine xr_4 [some (.ref 182), some (.long a1), none, some (.int a3), some (.int (0 : Int32))] f_262_220 rfl rfl ?_
      exact c_md_digest_l222 (md_digest_l211 M F) a3 M ih e_F a1 (0 : Int32)

def md_digest_l181  (M : e_Me) : Nat → Int64 → Int32 → Option Int64
  | 0, _, _ => none
  | F + 1, a1, a3 =>
    if (M 182 19) ≤ a3 then
      md_digest_l211 M e_F a1 (0 : Int32)
    else
      x_rd (M 192) 30 a3 fun x1 =>
      x_lt ((((31 : Int32)).toInt64 * a1) + (x1).toInt64) fun y2 =>
      md_digest_l181 M F y2 (a3 + (1 : Int32))
theorem c_md_digest_l181  (M : e_Me)  : ∀ (F : Nat) (a1 : Int64) (a3 : Int32), x_X G 262 0 0 (x_rl M) 181 [some (.ref 182), some (.long a1), none, some (.int a3), none] [] M (md_digest_l181 M F a1 a3) := by
  intro F
  induction F with
  | zero => intro a1 a3; exact xr_none
  | succ F ih =>
    intro a1 a3
    rw [md_digest_l181]
    refine xr_1 f_262_181 rfl ?_
    refine xr_2 f_262_182 rfl ?_
    refine xr_30i f_262_183 h_182 rfl ?_
    refine xr_29_3 f_262_186 ?_ ?_
    · refine xr_0 f_262_209 ?_
      refine xr_4 [some (.ref 182), some (.long a1), none, some (.int (0 : Int32)), none] f_262_210 rfl rfl ?_
      exact c_md_digest_l211 M e_F a1 (0 : Int32)
    · refine xr_23 f_262_189 ?_
      refine xr_3 f_262_192 rfl ?_
      refine xr_21 f_262_193 ?_
      refine xr_2 f_262_194 rfl ?_
      refine xr_30r f_262_195 h_182 rfl ?_
      refine xr_1 f_262_198 rfl ?_
      refine xr_32 f_262_199 h_192 ?_
      intro x1
      refine xr_19 f_262_200 ?_
      refine xr_20 f_262_201 ?_
      refine xr_6l (fun y2 => [some (.ref 182), some (.long y2), none, some (.int a3), none]) f_262_202 rfl (fun _ => rfl) ?_
      intro y2
      refine xr_7 [some (.ref 182), some (.long y2), none, some (.int (a3 + (1 : Int32))), none] f_262_203 rfl rfl rfl ?_
      refine xr_27 f_262_206 ?_
      exact ih y2 (a3 + (1 : Int32))

def md_digest_l134  (M : e_Me) : Nat → Int64 → Int32 → Option Int64
  | 0, _, _ => none
  | F + 1, a1, a3 =>
    if (M 182 12) ≤ a3 then
      md_digest_l181 M e_F a1 (0 : Int32)
    else
      md_digest_l145 (md_digest_l134 M F) a3 M e_F a1 (0 : Int32)
theorem c_md_digest_l134  (M : e_Me)  : ∀ (F : Nat) (a1 : Int64) (a3 : Int32), x_X G 262 0 0 (x_rl M) 134 [some (.ref 182), some (.long a1), none, some (.int a3), none] [] M (md_digest_l134 M F a1 a3) := by
  intro F
  induction F with
  | zero => intro a1 a3; exact xr_none
  | succ F ih =>
    intro a1 a3
    rw [md_digest_l134]
    refine xr_1 f_262_134 rfl ?_
    refine xr_2 f_262_135 rfl ?_
    refine xr_30i f_262_136 h_182 rfl ?_
    refine xr_29_3 f_262_139 ?_ ?_
    · refine xr_0 f_262_179 ?_
      refine xr_4 [some (.ref 182), some (.long a1), none, some (.int (0 : Int32)), none] f_262_180 rfl rfl ?_
      exact c_md_digest_l181 M e_F a1 (0 : Int32)
    · refine xr_0 f_262_142 ?_
      refine xr_4 [some (.ref 182), some (.long a1), none, some (.int a3), some (.int (0 : Int32))] f_262_143 rfl rfl ?_
      exact c_md_digest_l145 (md_digest_l134 M F) a3 M ih e_F a1 (0 : Int32)

def md_digest_b81  (s0 : Int32) (s1 : Int64) (M : e_Me) : Option Int64 :=
  x_lt (s1 + (s0).toInt64) fun y1 =>
  x_lt ((((31 : Int32)).toInt64 * y1) + ((M 182 4)).toInt64) fun y2 =>
  x_lt ((((31 : Int32)).toInt64 * y2) + ((M 182 5)).toInt64) fun y3 =>
  x_lt ((((31 : Int32)).toInt64 * y3) + ((M 182 6)).toInt64) fun y4 =>
  x_lt ((((31 : Int32)).toInt64 * y4) + ((M 182 7)).toInt64) fun y5 =>
  md_digest_l134 M e_F y5 (0 : Int32)
theorem c_md_digest_b81  (s0 : Int32) (s1 : Int64) (M : e_Me)  : x_X G 262 0 0 (x_rl M) 81 [some (.ref 182), none, none, none, none] [.int s0, .long s1] M (md_digest_b81 s0 s1 M) := by
  rw [md_digest_b81]
  refine xr_19 f_262_81 ?_
  refine xr_20 f_262_82 ?_
  refine xr_6l (fun y1 => [some (.ref 182), some (.long y1), none, none, none]) f_262_83 rfl (fun _ => rfl) ?_
  intro y1
  refine xr_23 f_262_84 ?_
  refine xr_3 f_262_87 rfl ?_
  refine xr_21 f_262_88 ?_
  refine xr_2 f_262_89 rfl ?_
  refine xr_30i f_262_90 h_182 rfl ?_
  refine xr_19 f_262_93 ?_
  refine xr_20 f_262_94 ?_
  refine xr_6l (fun y2 => [some (.ref 182), some (.long y2), none, none, none]) f_262_95 rfl (fun _ => rfl) ?_
  intro y2
  refine xr_23 f_262_96 ?_
  refine xr_3 f_262_99 rfl ?_
  refine xr_21 f_262_100 ?_
  refine xr_2 f_262_101 rfl ?_
  refine xr_30i f_262_102 h_182 rfl ?_
  refine xr_19 f_262_105 ?_
  refine xr_20 f_262_106 ?_
  refine xr_6l (fun y3 => [some (.ref 182), some (.long y3), none, none, none]) f_262_107 rfl (fun _ => rfl) ?_
  intro y3
  refine xr_23 f_262_108 ?_
  refine xr_3 f_262_111 rfl ?_
  refine xr_21 f_262_112 ?_
  refine xr_2 f_262_113 rfl ?_
  refine xr_30i f_262_114 h_182 rfl ?_
  refine xr_19 f_262_117 ?_
  refine xr_20 f_262_118 ?_
  refine xr_6l (fun y4 => [some (.ref 182), some (.long y4), none, none, none]) f_262_119 rfl (fun _ => rfl) ?_
  intro y4
  refine xr_23 f_262_120 ?_
  refine xr_3 f_262_123 rfl ?_
  refine xr_21 f_262_124 ?_
  refine xr_2 f_262_125 rfl ?_
  refine xr_30i f_262_126 h_182 rfl ?_
  refine xr_19 f_262_129 ?_
  refine xr_20 f_262_130 ?_
  refine xr_6l (fun y5 => [some (.ref 182), some (.long y5), none, none, none]) f_262_131 rfl (fun _ => rfl) ?_
  intro y5
  refine xr_0 f_262_132 ?_
  refine xr_4 [some (.ref 182), some (.long y5), none, some (.int (0 : Int32)), none] f_262_133 rfl rfl ?_
  exact c_md_digest_l134 M e_F y5 (0 : Int32)

def md_digest  (M : e_Me) : Option Int64 :=
  x_lt ((211 : Int32)).toInt64 fun y1 =>
  x_lt ((((31 : Int32)).toInt64 * y1) + ((M 182 0)).toInt64) fun y2 =>
  x_lt ((((31 : Int32)).toInt64 * y2) + ((M 182 1)).toInt64) fun y3 =>
  x_lt ((((31 : Int32)).toInt64 * y3) + ((M 182 2)).toInt64) fun y4 =>
  x_lt ((((31 : Int32)).toInt64 * y4) + ((M 182 3)).toInt64) fun y5 =>
  x_lt ((((31 : Int32)).toInt64 * y5) + ((M 182 12)).toInt64) fun y6 =>
  if (M 182 8) = 0 then
    md_digest_b81 (0 : Int32) (((31 : Int32)).toInt64 * y6) M
  else
    md_digest_b81 (1 : Int32) (((31 : Int32)).toInt64 * y6) M
theorem c_md_digest  (M : e_Me) : x_C G 262 [.ref 182] M (x_rl M) (md_digest  M) := by
  refine x_C_of 5 [some (.ref 182), none, none, none, none] (by decide) ml_262 (Nat.le_of_ble_eq_true rfl) rfl ?_
  rw [md_digest]
  refine xr_23 f_262_0 ?_
  refine xr_6l (fun y1 => [some (.ref 182), some (.long y1), none, none, none]) f_262_3 rfl (fun _ => rfl) ?_
  intro y1
  refine xr_23 f_262_4 ?_
  refine xr_3 f_262_7 rfl ?_
  refine xr_21 f_262_8 ?_
  refine xr_2 f_262_9 rfl ?_
  refine xr_30i f_262_10 h_182 rfl ?_
  refine xr_19 f_262_13 ?_
  refine xr_20 f_262_14 ?_
  refine xr_6l (fun y2 => [some (.ref 182), some (.long y2), none, none, none]) f_262_15 rfl (fun _ => rfl) ?_
  intro y2
  refine xr_23 f_262_16 ?_
  refine xr_3 f_262_19 rfl ?_
  refine xr_21 f_262_20 ?_
  refine xr_2 f_262_21 rfl ?_
  refine xr_30i f_262_22 h_182 rfl ?_
  refine xr_19 f_262_25 ?_
  refine xr_20 f_262_26 ?_
  refine xr_6l (fun y3 => [some (.ref 182), some (.long y3), none, none, none]) f_262_27 rfl (fun _ => rfl) ?_
  intro y3
  refine xr_23 f_262_28 ?_
  refine xr_3 f_262_31 rfl ?_
  refine xr_21 f_262_32 ?_
  refine xr_2 f_262_33 rfl ?_
  refine xr_30i f_262_34 h_182 rfl ?_
  refine xr_19 f_262_37 ?_
  refine xr_20 f_262_38 ?_
  refine xr_6l (fun y4 => [some (.ref 182), some (.long y4), none, none, none]) f_262_39 rfl (fun _ => rfl) ?_
  intro y4
  refine xr_23 f_262_40 ?_
  refine xr_3 f_262_43 rfl ?_
  refine xr_21 f_262_44 ?_
  refine xr_2 f_262_45 rfl ?_
  refine xr_30i f_262_46 h_182 rfl ?_
  refine xr_19 f_262_49 ?_
  refine xr_20 f_262_50 ?_
  refine xr_6l (fun y5 => [some (.ref 182), some (.long y5), none, none, none]) f_262_51 rfl (fun _ => rfl) ?_
  intro y5
  refine xr_23 f_262_52 ?_
  refine xr_3 f_262_55 rfl ?_
  refine xr_21 f_262_56 ?_
  refine xr_2 f_262_57 rfl ?_
  refine xr_30i f_262_58 h_182 rfl ?_
  refine xr_19 f_262_61 ?_
  refine xr_20 f_262_62 ?_
  refine xr_6l (fun y6 => [some (.ref 182), some (.long y6), none, none, none]) f_262_63 rfl (fun _ => rfl) ?_
  intro y6
  refine xr_23 f_262_64 ?_
  refine xr_3 f_262_67 rfl ?_
  refine xr_21 f_262_68 ?_
  refine xr_2 f_262_69 rfl ?_
  refine xr_30i f_262_70 h_182 rfl ?_
  refine xr_28_0 f_262_73 ?_ ?_
  · refine xr_0 f_262_80 ?_
    refine xr_wk (L' := [some (.ref 182), none, none, none, none]) [true, false, true, true, true] rfl ?_
    exact c_md_digest_b81 (0 : Int32) (((31 : Int32)).toInt64 * y6) M
  · refine xr_0 f_262_76 ?_
    refine xr_27 f_262_77 ?_
    refine xr_wk (L' := [some (.ref 182), none, none, none, none]) [true, false, true, true, true] rfl ?_
    exact c_md_digest_b81 (1 : Int32) (((31 : Int32)).toInt64 * y6) M

end
