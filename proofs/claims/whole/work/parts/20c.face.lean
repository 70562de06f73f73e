/-! 20c.face: the functions that the methods answer by, and that they do; printed by wip/whole/dec.py -/
section
variable {G : e_G}
def ew_build (a1 : Int32) (M : e_Me) : Option (Int32 × e_Me) :=
  x_bd (wh_sixtiethsApart a1 M) fun x1 =>
  if x1 = 0 then
    some ((-102 : Int32), M)
  else
    x_bd (wh_lay a1 M) fun M2 =>
    x_bd (rg_startAnew M2) fun M3 =>
    x_bd (ri_startAnew M3) fun M4 =>
    x_bi (no_startAnew M4) fun x5 M6 =>
    x_bd (re_startAnew M6) fun M7 =>
    some (a1, M7)
theorem c_ew_build (a1 : Int32) (M : e_Me) : x_C G 152 [.ref 0, .int a1] M x_rim (ew_build a1 M) := by
  refine x_C_of 2 [some (.ref 0), some (.int a1)] (by decide) ml_152 (Nat.le_of_ble_eq_true rfl) rfl ?_
  rw [ew_build]
  refine xr_1 f_152_0 rfl ?_
  refine xr_ci f_152_1 (Nat.le_of_ble_eq_true rfl) rfl rfl (xr_rs kd_129) (Nat.le_of_ble_eq_true rfl) mc_129 ms_129 (c_wh_sixtiethsApart a1 M) ?_
  intro x1
  refine xr_28_1 f_152_4 ?_ ?_
  · refine xr_2 f_152_10 rfl ?_
    refine xr_30r f_152_11 h_0 rfl ?_
    refine xr_1 f_152_14 rfl ?_
    refine xr_cv f_152_15 (Nat.le_of_ble_eq_true rfl) rfl rfl (xr_rv kd_130 h_3) (Nat.le_of_ble_eq_true rfl) mc_130 ms_130 (c_wh_lay a1 M) ?_
    intro M2
    refine xr_2 f_152_18 rfl ?_
    refine xr_30r f_152_19 h_0 rfl ?_
    refine xr_cv f_152_22 (Nat.le_of_ble_eq_true rfl) rfl rfl (xr_rv kd_68 h_7) (Nat.le_of_ble_eq_true rfl) mc_68 ms_68 (c_rg_startAnew M2) ?_
    intro M3
    refine xr_2 f_152_25 rfl ?_
    refine xr_30r f_152_26 h_0 rfl ?_
    refine xr_cv f_152_29 (Nat.le_of_ble_eq_true rfl) rfl rfl (xr_rv kd_78 h_8) (Nat.le_of_ble_eq_true rfl) mc_78 ms_78 (c_ri_startAnew M3) ?_
    intro M4
    refine xr_2 f_152_32 rfl ?_
    refine xr_30r f_152_33 h_0 rfl ?_
    refine xr_cim f_152_36 (Nat.le_of_ble_eq_true rfl) rfl rfl (xr_rv kd_20 h_166) (Nat.le_of_ble_eq_true rfl) mc_20 ms_20 (c_no_startAnew M4) ?_
    intro x5 M6
    refine xr_26i f_152_39 ?_
    refine xr_2 f_152_40 rfl ?_
    refine xr_30r f_152_41 h_0 rfl ?_
    refine xr_cv f_152_44 (Nat.le_of_ble_eq_true rfl) rfl rfl (xr_rv kd_50 h_171) (Nat.le_of_ble_eq_true rfl) mc_50 ms_50 (c_re_startAnew M6) ?_
    intro M7
    refine xr_1 f_152_47 rfl ?_
    exact xr_51m f_152_48
  · refine xr_0 f_152_7 ?_
    exact xr_51m f_152_9

def ew_arm (a1 : Int32) (M : e_Me) : Option Int32 :=
  x_bd (wh_has a1 M) fun x1 =>
  if x1 = 0 then
    some (-1000 : Int32)
  else
    x_bd (wh_armOf a1 (0 : Int32) M) fun x2 =>
    some x2
theorem c_ew_arm (a1 : Int32) (M : e_Me) : x_C G 153 [.ref 0, .int a1] M (x_ri M) (ew_arm a1 M) := by
  refine x_C_of 2 [some (.ref 0), some (.int a1)] (by decide) ml_153 (Nat.le_of_ble_eq_true rfl) rfl ?_
  rw [ew_arm]
  refine xr_2 f_153_0 rfl ?_
  refine xr_30r f_153_1 h_0 rfl ?_
  refine xr_1 f_153_4 rfl ?_
  refine xr_ci f_153_5 (Nat.le_of_ble_eq_true rfl) rfl rfl (xr_rv kd_132 h_3) (Nat.le_of_ble_eq_true rfl) mc_132 ms_132 (c_wh_has a1 M) ?_
  intro x1
  refine xr_28_0 f_153_8 ?_ ?_
  · refine xr_0 f_153_23 ?_
    exact xr_51 f_153_26
  · refine xr_2 f_153_11 rfl ?_
    refine xr_30r f_153_12 h_0 rfl ?_
    refine xr_1 f_153_15 rfl ?_
    refine xr_0 f_153_16 ?_
    refine xr_ci f_153_17 (Nat.le_of_ble_eq_true rfl) rfl rfl (xr_rv kd_144 h_3) (Nat.le_of_ble_eq_true rfl) mc_144 ms_144 (c_wh_armOf a1 (0 : Int32) M) ?_
    intro x2
    refine xr_27 f_153_20 ?_
    exact xr_51 f_153_26

def ew_told (a1 : Int32) (M : e_Me) : Option Int32 :=
  if a1 = 0 then
    x_bd (wh_turnNow M) fun x1 =>
    some x1
  else
  if a1 = 1 then
    x_bd (rg_warmthNow M) fun x2 =>
    some x2
  else
  if a1 = 2 then
    x_bd (wh_atDoor M) fun x3 =>
    some x3
  else
  if a1 = 3 then
    x_bd (wh_atTop M) fun x4 =>
    some x4
  else
  if a1 = 4 then
    x_bd (ri_personsUp M) fun x5 =>
    some x5
  else
  if a1 = 5 then
    x_bd (ri_personsWaiting M) fun x6 =>
    some x6
  else
  if a1 = 6 then
    x_bd (rg_stepsDone M) fun x7 =>
    some x7
  else
  if a1 = 7 then
    x_bd (ri_partiesCome M) fun x8 =>
    some x8
  else
  if a1 = 8 then
    x_bd (rg_isDriven M) fun x9 =>
    if x9 = 0 then
      some (0 : Int32)
    else
      some (1 : Int32)
  else
  some (-102 : Int32)
theorem c_ew_told (a1 : Int32) (M : e_Me) : x_C G 154 [.ref 0, .int a1] M (x_ri M) (ew_told a1 M) := by
  refine x_C_of 2 [some (.ref 0), some (.int a1)] (by decide) ml_154 (Nat.le_of_ble_eq_true rfl) rfl ?_
  rw [ew_told]
  refine xr_1 f_154_0 rfl ?_
  refine xr_47 f_154_1 rfl ?_
  refine xr_s1 ?_ ?_
  · refine xr_2 f_154_52 rfl ?_
    refine xr_30r f_154_53 h_0 rfl ?_
    refine xr_ci f_154_56 (Nat.le_of_ble_eq_true rfl) rfl rfl (xr_rv kd_134 h_3) (Nat.le_of_ble_eq_true rfl) mc_134 ms_134 (c_wh_turnNow M) ?_
    intro x1
    exact xr_51 f_154_59
  refine xr_s1 ?_ ?_
  · refine xr_2 f_154_60 rfl ?_
    refine xr_30r f_154_61 h_0 rfl ?_
    refine xr_ci f_154_64 (Nat.le_of_ble_eq_true rfl) rfl rfl (xr_rv kd_69 h_7) (Nat.le_of_ble_eq_true rfl) mc_69 ms_69 (c_rg_warmthNow M) ?_
    intro x2
    exact xr_51 f_154_67
  refine xr_s1 ?_ ?_
  · refine xr_2 f_154_68 rfl ?_
    refine xr_30r f_154_69 h_0 rfl ?_
    refine xr_ci f_154_72 (Nat.le_of_ble_eq_true rfl) rfl rfl (xr_rv kd_138 h_3) (Nat.le_of_ble_eq_true rfl) mc_138 ms_138 (c_wh_atDoor M) ?_
    intro x3
    exact xr_51 f_154_75
  refine xr_s1 ?_ ?_
  · refine xr_2 f_154_76 rfl ?_
    refine xr_30r f_154_77 h_0 rfl ?_
    refine xr_ci f_154_80 (Nat.le_of_ble_eq_true rfl) rfl rfl (xr_rv kd_141 h_3) (Nat.le_of_ble_eq_true rfl) mc_141 ms_141 (c_wh_atTop M) ?_
    intro x4
    exact xr_51 f_154_83
  refine xr_s1 ?_ ?_
  · refine xr_2 f_154_84 rfl ?_
    refine xr_30r f_154_85 h_0 rfl ?_
    refine xr_ci f_154_88 (Nat.le_of_ble_eq_true rfl) rfl rfl (xr_rv kd_85 h_8) (Nat.le_of_ble_eq_true rfl) mc_85 ms_85 (c_ri_personsUp M) ?_
    intro x5
    exact xr_51 f_154_91
  refine xr_s1 ?_ ?_
  · refine xr_2 f_154_92 rfl ?_
    refine xr_30r f_154_93 h_0 rfl ?_
    refine xr_ci f_154_96 (Nat.le_of_ble_eq_true rfl) rfl rfl (xr_rv kd_86 h_8) (Nat.le_of_ble_eq_true rfl) mc_86 ms_86 (c_ri_personsWaiting M) ?_
    intro x6
    exact xr_51 f_154_99
  refine xr_s1 ?_ ?_
  · refine xr_2 f_154_100 rfl ?_
    refine xr_30r f_154_101 h_0 rfl ?_
    refine xr_ci f_154_104 (Nat.le_of_ble_eq_true rfl) rfl rfl (xr_rv kd_70 h_7) (Nat.le_of_ble_eq_true rfl) mc_70 ms_70 (c_rg_stepsDone M) ?_
    intro x7
    exact xr_51 f_154_107
  refine xr_s1 ?_ ?_
  · refine xr_2 f_154_108 rfl ?_
    refine xr_30r f_154_109 h_0 rfl ?_
    refine xr_ci f_154_112 (Nat.le_of_ble_eq_true rfl) rfl rfl (xr_rv kd_80 h_8) (Nat.le_of_ble_eq_true rfl) mc_80 ms_80 (c_ri_partiesCome M) ?_
    intro x8
    exact xr_51 f_154_115
  refine xr_s1 ?_ ?_
  · refine xr_2 f_154_116 rfl ?_
    refine xr_30r f_154_117 h_0 rfl ?_
    refine xr_ci f_154_120 (Nat.le_of_ble_eq_true rfl) rfl rfl (xr_rv kd_71 h_7) (Nat.le_of_ble_eq_true rfl) mc_71 ms_71 (c_rg_isDriven M) ?_
    intro x9
    refine xr_28_0 f_154_123 ?_ ?_
    · refine xr_0 f_154_130 ?_
      exact xr_51 f_154_131
    · refine xr_0 f_154_126 ?_
      refine xr_27 f_154_127 ?_
      exact xr_51 f_154_131
  refine xr_s0 ?_
  refine xr_0 f_154_132 ?_
  exact xr_51 f_154_134

def ew_rule (a1 : Int32) (a2 : Int32) (M : e_Me) : Option (Int32 × e_Me) :=
  x_bd (ru_names a1 M) fun x1 =>
  if x1 = 0 then
    some ((-101 : Int32), M)
  else
    x_bd (ru_allows a1 a2 M) fun x2 =>
    if x2 = 0 then
      some ((-102 : Int32), M)
    else
      x_bi (ru_change a1 a2 M) fun x3 M4 =>
      some (x3, M4)
theorem c_ew_rule (a1 : Int32) (a2 : Int32) (M : e_Me) : x_C G 155 [.ref 0, .int a1, .int a2] M x_rim (ew_rule a1 a2 M) := by
  refine x_C_of 3 [some (.ref 0), some (.int a1), some (.int a2)] (by decide) ml_155 (Nat.le_of_ble_eq_true rfl) rfl ?_
  rw [ew_rule]
  refine xr_1 f_155_0 rfl ?_
  refine xr_ci f_155_1 (Nat.le_of_ble_eq_true rfl) rfl rfl (xr_rs kd_123) (Nat.le_of_ble_eq_true rfl) mc_123 ms_123 (c_ru_names a1 M) ?_
  intro x1
  refine xr_28_1 f_155_4 ?_ ?_
  · refine xr_1 f_155_10 rfl ?_
    refine xr_1 f_155_11 rfl ?_
    refine xr_ci f_155_12 (Nat.le_of_ble_eq_true rfl) rfl rfl (xr_rs kd_124) (Nat.le_of_ble_eq_true rfl) mc_124 ms_124 (c_ru_allows a1 a2 M) ?_
    intro x2
    refine xr_28_1 f_155_15 ?_ ?_
    · refine xr_2 f_155_21 rfl ?_
      refine xr_30r f_155_22 h_0 rfl ?_
      refine xr_1 f_155_25 rfl ?_
      refine xr_1 f_155_26 rfl ?_
      refine xr_cim f_155_27 (Nat.le_of_ble_eq_true rfl) rfl rfl (xr_rv kd_126 h_1) (Nat.le_of_ble_eq_true rfl) mc_126 ms_126 (c_ru_change a1 a2 M) ?_
      intro x3 M4
      exact xr_51m f_155_30
    · refine xr_0 f_155_18 ?_
      exact xr_51m f_155_20
  · refine xr_0 f_155_7 ?_
    exact xr_51m f_155_9

def ew_drive (a1 : Int32) (M : e_Me) : Option (Int32 × e_Me) :=
  x_bi (rg_setDriven a1 M) fun x1 M2 =>
  if x1 = 0 then
    some ((0 : Int32), M2)
  else
    some ((1 : Int32), M2)
theorem c_ew_drive (a1 : Int32) (M : e_Me) : x_C G 156 [.ref 0, .int a1] M x_rim (ew_drive a1 M) := by
  refine x_C_of 2 [some (.ref 0), some (.int a1)] (by decide) ml_156 (Nat.le_of_ble_eq_true rfl) rfl ?_
  rw [ew_drive]
  refine xr_2 f_156_0 rfl ?_
  refine xr_30r f_156_1 h_0 rfl ?_
  refine xr_1 f_156_4 rfl ?_
  refine xr_cim f_156_5 (Nat.le_of_ble_eq_true rfl) rfl rfl (xr_rv kd_72 h_7) (Nat.le_of_ble_eq_true rfl) mc_72 ms_72 (c_rg_setDriven a1 M) ?_
  intro x1 M2
  refine xr_28_0 f_156_8 ?_ ?_
  · refine xr_0 f_156_15 ?_
    exact xr_51m f_156_16
  · refine xr_0 f_156_11 ?_
    refine xr_27 f_156_12 ?_
    exact xr_51m f_156_16

def ew_lean (a1 : Int32) (M : e_Me) : Option Int32 :=
  x_bd (wh_has a1 M) fun x1 =>
  if x1 = 0 then
    some (-1000000001 : Int32)
  else
    x_bd (wh_leanAt a1 M) fun x2 =>
    some x2
theorem c_ew_lean (a1 : Int32) (M : e_Me) : x_C G 157 [.ref 0, .int a1] M (x_ri M) (ew_lean a1 M) := by
  refine x_C_of 2 [some (.ref 0), some (.int a1)] (by decide) ml_157 (Nat.le_of_ble_eq_true rfl) rfl ?_
  rw [ew_lean]
  refine xr_2 f_157_0 rfl ?_
  refine xr_30r f_157_1 h_0 rfl ?_
  refine xr_1 f_157_4 rfl ?_
  refine xr_ci f_157_5 (Nat.le_of_ble_eq_true rfl) rfl rfl (xr_rv kd_132 h_3) (Nat.le_of_ble_eq_true rfl) mc_132 ms_132 (c_wh_has a1 M) ?_
  intro x1
  refine xr_28_0 f_157_8 ?_ ?_
  · refine xr_0 f_157_22 ?_
    exact xr_51 f_157_24
  · refine xr_2 f_157_11 rfl ?_
    refine xr_30r f_157_12 h_0 rfl ?_
    refine xr_1 f_157_15 rfl ?_
    refine xr_ci f_157_16 (Nat.le_of_ble_eq_true rfl) rfl rfl (xr_rv kd_147 h_3) (Nat.le_of_ble_eq_true rfl) mc_147 ms_147 (c_wh_leanAt a1 M) ?_
    intro x2
    refine xr_27 f_157_19 ?_
    exact xr_51 f_157_24

def ew_greatest  (M : e_Me) : Option Int32 :=
  x_bd (wh_greatestLean M) fun x1 =>
  some x1
theorem c_ew_greatest  (M : e_Me) : x_C G 158 [.ref 0] M (x_ri M) (ew_greatest  M) := by
  refine x_C_of 1 [some (.ref 0)] (by decide) ml_158 (Nat.le_of_ble_eq_true rfl) rfl ?_
  rw [ew_greatest]
  refine xr_2 f_158_0 rfl ?_
  refine xr_30r f_158_1 h_0 rfl ?_
  refine xr_ci f_158_4 (Nat.le_of_ble_eq_true rfl) rfl rfl (xr_rv kd_148 h_3) (Nat.le_of_ble_eq_true rfl) mc_148 ms_148 (c_wh_greatestLean M) ?_
  intro x1
  exact xr_51 f_158_7

def ew_worst  (M : e_Me) : Option Int32 :=
  x_bd (wh_worstTurn M) fun x1 =>
  some x1
theorem c_ew_worst  (M : e_Me) : x_C G 159 [.ref 0] M (x_ri M) (ew_worst  M) := by
  refine x_C_of 1 [some (.ref 0)] (by decide) ml_159 (Nat.le_of_ble_eq_true rfl) rfl ?_
  rw [ew_worst]
  refine xr_2 f_159_0 rfl ?_
  refine xr_30r f_159_1 h_0 rfl ?_
  refine xr_ci f_159_4 (Nat.le_of_ble_eq_true rfl) rfl rfl (xr_rv kd_150 h_3) (Nat.le_of_ble_eq_true rfl) mc_150 ms_150 (c_wh_worstTurn M) ?_
  intro x1
  exact xr_51 f_159_7

def ew_load (a1 : Int32) (M : e_Me) : Option Int32 :=
  x_bd (wh_has a1 M) fun x1 =>
  if x1 = 0 then
    some (-101 : Int32)
  else
    x_bd (wh_loadOf a1 M) fun x2 =>
    some x2
theorem c_ew_load (a1 : Int32) (M : e_Me) : x_C G 160 [.ref 0, .int a1] M (x_ri M) (ew_load a1 M) := by
  refine x_C_of 2 [some (.ref 0), some (.int a1)] (by decide) ml_160 (Nat.le_of_ble_eq_true rfl) rfl ?_
  rw [ew_load]
  refine xr_2 f_160_0 rfl ?_
  refine xr_30r f_160_1 h_0 rfl ?_
  refine xr_1 f_160_4 rfl ?_
  refine xr_ci f_160_5 (Nat.le_of_ble_eq_true rfl) rfl rfl (xr_rv kd_132 h_3) (Nat.le_of_ble_eq_true rfl) mc_132 ms_132 (c_wh_has a1 M) ?_
  intro x1
  refine xr_28_0 f_160_8 ?_ ?_
  · refine xr_0 f_160_22 ?_
    exact xr_51 f_160_24
  · refine xr_2 f_160_11 rfl ?_
    refine xr_30r f_160_12 h_0 rfl ?_
    refine xr_1 f_160_15 rfl ?_
    refine xr_ci f_160_16 (Nat.le_of_ble_eq_true rfl) rfl rfl (xr_rv kd_145 h_3) (Nat.le_of_ble_eq_true rfl) mc_145 ms_145 (c_wh_loadOf a1 M) ?_
    intro x2
    refine xr_27 f_160_19 ?_
    exact xr_51 f_160_24

def ew_cabin (a1 : Int32) (a2 : Int32) (M : e_Me) : Option Int32 :=
  x_bd (wh_has a1 M) fun x1 =>
  if x1 = 0 then
    some (-101 : Int32)
  else
    if a2 = 0 then
      x_bd (ri_personsIn a1 M) fun x2 =>
      some x2
    else
    if a2 = 1 then
      x_bd (ri_partiesIn a1 M) fun x3 =>
      some x3
    else
    if a2 = 2 then
      x_bd (ri_isAlone a1 M) fun x4 =>
      if x4 = 0 then
        some (0 : Int32)
      else
        some (1 : Int32)
    else
    if a2 = 3 then
      x_bd (wh_placeOf a1 M) fun x5 =>
      some x5
    else
    some (-102 : Int32)
theorem c_ew_cabin (a1 : Int32) (a2 : Int32) (M : e_Me) : x_C G 161 [.ref 0, .int a1, .int a2] M (x_ri M) (ew_cabin a1 a2 M) := by
  refine x_C_of 3 [some (.ref 0), some (.int a1), some (.int a2)] (by decide) ml_161 (Nat.le_of_ble_eq_true rfl) rfl ?_
  rw [ew_cabin]
  refine xr_2 f_161_0 rfl ?_
  refine xr_30r f_161_1 h_0 rfl ?_
  refine xr_1 f_161_4 rfl ?_
  refine xr_ci f_161_5 (Nat.le_of_ble_eq_true rfl) rfl rfl (xr_rv kd_132 h_3) (Nat.le_of_ble_eq_true rfl) mc_132 ms_132 (c_wh_has a1 M) ?_
  intro x1
  refine xr_28_1 f_161_8 ?_ ?_
  · refine xr_1 f_161_14 rfl ?_
    refine xr_47 f_161_15 rfl ?_
    refine xr_s1 ?_ ?_
    · refine xr_2 f_161_44 rfl ?_
      refine xr_30r f_161_45 h_0 rfl ?_
      refine xr_1 f_161_48 rfl ?_
      refine xr_ci f_161_49 (Nat.le_of_ble_eq_true rfl) rfl rfl (xr_rv kd_84 h_8) (Nat.le_of_ble_eq_true rfl) mc_84 ms_84 (c_ri_personsIn a1 M) ?_
      intro x2
      exact xr_51 f_161_52
    refine xr_s1 ?_ ?_
    · refine xr_2 f_161_53 rfl ?_
      refine xr_30r f_161_54 h_0 rfl ?_
      refine xr_1 f_161_57 rfl ?_
      refine xr_ci f_161_58 (Nat.le_of_ble_eq_true rfl) rfl rfl (xr_rv kd_82 h_8) (Nat.le_of_ble_eq_true rfl) mc_82 ms_82 (c_ri_partiesIn a1 M) ?_
      intro x3
      exact xr_51 f_161_61
    refine xr_s1 ?_ ?_
    · refine xr_2 f_161_62 rfl ?_
      refine xr_30r f_161_63 h_0 rfl ?_
      refine xr_1 f_161_66 rfl ?_
      refine xr_ci f_161_67 (Nat.le_of_ble_eq_true rfl) rfl rfl (xr_rv kd_87 h_8) (Nat.le_of_ble_eq_true rfl) mc_87 ms_87 (c_ri_isAlone a1 M) ?_
      intro x4
      refine xr_28_0 f_161_70 ?_ ?_
      · refine xr_0 f_161_77 ?_
        exact xr_51 f_161_78
      · refine xr_0 f_161_73 ?_
        refine xr_27 f_161_74 ?_
        exact xr_51 f_161_78
    refine xr_s1 ?_ ?_
    · refine xr_2 f_161_79 rfl ?_
      refine xr_30r f_161_80 h_0 rfl ?_
      refine xr_1 f_161_83 rfl ?_
      refine xr_ci f_161_84 (Nat.le_of_ble_eq_true rfl) rfl rfl (xr_rv kd_142 h_3) (Nat.le_of_ble_eq_true rfl) mc_142 ms_142 (c_wh_placeOf a1 M) ?_
      intro x5
      exact xr_51 f_161_87
    refine xr_s0 ?_
    refine xr_0 f_161_88 ?_
    exact xr_51 f_161_90
  · refine xr_0 f_161_11 ?_
    exact xr_51 f_161_13

def ew_inside (a1 : Int32) (a2 : Int32) (M : e_Me) : Option Int32 :=
  x_bd (wh_has a1 M) fun x1 =>
  if x1 = 0 then
    some (-101 : Int32)
  else
    x_bd (ri_partyIn a1 a2 M) fun x2 =>
    some x2
theorem c_ew_inside (a1 : Int32) (a2 : Int32) (M : e_Me) : x_C G 162 [.ref 0, .int a1, .int a2] M (x_ri M) (ew_inside a1 a2 M) := by
  refine x_C_of 3 [some (.ref 0), some (.int a1), some (.int a2)] (by decide) ml_162 (Nat.le_of_ble_eq_true rfl) rfl ?_
  rw [ew_inside]
  refine xr_2 f_162_0 rfl ?_
  refine xr_30r f_162_1 h_0 rfl ?_
  refine xr_1 f_162_4 rfl ?_
  refine xr_ci f_162_5 (Nat.le_of_ble_eq_true rfl) rfl rfl (xr_rv kd_132 h_3) (Nat.le_of_ble_eq_true rfl) mc_132 ms_132 (c_wh_has a1 M) ?_
  intro x1
  refine xr_28_0 f_162_8 ?_ ?_
  · refine xr_0 f_162_23 ?_
    exact xr_51 f_162_25
  · refine xr_2 f_162_11 rfl ?_
    refine xr_30r f_162_12 h_0 rfl ?_
    refine xr_1 f_162_15 rfl ?_
    refine xr_1 f_162_16 rfl ?_
    refine xr_ci f_162_17 (Nat.le_of_ble_eq_true rfl) rfl rfl (xr_rv kd_83 h_8) (Nat.le_of_ble_eq_true rfl) mc_83 ms_83 (c_ri_partyIn a1 a2 M) ?_
    intro x2
    refine xr_27 f_162_20 ?_
    exact xr_51 f_162_25

def ew_step  (M : e_Me) : Option (Int32 × e_Me) :=
  x_bi (rg_goOn M) fun x1 M2 =>
  if x1 = 0 then
    some ((-103 : Int32), M2)
  else
    x_bd (wh_turnNow M2) fun x3 =>
    some (x3, M2)
theorem c_ew_step  (M : e_Me) : x_C G 163 [.ref 0] M x_rim (ew_step  M) := by
  refine x_C_of 1 [some (.ref 0)] (by decide) ml_163 (Nat.le_of_ble_eq_true rfl) rfl ?_
  rw [ew_step]
  refine xr_2 f_163_0 rfl ?_
  refine xr_30r f_163_1 h_0 rfl ?_
  refine xr_cim f_163_4 (Nat.le_of_ble_eq_true rfl) rfl rfl (xr_rv kd_76 h_7) (Nat.le_of_ble_eq_true rfl) mc_76 ms_76 (c_rg_goOn M) ?_
  intro x1 M2
  refine xr_28_0 f_163_7 ?_ ?_
  · refine xr_0 f_163_20 ?_
    exact xr_51m f_163_22
  · refine xr_2 f_163_10 rfl ?_
    refine xr_30r f_163_11 h_0 rfl ?_
    refine xr_ci f_163_14 (Nat.le_of_ble_eq_true rfl) rfl rfl (xr_rv kd_134 h_3) (Nat.le_of_ble_eq_true rfl) mc_134 ms_134 (c_wh_turnNow M2) ?_
    intro x3
    refine xr_27 f_163_17 ?_
    exact xr_51m f_163_22

def ew_why  (M : e_Me) : Option Int32 :=
  x_bd (rg_whyNot M) fun x1 =>
  some x1
theorem c_ew_why  (M : e_Me) : x_C G 164 [.ref 0] M (x_ri M) (ew_why  M) := by
  refine x_C_of 1 [some (.ref 0)] (by decide) ml_164 (Nat.le_of_ble_eq_true rfl) rfl ?_
  rw [ew_why]
  refine xr_2 f_164_0 rfl ?_
  refine xr_30r f_164_1 h_0 rfl ?_
  refine xr_ci f_164_4 (Nat.le_of_ble_eq_true rfl) rfl rfl (xr_rv kd_75 h_7) (Nat.le_of_ble_eq_true rfl) mc_75 ms_75 (c_rg_whyNot M) ?_
  intro x1
  exact xr_51 f_164_7

def ew_stop_b36  (a2 : Int32) (M : e_Me) : Option (Int32 × e_Me) :=
  x_bd (ri_showTop M) fun M1 =>
  some (a2, M1)
theorem c_ew_stop_b36  (a2 : Int32) (M : e_Me)  : x_X G 165 0 0 x_rim 36 [some (.ref 0), none, some (.int a2)] [] M (ew_stop_b36 a2 M) := by
  rw [ew_stop_b36]
  refine xr_2 f_165_36 rfl ?_
  refine xr_30r f_165_37 h_0 rfl ?_
  refine xr_cv f_165_40 (Nat.le_of_ble_eq_true rfl) rfl rfl (xr_rv kd_88 h_8) (Nat.le_of_ble_eq_true rfl) mc_88 ms_88 (c_ri_showTop M) ?_
  intro M1
  refine xr_1 f_165_43 rfl ?_
  exact xr_51m f_165_44

def ew_stop_l15  (a1 : Int32) : Nat → Int32 → e_Me → Option (Int32 × e_Me)
  | 0, _, _ => none
  | F + 1, a2, M =>
    if a1 ≤ a2 then
      ew_stop_b36 a2 M
    else
      x_bi (rg_goOn M) fun x1 M2 =>
      if x1 = 0 then
        ew_stop_b36 a2 M2
      else
        ew_stop_l15 a1 F (a2 + (1 : Int32)) M2
theorem c_ew_stop_l15  (a1 : Int32)  : ∀ (F : Nat) (a2 : Int32) (M : e_Me), x_X G 165 0 0 x_rim 15 [some (.ref 0), some (.int a1), some (.int a2)] [] M (ew_stop_l15 a1 F a2 M) := by
  intro F
  induction F with
  | zero => intro a2 M; exact xr_none
  | succ F ih =>
    intro a2 M
    rw [ew_stop_l15]
    refine xr_1 f_165_15 rfl ?_
    refine xr_1 f_165_16 rfl ?_
    refine xr_29_3 f_165_17 ?_ ?_
    · refine xr_wk (L' := [some (.ref 0), none, some (.int a2)]) [true, false, true] rfl ?_
      exact c_ew_stop_b36 a2 M
    · refine xr_2 f_165_20 rfl ?_
      refine xr_30r f_165_21 h_0 rfl ?_
      refine xr_cim f_165_24 (Nat.le_of_ble_eq_true rfl) rfl rfl (xr_rv kd_76 h_7) (Nat.le_of_ble_eq_true rfl) mc_76 ms_76 (c_rg_goOn M) ?_
      intro x1 M2
      refine xr_28_0 f_165_27 ?_ ?_
      · refine xr_wk (L' := [some (.ref 0), none, some (.int a2)]) [true, false, true] rfl ?_
        exact c_ew_stop_b36 a2 M2
      · refine xr_7 [some (.ref 0), some (.int a1), some (.int (a2 + (1 : Int32)))] f_165_30 rfl rfl rfl ?_
        refine xr_27 f_165_33 ?_
        exact ih (a2 + (1 : Int32)) M2

def ew_stop (a1 : Int32) (M : e_Me) : Option (Int32 × e_Me) :=
  if a1 < 0 then
    some ((-102 : Int32), M)
  else
    if a1 ≤ (60 : Int32) then
      ew_stop_l15 a1 e_F (0 : Int32) M
    else
      some ((-102 : Int32), M)
theorem c_ew_stop (a1 : Int32) (M : e_Me) : x_C G 165 [.ref 0, .int a1] M x_rim (ew_stop a1 M) := by
  refine x_C_of 3 [some (.ref 0), some (.int a1), none] (by decide) ml_165 (Nat.le_of_ble_eq_true rfl) rfl ?_
  rw [ew_stop]
  refine xr_1 f_165_0 rfl ?_
  refine xr_28_2 f_165_1 ?_ ?_
  · refine xr_0 f_165_10 ?_
    exact xr_51m f_165_12
  · refine xr_1 f_165_4 rfl ?_
    refine xr_0 f_165_5 ?_
    refine xr_29_5 f_165_7 ?_ ?_
    · refine xr_0 f_165_13 ?_
      refine xr_4 [some (.ref 0), some (.int a1), some (.int (0 : Int32))] f_165_14 rfl rfl ?_
      exact c_ew_stop_l15 a1 e_F (0 : Int32) M
    · refine xr_0 f_165_10 ?_
      exact xr_51m f_165_12

def ew_come (a1 : Int32) (a2 : Int32) (a3 : Int32) (a4 : Int32) (a5 : Int32) (M : e_Me) : Option (Int32 × e_Me) :=
  x_bd (pa_allows a1 a2 a3 a4 a5 M) fun x1 =>
  if x1 = 0 then
    some ((-102 : Int32), M)
  else
    x_bd (ri_takesMore M) fun x2 =>
    if x2 = 0 then
      some ((-104 : Int32), M)
    else
      x_bd (pa_together a1 a2 a3 a4 M) fun x3 =>
      x_bi (ri_queueUp a1 x3 a5 M) fun x4 M5 =>
      some (x4, M5)
theorem c_ew_come (a1 : Int32) (a2 : Int32) (a3 : Int32) (a4 : Int32) (a5 : Int32) (M : e_Me) : x_C G 166 [.ref 0, .int a1, .int a2, .int a3, .int a4, .int a5] M x_rim (ew_come a1 a2 a3 a4 a5 M) := by
  refine x_C_of 6 [some (.ref 0), some (.int a1), some (.int a2), some (.int a3), some (.int a4), some (.int a5)] (by decide) ml_166 (Nat.le_of_ble_eq_true rfl) rfl ?_
  rw [ew_come]
  refine xr_1 f_166_0 rfl ?_
  refine xr_1 f_166_1 rfl ?_
  refine xr_1 f_166_2 rfl ?_
  refine xr_1 f_166_3 rfl ?_
  refine xr_1 f_166_5 rfl ?_
  refine xr_ci f_166_7 (Nat.le_of_ble_eq_true rfl) rfl rfl (xr_rs kd_32) (Nat.le_of_ble_eq_true rfl) mc_32 ms_32 (c_pa_allows a1 a2 a3 a4 a5 M) ?_
  intro x1
  refine xr_28_1 f_166_10 ?_ ?_
  · refine xr_2 f_166_16 rfl ?_
    refine xr_30r f_166_17 h_0 rfl ?_
    refine xr_ci f_166_20 (Nat.le_of_ble_eq_true rfl) rfl rfl (xr_rv kd_89 h_8) (Nat.le_of_ble_eq_true rfl) mc_89 ms_89 (c_ri_takesMore M) ?_
    intro x2
    refine xr_28_0 f_166_23 ?_ ?_
    · refine xr_0 f_166_47 ?_
      exact xr_51m f_166_49
    · refine xr_2 f_166_26 rfl ?_
      refine xr_30r f_166_27 h_0 rfl ?_
      refine xr_1 f_166_30 rfl ?_
      refine xr_1 f_166_31 rfl ?_
      refine xr_1 f_166_32 rfl ?_
      refine xr_1 f_166_33 rfl ?_
      refine xr_1 f_166_34 rfl ?_
      refine xr_ci f_166_36 (Nat.le_of_ble_eq_true rfl) rfl rfl (xr_rs kd_34) (Nat.le_of_ble_eq_true rfl) mc_34 ms_34 (c_pa_together a1 a2 a3 a4 M) ?_
      intro x3
      refine xr_1 f_166_39 rfl ?_
      refine xr_cim f_166_41 (Nat.le_of_ble_eq_true rfl) rfl rfl (xr_rv kd_90 h_8) (Nat.le_of_ble_eq_true rfl) mc_90 ms_90 (c_ri_queueUp a1 x3 a5 M) ?_
      intro x4 M5
      refine xr_27 f_166_44 ?_
      exact xr_51m f_166_49
  · refine xr_0 f_166_13 ?_
    exact xr_51m f_166_15

def ew_waits (a1 : Int32) (M : e_Me) : Option Int32 :=
  x_bd (ri_waiting a1 M) fun x1 =>
  some x1
theorem c_ew_waits (a1 : Int32) (M : e_Me) : x_C G 167 [.ref 0, .int a1] M (x_ri M) (ew_waits a1 M) := by
  refine x_C_of 2 [some (.ref 0), some (.int a1)] (by decide) ml_167 (Nat.le_of_ble_eq_true rfl) rfl ?_
  rw [ew_waits]
  refine xr_2 f_167_0 rfl ?_
  refine xr_30r f_167_1 h_0 rfl ?_
  refine xr_1 f_167_4 rfl ?_
  refine xr_ci f_167_5 (Nat.le_of_ble_eq_true rfl) rfl rfl (xr_rv kd_91 h_8) (Nat.le_of_ble_eq_true rfl) mc_91 ms_91 (c_ri_waiting a1 M) ?_
  intro x1
  exact xr_51 f_167_8

def ew_may (a1 : Int32) (M : e_Me) : Option Int32 :=
  x_bd (ri_waiting a1 M) fun x1 =>
  if x1 = (-1 : Int32) then
    some (-101 : Int32)
  else
    x_bd (ri_mayBoard x1 M) fun x2 =>
    if x2 = 0 then
      some (0 : Int32)
    else
      some (1 : Int32)
theorem c_ew_may (a1 : Int32) (M : e_Me) : x_C G 168 [.ref 0, .int a1] M (x_ri M) (ew_may a1 M) := by
  refine x_C_of 3 [some (.ref 0), some (.int a1), none] (by decide) ml_168 (Nat.le_of_ble_eq_true rfl) rfl ?_
  rw [ew_may]
  refine xr_2 f_168_0 rfl ?_
  refine xr_30r f_168_1 h_0 rfl ?_
  refine xr_1 f_168_4 rfl ?_
  refine xr_ci f_168_5 (Nat.le_of_ble_eq_true rfl) rfl rfl (xr_rv kd_91 h_8) (Nat.le_of_ble_eq_true rfl) mc_91 ms_91 (c_ri_waiting a1 M) ?_
  intro x1
  refine xr_4 [some (.ref 0), some (.int a1), some (.int x1)] f_168_8 rfl rfl ?_
  refine xr_1 f_168_9 rfl ?_
  refine xr_0 f_168_10 ?_
  refine xr_29_1 f_168_11 ?_ ?_
  · refine xr_2 f_168_17 rfl ?_
    refine xr_30r f_168_18 h_0 rfl ?_
    refine xr_1 f_168_21 rfl ?_
    refine xr_ci f_168_22 (Nat.le_of_ble_eq_true rfl) rfl rfl (xr_rv kd_92 h_8) (Nat.le_of_ble_eq_true rfl) mc_92 ms_92 (c_ri_mayBoard x1 M) ?_
    intro x2
    refine xr_28_0 f_168_25 ?_ ?_
    · refine xr_0 f_168_32 ?_
      exact xr_51 f_168_33
    · refine xr_0 f_168_28 ?_
      refine xr_27 f_168_29 ?_
      exact xr_51 f_168_33
  · refine xr_0 f_168_14 ?_
    exact xr_51 f_168_16

def ew_next  (M : e_Me) : Option (Int32 × e_Me) :=
  x_bi (ri_boardNext M) fun x1 M2 =>
  some (x1, M2)
theorem c_ew_next  (M : e_Me) : x_C G 169 [.ref 0] M x_rim (ew_next  M) := by
  refine x_C_of 1 [some (.ref 0)] (by decide) ml_169 (Nat.le_of_ble_eq_true rfl) rfl ?_
  rw [ew_next]
  refine xr_2 f_169_0 rfl ?_
  refine xr_30r f_169_1 h_0 rfl ?_
  refine xr_cim f_169_4 (Nat.le_of_ble_eq_true rfl) rfl rfl (xr_rv kd_94 h_8) (Nat.le_of_ble_eq_true rfl) mc_94 ms_94 (c_ri_boardNext M) ?_
  intro x1 M2
  exact xr_51m f_169_7

def ew_fill_l2   : Nat → Int32 → e_Me → Option (Int32 × e_Me)
  | 0, _, _ => none
  | F + 1, a1, M =>
    if (200 : Int32) ≤ a1 then
      some (a1, M)
    else
      x_bi (ri_boardNext M) fun x1 M2 =>
      if x1 = (-1 : Int32) then
        some (a1, M2)
      else
        ew_fill_l2  F (a1 + (1 : Int32)) M2
theorem c_ew_fill_l2    : ∀ (F : Nat) (a1 : Int32) (M : e_Me), x_X G 170 0 0 x_rim 2 [some (.ref 0), some (.int a1)] [] M (ew_fill_l2  F a1 M) := by
  intro F
  induction F with
  | zero => intro a1 M; exact xr_none
  | succ F ih =>
    intro a1 M
    rw [ew_fill_l2]
    refine xr_1 f_170_2 rfl ?_
    refine xr_0 f_170_3 ?_
    refine xr_29_3 f_170_6 ?_ ?_
    · refine xr_1 f_170_26 rfl ?_
      exact xr_51m f_170_27
    · refine xr_2 f_170_9 rfl ?_
      refine xr_30r f_170_10 h_0 rfl ?_
      refine xr_cim f_170_13 (Nat.le_of_ble_eq_true rfl) rfl rfl (xr_rv kd_94 h_8) (Nat.le_of_ble_eq_true rfl) mc_94 ms_94 (c_ri_boardNext M) ?_
      intro x1 M2
      refine xr_0 f_170_16 ?_
      refine xr_29_0 f_170_17 ?_ ?_
      · refine xr_1 f_170_26 rfl ?_
        exact xr_51m f_170_27
      · refine xr_7 [some (.ref 0), some (.int (a1 + (1 : Int32)))] f_170_20 rfl rfl rfl ?_
        refine xr_27 f_170_23 ?_
        exact ih (a1 + (1 : Int32)) M2

def ew_fill  (M : e_Me) : Option (Int32 × e_Me) :=
  ew_fill_l2  e_F (0 : Int32) M
theorem c_ew_fill  (M : e_Me) : x_C G 170 [.ref 0] M x_rim (ew_fill  M) := by
  refine x_C_of 2 [some (.ref 0), none] (by decide) ml_170 (Nat.le_of_ble_eq_true rfl) rfl ?_
  rw [ew_fill]
  refine xr_0 f_170_0 ?_
  refine xr_4 [some (.ref 0), some (.int (0 : Int32))] f_170_1 rfl rfl ?_
  exact c_ew_fill_l2 e_F (0 : Int32) M

def ew_tire (a1 : Int32) (M : e_Me) : Option (Int32 × e_Me) :=
  x_bd (ri_waiting a1 M) fun x1 =>
  if x1 = (-1 : Int32) then
    some ((-101 : Int32), M)
  else
    x_bi (ri_sendAway a1 M) fun x2 M3 =>
    some (x2, M3)
theorem c_ew_tire (a1 : Int32) (M : e_Me) : x_C G 171 [.ref 0, .int a1] M x_rim (ew_tire a1 M) := by
  refine x_C_of 2 [some (.ref 0), some (.int a1)] (by decide) ml_171 (Nat.le_of_ble_eq_true rfl) rfl ?_
  rw [ew_tire]
  refine xr_2 f_171_0 rfl ?_
  refine xr_30r f_171_1 h_0 rfl ?_
  refine xr_1 f_171_4 rfl ?_
  refine xr_ci f_171_5 (Nat.le_of_ble_eq_true rfl) rfl rfl (xr_rv kd_91 h_8) (Nat.le_of_ble_eq_true rfl) mc_91 ms_91 (c_ri_waiting a1 M) ?_
  intro x1
  refine xr_0 f_171_8 ?_
  refine xr_29_1 f_171_9 ?_ ?_
  · refine xr_2 f_171_17 rfl ?_
    refine xr_30r f_171_18 h_0 rfl ?_
    refine xr_1 f_171_21 rfl ?_
    refine xr_cim f_171_22 (Nat.le_of_ble_eq_true rfl) rfl rfl (xr_rv kd_95 h_8) (Nat.le_of_ble_eq_true rfl) mc_95 ms_95 (c_ri_sendAway a1 M) ?_
    intro x2 M3
    exact xr_51m f_171_25
  · refine xr_0 f_171_12 ?_
    refine xr_27 f_171_14 ?_
    exact xr_51m f_171_25

def ew_leave (a1 : Int32) (M : e_Me) : Option (Int32 × e_Me) :=
  x_bd (ri_isAtDoor a1 M) fun x1 =>
  if x1 = 0 then
    some ((-101 : Int32), M)
  else
    x_bd (ri_mayLeave a1 M) fun x2 =>
    if x2 = 0 then
      some ((-103 : Int32), M)
    else
      x_bi (ri_getOff a1 M) fun x3 M4 =>
      some (x3, M4)
theorem c_ew_leave (a1 : Int32) (M : e_Me) : x_C G 172 [.ref 0, .int a1] M x_rim (ew_leave a1 M) := by
  refine x_C_of 2 [some (.ref 0), some (.int a1)] (by decide) ml_172 (Nat.le_of_ble_eq_true rfl) rfl ?_
  rw [ew_leave]
  refine xr_2 f_172_0 rfl ?_
  refine xr_30r f_172_1 h_0 rfl ?_
  refine xr_1 f_172_4 rfl ?_
  refine xr_ci f_172_5 (Nat.le_of_ble_eq_true rfl) rfl rfl (xr_rv kd_96 h_8) (Nat.le_of_ble_eq_true rfl) mc_96 ms_96 (c_ri_isAtDoor a1 M) ?_
  intro x1
  refine xr_28_1 f_172_8 ?_ ?_
  · refine xr_2 f_172_14 rfl ?_
    refine xr_30r f_172_15 h_0 rfl ?_
    refine xr_1 f_172_18 rfl ?_
    refine xr_ci f_172_19 (Nat.le_of_ble_eq_true rfl) rfl rfl (xr_rv kd_97 h_8) (Nat.le_of_ble_eq_true rfl) mc_97 ms_97 (c_ri_mayLeave a1 M) ?_
    intro x2
    refine xr_28_0 f_172_22 ?_ ?_
    · refine xr_0 f_172_36 ?_
      exact xr_51m f_172_38
    · refine xr_2 f_172_25 rfl ?_
      refine xr_30r f_172_26 h_0 rfl ?_
      refine xr_1 f_172_29 rfl ?_
      refine xr_cim f_172_30 (Nat.le_of_ble_eq_true rfl) rfl rfl (xr_rv kd_98 h_8) (Nat.le_of_ble_eq_true rfl) mc_98 ms_98 (c_ri_getOff a1 M) ?_
      intro x3 M4
      refine xr_27 f_172_33 ?_
      exact xr_51m f_172_38
  · refine xr_0 f_172_11 ?_
    exact xr_51m f_172_13

def ew_party (a1 : Int32) (a2 : Int32) (M : e_Me) : Option Int32 :=
  x_bd (ri_tellParty a1 a2 M) fun x1 =>
  some x1
theorem c_ew_party (a1 : Int32) (a2 : Int32) (M : e_Me) : x_C G 173 [.ref 0, .int a1, .int a2] M (x_ri M) (ew_party a1 a2 M) := by
  refine x_C_of 3 [some (.ref 0), some (.int a1), some (.int a2)] (by decide) ml_173 (Nat.le_of_ble_eq_true rfl) rfl ?_
  rw [ew_party]
  refine xr_2 f_173_0 rfl ?_
  refine xr_30r f_173_1 h_0 rfl ?_
  refine xr_1 f_173_4 rfl ?_
  refine xr_1 f_173_5 rfl ?_
  refine xr_ci f_173_6 (Nat.le_of_ble_eq_true rfl) rfl rfl (xr_rv kd_81 h_8) (Nat.le_of_ble_eq_true rfl) mc_81 ms_81 (c_ri_tellParty a1 a2 M) ?_
  intro x1
  exact xr_51 f_173_9

def ew_order (a1 : Int32) (M : e_Me) : Option (Int32 × e_Me) :=
  if a1 < 0 then
    some ((-102 : Int32), M)
  else
    if a1 ≤ (1 : Int32) then
      x_bi (em_findBest M) fun x1 M2 =>
      if x1 = 0 then
        some ((-103 : Int32), M2)
      else
        x_bd (em_cabinsOfBest M2) fun x3 =>
        if x3 = 0 then
          some ((-1 : Int32), M2)
        else
          if a1 = 0 then
            x_bd (em_costOfBest M2) fun x5 =>
            some (x5, M2)
          else
            x_bd (em_stepsOfBest M2) fun x4 =>
            some (x4, M2)
    else
      some ((-102 : Int32), M)
theorem c_ew_order (a1 : Int32) (M : e_Me) : x_C G 174 [.ref 0, .int a1] M x_rim (ew_order a1 M) := by
  refine x_C_of 2 [some (.ref 0), some (.int a1)] (by decide) ml_174 (Nat.le_of_ble_eq_true rfl) rfl ?_
  rw [ew_order]
  refine xr_1 f_174_0 rfl ?_
  refine xr_28_2 f_174_1 ?_ ?_
  · refine xr_0 f_174_9 ?_
    exact xr_51m f_174_11
  · refine xr_1 f_174_4 rfl ?_
    refine xr_0 f_174_5 ?_
    refine xr_29_5 f_174_6 ?_ ?_
    · refine xr_2 f_174_12 rfl ?_
      refine xr_30r f_174_13 h_0 rfl ?_
      refine xr_cim f_174_16 (Nat.le_of_ble_eq_true rfl) rfl rfl (xr_rv kd_8 h_87) (Nat.le_of_ble_eq_true rfl) mc_8 ms_8 (c_em_findBest M) ?_
      intro x1 M2
      refine xr_28_1 f_174_19 ?_ ?_
      · refine xr_2 f_174_25 rfl ?_
        refine xr_30r f_174_26 h_0 rfl ?_
        refine xr_ci f_174_29 (Nat.le_of_ble_eq_true rfl) rfl rfl (xr_rv kd_1 h_87) (Nat.le_of_ble_eq_true rfl) mc_1 ms_1 (c_em_cabinsOfBest M2) ?_
        intro x3
        refine xr_28_1 f_174_32 ?_ ?_
        · refine xr_1 f_174_37 rfl ?_
          refine xr_28_1 f_174_38 ?_ ?_
          · refine xr_2 f_174_51 rfl ?_
            refine xr_30r f_174_52 h_0 rfl ?_
            refine xr_ci f_174_55 (Nat.le_of_ble_eq_true rfl) rfl rfl (xr_rv kd_4 h_87) (Nat.le_of_ble_eq_true rfl) mc_4 ms_4 (c_em_stepsOfBest M2) ?_
            intro x4
            exact xr_51m f_174_58
          · refine xr_2 f_174_41 rfl ?_
            refine xr_30r f_174_42 h_0 rfl ?_
            refine xr_ci f_174_45 (Nat.le_of_ble_eq_true rfl) rfl rfl (xr_rv kd_3 h_87) (Nat.le_of_ble_eq_true rfl) mc_3 ms_3 (c_em_costOfBest M2) ?_
            intro x5
            refine xr_27 f_174_48 ?_
            exact xr_51m f_174_58
        · refine xr_0 f_174_35 ?_
          exact xr_51m f_174_36
      · refine xr_0 f_174_22 ?_
        exact xr_51m f_174_24
    · refine xr_0 f_174_9 ?_
      exact xr_51m f_174_11

def ew_ordered (a1 : Int32) (M : e_Me) : Option (Int32 × e_Me) :=
  x_bi (em_findBest M) fun x1 M2 =>
  if x1 = 0 then
    some ((-103 : Int32), M2)
  else
    x_bd (em_cabinOfBest a1 M2) fun x3 =>
    some (x3, M2)
theorem c_ew_ordered (a1 : Int32) (M : e_Me) : x_C G 175 [.ref 0, .int a1] M x_rim (ew_ordered a1 M) := by
  refine x_C_of 2 [some (.ref 0), some (.int a1)] (by decide) ml_175 (Nat.le_of_ble_eq_true rfl) rfl ?_
  rw [ew_ordered]
  refine xr_2 f_175_0 rfl ?_
  refine xr_30r f_175_1 h_0 rfl ?_
  refine xr_cim f_175_4 (Nat.le_of_ble_eq_true rfl) rfl rfl (xr_rv kd_8 h_87) (Nat.le_of_ble_eq_true rfl) mc_8 ms_8 (c_em_findBest M) ?_
  intro x1 M2
  refine xr_28_0 f_175_7 ?_ ?_
  · refine xr_0 f_175_21 ?_
    exact xr_51m f_175_23
  · refine xr_2 f_175_10 rfl ?_
    refine xr_30r f_175_11 h_0 rfl ?_
    refine xr_1 f_175_14 rfl ?_
    refine xr_ci f_175_15 (Nat.le_of_ble_eq_true rfl) rfl rfl (xr_rv kd_2 h_87) (Nat.le_of_ble_eq_true rfl) mc_2 ms_2 (c_em_cabinOfBest a1 M2) ?_
    intro x3
    refine xr_27 f_175_18 ?_
    exact xr_51m f_175_23

def ew_cost (a1 : Int32) (M : e_Me) : Option (Int32 × e_Me) :=
  x_bi (em_gather M) fun x1 M2 =>
  if x1 = 0 then
    some ((-103 : Int32), M2)
  else
    x_bi (em_takeFigures a1 M2) fun x3 M4 =>
    if x3 = 0 then
      some ((-102 : Int32), M4)
    else
      x_bi (em_costAsItStands M4) fun x5 M6 =>
      some (x5, M6)
theorem c_ew_cost (a1 : Int32) (M : e_Me) : x_C G 176 [.ref 0, .int a1] M x_rim (ew_cost a1 M) := by
  refine x_C_of 2 [some (.ref 0), some (.int a1)] (by decide) ml_176 (Nat.le_of_ble_eq_true rfl) rfl ?_
  rw [ew_cost]
  refine xr_2 f_176_0 rfl ?_
  refine xr_30r f_176_1 h_0 rfl ?_
  refine xr_cim f_176_4 (Nat.le_of_ble_eq_true rfl) rfl rfl (xr_rv kd_5 h_87) (Nat.le_of_ble_eq_true rfl) mc_5 ms_5 (c_em_gather M) ?_
  intro x1 M2
  refine xr_28_1 f_176_7 ?_ ?_
  · refine xr_2 f_176_13 rfl ?_
    refine xr_30r f_176_14 h_0 rfl ?_
    refine xr_1 f_176_17 rfl ?_
    refine xr_cim f_176_18 (Nat.le_of_ble_eq_true rfl) rfl rfl (xr_rv kd_16 h_87) (Nat.le_of_ble_eq_true rfl) mc_16 ms_16 (c_em_takeFigures a1 M2) ?_
    intro x3 M4
    refine xr_28_0 f_176_21 ?_ ?_
    · refine xr_0 f_176_34 ?_
      exact xr_51m f_176_36
    · refine xr_2 f_176_24 rfl ?_
      refine xr_30r f_176_25 h_0 rfl ?_
      refine xr_cim f_176_28 (Nat.le_of_ble_eq_true rfl) rfl rfl (xr_rv kd_17 h_87) (Nat.le_of_ble_eq_true rfl) mc_17 ms_17 (c_em_costAsItStands M4) ?_
      intro x5 M6
      refine xr_27 f_176_31 ?_
      exact xr_51m f_176_36
  · refine xr_0 f_176_10 ?_
    exact xr_51m f_176_12

def ew_roll  (M : e_Me) : Option (Int32 × e_Me) :=
  x_bi (rl_rollNow M) fun x1 M2 =>
  some (x1, M2)
theorem c_ew_roll  (M : e_Me) : x_C G 177 [.ref 0] M x_rim (ew_roll  M) := by
  refine x_C_of 1 [some (.ref 0)] (by decide) ml_177 (Nat.le_of_ble_eq_true rfl) rfl ?_
  rw [ew_roll]
  refine xr_2 f_177_0 rfl ?_
  refine xr_30r f_177_1 h_0 rfl ?_
  refine xr_cim f_177_4 (Nat.le_of_ble_eq_true rfl) rfl rfl (xr_rv kd_102 h_162) (Nat.le_of_ble_eq_true rfl) mc_102 ms_102 (c_rl_rollNow M) ?_
  intro x1 M2
  exact xr_51m f_177_7

def ew_letOut  (M : e_Me) : Option (Int32 × e_Me) :=
  x_bi (rl_letAllOut M) fun x1 M2 =>
  some (x1, M2)
theorem c_ew_letOut  (M : e_Me) : x_C G 178 [.ref 0] M x_rim (ew_letOut  M) := by
  refine x_C_of 1 [some (.ref 0)] (by decide) ml_178 (Nat.le_of_ble_eq_true rfl) rfl ?_
  rw [ew_letOut]
  refine xr_2 f_178_0 rfl ?_
  refine xr_30r f_178_1 h_0 rfl ?_
  refine xr_cim f_178_4 (Nat.le_of_ble_eq_true rfl) rfl rfl (xr_rv kd_103 h_162) (Nat.le_of_ble_eq_true rfl) mc_103 ms_103 (c_rl_letAllOut M) ?_
  intro x1 M2
  exact xr_51m f_178_7

def ew_stranded  (M : e_Me) : Option (Int32 × e_Me) :=
  x_bi (rl_wouldStrand M) fun x1 M2 =>
  some (x1, M2)
theorem c_ew_stranded  (M : e_Me) : x_C G 179 [.ref 0] M x_rim (ew_stranded  M) := by
  refine x_C_of 1 [some (.ref 0)] (by decide) ml_179 (Nat.le_of_ble_eq_true rfl) rfl ?_
  rw [ew_stranded]
  refine xr_2 f_179_0 rfl ?_
  refine xr_30r f_179_1 h_0 rfl ?_
  refine xr_cim f_179_4 (Nat.le_of_ble_eq_true rfl) rfl rfl (xr_rv kd_104 h_162) (Nat.le_of_ble_eq_true rfl) mc_104 ms_104 (c_rl_wouldStrand M) ?_
  intro x1 M2
  exact xr_51m f_179_7

def ew_note (a1 : Int32) (a2 : Int32) (M : e_Me) : Option (Int32 × e_Me) :=
  x_bd (no_allows a1 a2 M) fun x1 =>
  if x1 = 0 then
    some ((-102 : Int32), M)
  else
    x_bi (no_write a1 a2 M) fun x2 M3 =>
    some (x2, M3)
theorem c_ew_note (a1 : Int32) (a2 : Int32) (M : e_Me) : x_C G 180 [.ref 0, .int a1, .int a2] M x_rim (ew_note a1 a2 M) := by
  refine x_C_of 3 [some (.ref 0), some (.int a1), some (.int a2)] (by decide) ml_180 (Nat.le_of_ble_eq_true rfl) rfl ?_
  rw [ew_note]
  refine xr_1 f_180_0 rfl ?_
  refine xr_1 f_180_1 rfl ?_
  refine xr_ci f_180_2 (Nat.le_of_ble_eq_true rfl) rfl rfl (xr_rs kd_19) (Nat.le_of_ble_eq_true rfl) mc_19 ms_19 (c_no_allows a1 a2 M) ?_
  intro x1
  refine xr_28_0 f_180_5 ?_ ?_
  · refine xr_0 f_180_20 ?_
    exact xr_51m f_180_22
  · refine xr_2 f_180_8 rfl ?_
    refine xr_30r f_180_9 h_0 rfl ?_
    refine xr_1 f_180_12 rfl ?_
    refine xr_1 f_180_13 rfl ?_
    refine xr_cim f_180_14 (Nat.le_of_ble_eq_true rfl) rfl rfl (xr_rv kd_21 h_166) (Nat.le_of_ble_eq_true rfl) mc_21 ms_21 (c_no_write a1 a2 M) ?_
    intro x2 M3
    refine xr_27 f_180_17 ?_
    exact xr_51m f_180_22

def ew_up (a1 : Int32) (a2 : Int32) (M : e_Me) : Option (Int32 × e_Me) :=
  x_bd (no_mayBeUp a1 M) fun x1 =>
  if x1 = 0 then
    some ((-102 : Int32), M)
  else
    if a2 < 0 then
      some ((-102 : Int32), M)
    else
      if a2 ≤ (1 : Int32) then
        x_bi (no_follow a1 M) fun x2 M3 =>
        if x2 = 0 then
          some ((-1 : Int32), M3)
        else
          if a2 = 0 then
            x_bd (no_leastUp M3) fun x5 =>
            some (x5, M3)
          else
            x_bd (no_mostUp M3) fun x4 =>
            some (x4, M3)
      else
        some ((-102 : Int32), M)
theorem c_ew_up (a1 : Int32) (a2 : Int32) (M : e_Me) : x_C G 181 [.ref 0, .int a1, .int a2] M x_rim (ew_up a1 a2 M) := by
  refine x_C_of 3 [some (.ref 0), some (.int a1), some (.int a2)] (by decide) ml_181 (Nat.le_of_ble_eq_true rfl) rfl ?_
  rw [ew_up]
  refine xr_2 f_181_0 rfl ?_
  refine xr_30r f_181_1 h_0 rfl ?_
  refine xr_1 f_181_4 rfl ?_
  refine xr_ci f_181_5 (Nat.le_of_ble_eq_true rfl) rfl rfl (xr_rv kd_23 h_166) (Nat.le_of_ble_eq_true rfl) mc_23 ms_23 (c_no_mayBeUp a1 M) ?_
  intro x1
  refine xr_28_0 f_181_8 ?_ ?_
  · refine xr_0 f_181_20 ?_
    exact xr_51m f_181_22
  · refine xr_1 f_181_11 rfl ?_
    refine xr_28_2 f_181_12 ?_ ?_
    · refine xr_0 f_181_20 ?_
      exact xr_51m f_181_22
    · refine xr_1 f_181_15 rfl ?_
      refine xr_0 f_181_16 ?_
      refine xr_29_5 f_181_17 ?_ ?_
      · refine xr_2 f_181_23 rfl ?_
        refine xr_30r f_181_24 h_0 rfl ?_
        refine xr_1 f_181_27 rfl ?_
        refine xr_cim f_181_28 (Nat.le_of_ble_eq_true rfl) rfl rfl (xr_rv kd_26 h_166) (Nat.le_of_ble_eq_true rfl) mc_26 ms_26 (c_no_follow a1 M) ?_
        intro x2 M3
        refine xr_28_1 f_181_31 ?_ ?_
        · refine xr_1 f_181_36 rfl ?_
          refine xr_28_1 f_181_37 ?_ ?_
          · refine xr_2 f_181_50 rfl ?_
            refine xr_30r f_181_51 h_0 rfl ?_
            refine xr_ci f_181_54 (Nat.le_of_ble_eq_true rfl) rfl rfl (xr_rv kd_25 h_166) (Nat.le_of_ble_eq_true rfl) mc_25 ms_25 (c_no_mostUp M3) ?_
            intro x4
            exact xr_51m f_181_57
          · refine xr_2 f_181_40 rfl ?_
            refine xr_30r f_181_41 h_0 rfl ?_
            refine xr_ci f_181_44 (Nat.le_of_ble_eq_true rfl) rfl rfl (xr_rv kd_24 h_166) (Nat.le_of_ble_eq_true rfl) mc_24 ms_24 (c_no_leastUp M3) ?_
            intro x5
            refine xr_27 f_181_47 ?_
            exact xr_51m f_181_57
        · refine xr_0 f_181_34 ?_
          exact xr_51m f_181_35
      · refine xr_0 f_181_20 ?_
        exact xr_51m f_181_22

def ew_begins  (M : e_Me) : Option (Int32 × e_Me) :=
  x_bi (no_countBegins M) fun x1 M2 =>
  some (x1, M2)
theorem c_ew_begins  (M : e_Me) : x_C G 182 [.ref 0] M x_rim (ew_begins  M) := by
  refine x_C_of 1 [some (.ref 0)] (by decide) ml_182 (Nat.le_of_ble_eq_true rfl) rfl ?_
  rw [ew_begins]
  refine xr_2 f_182_0 rfl ?_
  refine xr_30r f_182_1 h_0 rfl ?_
  refine xr_cim f_182_4 (Nat.le_of_ble_eq_true rfl) rfl rfl (xr_rv kd_27 h_166) (Nat.le_of_ble_eq_true rfl) mc_27 ms_27 (c_no_countBegins M) ?_
  intro x1 M2
  exact xr_51m f_182_7

def ew_tear  (M : e_Me) : Option (Int32 × e_Me) :=
  x_bi (no_startAnew M) fun x1 M2 =>
  some (x1, M2)
theorem c_ew_tear  (M : e_Me) : x_C G 183 [.ref 0] M x_rim (ew_tear  M) := by
  refine x_C_of 1 [some (.ref 0)] (by decide) ml_183 (Nat.le_of_ble_eq_true rfl) rfl ?_
  rw [ew_tear]
  refine xr_2 f_183_0 rfl ?_
  refine xr_30r f_183_1 h_0 rfl ?_
  refine xr_cim f_183_4 (Nat.le_of_ble_eq_true rfl) rfl rfl (xr_rv kd_20 h_166) (Nat.le_of_ble_eq_true rfl) mc_20 ms_20 (c_no_startAnew M) ?_
  intro x1 M2
  exact xr_51m f_183_7

def ew_guess (a1 : Int32) (a2 : Int32) (a3 : Int32) (M : e_Me) : Option (Int32 × e_Me) :=
  x_bd (wh_has a1 M) fun x1 =>
  if x1 = 0 then
    some ((-101 : Int32), M)
  else
    x_bi (re_suppose a1 a2 a3 M) fun x2 M3 =>
    if x2 = 0 then
      some ((-102 : Int32), M3)
    else
      some ((1 : Int32), M3)
theorem c_ew_guess (a1 : Int32) (a2 : Int32) (a3 : Int32) (M : e_Me) : x_C G 184 [.ref 0, .int a1, .int a2, .int a3] M x_rim (ew_guess a1 a2 a3 M) := by
  refine x_C_of 4 [some (.ref 0), some (.int a1), some (.int a2), some (.int a3)] (by decide) ml_184 (Nat.le_of_ble_eq_true rfl) rfl ?_
  rw [ew_guess]
  refine xr_2 f_184_0 rfl ?_
  refine xr_30r f_184_1 h_0 rfl ?_
  refine xr_1 f_184_4 rfl ?_
  refine xr_ci f_184_5 (Nat.le_of_ble_eq_true rfl) rfl rfl (xr_rv kd_132 h_3) (Nat.le_of_ble_eq_true rfl) mc_132 ms_132 (c_wh_has a1 M) ?_
  intro x1
  refine xr_28_1 f_184_8 ?_ ?_
  · refine xr_2 f_184_14 rfl ?_
    refine xr_30r f_184_15 h_0 rfl ?_
    refine xr_1 f_184_18 rfl ?_
    refine xr_1 f_184_19 rfl ?_
    refine xr_1 f_184_20 rfl ?_
    refine xr_cim f_184_21 (Nat.le_of_ble_eq_true rfl) rfl rfl (xr_rv kd_53 h_171) (Nat.le_of_ble_eq_true rfl) mc_53 ms_53 (c_re_suppose a1 a2 a3 M) ?_
    intro x2 M3
    refine xr_28_0 f_184_24 ?_ ?_
    · refine xr_0 f_184_31 ?_
      exact xr_51m f_184_33
    · refine xr_0 f_184_27 ?_
      refine xr_27 f_184_28 ?_
      exact xr_51m f_184_33
  · refine xr_0 f_184_11 ?_
    exact xr_51m f_184_13

def ew_read (a1 : Int32) (a2 : Int32) (a3 : Int32) (M : e_Me) : Option (Int32 × e_Me) :=
  x_bd (wh_has a1 M) fun x1 =>
  if x1 = 0 then
    some ((-101 : Int32), M)
  else
    x_bd (re_allows a2 a3 M) fun x2 =>
    if x2 = 0 then
      some ((-102 : Int32), M)
    else
      x_bi (re_write a1 a2 a3 M) fun x3 M4 =>
      some (x3, M4)
theorem c_ew_read (a1 : Int32) (a2 : Int32) (a3 : Int32) (M : e_Me) : x_C G 185 [.ref 0, .int a1, .int a2, .int a3] M x_rim (ew_read a1 a2 a3 M) := by
  refine x_C_of 4 [some (.ref 0), some (.int a1), some (.int a2), some (.int a3)] (by decide) ml_185 (Nat.le_of_ble_eq_true rfl) rfl ?_
  rw [ew_read]
  refine xr_2 f_185_0 rfl ?_
  refine xr_30r f_185_1 h_0 rfl ?_
  refine xr_1 f_185_4 rfl ?_
  refine xr_ci f_185_5 (Nat.le_of_ble_eq_true rfl) rfl rfl (xr_rv kd_132 h_3) (Nat.le_of_ble_eq_true rfl) mc_132 ms_132 (c_wh_has a1 M) ?_
  intro x1
  refine xr_28_1 f_185_8 ?_ ?_
  · refine xr_1 f_185_14 rfl ?_
    refine xr_1 f_185_15 rfl ?_
    refine xr_ci f_185_16 (Nat.le_of_ble_eq_true rfl) rfl rfl (xr_rs kd_54) (Nat.le_of_ble_eq_true rfl) mc_54 ms_54 (c_re_allows a2 a3 M) ?_
    intro x2
    refine xr_28_0 f_185_19 ?_ ?_
    · refine xr_0 f_185_35 ?_
      exact xr_51m f_185_37
    · refine xr_2 f_185_22 rfl ?_
      refine xr_30r f_185_23 h_0 rfl ?_
      refine xr_1 f_185_26 rfl ?_
      refine xr_1 f_185_27 rfl ?_
      refine xr_1 f_185_28 rfl ?_
      refine xr_cim f_185_29 (Nat.le_of_ble_eq_true rfl) rfl rfl (xr_rv kd_55 h_171) (Nat.le_of_ble_eq_true rfl) mc_55 ms_55 (c_re_write a1 a2 a3 M) ?_
      intro x3 M4
      refine xr_27 f_185_32 ?_
      exact xr_51m f_185_37
  · refine xr_0 f_185_11 ?_
    exact xr_51m f_185_13

def ew_forget  (M : e_Me) : Option (Int32 × e_Me) :=
  x_bi (re_dropAll M) fun x1 M2 =>
  some (x1, M2)
theorem c_ew_forget  (M : e_Me) : x_C G 186 [.ref 0] M x_rim (ew_forget  M) := by
  refine x_C_of 1 [some (.ref 0)] (by decide) ml_186 (Nat.le_of_ble_eq_true rfl) rfl ?_
  rw [ew_forget]
  refine xr_2 f_186_0 rfl ?_
  refine xr_30r f_186_1 h_0 rfl ?_
  refine xr_cim f_186_4 (Nat.le_of_ble_eq_true rfl) rfl rfl (xr_rv kd_51 h_171) (Nat.le_of_ble_eq_true rfl) mc_51 ms_51 (c_re_dropAll M) ?_
  intro x1 M2
  exact xr_51m f_186_7

def ew_fit (a1 : Int32) (a2 : Int32) (M : e_Me) : Option (Int32 × e_Me) :=
  x_bd (wh_has a1 M) fun x1 =>
  if x1 = 0 then
    some ((-101 : Int32), M)
  else
    if a2 < 0 then
      some ((-102 : Int32), M)
    else
      if a2 ≤ (1 : Int32) then
        x_bi (re_narrow M) fun x2 M3 =>
        if x2 = (-1 : Int32) then
          if a2 = 0 then
            x_bd (re_lowOf a1 M3) fun x5 =>
            some (x5, M3)
          else
            x_bd (re_highOf a1 M3) fun x4 =>
            some (x4, M3)
        else
          some ((-1 : Int32), M3)
      else
        some ((-102 : Int32), M)
theorem c_ew_fit (a1 : Int32) (a2 : Int32) (M : e_Me) : x_C G 187 [.ref 0, .int a1, .int a2] M x_rim (ew_fit a1 a2 M) := by
  refine x_C_of 3 [some (.ref 0), some (.int a1), some (.int a2)] (by decide) ml_187 (Nat.le_of_ble_eq_true rfl) rfl ?_
  rw [ew_fit]
  refine xr_2 f_187_0 rfl ?_
  refine xr_30r f_187_1 h_0 rfl ?_
  refine xr_1 f_187_4 rfl ?_
  refine xr_ci f_187_5 (Nat.le_of_ble_eq_true rfl) rfl rfl (xr_rv kd_132 h_3) (Nat.le_of_ble_eq_true rfl) mc_132 ms_132 (c_wh_has a1 M) ?_
  intro x1
  refine xr_28_1 f_187_8 ?_ ?_
  · refine xr_1 f_187_14 rfl ?_
    refine xr_28_2 f_187_15 ?_ ?_
    · refine xr_0 f_187_23 ?_
      exact xr_51m f_187_25
    · refine xr_1 f_187_18 rfl ?_
      refine xr_0 f_187_19 ?_
      refine xr_29_5 f_187_20 ?_ ?_
      · refine xr_2 f_187_26 rfl ?_
        refine xr_30r f_187_27 h_0 rfl ?_
        refine xr_cim f_187_30 (Nat.le_of_ble_eq_true rfl) rfl rfl (xr_rv kd_58 h_171) (Nat.le_of_ble_eq_true rfl) mc_58 ms_58 (c_re_narrow M) ?_
        intro x2 M3
        refine xr_0 f_187_33 ?_
        refine xr_29_0 f_187_34 ?_ ?_
        · refine xr_1 f_187_39 rfl ?_
          refine xr_28_1 f_187_40 ?_ ?_
          · refine xr_2 f_187_54 rfl ?_
            refine xr_30r f_187_55 h_0 rfl ?_
            refine xr_1 f_187_58 rfl ?_
            refine xr_ci f_187_59 (Nat.le_of_ble_eq_true rfl) rfl rfl (xr_rv kd_57 h_171) (Nat.le_of_ble_eq_true rfl) mc_57 ms_57 (c_re_highOf a1 M3) ?_
            intro x4
            exact xr_51m f_187_62
          · refine xr_2 f_187_43 rfl ?_
            refine xr_30r f_187_44 h_0 rfl ?_
            refine xr_1 f_187_47 rfl ?_
            refine xr_ci f_187_48 (Nat.le_of_ble_eq_true rfl) rfl rfl (xr_rv kd_56 h_171) (Nat.le_of_ble_eq_true rfl) mc_56 ms_56 (c_re_lowOf a1 M3) ?_
            intro x5
            refine xr_27 f_187_51 ?_
            exact xr_51m f_187_62
        · refine xr_0 f_187_37 ?_
          exact xr_51m f_187_38
      · refine xr_0 f_187_23 ?_
        exact xr_51m f_187_25
  · refine xr_0 f_187_11 ?_
    exact xr_51m f_187_13

def ew_breaks  (M : e_Me) : Option (Int32 × e_Me) :=
  x_bi (re_narrow M) fun x1 M2 =>
  some (x1, M2)
theorem c_ew_breaks  (M : e_Me) : x_C G 188 [.ref 0] M x_rim (ew_breaks  M) := by
  refine x_C_of 1 [some (.ref 0)] (by decide) ml_188 (Nat.le_of_ble_eq_true rfl) rfl ?_
  rw [ew_breaks]
  refine xr_2 f_188_0 rfl ?_
  refine xr_30r f_188_1 h_0 rfl ?_
  refine xr_cim f_188_4 (Nat.le_of_ble_eq_true rfl) rfl rfl (xr_rv kd_58 h_171) (Nat.le_of_ble_eq_true rfl) mc_58 ms_58 (c_re_narrow M) ?_
  intro x1 M2
  exact xr_51m f_188_7

def ew_agree  (M : e_Me) : Option (Int32 × e_Me) :=
  x_bi (re_narrow M) fun x1 M2 =>
  if x1 = (-1 : Int32) then
    x_bd (re_countAgreeing M2) fun x3 =>
    some (x3, M2)
  else
    some ((-1 : Int32), M2)
theorem c_ew_agree  (M : e_Me) : x_C G 189 [.ref 0] M x_rim (ew_agree  M) := by
  refine x_C_of 1 [some (.ref 0)] (by decide) ml_189 (Nat.le_of_ble_eq_true rfl) rfl ?_
  rw [ew_agree]
  refine xr_2 f_189_0 rfl ?_
  refine xr_30r f_189_1 h_0 rfl ?_
  refine xr_cim f_189_4 (Nat.le_of_ble_eq_true rfl) rfl rfl (xr_rv kd_58 h_171) (Nat.le_of_ble_eq_true rfl) mc_58 ms_58 (c_re_narrow M) ?_
  intro x1 M2
  refine xr_0 f_189_7 ?_
  refine xr_29_1 f_189_8 ?_ ?_
  · refine xr_0 f_189_21 ?_
    exact xr_51m f_189_22
  · refine xr_2 f_189_11 rfl ?_
    refine xr_30r f_189_12 h_0 rfl ?_
    refine xr_ci f_189_15 (Nat.le_of_ble_eq_true rfl) rfl rfl (xr_rv kd_65 h_171) (Nat.le_of_ble_eq_true rfl) mc_65 ms_65 (c_re_countAgreeing M2) ?_
    intro x3
    refine xr_27 f_189_18 ?_
    exact xr_51m f_189_22

def ew_digest  (M : e_Me) : Option Int64 :=
  x_bd (wh_count M) fun x1 =>
  x_bd (ew_mix ((211 : Int32)).toInt64 (x1).toInt64 M) fun x2 =>
  x_lt x2 fun y3 =>
  x_bd (ew_told (0 : Int32) M) fun x4 =>
  x_bd (ew_mix y3 (x4).toInt64 M) fun x5 =>
  x_lt x5 fun y6 =>
  x_bd (ew_told (1 : Int32) M) fun x7 =>
  x_bd (ew_mix y6 (x7).toInt64 M) fun x8 =>
  x_lt x8 fun y9 =>
  x_bd (ew_told (6 : Int32) M) fun x10 =>
  x_bd (ew_mix y9 (x10).toInt64 M) fun x11 =>
  x_lt x11 fun y12 =>
  x_bd (ew_told (7 : Int32) M) fun x13 =>
  x_bd (ew_mix y12 (x13).toInt64 M) fun x14 =>
  x_lt x14 fun y15 =>
  x_bd (ew_told (8 : Int32) M) fun x16 =>
  x_bd (ew_mix y15 (x16).toInt64 M) fun x17 =>
  x_lt x17 fun y18 =>
  x_bd (ru_mixInto y18 M) fun x19 =>
  x_lt x19 fun y20 =>
  x_bd (ri_mixInto y20 M) fun x21 =>
  x_lt x21 fun y22 =>
  x_bd (no_mixInto y22 M) fun x23 =>
  x_lt x23 fun y24 =>
  x_bd (re_mixInto y24 M) fun x25 =>
  some x25
theorem c_ew_digest  (M : e_Me) : x_C G 190 [.ref 0] M (x_rl M) (ew_digest  M) := by
  refine x_C_of 3 [some (.ref 0), none, none] (by decide) ml_190 (Nat.le_of_ble_eq_true rfl) rfl ?_
  rw [ew_digest]
  refine xr_23 f_190_0 ?_
  refine xr_2 f_190_3 rfl ?_
  refine xr_30r f_190_4 h_0 rfl ?_
  refine xr_ci f_190_7 (Nat.le_of_ble_eq_true rfl) rfl rfl (xr_rv kd_133 h_3) (Nat.le_of_ble_eq_true rfl) mc_133 ms_133 (c_wh_count M) ?_
  intro x1
  refine xr_19 f_190_10 ?_
  refine xr_cl f_190_11 (Nat.le_of_ble_eq_true rfl) rfl rfl (xr_rs kd_191) (Nat.le_of_ble_eq_true rfl) mc_191 ms_191 (c_ew_mix ((211 : Int32)).toInt64 (x1).toInt64 M) ?_
  intro x2
  refine xr_6l (fun y3 => [some (.ref 0), some (.long y3), none]) f_190_14 rfl (fun _ => rfl) ?_
  intro y3
  refine xr_3 f_190_15 rfl ?_
  refine xr_2 f_190_16 rfl ?_
  refine xr_0 f_190_17 ?_
  refine xr_ci f_190_18 (Nat.le_of_ble_eq_true rfl) rfl rfl (xr_rv kd_154 h_0) (Nat.le_of_ble_eq_true rfl) mc_154 ms_154 (c_ew_told (0 : Int32) M) ?_
  intro x4
  refine xr_19 f_190_21 ?_
  refine xr_cl f_190_22 (Nat.le_of_ble_eq_true rfl) rfl rfl (xr_rs kd_191) (Nat.le_of_ble_eq_true rfl) mc_191 ms_191 (c_ew_mix y3 (x4).toInt64 M) ?_
  intro x5
  refine xr_6l (fun y6 => [some (.ref 0), some (.long y6), none]) f_190_25 rfl (fun _ => rfl) ?_
  intro y6
  refine xr_3 f_190_26 rfl ?_
  refine xr_2 f_190_27 rfl ?_
  refine xr_0 f_190_28 ?_
  refine xr_ci f_190_29 (Nat.le_of_ble_eq_true rfl) rfl rfl (xr_rv kd_154 h_0) (Nat.le_of_ble_eq_true rfl) mc_154 ms_154 (c_ew_told (1 : Int32) M) ?_
  intro x7
  refine xr_19 f_190_32 ?_
  refine xr_cl f_190_33 (Nat.le_of_ble_eq_true rfl) rfl rfl (xr_rs kd_191) (Nat.le_of_ble_eq_true rfl) mc_191 ms_191 (c_ew_mix y6 (x7).toInt64 M) ?_
  intro x8
  refine xr_6l (fun y9 => [some (.ref 0), some (.long y9), none]) f_190_36 rfl (fun _ => rfl) ?_
  intro y9
  refine xr_3 f_190_37 rfl ?_
  refine xr_2 f_190_38 rfl ?_
  refine xr_0 f_190_39 ?_
  refine xr_ci f_190_41 (Nat.le_of_ble_eq_true rfl) rfl rfl (xr_rv kd_154 h_0) (Nat.le_of_ble_eq_true rfl) mc_154 ms_154 (c_ew_told (6 : Int32) M) ?_
  intro x10
  refine xr_19 f_190_44 ?_
  refine xr_cl f_190_45 (Nat.le_of_ble_eq_true rfl) rfl rfl (xr_rs kd_191) (Nat.le_of_ble_eq_true rfl) mc_191 ms_191 (c_ew_mix y9 (x10).toInt64 M) ?_
  intro x11
  refine xr_6l (fun y12 => [some (.ref 0), some (.long y12), none]) f_190_48 rfl (fun _ => rfl) ?_
  intro y12
  refine xr_3 f_190_49 rfl ?_
  refine xr_2 f_190_50 rfl ?_
  refine xr_0 f_190_51 ?_
  refine xr_ci f_190_53 (Nat.le_of_ble_eq_true rfl) rfl rfl (xr_rv kd_154 h_0) (Nat.le_of_ble_eq_true rfl) mc_154 ms_154 (c_ew_told (7 : Int32) M) ?_
  intro x13
  refine xr_19 f_190_56 ?_
  refine xr_cl f_190_57 (Nat.le_of_ble_eq_true rfl) rfl rfl (xr_rs kd_191) (Nat.le_of_ble_eq_true rfl) mc_191 ms_191 (c_ew_mix y12 (x13).toInt64 M) ?_
  intro x14
  refine xr_6l (fun y15 => [some (.ref 0), some (.long y15), none]) f_190_60 rfl (fun _ => rfl) ?_
  intro y15
  refine xr_3 f_190_61 rfl ?_
  refine xr_2 f_190_62 rfl ?_
  refine xr_0 f_190_63 ?_
  refine xr_ci f_190_65 (Nat.le_of_ble_eq_true rfl) rfl rfl (xr_rv kd_154 h_0) (Nat.le_of_ble_eq_true rfl) mc_154 ms_154 (c_ew_told (8 : Int32) M) ?_
  intro x16
  refine xr_19 f_190_68 ?_
  refine xr_cl f_190_69 (Nat.le_of_ble_eq_true rfl) rfl rfl (xr_rs kd_191) (Nat.le_of_ble_eq_true rfl) mc_191 ms_191 (c_ew_mix y15 (x16).toInt64 M) ?_
  intro x17
  refine xr_6l (fun y18 => [some (.ref 0), some (.long y18), none]) f_190_72 rfl (fun _ => rfl) ?_
  intro y18
  refine xr_2 f_190_73 rfl ?_
  refine xr_30r f_190_74 h_0 rfl ?_
  refine xr_3 f_190_77 rfl ?_
  refine xr_cl f_190_78 (Nat.le_of_ble_eq_true rfl) rfl rfl (xr_rv kd_127 h_1) (Nat.le_of_ble_eq_true rfl) mc_127 ms_127 (c_ru_mixInto y18 M) ?_
  intro x19
  refine xr_6l (fun y20 => [some (.ref 0), some (.long y20), none]) f_190_81 rfl (fun _ => rfl) ?_
  intro y20
  refine xr_2 f_190_82 rfl ?_
  refine xr_30r f_190_83 h_0 rfl ?_
  refine xr_3 f_190_86 rfl ?_
  refine xr_cl f_190_87 (Nat.le_of_ble_eq_true rfl) rfl rfl (xr_rv kd_100 h_8) (Nat.le_of_ble_eq_true rfl) mc_100 ms_100 (c_ri_mixInto y20 M) ?_
  intro x21
  refine xr_6l (fun y22 => [some (.ref 0), some (.long y22), none]) f_190_90 rfl (fun _ => rfl) ?_
  intro y22
  refine xr_2 f_190_91 rfl ?_
  refine xr_30r f_190_92 h_0 rfl ?_
  refine xr_3 f_190_95 rfl ?_
  refine xr_cl f_190_96 (Nat.le_of_ble_eq_true rfl) rfl rfl (xr_rv kd_30 h_166) (Nat.le_of_ble_eq_true rfl) mc_30 ms_30 (c_no_mixInto y22 M) ?_
  intro x23
  refine xr_6l (fun y24 => [some (.ref 0), some (.long y24), none]) f_190_99 rfl (fun _ => rfl) ?_
  intro y24
  refine xr_2 f_190_100 rfl ?_
  refine xr_30r f_190_101 h_0 rfl ?_
  refine xr_3 f_190_104 rfl ?_
  refine xr_cl f_190_105 (Nat.le_of_ble_eq_true rfl) rfl rfl (xr_rv kd_66 h_171) (Nat.le_of_ble_eq_true rfl) mc_66 ms_66 (c_re_mixInto y24 M) ?_
  intro x25
  exact xr_53 f_190_108

end
