/-! 20b.parts: the functions that the methods answer by, and that they do; printed by wip/whole/dec.py -/
section
variable {G : e_G}
def em_cabinsOfBest  (M : e_Me) : Option Int32 :=
  x_bd (ro_count 92 M) fun x1 =>
  some x1
theorem c_em_cabinsOfBest  (M : e_Me) : x_C G 1 [.ref 87] M (x_ri M) (em_cabinsOfBest  M) := by
  refine x_C_of 1 [some (.ref 87)] (by decide) ml_1 (Nat.le_of_ble_eq_true rfl) rfl ?_
  rw [em_cabinsOfBest]
  refine xr_2 f_1_0 rfl ?_
  refine xr_30r f_1_1 h_87 rfl ?_
  refine xr_ci f_1_4 (Nat.le_of_ble_eq_true rfl) rfl rfl (xr_rv kd_111 h_92) (Nat.le_of_ble_eq_true rfl) mc_111 ms_111 (c_ro_count 92 M) ?_
  intro x1
  exact xr_51 f_1_7

def em_cabinOfBest (a1 : Int32) (M : e_Me) : Option Int32 :=
  x_bd (ro_at 92 a1 M) fun x1 =>
  x_bd (ro_at 88 x1 M) fun x2 =>
  some x2
theorem c_em_cabinOfBest (a1 : Int32) (M : e_Me) : x_C G 2 [.ref 87, .int a1] M (x_ri M) (em_cabinOfBest a1 M) := by
  refine x_C_of 2 [some (.ref 87), some (.int a1)] (by decide) ml_2 (Nat.le_of_ble_eq_true rfl) rfl ?_
  rw [em_cabinOfBest]
  refine xr_2 f_2_0 rfl ?_
  refine xr_30r f_2_1 h_87 rfl ?_
  refine xr_2 f_2_4 rfl ?_
  refine xr_30r f_2_5 h_87 rfl ?_
  refine xr_1 f_2_8 rfl ?_
  refine xr_ci f_2_9 (Nat.le_of_ble_eq_true rfl) rfl rfl (xr_rv kd_113 h_92) (Nat.le_of_ble_eq_true rfl) mc_113 ms_113 (c_ro_at 92 a1 M) ?_
  intro x1
  refine xr_ci f_2_12 (Nat.le_of_ble_eq_true rfl) rfl rfl (xr_rv kd_113 h_88) (Nat.le_of_ble_eq_true rfl) mc_113 ms_113 (c_ro_at 88 x1 M) ?_
  intro x2
  exact xr_51 f_2_15

def em_costOfBest  (M : e_Me) : Option Int32 :=
  some (M 87 8)
theorem c_em_costOfBest  (M : e_Me) : x_C G 3 [.ref 87] M (x_ri M) (em_costOfBest  M) := by
  refine x_C_of 1 [some (.ref 87)] (by decide) ml_3 (Nat.le_of_ble_eq_true rfl) rfl ?_
  rw [em_costOfBest]
  refine xr_2 f_3_0 rfl ?_
  refine xr_30i f_3_1 h_87 rfl ?_
  exact xr_51 f_3_4

def em_stepsOfBest  (M : e_Me) : Option Int32 :=
  some (M 87 9)
theorem c_em_stepsOfBest  (M : e_Me) : x_C G 4 [.ref 87] M (x_ri M) (em_stepsOfBest  M) := by
  refine x_C_of 1 [some (.ref 87)] (by decide) ml_4 (Nat.le_of_ble_eq_true rfl) rfl ?_
  rw [em_stepsOfBest]
  refine xr_2 f_4_0 rfl ?_
  refine xr_30i f_4_1 h_87 rfl ?_
  exact xr_51 f_4_4

def em_weighRests_l78 (k2 : Int32 → e_Me → Option e_Me) (k35 : Int32 → e_Me → Option e_Me) (a1 : Int32) (a2 : Int32) (a3 : Int32) (a4 : Int32) (a5 : Int32) : Nat → Int32 → e_Me → Option e_Me
  | 0, _, _ => none
  | F + 1, a6, M =>
    if a2 ≤ a6 then
      k35 (a4 + (1 : Int32)) M
    else
      x_ra 64 (a6 + a2) fun j1 =>
      x_bd (e_arl (95 + j1)) fun n2 =>
      x_ra 64 a6 fun j3 =>
      x_bd (e_arl (95 + j3)) fun n4 =>
      x_rd (M (95 + j3)) n4 a4 fun x5 =>
      x_wr M (95 + j1) n2 a4 (x5 + a5) fun M6 =>
      em_weighRests_l78 k2 k35 a1 a2 a3 a4 a5 F (a6 + (1 : Int32)) M6
theorem c_em_weighRests_l78 (k2 : Int32 → e_Me → Option e_Me) (k35 : Int32 → e_Me → Option e_Me) (a1 : Int32) (a2 : Int32) (a3 : Int32) (a4 : Int32) (a5 : Int32) (hk2 : ∀ (a1 : Int32) (M : e_Me), x_X G 6 0 0 x_rv 2 [some (.ref 87), some (.int a1), none, none, none, none, none] [] M (k2 a1 M)) (hk35 : ∀ (a4 : Int32) (M : e_Me), x_X G 6 0 0 x_rv 35 [some (.ref 87), some (.int a1), some (.int a2), some (.int a3), some (.int a4), none, none] [] M (k35 a4 M)) : ∀ (F : Nat) (a6 : Int32) (M : e_Me), x_X G 6 0 0 x_rv 78 [some (.ref 87), some (.int a1), some (.int a2), some (.int a3), some (.int a4), some (.int a5), some (.int a6)] [] M (em_weighRests_l78 k2 k35 a1 a2 a3 a4 a5 F a6 M) := by
  intro F
  induction F with
  | zero => intro a6 M; exact xr_none
  | succ F ih =>
    intro a6 M
    rw [em_weighRests_l78]
    refine xr_1 f_6_78 rfl ?_
    refine xr_1 f_6_80 rfl ?_
    refine xr_29_3 f_6_81 ?_ ?_
    · refine xr_7 [some (.ref 87), some (.int a1), some (.int a2), some (.int a3), some (.int (a4 + (1 : Int32))), some (.int a5), some (.int a6)] f_6_115 rfl rfl rfl ?_
      refine xr_27 f_6_118 ?_
      refine xr_wk (L' := [some (.ref 87), some (.int a1), some (.int a2), some (.int a3), some (.int (a4 + (1 : Int32))), none, none]) [true, true, true, true, true, false, false] rfl ?_
      exact hk35 (a4 + (1 : Int32)) M
    · refine xr_2 f_6_84 rfl ?_
      refine xr_30r f_6_85 h_87 rfl ?_
      refine xr_1 f_6_88 rfl ?_
      refine xr_1 f_6_90 rfl ?_
      refine xr_8 f_6_91 ?_
      refine xr_36 (r := fun j => 95 + j) f_6_92 h_94 (by decide) (fun j hj => if_pos hj) ?_
      intro j1
      refine xr_arl ?_
      intro n2 hn2
      refine xr_1 f_6_93 rfl ?_
      refine xr_2 f_6_95 rfl ?_
      refine xr_30r f_6_96 h_87 rfl ?_
      refine xr_1 f_6_99 rfl ?_
      refine xr_36 (r := fun j => 95 + j) f_6_101 h_94 (by decide) (fun j hj => if_pos hj) ?_
      intro j3
      refine xr_arl ?_
      intro n4 hn4
      refine xr_1 f_6_102 rfl ?_
      refine xr_32 f_6_104 (e_arl_arr hn4) ?_
      intro x5
      refine xr_1 f_6_105 rfl ?_
      refine xr_8 f_6_107 ?_
      refine xr_33 f_6_108 (e_arl_arr hn2) ?_
      intro M6
      refine xr_7 [some (.ref 87), some (.int a1), some (.int a2), some (.int a3), some (.int a4), some (.int a5), some (.int (a6 + (1 : Int32)))] f_6_109 rfl rfl rfl ?_
      refine xr_27 f_6_112 ?_
      exact ih (a6 + (1 : Int32)) M6

def em_weighRests_l35 (k2 : Int32 → e_Me → Option e_Me) (a1 : Int32) (a2 : Int32) (a3 : Int32) : Nat → Int32 → e_Me → Option e_Me
  | 0, _, _ => none
  | F + 1, a4, M =>
    x_bd (wh_count M) fun x1 =>
    if x1 ≤ a4 then
      k2 (a1 + (1 : Int32)) M
    else
      if (30 : Int32) ≤ a4 then
        k2 (a1 + (1 : Int32)) M
      else
        x_bd (wh_loadOf a3 M) fun x2 =>
        x_bd (wh_armOf a3 a4 M) fun x3 =>
        x_lt (x2 * x3) fun y4 =>
        em_weighRests_l78 k2 (em_weighRests_l35 k2 a1 a2 a3 F) a1 a2 a3 a4 y4 e_F (0 : Int32) M
theorem c_em_weighRests_l35 (k2 : Int32 → e_Me → Option e_Me) (a1 : Int32) (a2 : Int32) (a3 : Int32) (hk2 : ∀ (a1 : Int32) (M : e_Me), x_X G 6 0 0 x_rv 2 [some (.ref 87), some (.int a1), none, none, none, none, none] [] M (k2 a1 M)) : ∀ (F : Nat) (a4 : Int32) (M : e_Me), x_X G 6 0 0 x_rv 35 [some (.ref 87), some (.int a1), some (.int a2), some (.int a3), some (.int a4), none, none] [] M (em_weighRests_l35 k2 a1 a2 a3 F a4 M) := by
  intro F
  induction F with
  | zero => intro a4 M; exact xr_none
  | succ F ih =>
    intro a4 M
    rw [em_weighRests_l35]
    refine xr_1 f_6_35 rfl ?_
    refine xr_2 f_6_37 rfl ?_
    refine xr_30r f_6_38 h_87 rfl ?_
    refine xr_ci f_6_41 (Nat.le_of_ble_eq_true rfl) rfl rfl (xr_rv kd_133 h_3) (Nat.le_of_ble_eq_true rfl) mc_133 ms_133 (c_wh_count M) ?_
    intro x1
    refine xr_29_3 f_6_44 ?_ ?_
    · refine xr_7 [some (.ref 87), some (.int (a1 + (1 : Int32))), some (.int a2), some (.int a3), some (.int a4), none, none] f_6_121 rfl rfl rfl ?_
      refine xr_27 f_6_124 ?_
      refine xr_wk (L' := [some (.ref 87), some (.int (a1 + (1 : Int32))), none, none, none, none, none]) [true, true, false, false, false, true, true] rfl ?_
      exact hk2 (a1 + (1 : Int32)) M
    · refine xr_1 f_6_47 rfl ?_
      refine xr_0 f_6_49 ?_
      refine xr_29_3 f_6_51 ?_ ?_
      · refine xr_7 [some (.ref 87), some (.int (a1 + (1 : Int32))), some (.int a2), some (.int a3), some (.int a4), none, none] f_6_121 rfl rfl rfl ?_
        refine xr_27 f_6_124 ?_
        refine xr_wk (L' := [some (.ref 87), some (.int (a1 + (1 : Int32))), none, none, none, none, none]) [true, true, false, false, false, true, true] rfl ?_
        exact hk2 (a1 + (1 : Int32)) M
      · refine xr_2 f_6_54 rfl ?_
        refine xr_30r f_6_55 h_87 rfl ?_
        refine xr_1 f_6_58 rfl ?_
        refine xr_ci f_6_59 (Nat.le_of_ble_eq_true rfl) rfl rfl (xr_rv kd_145 h_3) (Nat.le_of_ble_eq_true rfl) mc_145 ms_145 (c_wh_loadOf a3 M) ?_
        intro x2
        refine xr_2 f_6_62 rfl ?_
        refine xr_30r f_6_63 h_87 rfl ?_
        refine xr_1 f_6_66 rfl ?_
        refine xr_1 f_6_67 rfl ?_
        refine xr_ci f_6_69 (Nat.le_of_ble_eq_true rfl) rfl rfl (xr_rv kd_144 h_3) (Nat.le_of_ble_eq_true rfl) mc_144 ms_144 (c_wh_armOf a3 a4 M) ?_
        intro x3
        refine xr_10 f_6_72 ?_
        refine xr_4l (fun y4 => [some (.ref 87), some (.int a1), some (.int a2), some (.int a3), some (.int a4), some (.int y4), none]) f_6_73 rfl (fun _ => rfl) ?_
        intro y4
        refine xr_0 f_6_75 ?_
        refine xr_4 [some (.ref 87), some (.int a1), some (.int a2), some (.int a3), some (.int a4), some (.int y4), some (.int (0 : Int32))] f_6_76 rfl rfl ?_
        exact c_em_weighRests_l78 k2 (em_weighRests_l35 k2 a1 a2 a3 F) a1 a2 a3 a4 y4 hk2 ih e_F (0 : Int32) M

def em_weighRests_l2   : Nat → Int32 → e_Me → Option e_Me
  | 0, _, _ => none
  | F + 1, a1, M =>
    x_bd (ro_count 88 M) fun x1 =>
    if x1 ≤ a1 then
      some M
    else
      if (6 : Int32) ≤ a1 then
        some M
      else
        x_lt ((1 : Int32) <<< (a1 &&& 31)) fun y2 =>
        x_bd (ro_at 88 a1 M) fun x3 =>
        em_weighRests_l35 (em_weighRests_l2  F) a1 y2 x3 e_F (0 : Int32) M
theorem c_em_weighRests_l2    : ∀ (F : Nat) (a1 : Int32) (M : e_Me), x_X G 6 0 0 x_rv 2 [some (.ref 87), some (.int a1), none, none, none, none, none] [] M (em_weighRests_l2  F a1 M) := by
  intro F
  induction F with
  | zero => intro a1 M; exact xr_none
  | succ F ih =>
    intro a1 M
    rw [em_weighRests_l2]
    refine xr_1 f_6_2 rfl ?_
    refine xr_2 f_6_3 rfl ?_
    refine xr_30r f_6_4 h_87 rfl ?_
    refine xr_ci f_6_7 (Nat.le_of_ble_eq_true rfl) rfl rfl (xr_rv kd_111 h_88) (Nat.le_of_ble_eq_true rfl) mc_111 ms_111 (c_ro_count 88 M) ?_
    intro x1
    refine xr_29_3 f_6_10 ?_ ?_
    · exact xr_50 f_6_127
    · refine xr_1 f_6_13 rfl ?_
      refine xr_0 f_6_14 ?_
      refine xr_29_3 f_6_16 ?_ ?_
      · exact xr_50 f_6_127
      · refine xr_0 f_6_19 ?_
        refine xr_1 f_6_20 rfl ?_
        refine xr_14 f_6_21 ?_
        refine xr_4l (fun y2 => [some (.ref 87), some (.int a1), some (.int y2), none, none, none, none]) f_6_22 rfl (fun _ => rfl) ?_
        intro y2
        refine xr_2 f_6_23 rfl ?_
        refine xr_30r f_6_24 h_87 rfl ?_
        refine xr_1 f_6_27 rfl ?_
        refine xr_ci f_6_28 (Nat.le_of_ble_eq_true rfl) rfl rfl (xr_rv kd_113 h_88) (Nat.le_of_ble_eq_true rfl) mc_113 ms_113 (c_ro_at 88 a1 M) ?_
        intro x3
        refine xr_4 [some (.ref 87), some (.int a1), some (.int y2), some (.int x3), none, none, none] f_6_31 rfl rfl ?_
        refine xr_0 f_6_32 ?_
        refine xr_4 [some (.ref 87), some (.int a1), some (.int y2), some (.int x3), some (.int (0 : Int32)), none, none] f_6_33 rfl rfl ?_
        exact c_em_weighRests_l35 (em_weighRests_l2  F) a1 y2 x3 ih e_F (0 : Int32) M

def em_weighRests  (M : e_Me) : Option e_Me :=
  em_weighRests_l2  e_F (0 : Int32) M
theorem c_em_weighRests  (M : e_Me) : x_C G 6 [.ref 87] M x_rv (em_weighRests  M) := by
  refine x_C_of 7 [some (.ref 87), none, none, none, none, none, none] (by decide) ml_6 (Nat.le_of_ble_eq_true rfl) rfl ?_
  rw [em_weighRests]
  refine xr_0 f_6_0 ?_
  refine xr_4 [some (.ref 87), some (.int (0 : Int32)), none, none, none, none, none] f_6_1 rfl rfl ?_
  exact c_em_weighRests_l2 e_F (0 : Int32) M

def em_gather_b81   (M : e_Me) : Option (Int32 × e_Me) :=
  x_bd (em_weighRests M) fun M1 =>
  some ((1 : Int32), M1)
theorem c_em_gather_b81   (M : e_Me)  : x_X G 5 0 0 x_rim 81 [some (.ref 87), none] [] M (em_gather_b81  M) := by
  rw [em_gather_b81]
  refine xr_2 f_5_81 rfl ?_
  refine xr_cv f_5_82 (Nat.le_of_ble_eq_true rfl) rfl rfl (xr_rv kd_6 h_87) (Nat.le_of_ble_eq_true rfl) mc_6 ms_6 (c_em_weighRests M) ?_
  intro M1
  refine xr_0 f_5_85 ?_
  exact xr_52mc f_5_86 (by decide)

def em_gather_l16   : Nat → Int32 → e_Me → Option (Int32 × e_Me)
  | 0, _, _ => none
  | F + 1, a1, M =>
    x_bd (wh_count M) fun x1 =>
    if x1 ≤ a1 then
      em_gather_b81 M
    else
      x_bd (wh_loadOf a1 M) fun x2 =>
      if x2 = 0 then
        em_gather_l16  F (a1 + (1 : Int32)) M
      else
        x_bd (ro_hasRoom 88 M) fun x3 =>
        if x3 = 0 then
          some ((0 : Int32), M)
        else
          x_bd (ro_count 88 M) fun x4 =>
          x_bd (ro_append 90 x4 M) fun M5 =>
          x_bd (ro_append 88 a1 M5) fun M6 =>
          em_gather_l16  F (a1 + (1 : Int32)) M6
theorem c_em_gather_l16    : ∀ (F : Nat) (a1 : Int32) (M : e_Me), x_X G 5 0 0 x_rim 16 [some (.ref 87), some (.int a1)] [] M (em_gather_l16  F a1 M) := by
  intro F
  induction F with
  | zero => intro a1 M; exact xr_none
  | succ F ih =>
    intro a1 M
    rw [em_gather_l16]
    refine xr_1 f_5_16 rfl ?_
    refine xr_2 f_5_17 rfl ?_
    refine xr_30r f_5_18 h_87 rfl ?_
    refine xr_ci f_5_21 (Nat.le_of_ble_eq_true rfl) rfl rfl (xr_rv kd_133 h_3) (Nat.le_of_ble_eq_true rfl) mc_133 ms_133 (c_wh_count M) ?_
    intro x1
    refine xr_29_3 f_5_24 ?_ ?_
    · refine xr_wk (L' := [some (.ref 87), none]) [true, false] rfl ?_
      exact c_em_gather_b81 M
    · refine xr_2 f_5_27 rfl ?_
      refine xr_30r f_5_28 h_87 rfl ?_
      refine xr_1 f_5_31 rfl ?_
      refine xr_ci f_5_32 (Nat.le_of_ble_eq_true rfl) rfl rfl (xr_rv kd_145 h_3) (Nat.le_of_ble_eq_true rfl) mc_145 ms_145 (c_wh_loadOf a1 M) ?_
      intro x2
      refine xr_28_1 f_5_35 ?_ ?_
      · refine xr_2 f_5_41 rfl ?_
        refine xr_30r f_5_42 h_87 rfl ?_
        refine xr_ci f_5_45 (Nat.le_of_ble_eq_true rfl) rfl rfl (xr_rv kd_112 h_88) (Nat.le_of_ble_eq_true rfl) mc_112 ms_112 (c_ro_hasRoom 88 M) ?_
        intro x3
        refine xr_28_1 f_5_48 ?_ ?_
        · refine xr_2 f_5_53 rfl ?_
          refine xr_30r f_5_54 h_87 rfl ?_
          refine xr_2 f_5_57 rfl ?_
          refine xr_30r f_5_58 h_87 rfl ?_
          refine xr_ci f_5_61 (Nat.le_of_ble_eq_true rfl) rfl rfl (xr_rv kd_111 h_88) (Nat.le_of_ble_eq_true rfl) mc_111 ms_111 (c_ro_count 88 M) ?_
          intro x4
          refine xr_cv f_5_64 (Nat.le_of_ble_eq_true rfl) rfl rfl (xr_rv kd_115 h_90) (Nat.le_of_ble_eq_true rfl) mc_115 ms_115 (c_ro_append 90 x4 M) ?_
          intro M5
          refine xr_2 f_5_67 rfl ?_
          refine xr_30r f_5_68 h_87 rfl ?_
          refine xr_1 f_5_71 rfl ?_
          refine xr_cv f_5_72 (Nat.le_of_ble_eq_true rfl) rfl rfl (xr_rv kd_115 h_88) (Nat.le_of_ble_eq_true rfl) mc_115 ms_115 (c_ro_append 88 a1 M5) ?_
          intro M6
          refine xr_7 [some (.ref 87), some (.int (a1 + (1 : Int32)))] f_5_75 rfl rfl rfl ?_
          refine xr_27 f_5_78 ?_
          exact ih (a1 + (1 : Int32)) M6
        · refine xr_0 f_5_51 ?_
          exact xr_52mc f_5_52 (by decide)
      · refine xr_27 f_5_38 ?_
        refine xr_7 [some (.ref 87), some (.int (a1 + (1 : Int32)))] f_5_75 rfl rfl rfl ?_
        refine xr_27 f_5_78 ?_
        exact ih (a1 + (1 : Int32)) M

def em_gather  (M : e_Me) : Option (Int32 × e_Me) :=
  x_bd (ro_clear 88 M) fun M1 =>
  x_bd (ro_clear 90 M1) fun M2 =>
  em_gather_l16  e_F (0 : Int32) M2
theorem c_em_gather  (M : e_Me) : x_C G 5 [.ref 87] M x_rim (em_gather  M) := by
  refine x_C_of 2 [some (.ref 87), none] (by decide) ml_5 (Nat.le_of_ble_eq_true rfl) rfl ?_
  rw [em_gather]
  refine xr_2 f_5_0 rfl ?_
  refine xr_30r f_5_1 h_87 rfl ?_
  refine xr_cv f_5_4 (Nat.le_of_ble_eq_true rfl) rfl rfl (xr_rv kd_119 h_88) (Nat.le_of_ble_eq_true rfl) mc_119 ms_119 (c_ro_clear 88 M) ?_
  intro M1
  refine xr_2 f_5_7 rfl ?_
  refine xr_30r f_5_8 h_87 rfl ?_
  refine xr_cv f_5_11 (Nat.le_of_ble_eq_true rfl) rfl rfl (xr_rv kd_119 h_90) (Nat.le_of_ble_eq_true rfl) mc_119 ms_119 (c_ro_clear 90 M1) ?_
  intro M2
  refine xr_0 f_5_14 ?_
  refine xr_4 [some (.ref 87), some (.int (0 : Int32))] f_5_15 rfl rfl ?_
  exact c_em_gather_l16 e_F (0 : Int32) M2

def em_leanOfRest_b25  (a1 : Int32) (a2 : Int32) (s0 : Int32) (M : e_Me) : Option Int32 :=
  if s0 = 0 then
    some (0 : Int32)
  else
    x_ra 64 a1 fun j1 =>
    x_bd (e_arl (95 + j1)) fun n2 =>
    x_rd (M (95 + j1)) n2 a2 fun x3 =>
    some x3
theorem c_em_leanOfRest_b25  (a1 : Int32) (a2 : Int32) (s0 : Int32) (M : e_Me)  : x_X G 7 0 0 (x_ri M) 25 [some (.ref 87), some (.int a1), some (.int a2), none] [.int s0] M (em_leanOfRest_b25 a1 a2 s0 M) := by
  rw [em_leanOfRest_b25]
  refine xr_4 [some (.ref 87), some (.int a1), some (.int a2), some (.int s0)] f_7_25 rfl rfl ?_
  refine xr_1 f_7_26 rfl ?_
  refine xr_28_0 f_7_27 ?_ ?_
  · refine xr_0 f_7_41 ?_
    exact xr_51 f_7_42
  · refine xr_2 f_7_30 rfl ?_
    refine xr_30r f_7_31 h_87 rfl ?_
    refine xr_1 f_7_34 rfl ?_
    refine xr_36 (r := fun j => 95 + j) f_7_35 h_94 (by decide) (fun j hj => if_pos hj) ?_
    intro j1
    refine xr_arl ?_
    intro n2 hn2
    refine xr_1 f_7_36 rfl ?_
    refine xr_32 f_7_37 (e_arl_arr hn2) ?_
    intro x3
    refine xr_27 f_7_38 ?_
    exact xr_51 f_7_42

def em_leanOfRest (a1 : Int32) (a2 : Int32) (M : e_Me) : Option Int32 :=
  if a1 < 0 then
    em_leanOfRest_b25 a1 a2 (0 : Int32) M
  else
    if (64 : Int32) ≤ a1 then
      em_leanOfRest_b25 a1 a2 (0 : Int32) M
    else
      if a2 < 0 then
        em_leanOfRest_b25 a1 a2 (0 : Int32) M
      else
        if (30 : Int32) ≤ a2 then
          em_leanOfRest_b25 a1 a2 (0 : Int32) M
        else
          em_leanOfRest_b25 a1 a2 (1 : Int32) M
theorem c_em_leanOfRest (a1 : Int32) (a2 : Int32) (M : e_Me) : x_C G 7 [.ref 87, .int a1, .int a2] M (x_ri M) (em_leanOfRest a1 a2 M) := by
  refine x_C_of 4 [some (.ref 87), some (.int a1), some (.int a2), none] (by decide) ml_7 (Nat.le_of_ble_eq_true rfl) rfl ?_
  rw [em_leanOfRest]
  refine xr_1 f_7_0 rfl ?_
  refine xr_28_2 f_7_1 ?_ ?_
  · refine xr_0 f_7_24 ?_
    exact c_em_leanOfRest_b25 a1 a2 (0 : Int32) M
  · refine xr_1 f_7_4 rfl ?_
    refine xr_0 f_7_5 ?_
    refine xr_29_3 f_7_7 ?_ ?_
    · refine xr_0 f_7_24 ?_
      exact c_em_leanOfRest_b25 a1 a2 (0 : Int32) M
    · refine xr_1 f_7_10 rfl ?_
      refine xr_28_2 f_7_11 ?_ ?_
      · refine xr_0 f_7_24 ?_
        exact c_em_leanOfRest_b25 a1 a2 (0 : Int32) M
      · refine xr_1 f_7_14 rfl ?_
        refine xr_0 f_7_15 ?_
        refine xr_29_3 f_7_17 ?_ ?_
        · refine xr_0 f_7_24 ?_
          exact c_em_leanOfRest_b25 a1 a2 (0 : Int32) M
        · refine xr_0 f_7_20 ?_
          refine xr_27 f_7_21 ?_
          exact c_em_leanOfRest_b25 a1 a2 (1 : Int32) M

def em_turnFor (a1 : Int32) (M : e_Me) : Option Int32 :=
  x_bd (ro_at 88 a1 M) fun x1 =>
  x_bd (wh_turnFor x1 M) fun x2 =>
  some x2
theorem c_em_turnFor (a1 : Int32) (M : e_Me) : x_C G 15 [.ref 87, .int a1] M (x_ri M) (em_turnFor a1 M) := by
  refine x_C_of 2 [some (.ref 87), some (.int a1)] (by decide) ml_15 (Nat.le_of_ble_eq_true rfl) rfl ?_
  rw [em_turnFor]
  refine xr_2 f_15_0 rfl ?_
  refine xr_30r f_15_1 h_87 rfl ?_
  refine xr_2 f_15_4 rfl ?_
  refine xr_30r f_15_5 h_87 rfl ?_
  refine xr_1 f_15_8 rfl ?_
  refine xr_ci f_15_9 (Nat.le_of_ble_eq_true rfl) rfl rfl (xr_rv kd_113 h_88) (Nat.le_of_ble_eq_true rfl) mc_113 ms_113 (c_ro_at 88 a1 M) ?_
  intro x1
  refine xr_ci f_15_12 (Nat.le_of_ble_eq_true rfl) rfl rfl (xr_rv kd_140 h_3) (Nat.le_of_ble_eq_true rfl) mc_140 ms_140 (c_wh_turnFor x1 M) ?_
  intro x2
  exact xr_51 f_15_15

def em_measureFrom_b143 (k23 : Int32 → e_Me → Option e_Me) (a2 : Int32) (a5 : Int32) (a6 : Int32) (M : e_Me) : Option e_Me :=
  x_rd (M 159) 7 a2 fun x1 =>
  x_bd (ro_at 90 a2 M) fun x2 =>
  x_wr M 159 7 (a2 + (1 : Int32)) (x1 &&& (((1 : Int32) <<< (x2 &&& 31)) ^^^ (-1 : Int32))) fun M3 =>
  x_wr M3 160 7 (a2 + (1 : Int32)) a5 fun M4 =>
  x_rd (M4 161) 7 a2 fun x5 =>
  x_wr M4 161 7 (a2 + (1 : Int32)) (x5 + a6) fun M6 =>
  k23 (a2 + (1 : Int32)) M6
theorem c_em_measureFrom_b143 (k23 : Int32 → e_Me → Option e_Me) (a2 : Int32) (a5 : Int32) (a6 : Int32) (M : e_Me) (hk23 : ∀ (a2 : Int32) (M : e_Me), x_X G 14 0 0 x_rv 23 [some (.ref 87), none, some (.int a2), none, none, none, none] [] M (k23 a2 M)) : x_X G 14 0 0 x_rv 143 [some (.ref 87), none, some (.int a2), none, none, some (.int a5), some (.int a6)] [] M (em_measureFrom_b143 k23 a2 a5 a6 M) := by
  rw [em_measureFrom_b143]
  refine xr_2 f_14_143 rfl ?_
  refine xr_30r f_14_144 h_87 rfl ?_
  refine xr_1 f_14_147 rfl ?_
  refine xr_0 f_14_148 ?_
  refine xr_8 f_14_149 ?_
  refine xr_2 f_14_150 rfl ?_
  refine xr_30r f_14_151 h_87 rfl ?_
  refine xr_1 f_14_154 rfl ?_
  refine xr_32 f_14_155 h_159 ?_
  intro x1
  refine xr_0 f_14_156 ?_
  refine xr_2 f_14_157 rfl ?_
  refine xr_30r f_14_158 h_87 rfl ?_
  refine xr_1 f_14_161 rfl ?_
  refine xr_ci f_14_162 (Nat.le_of_ble_eq_true rfl) rfl rfl (xr_rv kd_113 h_90) (Nat.le_of_ble_eq_true rfl) mc_113 ms_113 (c_ro_at 90 a2 M) ?_
  intro x2
  refine xr_14 f_14_165 ?_
  refine xr_0 f_14_166 ?_
  refine xr_18 f_14_167 ?_
  refine xr_16 f_14_168 ?_
  refine xr_33 f_14_169 h_159 ?_
  intro M3
  refine xr_2 f_14_170 rfl ?_
  refine xr_30r f_14_171 h_87 rfl ?_
  refine xr_1 f_14_174 rfl ?_
  refine xr_0 f_14_175 ?_
  refine xr_8 f_14_176 ?_
  refine xr_1 f_14_177 rfl ?_
  refine xr_33 f_14_179 h_160 ?_
  intro M4
  refine xr_2 f_14_180 rfl ?_
  refine xr_30r f_14_181 h_87 rfl ?_
  refine xr_1 f_14_184 rfl ?_
  refine xr_0 f_14_185 ?_
  refine xr_8 f_14_186 ?_
  refine xr_2 f_14_187 rfl ?_
  refine xr_30r f_14_188 h_87 rfl ?_
  refine xr_1 f_14_191 rfl ?_
  refine xr_32 f_14_192 h_161 ?_
  intro x5
  refine xr_1 f_14_193 rfl ?_
  refine xr_8 f_14_195 ?_
  refine xr_33 f_14_196 h_161 ?_
  intro M6
  refine xr_7 [some (.ref 87), none, some (.int (a2 + (1 : Int32))), none, none, some (.int a5), some (.int a6)] f_14_197 rfl rfl rfl ?_
  refine xr_27 f_14_200 ?_
  refine xr_wk (L' := [some (.ref 87), none, some (.int (a2 + (1 : Int32))), none, none, none, none]) [true, true, true, true, true, false, false] rfl ?_
  exact hk23 (a2 + (1 : Int32)) M6

def em_measureFrom_l94 (k23 : Int32 → e_Me → Option e_Me) (a2 : Int32) (a4 : Int32) (M : e_Me) : Nat → Int32 → Int32 → Int32 → Option e_Me
  | 0, _, _, _ => none
  | F + 1, a3, a5, a6 =>
    if a3 = a4 then
      em_measureFrom_b143 k23 a2 a5 a6 M
    else
      if (30 : Int32) ≤ a6 then
        em_measureFrom_b143 k23 a2 a5 a6 M
      else
        x_bd (wh_turnBehind a3 M) fun x1 =>
        x_rd (M 159) 7 a2 fun x2 =>
        x_bd (em_leanOfRest x2 x1 M) fun x3 =>
        x_bd (ma_abs x3 M) fun x4 =>
        x_bd (ma_max a5 x4 M) fun x5 =>
        em_measureFrom_l94 k23 a2 a4 M F x1 x5 (a6 + (1 : Int32))
theorem c_em_measureFrom_l94 (k23 : Int32 → e_Me → Option e_Me) (a2 : Int32) (a4 : Int32) (M : e_Me) (hk23 : ∀ (a2 : Int32) (M : e_Me), x_X G 14 0 0 x_rv 23 [some (.ref 87), none, some (.int a2), none, none, none, none] [] M (k23 a2 M)) : ∀ (F : Nat) (a3 : Int32) (a5 : Int32) (a6 : Int32), x_X G 14 0 0 x_rv 94 [some (.ref 87), none, some (.int a2), some (.int a3), some (.int a4), some (.int a5), some (.int a6)] [] M (em_measureFrom_l94 k23 a2 a4 M F a3 a5 a6) := by
  intro F
  induction F with
  | zero => intro a3 a5 a6; exact xr_none
  | succ F ih =>
    intro a3 a5 a6
    rw [em_measureFrom_l94]
    refine xr_1 f_14_94 rfl ?_
    refine xr_1 f_14_95 rfl ?_
    refine xr_29_0 f_14_97 ?_ ?_
    · refine xr_wk (L' := [some (.ref 87), none, some (.int a2), none, none, some (.int a5), some (.int a6)]) [true, true, true, false, false, true, true] rfl ?_
      exact c_em_measureFrom_b143 k23 a2 a5 a6 M hk23
    · refine xr_1 f_14_100 rfl ?_
      refine xr_0 f_14_102 ?_
      refine xr_29_3 f_14_104 ?_ ?_
      · refine xr_wk (L' := [some (.ref 87), none, some (.int a2), none, none, some (.int a5), some (.int a6)]) [true, true, true, false, false, true, true] rfl ?_
        exact c_em_measureFrom_b143 k23 a2 a5 a6 M hk23
      · refine xr_2 f_14_107 rfl ?_
        refine xr_30r f_14_108 h_87 rfl ?_
        refine xr_1 f_14_111 rfl ?_
        refine xr_ci f_14_112 (Nat.le_of_ble_eq_true rfl) rfl rfl (xr_rv kd_136 h_3) (Nat.le_of_ble_eq_true rfl) mc_136 ms_136 (c_wh_turnBehind a3 M) ?_
        intro x1
        refine xr_4 [some (.ref 87), none, some (.int a2), some (.int x1), some (.int a4), some (.int a5), some (.int a6)] f_14_115 rfl rfl ?_
        refine xr_7 [some (.ref 87), none, some (.int a2), some (.int x1), some (.int a4), some (.int a5), some (.int (a6 + (1 : Int32)))] f_14_116 rfl rfl rfl ?_
        refine xr_1 f_14_119 rfl ?_
        refine xr_2 f_14_121 rfl ?_
        refine xr_2 f_14_122 rfl ?_
        refine xr_30r f_14_123 h_87 rfl ?_
        refine xr_1 f_14_126 rfl ?_
        refine xr_32 f_14_127 h_159 ?_
        intro x2
        refine xr_1 f_14_128 rfl ?_
        refine xr_ci f_14_129 (Nat.le_of_ble_eq_true rfl) rfl rfl (xr_rv kd_7 h_87) (Nat.le_of_ble_eq_true rfl) mc_7 ms_7 (c_em_leanOfRest x2 x1 M) ?_
        intro x3
        refine xr_ci f_14_132 (Nat.le_of_ble_eq_true rfl) rfl rfl (xr_rs kd_264) (Nat.le_of_ble_eq_true rfl) mc_264 ms_264 (c_ma_abs x3 M) ?_
        intro x4
        refine xr_ci f_14_135 (Nat.le_of_ble_eq_true rfl) rfl rfl (xr_rs kd_265) (Nat.le_of_ble_eq_true rfl) mc_265 ms_265 (c_ma_max a5 x4 M) ?_
        intro x5
        refine xr_4 [some (.ref 87), none, some (.int a2), some (.int x1), some (.int a4), some (.int x5), some (.int (a6 + (1 : Int32)))] f_14_138 rfl rfl ?_
        refine xr_27 f_14_140 ?_
        exact ih x1 x5 (a6 + (1 : Int32))

def em_measureFrom_b68 (k23 : Int32 → e_Me → Option e_Me) (a2 : Int32) (s0 : Int32) (M : e_Me) : Option e_Me :=
  x_bd (ro_at 90 a2 M) fun x1 =>
  x_bd (em_turnFor x1 M) fun x2 =>
  x_rd (M 160) 7 a2 fun x3 =>
  em_measureFrom_l94 k23 a2 x2 M e_F s0 x3 (0 : Int32)
theorem c_em_measureFrom_b68 (k23 : Int32 → e_Me → Option e_Me) (a2 : Int32) (s0 : Int32) (M : e_Me) (hk23 : ∀ (a2 : Int32) (M : e_Me), x_X G 14 0 0 x_rv 23 [some (.ref 87), none, some (.int a2), none, none, none, none] [] M (k23 a2 M)) : x_X G 14 0 0 x_rv 68 [some (.ref 87), none, some (.int a2), none, none, none, none] [.int s0] M (em_measureFrom_b68 k23 a2 s0 M) := by
  rw [em_measureFrom_b68]
  refine xr_4 [some (.ref 87), none, some (.int a2), some (.int s0), none, none, none] f_14_68 rfl rfl ?_
  refine xr_2 f_14_69 rfl ?_
  refine xr_2 f_14_70 rfl ?_
  refine xr_30r f_14_71 h_87 rfl ?_
  refine xr_1 f_14_74 rfl ?_
  refine xr_ci f_14_75 (Nat.le_of_ble_eq_true rfl) rfl rfl (xr_rv kd_113 h_90) (Nat.le_of_ble_eq_true rfl) mc_113 ms_113 (c_ro_at 90 a2 M) ?_
  intro x1
  refine xr_ci f_14_78 (Nat.le_of_ble_eq_true rfl) rfl rfl (xr_rv kd_15 h_87) (Nat.le_of_ble_eq_true rfl) mc_15 ms_15 (c_em_turnFor x1 M) ?_
  intro x2
  refine xr_4 [some (.ref 87), none, some (.int a2), some (.int s0), some (.int x2), none, none] f_14_81 rfl rfl ?_
  refine xr_2 f_14_83 rfl ?_
  refine xr_30r f_14_84 h_87 rfl ?_
  refine xr_1 f_14_87 rfl ?_
  refine xr_32 f_14_88 h_160 ?_
  intro x3
  refine xr_4 [some (.ref 87), none, some (.int a2), some (.int s0), some (.int x2), some (.int x3), none] f_14_89 rfl rfl ?_
  refine xr_0 f_14_91 ?_
  refine xr_4 [some (.ref 87), none, some (.int a2), some (.int s0), some (.int x2), some (.int x3), some (.int (0 : Int32))] f_14_92 rfl rfl ?_
  exact c_em_measureFrom_l94 k23 a2 x2 M hk23 e_F s0 x3 (0 : Int32)

def em_measureFrom_l23   : Nat → Int32 → e_Me → Option e_Me
  | 0, _, _ => none
  | F + 1, a2, M =>
    x_bd (ro_count 90 M) fun x1 =>
    if x1 ≤ a2 then
      some M
    else
      if (6 : Int32) ≤ a2 then
        some M
      else
        if a2 = 0 then
          x_bd (wh_turnNow M) fun x4 =>
          em_measureFrom_b68 (em_measureFrom_l23  F) a2 x4 M
        else
          x_bd (ro_at 90 (a2 - (1 : Int32)) M) fun x2 =>
          x_bd (em_turnFor x2 M) fun x3 =>
          em_measureFrom_b68 (em_measureFrom_l23  F) a2 x3 M
theorem c_em_measureFrom_l23    : ∀ (F : Nat) (a2 : Int32) (M : e_Me), x_X G 14 0 0 x_rv 23 [some (.ref 87), none, some (.int a2), none, none, none, none] [] M (em_measureFrom_l23  F a2 M) := by
  intro F
  induction F with
  | zero => intro a2 M; exact xr_none
  | succ F ih =>
    intro a2 M
    rw [em_measureFrom_l23]
    refine xr_1 f_14_23 rfl ?_
    refine xr_2 f_14_24 rfl ?_
    refine xr_30r f_14_25 h_87 rfl ?_
    refine xr_ci f_14_28 (Nat.le_of_ble_eq_true rfl) rfl rfl (xr_rv kd_111 h_90) (Nat.le_of_ble_eq_true rfl) mc_111 ms_111 (c_ro_count 90 M) ?_
    intro x1
    refine xr_29_3 f_14_31 ?_ ?_
    · exact xr_50 f_14_203
    · refine xr_1 f_14_34 rfl ?_
      refine xr_0 f_14_35 ?_
      refine xr_29_3 f_14_37 ?_ ?_
      · exact xr_50 f_14_203
      · refine xr_1 f_14_40 rfl ?_
        refine xr_28_1 f_14_41 ?_ ?_
        · refine xr_2 f_14_54 rfl ?_
          refine xr_2 f_14_55 rfl ?_
          refine xr_30r f_14_56 h_87 rfl ?_
          refine xr_1 f_14_59 rfl ?_
          refine xr_0 f_14_60 ?_
          refine xr_9 f_14_61 ?_
          refine xr_ci f_14_62 (Nat.le_of_ble_eq_true rfl) rfl rfl (xr_rv kd_113 h_90) (Nat.le_of_ble_eq_true rfl) mc_113 ms_113 (c_ro_at 90 (a2 - (1 : Int32)) M) ?_
          intro x2
          refine xr_ci f_14_65 (Nat.le_of_ble_eq_true rfl) rfl rfl (xr_rv kd_15 h_87) (Nat.le_of_ble_eq_true rfl) mc_15 ms_15 (c_em_turnFor x2 M) ?_
          intro x3
          exact c_em_measureFrom_b68 (em_measureFrom_l23  F) a2 x3 M ih
        · refine xr_2 f_14_44 rfl ?_
          refine xr_30r f_14_45 h_87 rfl ?_
          refine xr_ci f_14_48 (Nat.le_of_ble_eq_true rfl) rfl rfl (xr_rv kd_134 h_3) (Nat.le_of_ble_eq_true rfl) mc_134 ms_134 (c_wh_turnNow M) ?_
          intro x4
          refine xr_27 f_14_51 ?_
          exact c_em_measureFrom_b68 (em_measureFrom_l23  F) a2 x4 M ih

def em_measureFrom (a1 : Int32) (M : e_Me) : Option e_Me :=
  x_bd (ro_count 88 M) fun x1 =>
  x_wr M 159 7 (0 : Int32) (((1 : Int32) <<< (x1 &&& 31)) - (1 : Int32)) fun M2 =>
  x_bd (ma_max (0 : Int32) a1 M2) fun x3 =>
  em_measureFrom_l23  e_F x3 M2
theorem c_em_measureFrom (a1 : Int32) (M : e_Me) : x_C G 14 [.ref 87, .int a1] M x_rv (em_measureFrom a1 M) := by
  refine x_C_of 7 [some (.ref 87), some (.int a1), none, none, none, none, none] (by decide) ml_14 (Nat.le_of_ble_eq_true rfl) rfl ?_
  rw [em_measureFrom]
  refine xr_2 f_14_0 rfl ?_
  refine xr_30r f_14_1 h_87 rfl ?_
  refine xr_0 f_14_4 ?_
  refine xr_0 f_14_5 ?_
  refine xr_2 f_14_6 rfl ?_
  refine xr_30r f_14_7 h_87 rfl ?_
  refine xr_ci f_14_10 (Nat.le_of_ble_eq_true rfl) rfl rfl (xr_rv kd_111 h_88) (Nat.le_of_ble_eq_true rfl) mc_111 ms_111 (c_ro_count 88 M) ?_
  intro x1
  refine xr_14 f_14_13 ?_
  refine xr_0 f_14_14 ?_
  refine xr_9 f_14_15 ?_
  refine xr_33 f_14_16 h_159 ?_
  intro M2
  refine xr_0 f_14_17 ?_
  refine xr_1 f_14_18 rfl ?_
  refine xr_ci f_14_19 (Nat.le_of_ble_eq_true rfl) rfl rfl (xr_rs kd_265) (Nat.le_of_ble_eq_true rfl) mc_265 ms_265 (c_ma_max (0 : Int32) a1 M2) ?_
  intro x3
  refine xr_4 [some (.ref 87), some (.int a1), some (.int x3), none, none, none, none] f_14_22 rfl rfl ?_
  refine xr_wk (L' := [some (.ref 87), none, some (.int x3), none, none, none, none]) [true, false, true, true, true, true, true] rfl ?_
  exact c_em_measureFrom_l23 e_F x3 M2

def em_wholeCost  (M : e_Me) : Option Int32 :=
  x_bd (ro_count 90 M) fun x1 =>
  if (nI 7) ≤ x1 then
    some (0 : Int32)
  else
    x_rd (M 160) 7 x1 fun x2 =>
    some x2
theorem c_em_wholeCost  (M : e_Me) : x_C G 11 [.ref 87] M (x_ri M) (em_wholeCost  M) := by
  refine x_C_of 2 [some (.ref 87), none] (by decide) ml_11 (Nat.le_of_ble_eq_true rfl) rfl ?_
  rw [em_wholeCost]
  refine xr_2 f_11_0 rfl ?_
  refine xr_30r f_11_1 h_87 rfl ?_
  refine xr_ci f_11_4 (Nat.le_of_ble_eq_true rfl) rfl rfl (xr_rv kd_111 h_90) (Nat.le_of_ble_eq_true rfl) mc_111 ms_111 (c_ro_count 90 M) ?_
  intro x1
  refine xr_4 [some (.ref 87), some (.int x1)] f_11_7 rfl rfl ?_
  refine xr_1 f_11_8 rfl ?_
  refine xr_2 f_11_9 rfl ?_
  refine xr_30r f_11_10 h_87 rfl ?_
  refine xr_38 f_11_13 h_160 (by decide) ?_
  refine xr_29_3 f_11_14 ?_ ?_
  · refine xr_0 f_11_26 ?_
    exact xr_51 f_11_27
  · refine xr_2 f_11_17 rfl ?_
    refine xr_30r f_11_18 h_87 rfl ?_
    refine xr_1 f_11_21 rfl ?_
    refine xr_32 f_11_22 h_160 ?_
    intro x2
    refine xr_27 f_11_23 ?_
    exact xr_51 f_11_27

def em_wholeSteps  (M : e_Me) : Option Int32 :=
  x_bd (ro_count 90 M) fun x1 =>
  if (nI 7) ≤ x1 then
    some (0 : Int32)
  else
    x_rd (M 161) 7 x1 fun x2 =>
    some x2
theorem c_em_wholeSteps  (M : e_Me) : x_C G 12 [.ref 87] M (x_ri M) (em_wholeSteps  M) := by
  refine x_C_of 2 [some (.ref 87), none] (by decide) ml_12 (Nat.le_of_ble_eq_true rfl) rfl ?_
  rw [em_wholeSteps]
  refine xr_2 f_12_0 rfl ?_
  refine xr_30r f_12_1 h_87 rfl ?_
  refine xr_ci f_12_4 (Nat.le_of_ble_eq_true rfl) rfl rfl (xr_rv kd_111 h_90) (Nat.le_of_ble_eq_true rfl) mc_111 ms_111 (c_ro_count 90 M) ?_
  intro x1
  refine xr_4 [some (.ref 87), some (.int x1)] f_12_7 rfl rfl ?_
  refine xr_1 f_12_8 rfl ?_
  refine xr_2 f_12_9 rfl ?_
  refine xr_30r f_12_10 h_87 rfl ?_
  refine xr_38 f_12_13 h_161 (by decide) ?_
  refine xr_29_3 f_12_14 ?_ ?_
  · refine xr_0 f_12_26 ?_
    exact xr_51 f_12_27
  · refine xr_2 f_12_17 rfl ?_
    refine xr_30r f_12_18 h_87 rfl ?_
    refine xr_1 f_12_21 rfl ?_
    refine xr_32 f_12_22 h_161 ?_
    intro x2
    refine xr_27 f_12_23 ?_
    exact xr_51 f_12_27

def em_keepAsBest  (M : e_Me) : Option e_Me :=
  x_bd (ro_copyFrom 92 90 M) fun M1 =>
  x_bd (em_wholeCost M1) fun x2 =>
  x_lt (e_up M1 87 8 x2) fun M3 =>
  x_bd (em_wholeSteps M3) fun x4 =>
  x_lt (e_up M3 87 9 x4) fun M5 =>
  some M5
theorem c_em_keepAsBest  (M : e_Me) : x_C G 10 [.ref 87] M x_rv (em_keepAsBest  M) := by
  refine x_C_of 1 [some (.ref 87)] (by decide) ml_10 (Nat.le_of_ble_eq_true rfl) rfl ?_
  rw [em_keepAsBest]
  refine xr_2 f_10_0 rfl ?_
  refine xr_30r f_10_1 h_87 rfl ?_
  refine xr_2 f_10_4 rfl ?_
  refine xr_30r f_10_5 h_87 rfl ?_
  refine xr_cv f_10_8 (Nat.le_of_ble_eq_true rfl) rfl rfl (xr_rv kd_120 h_92) (Nat.le_of_ble_eq_true rfl) mc_120 ms_120 (c_ro_copyFrom 92 90 M) ?_
  intro M1
  refine xr_2 f_10_11 rfl ?_
  refine xr_2 f_10_12 rfl ?_
  refine xr_ci f_10_13 (Nat.le_of_ble_eq_true rfl) rfl rfl (xr_rv kd_11 h_87) (Nat.le_of_ble_eq_true rfl) mc_11 ms_11 (c_em_wholeCost M1) ?_
  intro x2
  refine xr_31 f_10_16 h_87 rfl ?_
  intro M3
  refine xr_2 f_10_19 rfl ?_
  refine xr_2 f_10_20 rfl ?_
  refine xr_ci f_10_21 (Nat.le_of_ble_eq_true rfl) rfl rfl (xr_rv kd_12 h_87) (Nat.le_of_ble_eq_true rfl) mc_12 ms_12 (c_em_wholeSteps M3) ?_
  intro x4
  refine xr_31 f_10_24 h_87 rfl ?_
  intro M5
  exact xr_50 f_10_27

def em_toNextOrder_l111  (a1 : Int32) : Nat → Int32 → Int32 → e_Me → Option (Int32 × e_Me)
  | 0, _, _, _ => none
  | F + 1, a3, a4, M =>
    if a4 ≤ a3 then
      some (a1, M)
    else
      x_bd (ro_swap 90 a3 a4 M) fun M1 =>
      em_toNextOrder_l111 a1 F (a3 + (1 : Int32)) (a4 + (-1 : Int32)) M1
theorem c_em_toNextOrder_l111  (a1 : Int32)  : ∀ (F : Nat) (a3 : Int32) (a4 : Int32) (M : e_Me), x_X G 13 0 0 x_rim 111 [some (.ref 87), some (.int a1), none, some (.int a3), some (.int a4)] [] M (em_toNextOrder_l111 a1 F a3 a4 M) := by
  intro F
  induction F with
  | zero => intro a3 a4 M; exact xr_none
  | succ F ih =>
    intro a3 a4 M
    rw [em_toNextOrder_l111]
    refine xr_1 f_13_111 rfl ?_
    refine xr_1 f_13_112 rfl ?_
    refine xr_29_3 f_13_114 ?_ ?_
    · refine xr_1 f_13_136 rfl ?_
      exact xr_51m f_13_137
    · refine xr_2 f_13_117 rfl ?_
      refine xr_30r f_13_118 h_87 rfl ?_
      refine xr_1 f_13_121 rfl ?_
      refine xr_1 f_13_122 rfl ?_
      refine xr_cv f_13_124 (Nat.le_of_ble_eq_true rfl) rfl rfl (xr_rv kd_117 h_90) (Nat.le_of_ble_eq_true rfl) mc_117 ms_117 (c_ro_swap 90 a3 a4 M) ?_
      intro M1
      refine xr_7 [some (.ref 87), some (.int a1), none, some (.int (a3 + (1 : Int32))), some (.int a4)] f_13_127 rfl rfl rfl ?_
      refine xr_7 [some (.ref 87), some (.int a1), none, some (.int (a3 + (1 : Int32))), some (.int (a4 + (-1 : Int32)))] f_13_130 rfl rfl rfl ?_
      refine xr_27 f_13_133 ?_
      exact ih (a3 + (1 : Int32)) (a4 + (-1 : Int32)) M1

def em_toNextOrder_b87  (a1 : Int32) (a2 : Int32) (M : e_Me) : Option (Int32 × e_Me) :=
  x_bd (ro_swap 90 a1 a2 M) fun M1 =>
  x_lt (a1 + (1 : Int32)) fun y2 =>
  x_bd (ro_count 90 M1) fun x3 =>
  x_lt (x3 - (1 : Int32)) fun y4 =>
  em_toNextOrder_l111 a1 e_F y2 y4 M1
theorem c_em_toNextOrder_b87  (a1 : Int32) (a2 : Int32) (M : e_Me)  : x_X G 13 0 0 x_rim 87 [some (.ref 87), some (.int a1), some (.int a2), none, none] [] M (em_toNextOrder_b87 a1 a2 M) := by
  rw [em_toNextOrder_b87]
  refine xr_2 f_13_87 rfl ?_
  refine xr_30r f_13_88 h_87 rfl ?_
  refine xr_1 f_13_91 rfl ?_
  refine xr_1 f_13_92 rfl ?_
  refine xr_cv f_13_93 (Nat.le_of_ble_eq_true rfl) rfl rfl (xr_rv kd_117 h_90) (Nat.le_of_ble_eq_true rfl) mc_117 ms_117 (c_ro_swap 90 a1 a2 M) ?_
  intro M1
  refine xr_1 f_13_96 rfl ?_
  refine xr_0 f_13_97 ?_
  refine xr_8 f_13_98 ?_
  refine xr_4l (fun y2 => [some (.ref 87), some (.int a1), some (.int a2), some (.int y2), none]) f_13_99 rfl (fun _ => rfl) ?_
  intro y2
  refine xr_2 f_13_100 rfl ?_
  refine xr_30r f_13_101 h_87 rfl ?_
  refine xr_ci f_13_104 (Nat.le_of_ble_eq_true rfl) rfl rfl (xr_rv kd_111 h_90) (Nat.le_of_ble_eq_true rfl) mc_111 ms_111 (c_ro_count 90 M1) ?_
  intro x3
  refine xr_0 f_13_107 ?_
  refine xr_9 f_13_108 ?_
  refine xr_4l (fun y4 => [some (.ref 87), some (.int a1), some (.int a2), some (.int y2), some (.int y4)]) f_13_109 rfl (fun _ => rfl) ?_
  intro y4
  refine xr_wk (L' := [some (.ref 87), some (.int a1), none, some (.int y2), some (.int y4)]) [true, true, false, true, true] rfl ?_
  exact c_em_toNextOrder_l111 a1 e_F y2 y4 M1

def em_toNextOrder_l57  (a1 : Int32) (M : e_Me) : Nat → Int32 → Option (Int32 × e_Me)
  | 0, _ => none
  | F + 1, a2 =>
    if a2 ≤ a1 then
      em_toNextOrder_b87 a1 a2 M
    else
      x_bd (ro_at 90 a2 M) fun x1 =>
      x_bd (ro_at 90 a1 M) fun x2 =>
      if x2 ≤ x1 then
        em_toNextOrder_b87 a1 a2 M
      else
        em_toNextOrder_l57 a1 M F (a2 + (-1 : Int32))
theorem c_em_toNextOrder_l57  (a1 : Int32) (M : e_Me)  : ∀ (F : Nat) (a2 : Int32), x_X G 13 0 0 x_rim 57 [some (.ref 87), some (.int a1), some (.int a2), none, none] [] M (em_toNextOrder_l57 a1 M F a2) := by
  intro F
  induction F with
  | zero => intro a2; exact xr_none
  | succ F ih =>
    intro a2
    rw [em_toNextOrder_l57]
    refine xr_1 f_13_57 rfl ?_
    refine xr_1 f_13_58 rfl ?_
    refine xr_29_5 f_13_59 ?_ ?_
    · exact c_em_toNextOrder_b87 a1 a2 M
    · refine xr_2 f_13_62 rfl ?_
      refine xr_30r f_13_63 h_87 rfl ?_
      refine xr_1 f_13_66 rfl ?_
      refine xr_ci f_13_67 (Nat.le_of_ble_eq_true rfl) rfl rfl (xr_rv kd_113 h_90) (Nat.le_of_ble_eq_true rfl) mc_113 ms_113 (c_ro_at 90 a2 M) ?_
      intro x1
      refine xr_2 f_13_70 rfl ?_
      refine xr_30r f_13_71 h_87 rfl ?_
      refine xr_1 f_13_74 rfl ?_
      refine xr_ci f_13_75 (Nat.le_of_ble_eq_true rfl) rfl rfl (xr_rv kd_113 h_90) (Nat.le_of_ble_eq_true rfl) mc_113 ms_113 (c_ro_at 90 a1 M) ?_
      intro x2
      refine xr_29_3 f_13_78 ?_ ?_
      · exact c_em_toNextOrder_b87 a1 a2 M
      · refine xr_7 [some (.ref 87), some (.int a1), some (.int (a2 + (-1 : Int32))), none, none] f_13_81 rfl rfl rfl ?_
        refine xr_27 f_13_84 ?_
        exact ih (a2 + (-1 : Int32))

def em_toNextOrder_b41  (a1 : Int32) (M : e_Me) : Option (Int32 × e_Me) :=
  if 0 ≤ a1 then
    x_bd (ro_count 90 M) fun x1 =>
    x_lt (x1 - (1 : Int32)) fun y2 =>
    em_toNextOrder_l57 a1 M e_F y2
  else
    some ((-1 : Int32), M)
theorem c_em_toNextOrder_b41  (a1 : Int32) (M : e_Me)  : x_X G 13 0 0 x_rim 41 [some (.ref 87), some (.int a1), none, none, none] [] M (em_toNextOrder_b41 a1 M) := by
  rw [em_toNextOrder_b41]
  refine xr_1 f_13_41 rfl ?_
  refine xr_28_3 f_13_42 ?_ ?_
  · refine xr_2 f_13_47 rfl ?_
    refine xr_30r f_13_48 h_87 rfl ?_
    refine xr_ci f_13_51 (Nat.le_of_ble_eq_true rfl) rfl rfl (xr_rv kd_111 h_90) (Nat.le_of_ble_eq_true rfl) mc_111 ms_111 (c_ro_count 90 M) ?_
    intro x1
    refine xr_0 f_13_54 ?_
    refine xr_9 f_13_55 ?_
    refine xr_4l (fun y2 => [some (.ref 87), some (.int a1), some (.int y2), none, none]) f_13_56 rfl (fun _ => rfl) ?_
    intro y2
    exact c_em_toNextOrder_l57 a1 M e_F y2
  · refine xr_0 f_13_45 ?_
    exact xr_51m f_13_46

def em_toNextOrder_l10  (M : e_Me) : Nat → Int32 → Option (Int32 × e_Me)
  | 0, _ => none
  | F + 1, a1 =>
    if a1 < 0 then
      em_toNextOrder_b41 a1 M
    else
      x_bd (ro_at 90 a1 M) fun x1 =>
      x_bd (ro_at 90 (a1 + (1 : Int32)) M) fun x2 =>
      if x1 ≤ x2 then
        em_toNextOrder_b41 a1 M
      else
        em_toNextOrder_l10 M F (a1 + (-1 : Int32))
theorem c_em_toNextOrder_l10  (M : e_Me)  : ∀ (F : Nat) (a1 : Int32), x_X G 13 0 0 x_rim 10 [some (.ref 87), some (.int a1), none, none, none] [] M (em_toNextOrder_l10 M F a1) := by
  intro F
  induction F with
  | zero => intro a1; exact xr_none
  | succ F ih =>
    intro a1
    rw [em_toNextOrder_l10]
    refine xr_1 f_13_10 rfl ?_
    refine xr_28_2 f_13_11 ?_ ?_
    · exact c_em_toNextOrder_b41 a1 M
    · refine xr_2 f_13_14 rfl ?_
      refine xr_30r f_13_15 h_87 rfl ?_
      refine xr_1 f_13_18 rfl ?_
      refine xr_ci f_13_19 (Nat.le_of_ble_eq_true rfl) rfl rfl (xr_rv kd_113 h_90) (Nat.le_of_ble_eq_true rfl) mc_113 ms_113 (c_ro_at 90 a1 M) ?_
      intro x1
      refine xr_2 f_13_22 rfl ?_
      refine xr_30r f_13_23 h_87 rfl ?_
      refine xr_1 f_13_26 rfl ?_
      refine xr_0 f_13_27 ?_
      refine xr_8 f_13_28 ?_
      refine xr_ci f_13_29 (Nat.le_of_ble_eq_true rfl) rfl rfl (xr_rv kd_113 h_90) (Nat.le_of_ble_eq_true rfl) mc_113 ms_113 (c_ro_at 90 (a1 + (1 : Int32)) M) ?_
      intro x2
      refine xr_29_5 f_13_32 ?_ ?_
      · exact c_em_toNextOrder_b41 a1 M
      · refine xr_7 [some (.ref 87), some (.int (a1 + (-1 : Int32))), none, none, none] f_13_35 rfl rfl rfl ?_
        refine xr_27 f_13_38 ?_
        exact ih (a1 + (-1 : Int32))

def em_toNextOrder  (M : e_Me) : Option (Int32 × e_Me) :=
  x_bd (ro_count 90 M) fun x1 =>
  x_lt (x1 - (2 : Int32)) fun y2 =>
  em_toNextOrder_l10 M e_F y2
theorem c_em_toNextOrder  (M : e_Me) : x_C G 13 [.ref 87] M x_rim (em_toNextOrder  M) := by
  refine x_C_of 5 [some (.ref 87), none, none, none, none] (by decide) ml_13 (Nat.le_of_ble_eq_true rfl) rfl ?_
  rw [em_toNextOrder]
  refine xr_2 f_13_0 rfl ?_
  refine xr_30r f_13_1 h_87 rfl ?_
  refine xr_ci f_13_4 (Nat.le_of_ble_eq_true rfl) rfl rfl (xr_rv kd_111 h_90) (Nat.le_of_ble_eq_true rfl) mc_111 ms_111 (c_ro_count 90 M) ?_
  intro x1
  refine xr_0 f_13_7 ?_
  refine xr_9 f_13_8 ?_
  refine xr_4l (fun y2 => [some (.ref 87), some (.int y2), none, none, none]) f_13_9 rfl (fun _ => rfl) ?_
  intro y2
  exact c_em_toNextOrder_l10 M e_F y2

def em_isBetter  (M : e_Me) : Option Int32 :=
  x_bd (em_wholeCost M) fun x1 =>
  if x1 < (M 87 8) then
    some (1 : Int32)
  else
    x_bd (em_wholeCost M) fun x2 =>
    if x2 = (M 87 8) then
      x_bd (em_wholeSteps M) fun x3 =>
      if (M 87 9) ≤ x3 then
        some (0 : Int32)
      else
        some (1 : Int32)
    else
      some (0 : Int32)
theorem c_em_isBetter  (M : e_Me) : x_C G 9 [.ref 87] M (x_ri M) (em_isBetter  M) := by
  refine x_C_of 1 [some (.ref 87)] (by decide) ml_9 (Nat.le_of_ble_eq_true rfl) rfl ?_
  rw [em_isBetter]
  refine xr_2 f_9_0 rfl ?_
  refine xr_ci f_9_1 (Nat.le_of_ble_eq_true rfl) rfl rfl (xr_rv kd_11 h_87) (Nat.le_of_ble_eq_true rfl) mc_11 ms_11 (c_em_wholeCost M) ?_
  intro x1
  refine xr_2 f_9_4 rfl ?_
  refine xr_30i f_9_5 h_87 rfl ?_
  refine xr_29_2 f_9_8 ?_ ?_
  · refine xr_0 f_9_33 ?_
    refine xr_27 f_9_34 ?_
    exact xr_52c f_9_38 (by decide)
  · refine xr_2 f_9_11 rfl ?_
    refine xr_ci f_9_12 (Nat.le_of_ble_eq_true rfl) rfl rfl (xr_rv kd_11 h_87) (Nat.le_of_ble_eq_true rfl) mc_11 ms_11 (c_em_wholeCost M) ?_
    intro x2
    refine xr_2 f_9_15 rfl ?_
    refine xr_30i f_9_16 h_87 rfl ?_
    refine xr_29_1 f_9_19 ?_ ?_
    · refine xr_0 f_9_37 ?_
      exact xr_52c f_9_38 (by decide)
    · refine xr_2 f_9_22 rfl ?_
      refine xr_ci f_9_23 (Nat.le_of_ble_eq_true rfl) rfl rfl (xr_rv kd_12 h_87) (Nat.le_of_ble_eq_true rfl) mc_12 ms_12 (c_em_wholeSteps M) ?_
      intro x3
      refine xr_2 f_9_26 rfl ?_
      refine xr_30i f_9_27 h_87 rfl ?_
      refine xr_29_3 f_9_30 ?_ ?_
      · refine xr_0 f_9_37 ?_
        exact xr_52c f_9_38 (by decide)
      · refine xr_0 f_9_33 ?_
        refine xr_27 f_9_34 ?_
        exact xr_52c f_9_38 (by decide)

def em_findBest_b72 (k44 : Int32 → Int32 → e_Me → Option (Int32 × e_Me)) (a2 : Int32) (M : e_Me) : Option (Int32 × e_Me) :=
  x_bi (em_toNextOrder M) fun x1 M2 =>
  k44 x1 (a2 + (1 : Int32)) M2
theorem c_em_findBest_b72 (k44 : Int32 → Int32 → e_Me → Option (Int32 × e_Me)) (a2 : Int32) (M : e_Me) (hk44 : ∀ (a1 : Int32) (a2 : Int32) (M : e_Me), x_X G 8 0 0 x_rim 44 [some (.ref 87), some (.int a1), some (.int a2)] [] M (k44 a1 a2 M)) : x_X G 8 0 0 x_rim 72 [some (.ref 87), none, some (.int a2)] [] M (em_findBest_b72 k44 a2 M) := by
  rw [em_findBest_b72]
  refine xr_2 f_8_72 rfl ?_
  refine xr_cim f_8_73 (Nat.le_of_ble_eq_true rfl) rfl rfl (xr_rv kd_13 h_87) (Nat.le_of_ble_eq_true rfl) mc_13 ms_13 (c_em_toNextOrder M) ?_
  intro x1 M2
  refine xr_4 [some (.ref 87), some (.int x1), some (.int a2)] f_8_76 rfl rfl ?_
  refine xr_7 [some (.ref 87), some (.int x1), some (.int (a2 + (1 : Int32)))] f_8_77 rfl rfl rfl ?_
  refine xr_27 f_8_80 ?_
  exact hk44 x1 (a2 + (1 : Int32)) M2

def em_findBest_l44   : Nat → Int32 → Int32 → e_Me → Option (Int32 × e_Me)
  | 0, _, _, _ => none
  | F + 1, a1, a2, M =>
    if (720 : Int32) ≤ a2 then
      some ((1 : Int32), M)
    else
      if a1 = (-1 : Int32) then
        some ((1 : Int32), M)
      else
        x_bd (em_measureFrom a1 M) fun M1 =>
        x_bd (em_isBetter M1) fun x2 =>
        if x2 = 0 then
          em_findBest_b72 (em_findBest_l44  F) a2 M1
        else
          x_bd (em_keepAsBest M1) fun M3 =>
          em_findBest_b72 (em_findBest_l44  F) a2 M3
theorem c_em_findBest_l44    : ∀ (F : Nat) (a1 : Int32) (a2 : Int32) (M : e_Me), x_X G 8 0 0 x_rim 44 [some (.ref 87), some (.int a1), some (.int a2)] [] M (em_findBest_l44  F a1 a2 M) := by
  intro F
  induction F with
  | zero => intro a1 a2 M; exact xr_none
  | succ F ih =>
    intro a1 a2 M
    rw [em_findBest_l44]
    refine xr_1 f_8_44 rfl ?_
    refine xr_0 f_8_45 ?_
    refine xr_29_3 f_8_48 ?_ ?_
    · refine xr_0 f_8_83 ?_
      exact xr_52mc f_8_84 (by decide)
    · refine xr_1 f_8_51 rfl ?_
      refine xr_0 f_8_52 ?_
      refine xr_29_0 f_8_53 ?_ ?_
      · refine xr_0 f_8_83 ?_
        exact xr_52mc f_8_84 (by decide)
      · refine xr_2 f_8_56 rfl ?_
        refine xr_1 f_8_57 rfl ?_
        refine xr_cv f_8_58 (Nat.le_of_ble_eq_true rfl) rfl rfl (xr_rv kd_14 h_87) (Nat.le_of_ble_eq_true rfl) mc_14 ms_14 (c_em_measureFrom a1 M) ?_
        intro M1
        refine xr_2 f_8_61 rfl ?_
        refine xr_ci f_8_62 (Nat.le_of_ble_eq_true rfl) rfl rfl (xr_rv kd_9 h_87) (Nat.le_of_ble_eq_true rfl) mc_9 ms_9 (c_em_isBetter M1) ?_
        intro x2
        refine xr_28_0 f_8_65 ?_ ?_
        · refine xr_wk (L' := [some (.ref 87), none, some (.int a2)]) [true, false, true] rfl ?_
          exact c_em_findBest_b72 (em_findBest_l44  F) a2 M1 ih
        · refine xr_2 f_8_68 rfl ?_
          refine xr_cv f_8_69 (Nat.le_of_ble_eq_true rfl) rfl rfl (xr_rv kd_10 h_87) (Nat.le_of_ble_eq_true rfl) mc_10 ms_10 (c_em_keepAsBest M1) ?_
          intro M3
          refine xr_wk (L' := [some (.ref 87), none, some (.int a2)]) [true, false, true] rfl ?_
          exact c_em_findBest_b72 (em_findBest_l44  F) a2 M3 ih

def em_findBest  (M : e_Me) : Option (Int32 × e_Me) :=
  if (30 : Int32) ≤ (M 87 10) then
    some ((0 : Int32), M)
  else
    x_bi (em_gather M) fun x1 M2 =>
    if x1 = 0 then
      some ((0 : Int32), M2)
    else
      x_lt (e_up M2 87 10 ((M2 87 10) + (1 : Int32))) fun M3 =>
      x_bd (em_measureFrom (0 : Int32) M3) fun M4 =>
      x_bd (em_keepAsBest M4) fun M5 =>
      x_bi (em_toNextOrder M5) fun x6 M7 =>
      em_findBest_l44  e_F x6 (0 : Int32) M7
theorem c_em_findBest  (M : e_Me) : x_C G 8 [.ref 87] M x_rim (em_findBest  M) := by
  refine x_C_of 3 [some (.ref 87), none, none] (by decide) ml_8 (Nat.le_of_ble_eq_true rfl) rfl ?_
  rw [em_findBest]
  refine xr_2 f_8_0 rfl ?_
  refine xr_30i f_8_1 h_87 rfl ?_
  refine xr_0 f_8_4 ?_
  refine xr_29_3 f_8_6 ?_ ?_
  · refine xr_0 f_8_16 ?_
    exact xr_52mc f_8_17 (by decide)
  · refine xr_2 f_8_9 rfl ?_
    refine xr_cim f_8_10 (Nat.le_of_ble_eq_true rfl) rfl rfl (xr_rv kd_5 h_87) (Nat.le_of_ble_eq_true rfl) mc_5 ms_5 (c_em_gather M) ?_
    intro x1 M2
    refine xr_28_1 f_8_13 ?_ ?_
    · refine xr_2 f_8_18 rfl ?_
      refine xr_24r f_8_19 ?_
      refine xr_30i f_8_20 h_87 rfl ?_
      refine xr_0 f_8_23 ?_
      refine xr_8 f_8_24 ?_
      refine xr_31 f_8_25 h_87 rfl ?_
      intro M3
      refine xr_2 f_8_28 rfl ?_
      refine xr_0 f_8_29 ?_
      refine xr_cv f_8_30 (Nat.le_of_ble_eq_true rfl) rfl rfl (xr_rv kd_14 h_87) (Nat.le_of_ble_eq_true rfl) mc_14 ms_14 (c_em_measureFrom (0 : Int32) M3) ?_
      intro M4
      refine xr_2 f_8_33 rfl ?_
      refine xr_cv f_8_34 (Nat.le_of_ble_eq_true rfl) rfl rfl (xr_rv kd_10 h_87) (Nat.le_of_ble_eq_true rfl) mc_10 ms_10 (c_em_keepAsBest M4) ?_
      intro M5
      refine xr_2 f_8_37 rfl ?_
      refine xr_cim f_8_38 (Nat.le_of_ble_eq_true rfl) rfl rfl (xr_rv kd_13 h_87) (Nat.le_of_ble_eq_true rfl) mc_13 ms_13 (c_em_toNextOrder M5) ?_
      intro x6 M7
      refine xr_4 [some (.ref 87), some (.int x6), none] f_8_41 rfl rfl ?_
      refine xr_0 f_8_42 ?_
      refine xr_4 [some (.ref 87), some (.int x6), some (.int (0 : Int32))] f_8_43 rfl rfl ?_
      exact c_em_findBest_l44 e_F x6 (0 : Int32) M7
    · refine xr_0 f_8_16 ?_
      exact xr_52mc f_8_17 (by decide)

def em_takeFigures_b49 (k25 : Int32 → Int32 → Int32 → e_Me → Option (Int32 × e_Me)) (a2 : Int32) (a3 : Int32) (a4 : Int32) (s0 : Int32) (M : e_Me) : Option (Int32 × e_Me) :=
  if s0 = (-1 : Int32) then
    some ((0 : Int32), M)
  else
    x_bd (ro_set 90 a4 s0 M) fun M1 =>
    x_lt (a2 &&& (((1 : Int32) <<< (s0 &&& 31)) ^^^ (-1 : Int32))) fun y2 =>
    x_lt (a3 / (30 : Int32)) fun y3 =>
    k25 y2 y3 (a4 + (-1 : Int32)) M1
theorem c_em_takeFigures_b49 (k25 : Int32 → Int32 → Int32 → e_Me → Option (Int32 × e_Me)) (a2 : Int32) (a3 : Int32) (a4 : Int32) (s0 : Int32) (M : e_Me) (hk25 : ∀ (a2 : Int32) (a3 : Int32) (a4 : Int32) (M : e_Me), x_X G 16 0 0 x_rim 25 [some (.ref 87), none, some (.int a2), some (.int a3), some (.int a4), none] [] M (k25 a2 a3 a4 M)) : x_X G 16 0 0 x_rim 49 [some (.ref 87), none, some (.int a2), some (.int a3), some (.int a4), none] [.int s0] M (em_takeFigures_b49 k25 a2 a3 a4 s0 M) := by
  rw [em_takeFigures_b49]
  refine xr_4 [some (.ref 87), none, some (.int a2), some (.int a3), some (.int a4), some (.int s0)] f_16_49 rfl rfl ?_
  refine xr_1 f_16_51 rfl ?_
  refine xr_0 f_16_53 ?_
  refine xr_29_1 f_16_54 ?_ ?_
  · refine xr_2 f_16_59 rfl ?_
    refine xr_30r f_16_60 h_87 rfl ?_
    refine xr_1 f_16_63 rfl ?_
    refine xr_1 f_16_65 rfl ?_
    refine xr_cv f_16_67 (Nat.le_of_ble_eq_true rfl) rfl rfl (xr_rv kd_116 h_90) (Nat.le_of_ble_eq_true rfl) mc_116 ms_116 (c_ro_set 90 a4 s0 M) ?_
    intro M1
    refine xr_1 f_16_70 rfl ?_
    refine xr_0 f_16_71 ?_
    refine xr_1 f_16_72 rfl ?_
    refine xr_14 f_16_74 ?_
    refine xr_0 f_16_75 ?_
    refine xr_18 f_16_76 ?_
    refine xr_16 f_16_77 ?_
    refine xr_4l (fun y2 => [some (.ref 87), none, some (.int y2), some (.int a3), some (.int a4), some (.int s0)]) f_16_78 rfl (fun _ => rfl) ?_
    intro y2
    refine xr_1 f_16_79 rfl ?_
    refine xr_0 f_16_80 ?_
    refine xr_12c f_16_82 (by decide) ?_
    refine xr_4l (fun y3 => [some (.ref 87), none, some (.int y2), some (.int y3), some (.int a4), some (.int s0)]) f_16_83 rfl (fun _ => rfl) ?_
    intro y3
    refine xr_7 [some (.ref 87), none, some (.int y2), some (.int y3), some (.int (a4 + (-1 : Int32))), some (.int s0)] f_16_84 rfl rfl rfl ?_
    refine xr_27 f_16_87 ?_
    refine xr_wk (L' := [some (.ref 87), none, some (.int y2), some (.int y3), some (.int (a4 + (-1 : Int32))), none]) [true, true, true, true, true, false] rfl ?_
    exact hk25 y2 y3 (a4 + (-1 : Int32)) M1
  · refine xr_0 f_16_57 ?_
    exact xr_52mc f_16_58 (by decide)

def em_takeFigures_b90  (a2 : Int32) (a3 : Int32) (M : e_Me) : Option (Int32 × e_Me) :=
  if a3 = 0 then
    if a2 = 0 then
      some ((1 : Int32), M)
    else
      some ((0 : Int32), M)
  else
    some ((0 : Int32), M)
theorem c_em_takeFigures_b90  (a2 : Int32) (a3 : Int32) (M : e_Me)  : x_X G 16 0 0 x_rim 90 [none, none, some (.int a2), some (.int a3), none, none] [] M (em_takeFigures_b90 a2 a3 M) := by
  rw [em_takeFigures_b90]
  refine xr_1 f_16_90 rfl ?_
  refine xr_28_1 f_16_91 ?_ ?_
  · refine xr_0 f_16_102 ?_
    exact xr_52mc f_16_103 (by decide)
  · refine xr_1 f_16_94 rfl ?_
    refine xr_28_1 f_16_95 ?_ ?_
    · refine xr_0 f_16_102 ?_
      exact xr_52mc f_16_103 (by decide)
    · refine xr_0 f_16_98 ?_
      refine xr_27 f_16_99 ?_
      exact xr_52mc f_16_103 (by decide)

def em_takeFigures_l25   : Nat → Int32 → Int32 → Int32 → e_Me → Option (Int32 × e_Me)
  | 0, _, _, _, _ => none
  | F + 1, a2, a3, a4, M =>
    if a4 < 0 then
      em_takeFigures_b90 a2 a3 M
    else
      if 0 ≤ a3 then
        x_bd (ro_placeOf 88 (x_rem a3 (30 : Int32)) M) fun x1 =>
        em_takeFigures_b49 (em_takeFigures_l25  F) a2 a3 a4 x1 M
      else
        em_takeFigures_b49 (em_takeFigures_l25  F) a2 a3 a4 (-1 : Int32) M
theorem c_em_takeFigures_l25    : ∀ (F : Nat) (a2 : Int32) (a3 : Int32) (a4 : Int32) (M : e_Me), x_X G 16 0 0 x_rim 25 [some (.ref 87), none, some (.int a2), some (.int a3), some (.int a4), none] [] M (em_takeFigures_l25  F a2 a3 a4 M) := by
  intro F
  induction F with
  | zero => intro a2 a3 a4 M; exact xr_none
  | succ F ih =>
    intro a2 a3 a4 M
    rw [em_takeFigures_l25]
    refine xr_1 f_16_25 rfl ?_
    refine xr_28_2 f_16_27 ?_ ?_
    · refine xr_wk (L' := [none, none, some (.int a2), some (.int a3), none, none]) [false, true, true, true, false, true] rfl ?_
      exact c_em_takeFigures_b90 a2 a3 M
    · refine xr_1 f_16_30 rfl ?_
      refine xr_28_3 f_16_31 ?_ ?_
      · refine xr_2 f_16_38 rfl ?_
        refine xr_30r f_16_39 h_87 rfl ?_
        refine xr_1 f_16_42 rfl ?_
        refine xr_0 f_16_43 ?_
        refine xr_13c f_16_45 (by decide) ?_
        refine xr_ci f_16_46 (Nat.le_of_ble_eq_true rfl) rfl rfl (xr_rv kd_114 h_88) (Nat.le_of_ble_eq_true rfl) mc_114 ms_114 (c_ro_placeOf 88 (x_rem a3 (30 : Int32)) M) ?_
        intro x1
        exact c_em_takeFigures_b49 (em_takeFigures_l25  F) a2 a3 a4 x1 M ih
      · refine xr_0 f_16_34 ?_
        refine xr_27 f_16_35 ?_
        exact c_em_takeFigures_b49 (em_takeFigures_l25  F) a2 a3 a4 (-1 : Int32) M ih

def em_takeFigures (a1 : Int32) (M : e_Me) : Option (Int32 × e_Me) :=
  x_bd (ro_count 88 M) fun x1 =>
  x_lt (((1 : Int32) <<< (x1 &&& 31)) - (1 : Int32)) fun y2 =>
  x_bd (ro_count 90 M) fun x3 =>
  x_lt (x3 - (1 : Int32)) fun y4 =>
  em_takeFigures_l25  e_F y2 a1 y4 M
theorem c_em_takeFigures (a1 : Int32) (M : e_Me) : x_C G 16 [.ref 87, .int a1] M x_rim (em_takeFigures a1 M) := by
  refine x_C_of 6 [some (.ref 87), some (.int a1), none, none, none, none] (by decide) ml_16 (Nat.le_of_ble_eq_true rfl) rfl ?_
  rw [em_takeFigures]
  refine xr_0 f_16_0 ?_
  refine xr_2 f_16_1 rfl ?_
  refine xr_30r f_16_2 h_87 rfl ?_
  refine xr_ci f_16_5 (Nat.le_of_ble_eq_true rfl) rfl rfl (xr_rv kd_111 h_88) (Nat.le_of_ble_eq_true rfl) mc_111 ms_111 (c_ro_count 88 M) ?_
  intro x1
  refine xr_14 f_16_8 ?_
  refine xr_0 f_16_9 ?_
  refine xr_9 f_16_10 ?_
  refine xr_4l (fun y2 => [some (.ref 87), some (.int a1), some (.int y2), none, none, none]) f_16_11 rfl (fun _ => rfl) ?_
  intro y2
  refine xr_1 f_16_12 rfl ?_
  refine xr_4 [some (.ref 87), some (.int a1), some (.int y2), some (.int a1), none, none] f_16_13 rfl rfl ?_
  refine xr_2 f_16_14 rfl ?_
  refine xr_30r f_16_15 h_87 rfl ?_
  refine xr_ci f_16_18 (Nat.le_of_ble_eq_true rfl) rfl rfl (xr_rv kd_111 h_90) (Nat.le_of_ble_eq_true rfl) mc_111 ms_111 (c_ro_count 90 M) ?_
  intro x3
  refine xr_0 f_16_21 ?_
  refine xr_9 f_16_22 ?_
  refine xr_4l (fun y4 => [some (.ref 87), some (.int a1), some (.int y2), some (.int a1), some (.int y4), none]) f_16_23 rfl (fun _ => rfl) ?_
  intro y4
  refine xr_wk (L' := [some (.ref 87), none, some (.int y2), some (.int a1), some (.int y4), none]) [true, false, true, true, true, true] rfl ?_
  exact c_em_takeFigures_l25 e_F y2 a1 y4 M

def em_costAsItStands  (M : e_Me) : Option (Int32 × e_Me) :=
  x_bd (em_measureFrom (0 : Int32) M) fun M1 =>
  x_bd (em_wholeCost M1) fun x2 =>
  some (x2, M1)
theorem c_em_costAsItStands  (M : e_Me) : x_C G 17 [.ref 87] M x_rim (em_costAsItStands  M) := by
  refine x_C_of 1 [some (.ref 87)] (by decide) ml_17 (Nat.le_of_ble_eq_true rfl) rfl ?_
  rw [em_costAsItStands]
  refine xr_2 f_17_0 rfl ?_
  refine xr_0 f_17_1 ?_
  refine xr_cv f_17_2 (Nat.le_of_ble_eq_true rfl) rfl rfl (xr_rv kd_14 h_87) (Nat.le_of_ble_eq_true rfl) mc_14 ms_14 (c_em_measureFrom (0 : Int32) M) ?_
  intro M1
  refine xr_2 f_17_5 rfl ?_
  refine xr_ci f_17_6 (Nat.le_of_ble_eq_true rfl) rfl rfl (xr_rv kd_11 h_87) (Nat.le_of_ble_eq_true rfl) mc_11 ms_11 (c_em_wholeCost M1) ?_
  intro x2
  exact xr_51m f_17_9

def no_allows_b24  (a1 : Int32) (M : e_Me) : Option Int32 :=
  if a1 < 0 then
    some (0 : Int32)
  else
    if (36 : Int32) < a1 then
      some (0 : Int32)
    else
      some (1 : Int32)
theorem c_no_allows_b24  (a1 : Int32) (M : e_Me)  : x_X G 19 0 0 (x_ri M) 24 [none, some (.int a1)] [] M (no_allows_b24 a1 M) := by
  rw [no_allows_b24]
  refine xr_1 f_19_24 rfl ?_
  refine xr_28_2 f_19_25 ?_ ?_
  · refine xr_0 f_19_38 ?_
    exact xr_52c f_19_39 (by decide)
  · refine xr_1 f_19_28 rfl ?_
    refine xr_0 f_19_29 ?_
    refine xr_29_4 f_19_31 ?_ ?_
    · refine xr_0 f_19_38 ?_
      exact xr_52c f_19_39 (by decide)
    · refine xr_0 f_19_34 ?_
      refine xr_27 f_19_35 ?_
      exact xr_52c f_19_39 (by decide)

def no_allows (a0 : Int32) (a1 : Int32) (M : e_Me) : Option Int32 :=
  if a0 = (2 : Int32) then
    if a1 = 0 then
      some (1 : Int32)
    else
      some (0 : Int32)
  else
    if a0 = 0 then
      no_allows_b24 a1 M
    else
      if a0 = (1 : Int32) then
        no_allows_b24 a1 M
      else
        some (0 : Int32)
theorem c_no_allows (a0 : Int32) (a1 : Int32) (M : e_Me) : x_C G 19 [.int a0, .int a1] M (x_ri M) (no_allows a0 a1 M) := by
  refine x_C_of 2 [some (.int a0), some (.int a1)] (by decide) ml_19 (Nat.le_of_ble_eq_true rfl) rfl ?_
  rw [no_allows]
  refine xr_1 f_19_0 rfl ?_
  refine xr_0 f_19_1 ?_
  refine xr_29_1 f_19_2 ?_ ?_
  · refine xr_1 f_19_15 rfl ?_
    refine xr_28_0 f_19_16 ?_ ?_
    · refine xr_wk (L' := [none, some (.int a1)]) [false, true] rfl ?_
      exact c_no_allows_b24 a1 M
    · refine xr_1 f_19_19 rfl ?_
      refine xr_0 f_19_20 ?_
      refine xr_29_1 f_19_21 ?_ ?_
      · refine xr_0 f_19_38 ?_
        exact xr_52c f_19_39 (by decide)
      · refine xr_wk (L' := [none, some (.int a1)]) [false, true] rfl ?_
        exact c_no_allows_b24 a1 M
  · refine xr_1 f_19_5 rfl ?_
    refine xr_28_1 f_19_6 ?_ ?_
    · refine xr_0 f_19_13 ?_
      exact xr_52c f_19_14 (by decide)
    · refine xr_0 f_19_9 ?_
      refine xr_27 f_19_10 ?_
      exact xr_52c f_19_14 (by decide)

def no_startAnew  (M : e_Me) : Option (Int32 × e_Me) :=
  x_bd (ro_count 167 M) fun x1 =>
  x_bd (ro_clear 167 M) fun M2 =>
  x_bd (ro_clear 169 M2) fun M3 =>
  some (x1, M3)
theorem c_no_startAnew  (M : e_Me) : x_C G 20 [.ref 166] M x_rim (no_startAnew  M) := by
  refine x_C_of 2 [some (.ref 166), none] (by decide) ml_20 (Nat.le_of_ble_eq_true rfl) rfl ?_
  rw [no_startAnew]
  refine xr_2 f_20_0 rfl ?_
  refine xr_30r f_20_1 h_166 rfl ?_
  refine xr_ci f_20_4 (Nat.le_of_ble_eq_true rfl) rfl rfl (xr_rv kd_111 h_167) (Nat.le_of_ble_eq_true rfl) mc_111 ms_111 (c_ro_count 167 M) ?_
  intro x1
  refine xr_4 [some (.ref 166), some (.int x1)] f_20_7 rfl rfl ?_
  refine xr_2 f_20_8 rfl ?_
  refine xr_30r f_20_9 h_166 rfl ?_
  refine xr_cv f_20_12 (Nat.le_of_ble_eq_true rfl) rfl rfl (xr_rv kd_119 h_167) (Nat.le_of_ble_eq_true rfl) mc_119 ms_119 (c_ro_clear 167 M) ?_
  intro M2
  refine xr_2 f_20_15 rfl ?_
  refine xr_30r f_20_16 h_166 rfl ?_
  refine xr_cv f_20_19 (Nat.le_of_ble_eq_true rfl) rfl rfl (xr_rv kd_119 h_169) (Nat.le_of_ble_eq_true rfl) mc_119 ms_119 (c_ro_clear 169 M2) ?_
  intro M3
  refine xr_1 f_20_22 rfl ?_
  exact xr_51m f_20_23

def no_write (a1 : Int32) (a2 : Int32) (M : e_Me) : Option (Int32 × e_Me) :=
  x_bd (ro_hasRoom 167 M) fun x1 =>
  if x1 = 0 then
    some ((-104 : Int32), M)
  else
    x_bd (ro_append 167 a1 M) fun M2 =>
    x_bd (ro_append 169 a2 M2) fun M3 =>
    x_bd (ro_count 167 M3) fun x4 =>
    some (x4, M3)
theorem c_no_write (a1 : Int32) (a2 : Int32) (M : e_Me) : x_C G 21 [.ref 166, .int a1, .int a2] M x_rim (no_write a1 a2 M) := by
  refine x_C_of 3 [some (.ref 166), some (.int a1), some (.int a2)] (by decide) ml_21 (Nat.le_of_ble_eq_true rfl) rfl ?_
  rw [no_write]
  refine xr_2 f_21_0 rfl ?_
  refine xr_30r f_21_1 h_166 rfl ?_
  refine xr_ci f_21_4 (Nat.le_of_ble_eq_true rfl) rfl rfl (xr_rv kd_112 h_167) (Nat.le_of_ble_eq_true rfl) mc_112 ms_112 (c_ro_hasRoom 167 M) ?_
  intro x1
  refine xr_28_1 f_21_7 ?_ ?_
  · refine xr_2 f_21_13 rfl ?_
    refine xr_30r f_21_14 h_166 rfl ?_
    refine xr_1 f_21_17 rfl ?_
    refine xr_cv f_21_18 (Nat.le_of_ble_eq_true rfl) rfl rfl (xr_rv kd_115 h_167) (Nat.le_of_ble_eq_true rfl) mc_115 ms_115 (c_ro_append 167 a1 M) ?_
    intro M2
    refine xr_2 f_21_21 rfl ?_
    refine xr_30r f_21_22 h_166 rfl ?_
    refine xr_1 f_21_25 rfl ?_
    refine xr_cv f_21_26 (Nat.le_of_ble_eq_true rfl) rfl rfl (xr_rv kd_115 h_169) (Nat.le_of_ble_eq_true rfl) mc_115 ms_115 (c_ro_append 169 a2 M2) ?_
    intro M3
    refine xr_2 f_21_29 rfl ?_
    refine xr_30r f_21_30 h_166 rfl ?_
    refine xr_ci f_21_33 (Nat.le_of_ble_eq_true rfl) rfl rfl (xr_rv kd_111 h_167) (Nat.le_of_ble_eq_true rfl) mc_111 ms_111 (c_ro_count 167 M3) ?_
    intro x4
    exact xr_51m f_21_36
  · refine xr_0 f_21_10 ?_
    exact xr_51m f_21_12

def no_mostUpEver  (M : e_Me) : Option Int32 :=
  x_bd (wh_count M) fun x1 =>
  some ((6 : Int32) * x1)
theorem c_no_mostUpEver  (M : e_Me) : x_C G 22 [.ref 166] M (x_ri M) (no_mostUpEver  M) := by
  refine x_C_of 1 [some (.ref 166)] (by decide) ml_22 (Nat.le_of_ble_eq_true rfl) rfl ?_
  rw [no_mostUpEver]
  refine xr_0 f_22_0 ?_
  refine xr_2 f_22_2 rfl ?_
  refine xr_30r f_22_3 h_166 rfl ?_
  refine xr_ci f_22_6 (Nat.le_of_ble_eq_true rfl) rfl rfl (xr_rv kd_133 h_3) (Nat.le_of_ble_eq_true rfl) mc_133 ms_133 (c_wh_count M) ?_
  intro x1
  refine xr_10 f_22_9 ?_
  exact xr_51 f_22_10

def no_mayBeUp (a1 : Int32) (M : e_Me) : Option Int32 :=
  if a1 < 0 then
    some (0 : Int32)
  else
    x_bd (no_mostUpEver M) fun x1 =>
    if x1 < a1 then
      some (0 : Int32)
    else
      some (1 : Int32)
theorem c_no_mayBeUp (a1 : Int32) (M : e_Me) : x_C G 23 [.ref 166, .int a1] M (x_ri M) (no_mayBeUp a1 M) := by
  refine x_C_of 2 [some (.ref 166), some (.int a1)] (by decide) ml_23 (Nat.le_of_ble_eq_true rfl) rfl ?_
  rw [no_mayBeUp]
  refine xr_1 f_23_0 rfl ?_
  refine xr_28_2 f_23_1 ?_ ?_
  · refine xr_0 f_23_16 ?_
    exact xr_52c f_23_17 (by decide)
  · refine xr_1 f_23_4 rfl ?_
    refine xr_2 f_23_5 rfl ?_
    refine xr_ci f_23_6 (Nat.le_of_ble_eq_true rfl) rfl rfl (xr_rv kd_22 h_166) (Nat.le_of_ble_eq_true rfl) mc_22 ms_22 (c_no_mostUpEver M) ?_
    intro x1
    refine xr_29_4 f_23_9 ?_ ?_
    · refine xr_0 f_23_16 ?_
      exact xr_52c f_23_17 (by decide)
    · refine xr_0 f_23_12 ?_
      refine xr_27 f_23_13 ?_
      exact xr_52c f_23_17 (by decide)

def no_leastUp  (M : e_Me) : Option Int32 :=
  some (M 166 3)
theorem c_no_leastUp  (M : e_Me) : x_C G 24 [.ref 166] M (x_ri M) (no_leastUp  M) := by
  refine x_C_of 1 [some (.ref 166)] (by decide) ml_24 (Nat.le_of_ble_eq_true rfl) rfl ?_
  rw [no_leastUp]
  refine xr_2 f_24_0 rfl ?_
  refine xr_30i f_24_1 h_166 rfl ?_
  exact xr_51 f_24_4

def no_mostUp  (M : e_Me) : Option Int32 :=
  some (M 166 4)
theorem c_no_mostUp  (M : e_Me) : x_C G 25 [.ref 166] M (x_ri M) (no_mostUp  M) := by
  refine x_C_of 1 [some (.ref 166)] (by decide) ml_25 (Nat.le_of_ble_eq_true rfl) rfl ?_
  rw [no_mostUp]
  refine xr_2 f_25_0 rfl ?_
  refine xr_30i f_25_1 h_166 rfl ?_
  exact xr_51 f_25_4

def no_pass_b54  (s0 : Int32) (s1 : Int32) (M : e_Me) : Option (Int32 × e_Me) :=
  x_lt (e_up M 166 4 (s1 + s0)) fun M1 =>
  x_bd (ma_max (0 : Int32) (M1 166 3) M1) fun x2 =>
  x_lt (e_up M1 166 3 x2) fun M3 =>
  x_bd (no_mostUpEver M3) fun x4 =>
  x_bd (ma_min x4 (M3 166 4) M3) fun x5 =>
  x_lt (e_up M3 166 4 x5) fun M6 =>
  if (M6 166 4) < (M6 166 3) then
    some ((0 : Int32), M6)
  else
    some ((1 : Int32), M6)
theorem c_no_pass_b54  (s0 : Int32) (s1 : Int32) (M : e_Me)  : x_X G 29 0 0 x_rim 54 [some (.ref 166), none, none] [.int s0, .int s1, .ref 166] M (no_pass_b54 s0 s1 M) := by
  rw [no_pass_b54]
  refine xr_8 f_29_54 ?_
  refine xr_31 f_29_55 h_166 rfl ?_
  intro M1
  refine xr_2 f_29_58 rfl ?_
  refine xr_0 f_29_59 ?_
  refine xr_2 f_29_60 rfl ?_
  refine xr_30i f_29_61 h_166 rfl ?_
  refine xr_ci f_29_64 (Nat.le_of_ble_eq_true rfl) rfl rfl (xr_rs kd_265) (Nat.le_of_ble_eq_true rfl) mc_265 ms_265 (c_ma_max (0 : Int32) (M1 166 3) M1) ?_
  intro x2
  refine xr_31 f_29_67 h_166 rfl ?_
  intro M3
  refine xr_2 f_29_70 rfl ?_
  refine xr_2 f_29_71 rfl ?_
  refine xr_ci f_29_72 (Nat.le_of_ble_eq_true rfl) rfl rfl (xr_rv kd_22 h_166) (Nat.le_of_ble_eq_true rfl) mc_22 ms_22 (c_no_mostUpEver M3) ?_
  intro x4
  refine xr_2 f_29_75 rfl ?_
  refine xr_30i f_29_76 h_166 rfl ?_
  refine xr_ci f_29_79 (Nat.le_of_ble_eq_true rfl) rfl rfl (xr_rs kd_266) (Nat.le_of_ble_eq_true rfl) mc_266 ms_266 (c_ma_min x4 (M3 166 4) M3) ?_
  intro x5
  refine xr_31 f_29_82 h_166 rfl ?_
  intro M6
  refine xr_2 f_29_85 rfl ?_
  refine xr_30i f_29_86 h_166 rfl ?_
  refine xr_2 f_29_89 rfl ?_
  refine xr_30i f_29_90 h_166 rfl ?_
  refine xr_29_4 f_29_93 ?_ ?_
  · refine xr_0 f_29_100 ?_
    exact xr_52mc f_29_101 (by decide)
  · refine xr_0 f_29_96 ?_
    refine xr_27 f_29_97 ?_
    exact xr_52mc f_29_101 (by decide)

def no_pass_b25  (a1 : Int32) (a2 : Int32) (s0 : Int32) (s1 : Int32) (M : e_Me) : Option (Int32 × e_Me) :=
  x_lt (e_up M 166 3 (s1 + s0)) fun M1 =>
  if a1 = 0 then
    no_pass_b54 a2 (M1 166 4) M1
  else
    if a1 = (1 : Int32) then
      no_pass_b54 (-a2) (M1 166 4) M1
    else
      no_pass_b54 (36 : Int32) (M1 166 4) M1
theorem c_no_pass_b25  (a1 : Int32) (a2 : Int32) (s0 : Int32) (s1 : Int32) (M : e_Me)  : x_X G 29 0 0 x_rim 25 [some (.ref 166), some (.int a1), some (.int a2)] [.int s0, .int s1, .ref 166] M (no_pass_b25 a1 a2 s0 s1 M) := by
  rw [no_pass_b25]
  refine xr_8 f_29_25 ?_
  refine xr_31 f_29_26 h_166 rfl ?_
  intro M1
  refine xr_2 f_29_29 rfl ?_
  refine xr_24r f_29_30 ?_
  refine xr_30i f_29_31 h_166 rfl ?_
  refine xr_1 f_29_34 rfl ?_
  refine xr_28_1 f_29_35 ?_ ?_
  · refine xr_1 f_29_42 rfl ?_
    refine xr_0 f_29_43 ?_
    refine xr_29_1 f_29_44 ?_ ?_
    · refine xr_0 f_29_52 ?_
      refine xr_wk (L' := [some (.ref 166), none, none]) [true, false, false] rfl ?_
      exact c_no_pass_b54 (36 : Int32) (M1 166 4) M1
    · refine xr_1 f_29_47 rfl ?_
      refine xr_11 f_29_48 ?_
      refine xr_27 f_29_49 ?_
      refine xr_wk (L' := [some (.ref 166), none, none]) [true, false, false] rfl ?_
      exact c_no_pass_b54 (-a2) (M1 166 4) M1
  · refine xr_1 f_29_38 rfl ?_
    refine xr_27 f_29_39 ?_
    refine xr_wk (L' := [some (.ref 166), none, none]) [true, false, false] rfl ?_
    exact c_no_pass_b54 a2 (M1 166 4) M1

def no_pass (a1 : Int32) (a2 : Int32) (M : e_Me) : Option (Int32 × e_Me) :=
  if a1 = 0 then
    no_pass_b25 a1 a2 a2 (M 166 3) M
  else
    if a1 = (1 : Int32) then
      no_pass_b25 a1 a2 (-a2) (M 166 3) M
    else
      no_pass_b25 a1 a2 (-36 : Int32) (M 166 3) M
theorem c_no_pass (a1 : Int32) (a2 : Int32) (M : e_Me) : x_C G 29 [.ref 166, .int a1, .int a2] M x_rim (no_pass a1 a2 M) := by
  refine x_C_of 3 [some (.ref 166), some (.int a1), some (.int a2)] (by decide) ml_29 (Nat.le_of_ble_eq_true rfl) rfl ?_
  rw [no_pass]
  refine xr_2 f_29_0 rfl ?_
  refine xr_24r f_29_1 ?_
  refine xr_30i f_29_2 h_166 rfl ?_
  refine xr_1 f_29_5 rfl ?_
  refine xr_28_1 f_29_6 ?_ ?_
  · refine xr_1 f_29_13 rfl ?_
    refine xr_0 f_29_14 ?_
    refine xr_29_1 f_29_15 ?_ ?_
    · refine xr_0 f_29_23 ?_
      exact c_no_pass_b25 a1 a2 (-36 : Int32) (M 166 3) M
    · refine xr_1 f_29_18 rfl ?_
      refine xr_11 f_29_19 ?_
      refine xr_27 f_29_20 ?_
      exact c_no_pass_b25 a1 a2 (-a2) (M 166 3) M
  · refine xr_1 f_29_9 rfl ?_
    refine xr_27 f_29_10 ?_
    exact c_no_pass_b25 a1 a2 a2 (M 166 3) M

def no_follow_l12   : Nat → Int32 → e_Me → Option (Int32 × e_Me)
  | 0, _, _ => none
  | F + 1, a2, M =>
    x_bd (ro_count 167 M) fun x1 =>
    if x1 ≤ a2 then
      some ((1 : Int32), M)
    else
      x_bd (ro_at 167 a2 M) fun x2 =>
      x_bd (ro_at 169 a2 M) fun x3 =>
      x_bi (no_pass x2 x3 M) fun x4 M5 =>
      if x4 = 0 then
        some ((0 : Int32), M5)
      else
        no_follow_l12  F (a2 + (1 : Int32)) M5
theorem c_no_follow_l12    : ∀ (F : Nat) (a2 : Int32) (M : e_Me), x_X G 26 0 0 x_rim 12 [some (.ref 166), none, some (.int a2)] [] M (no_follow_l12  F a2 M) := by
  intro F
  induction F with
  | zero => intro a2 M; exact xr_none
  | succ F ih =>
    intro a2 M
    rw [no_follow_l12]
    refine xr_1 f_26_12 rfl ?_
    refine xr_2 f_26_13 rfl ?_
    refine xr_30r f_26_14 h_166 rfl ?_
    refine xr_ci f_26_17 (Nat.le_of_ble_eq_true rfl) rfl rfl (xr_rv kd_111 h_167) (Nat.le_of_ble_eq_true rfl) mc_111 ms_111 (c_ro_count 167 M) ?_
    intro x1
    refine xr_29_3 f_26_20 ?_ ?_
    · refine xr_0 f_26_54 ?_
      exact xr_52mc f_26_55 (by decide)
    · refine xr_2 f_26_23 rfl ?_
      refine xr_2 f_26_24 rfl ?_
      refine xr_30r f_26_25 h_166 rfl ?_
      refine xr_1 f_26_28 rfl ?_
      refine xr_ci f_26_29 (Nat.le_of_ble_eq_true rfl) rfl rfl (xr_rv kd_113 h_167) (Nat.le_of_ble_eq_true rfl) mc_113 ms_113 (c_ro_at 167 a2 M) ?_
      intro x2
      refine xr_2 f_26_32 rfl ?_
      refine xr_30r f_26_33 h_166 rfl ?_
      refine xr_1 f_26_36 rfl ?_
      refine xr_ci f_26_37 (Nat.le_of_ble_eq_true rfl) rfl rfl (xr_rv kd_113 h_169) (Nat.le_of_ble_eq_true rfl) mc_113 ms_113 (c_ro_at 169 a2 M) ?_
      intro x3
      refine xr_cim f_26_40 (Nat.le_of_ble_eq_true rfl) rfl rfl (xr_rv kd_29 h_166) (Nat.le_of_ble_eq_true rfl) mc_29 ms_29 (c_no_pass x2 x3 M) ?_
      intro x4 M5
      refine xr_28_1 f_26_43 ?_ ?_
      · refine xr_7 [some (.ref 166), none, some (.int (a2 + (1 : Int32)))] f_26_48 rfl rfl rfl ?_
        refine xr_27 f_26_51 ?_
        exact ih (a2 + (1 : Int32)) M5
      · refine xr_0 f_26_46 ?_
        exact xr_52mc f_26_47 (by decide)

def no_follow (a1 : Int32) (M : e_Me) : Option (Int32 × e_Me) :=
  x_lt (e_up M 166 3 a1) fun M1 =>
  x_lt (e_up M1 166 4 a1) fun M2 =>
  no_follow_l12  e_F (0 : Int32) M2
theorem c_no_follow (a1 : Int32) (M : e_Me) : x_C G 26 [.ref 166, .int a1] M x_rim (no_follow a1 M) := by
  refine x_C_of 3 [some (.ref 166), some (.int a1), none] (by decide) ml_26 (Nat.le_of_ble_eq_true rfl) rfl ?_
  rw [no_follow]
  refine xr_2 f_26_0 rfl ?_
  refine xr_1 f_26_1 rfl ?_
  refine xr_31 f_26_2 h_166 rfl ?_
  intro M1
  refine xr_2 f_26_5 rfl ?_
  refine xr_1 f_26_6 rfl ?_
  refine xr_31 f_26_7 h_166 rfl ?_
  intro M2
  refine xr_0 f_26_10 ?_
  refine xr_4 [some (.ref 166), some (.int a1), some (.int (0 : Int32))] f_26_11 rfl rfl ?_
  refine xr_wk (L' := [some (.ref 166), none, some (.int (0 : Int32))]) [true, false, true] rfl ?_
  exact c_no_follow_l12 e_F (0 : Int32) M2

def no_turnedBack (a0 : Int32) (M : e_Me) : Option Int32 :=
  if a0 = (2 : Int32) then
    some (2 : Int32)
  else
    if a0 = 0 then
      some (1 : Int32)
    else
      some (0 : Int32)
theorem c_no_turnedBack (a0 : Int32) (M : e_Me) : x_C G 28 [.int a0] M (x_ri M) (no_turnedBack a0 M) := by
  refine x_C_of 1 [some (.int a0)] (by decide) ml_28 (Nat.le_of_ble_eq_true rfl) rfl ?_
  rw [no_turnedBack]
  refine xr_1 f_28_0 rfl ?_
  refine xr_0 f_28_1 ?_
  refine xr_29_1 f_28_2 ?_ ?_
  · refine xr_1 f_28_7 rfl ?_
    refine xr_28_1 f_28_8 ?_ ?_
    · refine xr_0 f_28_15 ?_
      exact xr_51 f_28_16
    · refine xr_0 f_28_11 ?_
      refine xr_27 f_28_12 ?_
      exact xr_51 f_28_16
  · refine xr_0 f_28_5 ?_
    exact xr_51 f_28_6

def no_countBegins_b61   (M : e_Me) : Option (Int32 × e_Me) :=
  some ((((M 166 4) - (M 166 3)) + (1 : Int32)), M)
theorem c_no_countBegins_b61   (M : e_Me)  : x_X G 27 0 0 x_rim 61 [some (.ref 166), none] [] M (no_countBegins_b61  M) := by
  rw [no_countBegins_b61]
  refine xr_2 f_27_61 rfl ?_
  refine xr_30i f_27_62 h_166 rfl ?_
  refine xr_2 f_27_65 rfl ?_
  refine xr_30i f_27_66 h_166 rfl ?_
  refine xr_9 f_27_69 ?_
  refine xr_0 f_27_70 ?_
  refine xr_8 f_27_71 ?_
  exact xr_51m f_27_72

def no_countBegins_l23   : Nat → Int32 → e_Me → Option (Int32 × e_Me)
  | 0, _, _ => none
  | F + 1, a1, M =>
    if a1 < 0 then
      no_countBegins_b61 M
    else
      x_bd (ro_at 167 a1 M) fun x1 =>
      x_bd (no_turnedBack x1 M) fun x2 =>
      x_bd (ro_at 169 a1 M) fun x3 =>
      x_bi (no_pass x2 x3 M) fun x4 M5 =>
      if x4 = 0 then
        some ((0 : Int32), M5)
      else
        no_countBegins_l23  F (a1 + (-1 : Int32)) M5
theorem c_no_countBegins_l23    : ∀ (F : Nat) (a1 : Int32) (M : e_Me), x_X G 27 0 0 x_rim 23 [some (.ref 166), some (.int a1)] [] M (no_countBegins_l23  F a1 M) := by
  intro F
  induction F with
  | zero => intro a1 M; exact xr_none
  | succ F ih =>
    intro a1 M
    rw [no_countBegins_l23]
    refine xr_1 f_27_23 rfl ?_
    refine xr_28_2 f_27_24 ?_ ?_
    · refine xr_wk (L' := [some (.ref 166), none]) [true, false] rfl ?_
      exact c_no_countBegins_b61 M
    · refine xr_2 f_27_27 rfl ?_
      refine xr_2 f_27_28 rfl ?_
      refine xr_30r f_27_29 h_166 rfl ?_
      refine xr_1 f_27_32 rfl ?_
      refine xr_ci f_27_33 (Nat.le_of_ble_eq_true rfl) rfl rfl (xr_rv kd_113 h_167) (Nat.le_of_ble_eq_true rfl) mc_113 ms_113 (c_ro_at 167 a1 M) ?_
      intro x1
      refine xr_ci f_27_36 (Nat.le_of_ble_eq_true rfl) rfl rfl (xr_rs kd_28) (Nat.le_of_ble_eq_true rfl) mc_28 ms_28 (c_no_turnedBack x1 M) ?_
      intro x2
      refine xr_2 f_27_39 rfl ?_
      refine xr_30r f_27_40 h_166 rfl ?_
      refine xr_1 f_27_43 rfl ?_
      refine xr_ci f_27_44 (Nat.le_of_ble_eq_true rfl) rfl rfl (xr_rv kd_113 h_169) (Nat.le_of_ble_eq_true rfl) mc_113 ms_113 (c_ro_at 169 a1 M) ?_
      intro x3
      refine xr_cim f_27_47 (Nat.le_of_ble_eq_true rfl) rfl rfl (xr_rv kd_29 h_166) (Nat.le_of_ble_eq_true rfl) mc_29 ms_29 (c_no_pass x2 x3 M) ?_
      intro x4 M5
      refine xr_28_1 f_27_50 ?_ ?_
      · refine xr_7 [some (.ref 166), some (.int (a1 + (-1 : Int32)))] f_27_55 rfl rfl rfl ?_
        refine xr_27 f_27_58 ?_
        exact ih (a1 + (-1 : Int32)) M5
      · refine xr_0 f_27_53 ?_
        exact xr_51m f_27_54

def no_countBegins  (M : e_Me) : Option (Int32 × e_Me) :=
  x_lt (e_up M 166 3 (0 : Int32)) fun M1 =>
  x_bd (no_mostUpEver M1) fun x2 =>
  x_lt (e_up M1 166 4 x2) fun M3 =>
  x_bd (ro_count 167 M3) fun x4 =>
  x_lt (x4 - (1 : Int32)) fun y5 =>
  no_countBegins_l23  e_F y5 M3
theorem c_no_countBegins  (M : e_Me) : x_C G 27 [.ref 166] M x_rim (no_countBegins  M) := by
  refine x_C_of 2 [some (.ref 166), none] (by decide) ml_27 (Nat.le_of_ble_eq_true rfl) rfl ?_
  rw [no_countBegins]
  refine xr_2 f_27_0 rfl ?_
  refine xr_0 f_27_1 ?_
  refine xr_31 f_27_2 h_166 rfl ?_
  intro M1
  refine xr_2 f_27_5 rfl ?_
  refine xr_2 f_27_6 rfl ?_
  refine xr_ci f_27_7 (Nat.le_of_ble_eq_true rfl) rfl rfl (xr_rv kd_22 h_166) (Nat.le_of_ble_eq_true rfl) mc_22 ms_22 (c_no_mostUpEver M1) ?_
  intro x2
  refine xr_31 f_27_10 h_166 rfl ?_
  intro M3
  refine xr_2 f_27_13 rfl ?_
  refine xr_30r f_27_14 h_166 rfl ?_
  refine xr_ci f_27_17 (Nat.le_of_ble_eq_true rfl) rfl rfl (xr_rv kd_111 h_167) (Nat.le_of_ble_eq_true rfl) mc_111 ms_111 (c_ro_count 167 M3) ?_
  intro x4
  refine xr_0 f_27_20 ?_
  refine xr_9 f_27_21 ?_
  refine xr_4l (fun y5 => [some (.ref 166), some (.int y5)]) f_27_22 rfl (fun _ => rfl) ?_
  intro y5
  exact c_no_countBegins_l23 e_F y5 M3

def no_mixInto_l2  (M : e_Me) : Nat → Int64 → Int32 → Option Int64
  | 0, _, _ => none
  | F + 1, a1, a3 =>
    x_bd (ro_count 167 M) fun x1 =>
    if x1 ≤ a3 then
      some a1
    else
      x_bd (ro_at 167 a3 M) fun x2 =>
      x_bd (ew_mix a1 (x2).toInt64 M) fun x3 =>
      x_bd (ro_at 169 a3 M) fun x4 =>
      x_bd (ew_mix x3 (x4).toInt64 M) fun x5 =>
      x_lt x5 fun y6 =>
      no_mixInto_l2 M F y6 (a3 + (1 : Int32))
theorem c_no_mixInto_l2  (M : e_Me)  : ∀ (F : Nat) (a1 : Int64) (a3 : Int32), x_X G 30 0 0 (x_rl M) 2 [some (.ref 166), some (.long a1), none, some (.int a3)] [] M (no_mixInto_l2 M F a1 a3) := by
  intro F
  induction F with
  | zero => intro a1 a3; exact xr_none
  | succ F ih =>
    intro a1 a3
    rw [no_mixInto_l2]
    refine xr_1 f_30_2 rfl ?_
    refine xr_2 f_30_3 rfl ?_
    refine xr_30r f_30_4 h_166 rfl ?_
    refine xr_ci f_30_7 (Nat.le_of_ble_eq_true rfl) rfl rfl (xr_rv kd_111 h_167) (Nat.le_of_ble_eq_true rfl) mc_111 ms_111 (c_ro_count 167 M) ?_
    intro x1
    refine xr_29_3 f_30_10 ?_ ?_
    · refine xr_3 f_30_45 rfl ?_
      exact xr_53 f_30_46
    · refine xr_3 f_30_13 rfl ?_
      refine xr_2 f_30_14 rfl ?_
      refine xr_30r f_30_15 h_166 rfl ?_
      refine xr_1 f_30_18 rfl ?_
      refine xr_ci f_30_19 (Nat.le_of_ble_eq_true rfl) rfl rfl (xr_rv kd_113 h_167) (Nat.le_of_ble_eq_true rfl) mc_113 ms_113 (c_ro_at 167 a3 M) ?_
      intro x2
      refine xr_19 f_30_22 ?_
      refine xr_cl f_30_23 (Nat.le_of_ble_eq_true rfl) rfl rfl (xr_rs kd_191) (Nat.le_of_ble_eq_true rfl) mc_191 ms_191 (c_ew_mix a1 (x2).toInt64 M) ?_
      intro x3
      refine xr_2 f_30_26 rfl ?_
      refine xr_30r f_30_27 h_166 rfl ?_
      refine xr_1 f_30_30 rfl ?_
      refine xr_ci f_30_31 (Nat.le_of_ble_eq_true rfl) rfl rfl (xr_rv kd_113 h_169) (Nat.le_of_ble_eq_true rfl) mc_113 ms_113 (c_ro_at 169 a3 M) ?_
      intro x4
      refine xr_19 f_30_34 ?_
      refine xr_cl f_30_35 (Nat.le_of_ble_eq_true rfl) rfl rfl (xr_rs kd_191) (Nat.le_of_ble_eq_true rfl) mc_191 ms_191 (c_ew_mix x3 (x4).toInt64 M) ?_
      intro x5
      refine xr_6l (fun y6 => [some (.ref 166), some (.long y6), none, some (.int a3)]) f_30_38 rfl (fun _ => rfl) ?_
      intro y6
      refine xr_7 [some (.ref 166), some (.long y6), none, some (.int (a3 + (1 : Int32)))] f_30_39 rfl rfl rfl ?_
      refine xr_27 f_30_42 ?_
      exact ih y6 (a3 + (1 : Int32))

def no_mixInto (a1 : Int64) (M : e_Me) : Option Int64 :=
  no_mixInto_l2 M e_F a1 (0 : Int32)
theorem c_no_mixInto (a1 : Int64) (M : e_Me) : x_C G 30 [.ref 166, .long a1] M (x_rl M) (no_mixInto a1 M) := by
  refine x_C_of 4 [some (.ref 166), some (.long a1), none, none] (by decide) ml_30 (Nat.le_of_ble_eq_true rfl) rfl ?_
  rw [no_mixInto]
  refine xr_0 f_30_0 ?_
  refine xr_4 [some (.ref 166), some (.long a1), none, some (.int (0 : Int32))] f_30_1 rfl rfl ?_
  exact c_no_mixInto_l2 M e_F a1 (0 : Int32)

def pa_weighs (a0 : Int32) (M : e_Me) : Option Int32 :=
  if a0 < (5 : Int32) then
    some (0 : Int32)
  else
    if (150 : Int32) < a0 then
      some (0 : Int32)
    else
      some (1 : Int32)
theorem c_pa_weighs (a0 : Int32) (M : e_Me) : x_C G 33 [.int a0] M (x_ri M) (pa_weighs a0 M) := by
  refine x_C_of 1 [some (.int a0)] (by decide) ml_33 (Nat.le_of_ble_eq_true rfl) rfl ?_
  rw [pa_weighs]
  refine xr_1 f_33_0 rfl ?_
  refine xr_0 f_33_1 ?_
  refine xr_29_2 f_33_2 ?_ ?_
  · refine xr_0 f_33_16 ?_
    exact xr_52c f_33_17 (by decide)
  · refine xr_1 f_33_5 rfl ?_
    refine xr_0 f_33_6 ?_
    refine xr_29_4 f_33_9 ?_ ?_
    · refine xr_0 f_33_16 ?_
      exact xr_52c f_33_17 (by decide)
    · refine xr_0 f_33_12 ?_
      refine xr_27 f_33_13 ?_
      exact xr_52c f_33_17 (by decide)

def pa_allows (a0 : Int32) (a1 : Int32) (a2 : Int32) (a3 : Int32) (a4 : Int32) (M : e_Me) : Option Int32 :=
  if a0 < (1 : Int32) then
    some (0 : Int32)
  else
    if (6 : Int32) < a0 then
      some (0 : Int32)
    else
      x_bd (pa_weighs a1 M) fun x1 =>
      if x1 = 0 then
        some (0 : Int32)
      else
        x_bd (pa_weighs a2 M) fun x2 =>
        if x2 = 0 then
          some (0 : Int32)
        else
          x_bd (pa_weighs a3 M) fun x3 =>
          if x3 = 0 then
            some (0 : Int32)
          else
            if a4 < 0 then
              some (0 : Int32)
            else
              if (3 : Int32) < a4 then
                some (0 : Int32)
              else
                some (1 : Int32)
theorem c_pa_allows (a0 : Int32) (a1 : Int32) (a2 : Int32) (a3 : Int32) (a4 : Int32) (M : e_Me) : x_C G 32 [.int a0, .int a1, .int a2, .int a3, .int a4] M (x_ri M) (pa_allows a0 a1 a2 a3 a4 M) := by
  refine x_C_of 5 [some (.int a0), some (.int a1), some (.int a2), some (.int a3), some (.int a4)] (by decide) ml_32 (Nat.le_of_ble_eq_true rfl) rfl ?_
  rw [pa_allows]
  refine xr_1 f_32_0 rfl ?_
  refine xr_0 f_32_1 ?_
  refine xr_29_2 f_32_2 ?_ ?_
  · refine xr_0 f_32_47 ?_
    exact xr_52c f_32_48 (by decide)
  · refine xr_1 f_32_5 rfl ?_
    refine xr_0 f_32_6 ?_
    refine xr_29_4 f_32_8 ?_ ?_
    · refine xr_0 f_32_47 ?_
      exact xr_52c f_32_48 (by decide)
    · refine xr_1 f_32_11 rfl ?_
      refine xr_ci f_32_12 (Nat.le_of_ble_eq_true rfl) rfl rfl (xr_rs kd_33) (Nat.le_of_ble_eq_true rfl) mc_33 ms_33 (c_pa_weighs a1 M) ?_
      intro x1
      refine xr_28_0 f_32_15 ?_ ?_
      · refine xr_0 f_32_47 ?_
        exact xr_52c f_32_48 (by decide)
      · refine xr_1 f_32_18 rfl ?_
        refine xr_ci f_32_19 (Nat.le_of_ble_eq_true rfl) rfl rfl (xr_rs kd_33) (Nat.le_of_ble_eq_true rfl) mc_33 ms_33 (c_pa_weighs a2 M) ?_
        intro x2
        refine xr_28_0 f_32_22 ?_ ?_
        · refine xr_0 f_32_47 ?_
          exact xr_52c f_32_48 (by decide)
        · refine xr_1 f_32_25 rfl ?_
          refine xr_ci f_32_26 (Nat.le_of_ble_eq_true rfl) rfl rfl (xr_rs kd_33) (Nat.le_of_ble_eq_true rfl) mc_33 ms_33 (c_pa_weighs a3 M) ?_
          intro x3
          refine xr_28_0 f_32_29 ?_ ?_
          · refine xr_0 f_32_47 ?_
            exact xr_52c f_32_48 (by decide)
          · refine xr_1 f_32_32 rfl ?_
            refine xr_28_2 f_32_34 ?_ ?_
            · refine xr_0 f_32_47 ?_
              exact xr_52c f_32_48 (by decide)
            · refine xr_1 f_32_37 rfl ?_
              refine xr_0 f_32_39 ?_
              refine xr_29_4 f_32_40 ?_ ?_
              · refine xr_0 f_32_47 ?_
                exact xr_52c f_32_48 (by decide)
              · refine xr_0 f_32_43 ?_
                refine xr_27 f_32_44 ?_
                exact xr_52c f_32_48 (by decide)

def pa_together_l6  (a0 : Int32) (a1 : Int32) (a2 : Int32) (a3 : Int32) (M : e_Me) : Nat → Int32 → Int32 → Option Int32
  | 0, _, _ => none
  | F + 1, a4, a5 =>
    if a0 ≤ a5 then
      some a4
    else
      if (6 : Int32) ≤ a5 then
        some a4
      else
        x_lt (x_rem a5 (3 : Int32)) fun y1 =>
        if y1 = 0 then
          x_lt (a4 + a1) fun y4 =>
          pa_together_l6 a0 a1 a2 a3 M F y4 (a5 + (1 : Int32))
        else
          if y1 = (1 : Int32) then
            x_lt (a4 + a2) fun y3 =>
            pa_together_l6 a0 a1 a2 a3 M F y3 (a5 + (1 : Int32))
          else
            x_lt (a4 + a3) fun y2 =>
            pa_together_l6 a0 a1 a2 a3 M F y2 (a5 + (1 : Int32))
theorem c_pa_together_l6  (a0 : Int32) (a1 : Int32) (a2 : Int32) (a3 : Int32) (M : e_Me)  : ∀ (F : Nat) (a4 : Int32) (a5 : Int32), x_X G 34 0 0 (x_ri M) 6 [some (.int a0), some (.int a1), some (.int a2), some (.int a3), some (.int a4), some (.int a5), none] [] M (pa_together_l6 a0 a1 a2 a3 M F a4 a5) := by
  intro F
  induction F with
  | zero => intro a4 a5; exact xr_none
  | succ F ih =>
    intro a4 a5
    rw [pa_together_l6]
    refine xr_1 f_34_6 rfl ?_
    refine xr_1 f_34_8 rfl ?_
    refine xr_29_3 f_34_9 ?_ ?_
    · refine xr_1 f_34_56 rfl ?_
      exact xr_51 f_34_58
    · refine xr_1 f_34_12 rfl ?_
      refine xr_0 f_34_14 ?_
      refine xr_29_3 f_34_16 ?_ ?_
      · refine xr_1 f_34_56 rfl ?_
        exact xr_51 f_34_58
      · refine xr_1 f_34_19 rfl ?_
        refine xr_0 f_34_21 ?_
        refine xr_13c f_34_22 (by decide) ?_
        refine xr_4l (fun y1 => [some (.int a0), some (.int a1), some (.int a2), some (.int a3), some (.int a4), some (.int a5), some (.int y1)]) f_34_23 rfl (fun _ => rfl) ?_
        intro y1
        refine xr_1 f_34_25 rfl ?_
        refine xr_1 f_34_27 rfl ?_
        refine xr_28_1 f_34_29 ?_ ?_
        · refine xr_1 f_34_36 rfl ?_
          refine xr_0 f_34_38 ?_
          refine xr_29_1 f_34_39 ?_ ?_
          · refine xr_1 f_34_46 rfl ?_
            refine xr_8 f_34_47 ?_
            refine xr_4l (fun y2 => [some (.int a0), some (.int a1), some (.int a2), some (.int a3), some (.int y2), some (.int a5), some (.int y1)]) f_34_48 rfl (fun _ => rfl) ?_
            intro y2
            refine xr_7 [some (.int a0), some (.int a1), some (.int a2), some (.int a3), some (.int y2), some (.int (a5 + (1 : Int32))), some (.int y1)] f_34_50 rfl rfl rfl ?_
            refine xr_27 f_34_53 ?_
            refine xr_wk (L' := [some (.int a0), some (.int a1), some (.int a2), some (.int a3), some (.int y2), some (.int (a5 + (1 : Int32))), none]) [true, true, true, true, true, true, false] rfl ?_
            exact ih y2 (a5 + (1 : Int32))
          · refine xr_1 f_34_42 rfl ?_
            refine xr_27 f_34_43 ?_
            refine xr_8 f_34_47 ?_
            refine xr_4l (fun y3 => [some (.int a0), some (.int a1), some (.int a2), some (.int a3), some (.int y3), some (.int a5), some (.int y1)]) f_34_48 rfl (fun _ => rfl) ?_
            intro y3
            refine xr_7 [some (.int a0), some (.int a1), some (.int a2), some (.int a3), some (.int y3), some (.int (a5 + (1 : Int32))), some (.int y1)] f_34_50 rfl rfl rfl ?_
            refine xr_27 f_34_53 ?_
            refine xr_wk (L' := [some (.int a0), some (.int a1), some (.int a2), some (.int a3), some (.int y3), some (.int (a5 + (1 : Int32))), none]) [true, true, true, true, true, true, false] rfl ?_
            exact ih y3 (a5 + (1 : Int32))
        · refine xr_1 f_34_32 rfl ?_
          refine xr_27 f_34_33 ?_
          refine xr_8 f_34_47 ?_
          refine xr_4l (fun y4 => [some (.int a0), some (.int a1), some (.int a2), some (.int a3), some (.int y4), some (.int a5), some (.int y1)]) f_34_48 rfl (fun _ => rfl) ?_
          intro y4
          refine xr_7 [some (.int a0), some (.int a1), some (.int a2), some (.int a3), some (.int y4), some (.int (a5 + (1 : Int32))), some (.int y1)] f_34_50 rfl rfl rfl ?_
          refine xr_27 f_34_53 ?_
          refine xr_wk (L' := [some (.int a0), some (.int a1), some (.int a2), some (.int a3), some (.int y4), some (.int (a5 + (1 : Int32))), none]) [true, true, true, true, true, true, false] rfl ?_
          exact ih y4 (a5 + (1 : Int32))

def pa_together (a0 : Int32) (a1 : Int32) (a2 : Int32) (a3 : Int32) (M : e_Me) : Option Int32 :=
  pa_together_l6 a0 a1 a2 a3 M e_F (0 : Int32) (0 : Int32)
theorem c_pa_together (a0 : Int32) (a1 : Int32) (a2 : Int32) (a3 : Int32) (M : e_Me) : x_C G 34 [.int a0, .int a1, .int a2, .int a3] M (x_ri M) (pa_together a0 a1 a2 a3 M) := by
  refine x_C_of 7 [some (.int a0), some (.int a1), some (.int a2), some (.int a3), none, none, none] (by decide) ml_34 (Nat.le_of_ble_eq_true rfl) rfl ?_
  rw [pa_together]
  refine xr_0 f_34_0 ?_
  refine xr_4 [some (.int a0), some (.int a1), some (.int a2), some (.int a3), some (.int (0 : Int32)), none, none] f_34_1 rfl rfl ?_
  refine xr_0 f_34_3 ?_
  refine xr_4 [some (.int a0), some (.int a1), some (.int a2), some (.int a3), some (.int (0 : Int32)), some (.int (0 : Int32)), none] f_34_4 rfl rfl ?_
  exact c_pa_together_l6 a0 a1 a2 a3 M e_F (0 : Int32) (0 : Int32)

def pa_startAnew  (M : e_Me) : Option e_Me :=
  x_bd (ro_clear 10 M) fun M1 =>
  x_bd (ro_clear 12 M1) fun M2 =>
  x_bd (ro_clear 14 M2) fun M3 =>
  x_bd (ro_clear 16 M3) fun M4 =>
  x_bd (ro_clear 18 M4) fun M5 =>
  x_bd (ro_clear 20 M5) fun M6 =>
  some M6
theorem c_pa_startAnew  (M : e_Me) : x_C G 35 [.ref 9] M x_rv (pa_startAnew  M) := by
  refine x_C_of 1 [some (.ref 9)] (by decide) ml_35 (Nat.le_of_ble_eq_true rfl) rfl ?_
  rw [pa_startAnew]
  refine xr_2 f_35_0 rfl ?_
  refine xr_30r f_35_1 h_9 rfl ?_
  refine xr_cv f_35_4 (Nat.le_of_ble_eq_true rfl) rfl rfl (xr_rv kd_119 h_10) (Nat.le_of_ble_eq_true rfl) mc_119 ms_119 (c_ro_clear 10 M) ?_
  intro M1
  refine xr_2 f_35_7 rfl ?_
  refine xr_30r f_35_8 h_9 rfl ?_
  refine xr_cv f_35_11 (Nat.le_of_ble_eq_true rfl) rfl rfl (xr_rv kd_119 h_12) (Nat.le_of_ble_eq_true rfl) mc_119 ms_119 (c_ro_clear 12 M1) ?_
  intro M2
  refine xr_2 f_35_14 rfl ?_
  refine xr_30r f_35_15 h_9 rfl ?_
  refine xr_cv f_35_18 (Nat.le_of_ble_eq_true rfl) rfl rfl (xr_rv kd_119 h_14) (Nat.le_of_ble_eq_true rfl) mc_119 ms_119 (c_ro_clear 14 M2) ?_
  intro M3
  refine xr_2 f_35_21 rfl ?_
  refine xr_30r f_35_22 h_9 rfl ?_
  refine xr_cv f_35_25 (Nat.le_of_ble_eq_true rfl) rfl rfl (xr_rv kd_119 h_16) (Nat.le_of_ble_eq_true rfl) mc_119 ms_119 (c_ro_clear 16 M3) ?_
  intro M4
  refine xr_2 f_35_28 rfl ?_
  refine xr_30r f_35_29 h_9 rfl ?_
  refine xr_cv f_35_32 (Nat.le_of_ble_eq_true rfl) rfl rfl (xr_rv kd_119 h_18) (Nat.le_of_ble_eq_true rfl) mc_119 ms_119 (c_ro_clear 18 M4) ?_
  intro M5
  refine xr_2 f_35_35 rfl ?_
  refine xr_30r f_35_36 h_9 rfl ?_
  refine xr_cv f_35_39 (Nat.le_of_ble_eq_true rfl) rfl rfl (xr_rv kd_119 h_20) (Nat.le_of_ble_eq_true rfl) mc_119 ms_119 (c_ro_clear 20 M5) ?_
  intro M6
  exact xr_50 f_35_42

def pa_count  (M : e_Me) : Option Int32 :=
  x_bd (ro_count 10 M) fun x1 =>
  some x1
theorem c_pa_count  (M : e_Me) : x_C G 36 [.ref 9] M (x_ri M) (pa_count  M) := by
  refine x_C_of 1 [some (.ref 9)] (by decide) ml_36 (Nat.le_of_ble_eq_true rfl) rfl ?_
  rw [pa_count]
  refine xr_2 f_36_0 rfl ?_
  refine xr_30r f_36_1 h_9 rfl ?_
  refine xr_ci f_36_4 (Nat.le_of_ble_eq_true rfl) rfl rfl (xr_rv kd_111 h_10) (Nat.le_of_ble_eq_true rfl) mc_111 ms_111 (c_ro_count 10 M) ?_
  intro x1
  exact xr_51 f_36_7

def pa_hasRoom  (M : e_Me) : Option Int32 :=
  x_bd (ro_hasRoom 10 M) fun x1 =>
  x_gb x1 (some x1)
theorem c_pa_hasRoom  (M : e_Me) : x_C G 37 [.ref 9] M (x_ri M) (pa_hasRoom  M) := by
  refine x_C_of 1 [some (.ref 9)] (by decide) ml_37 (Nat.le_of_ble_eq_true rfl) rfl ?_
  rw [pa_hasRoom]
  refine xr_2 f_37_0 rfl ?_
  refine xr_30r f_37_1 h_9 rfl ?_
  refine xr_ci f_37_4 (Nat.le_of_ble_eq_true rfl) rfl rfl (xr_rv kd_112 h_10) (Nat.le_of_ble_eq_true rfl) mc_112 ms_112 (c_ro_hasRoom 10 M) ?_
  intro x1
  exact xr_52 f_37_7

def pa_add (a1 : Int32) (a2 : Int32) (a3 : Int32) (M : e_Me) : Option (Int32 × e_Me) :=
  x_bd (pa_count M) fun x1 =>
  x_bd (ro_append 10 a1 M) fun M2 =>
  x_bd (ro_append 12 a2 M2) fun M3 =>
  x_bd (ro_append 14 a3 M3) fun M4 =>
  x_bd (ro_append 16 (100 : Int32) M4) fun M5 =>
  x_bd (ro_append 18 (0 : Int32) M5) fun M6 =>
  x_bd (ro_append 20 (0 : Int32) M6) fun M7 =>
  some (x1, M7)
theorem c_pa_add (a1 : Int32) (a2 : Int32) (a3 : Int32) (M : e_Me) : x_C G 38 [.ref 9, .int a1, .int a2, .int a3] M x_rim (pa_add a1 a2 a3 M) := by
  refine x_C_of 5 [some (.ref 9), some (.int a1), some (.int a2), some (.int a3), none] (by decide) ml_38 (Nat.le_of_ble_eq_true rfl) rfl ?_
  rw [pa_add]
  refine xr_2 f_38_0 rfl ?_
  refine xr_ci f_38_1 (Nat.le_of_ble_eq_true rfl) rfl rfl (xr_rv kd_36 h_9) (Nat.le_of_ble_eq_true rfl) mc_36 ms_36 (c_pa_count M) ?_
  intro x1
  refine xr_4 [some (.ref 9), some (.int a1), some (.int a2), some (.int a3), some (.int x1)] f_38_4 rfl rfl ?_
  refine xr_2 f_38_6 rfl ?_
  refine xr_30r f_38_7 h_9 rfl ?_
  refine xr_1 f_38_10 rfl ?_
  refine xr_cv f_38_11 (Nat.le_of_ble_eq_true rfl) rfl rfl (xr_rv kd_115 h_10) (Nat.le_of_ble_eq_true rfl) mc_115 ms_115 (c_ro_append 10 a1 M) ?_
  intro M2
  refine xr_2 f_38_14 rfl ?_
  refine xr_30r f_38_15 h_9 rfl ?_
  refine xr_1 f_38_18 rfl ?_
  refine xr_cv f_38_19 (Nat.le_of_ble_eq_true rfl) rfl rfl (xr_rv kd_115 h_12) (Nat.le_of_ble_eq_true rfl) mc_115 ms_115 (c_ro_append 12 a2 M2) ?_
  intro M3
  refine xr_2 f_38_22 rfl ?_
  refine xr_30r f_38_23 h_9 rfl ?_
  refine xr_1 f_38_26 rfl ?_
  refine xr_cv f_38_27 (Nat.le_of_ble_eq_true rfl) rfl rfl (xr_rv kd_115 h_14) (Nat.le_of_ble_eq_true rfl) mc_115 ms_115 (c_ro_append 14 a3 M3) ?_
  intro M4
  refine xr_2 f_38_30 rfl ?_
  refine xr_30r f_38_31 h_9 rfl ?_
  refine xr_0 f_38_34 ?_
  refine xr_cv f_38_36 (Nat.le_of_ble_eq_true rfl) rfl rfl (xr_rv kd_115 h_16) (Nat.le_of_ble_eq_true rfl) mc_115 ms_115 (c_ro_append 16 (100 : Int32) M4) ?_
  intro M5
  refine xr_2 f_38_39 rfl ?_
  refine xr_30r f_38_40 h_9 rfl ?_
  refine xr_0 f_38_43 ?_
  refine xr_cv f_38_44 (Nat.le_of_ble_eq_true rfl) rfl rfl (xr_rv kd_115 h_18) (Nat.le_of_ble_eq_true rfl) mc_115 ms_115 (c_ro_append 18 (0 : Int32) M5) ?_
  intro M6
  refine xr_2 f_38_47 rfl ?_
  refine xr_30r f_38_48 h_9 rfl ?_
  refine xr_0 f_38_51 ?_
  refine xr_cv f_38_52 (Nat.le_of_ble_eq_true rfl) rfl rfl (xr_rv kd_115 h_20) (Nat.le_of_ble_eq_true rfl) mc_115 ms_115 (c_ro_append 20 (0 : Int32) M6) ?_
  intro M7
  refine xr_1 f_38_55 rfl ?_
  exact xr_51m f_38_57

def pa_personsOf (a1 : Int32) (M : e_Me) : Option Int32 :=
  x_bd (ro_at 10 a1 M) fun x1 =>
  some x1
theorem c_pa_personsOf (a1 : Int32) (M : e_Me) : x_C G 39 [.ref 9, .int a1] M (x_ri M) (pa_personsOf a1 M) := by
  refine x_C_of 2 [some (.ref 9), some (.int a1)] (by decide) ml_39 (Nat.le_of_ble_eq_true rfl) rfl ?_
  rw [pa_personsOf]
  refine xr_2 f_39_0 rfl ?_
  refine xr_30r f_39_1 h_9 rfl ?_
  refine xr_1 f_39_4 rfl ?_
  refine xr_ci f_39_5 (Nat.le_of_ble_eq_true rfl) rfl rfl (xr_rv kd_113 h_10) (Nat.le_of_ble_eq_true rfl) mc_113 ms_113 (c_ro_at 10 a1 M) ?_
  intro x1
  exact xr_51 f_39_8

def pa_personsOfAll_l4  (ra1 : Nat) (na1 : Nat) (M : e_Me) : Nat → Int32 → Int32 → Option Int32
  | 0, _, _ => none
  | F + 1, a2, a3 =>
    x_bd (ro_count ra1 M) fun x1 =>
    if x1 ≤ a3 then
      some a2
    else
      x_bd (ro_at ra1 a3 M) fun x2 =>
      x_bd (ro_at 10 x2 M) fun x3 =>
      x_lt (a2 + x3) fun y4 =>
      pa_personsOfAll_l4 ra1 na1 M F y4 (a3 + (1 : Int32))
theorem c_pa_personsOfAll_l4  (ra1 : Nat) (na1 : Nat) (hra1 : e_cap ra1 = some na1) (M : e_Me)  : ∀ (F : Nat) (a2 : Int32) (a3 : Int32), x_X G 40 0 0 (x_ri M) 4 [some (.ref 9), some (.ref ra1), some (.int a2), some (.int a3)] [] M (pa_personsOfAll_l4 ra1 na1 M F a2 a3) := by
  intro F
  induction F with
  | zero => intro a2 a3; exact xr_none
  | succ F ih =>
    intro a2 a3
    rw [pa_personsOfAll_l4]
    refine xr_1 f_40_4 rfl ?_
    refine xr_2 f_40_5 rfl ?_
    refine xr_ci f_40_6 (Nat.le_of_ble_eq_true rfl) rfl rfl (xr_rv kd_111 (e_cap_obj hra1)) (Nat.le_of_ble_eq_true rfl) mc_111 ms_111 (c_ro_count ra1 M) ?_
    intro x1
    refine xr_29_3 f_40_9 ?_ ?_
    · refine xr_1 f_40_33 rfl ?_
      exact xr_51 f_40_34
    · refine xr_1 f_40_12 rfl ?_
      refine xr_2 f_40_13 rfl ?_
      refine xr_30r f_40_14 h_9 rfl ?_
      refine xr_2 f_40_17 rfl ?_
      refine xr_1 f_40_18 rfl ?_
      refine xr_ci f_40_19 (Nat.le_of_ble_eq_true rfl) rfl rfl (xr_rv kd_113 (e_cap_obj hra1)) (Nat.le_of_ble_eq_true rfl) mc_113 ms_113 (c_ro_at ra1 a3 M) ?_
      intro x2
      refine xr_ci f_40_22 (Nat.le_of_ble_eq_true rfl) rfl rfl (xr_rv kd_113 h_10) (Nat.le_of_ble_eq_true rfl) mc_113 ms_113 (c_ro_at 10 x2 M) ?_
      intro x3
      refine xr_8 f_40_25 ?_
      refine xr_4l (fun y4 => [some (.ref 9), some (.ref ra1), some (.int y4), some (.int a3)]) f_40_26 rfl (fun _ => rfl) ?_
      intro y4
      refine xr_7 [some (.ref 9), some (.ref ra1), some (.int y4), some (.int (a3 + (1 : Int32)))] f_40_27 rfl rfl rfl ?_
      refine xr_27 f_40_30 ?_
      exact ih y4 (a3 + (1 : Int32))

def pa_personsOfAll (a1 : Nat) (M : e_Me) : Option Int32 :=
  x_bd (e_cap a1) fun cap1 =>
  pa_personsOfAll_l4 a1 cap1 M e_F (0 : Int32) (0 : Int32)
theorem c_pa_personsOfAll (a1 : Nat) (M : e_Me) : x_C G 40 [.ref 9, .ref a1] M (x_ri M) (pa_personsOfAll a1 M) := by
  refine x_C_of 4 [some (.ref 9), some (.ref a1), none, none] (by decide) ml_40 (Nat.le_of_ble_eq_true rfl) rfl ?_
  rw [pa_personsOfAll]
  refine xr_cap ?_
  intro cap1 hr1
  refine xr_0 f_40_0 ?_
  refine xr_4 [some (.ref 9), some (.ref a1), some (.int (0 : Int32)), none] f_40_1 rfl rfl ?_
  refine xr_0 f_40_2 ?_
  refine xr_4 [some (.ref 9), some (.ref a1), some (.int (0 : Int32)), some (.int (0 : Int32))] f_40_3 rfl rfl ?_
  exact c_pa_personsOfAll_l4 a1 cap1 hr1 M e_F (0 : Int32) (0 : Int32)

def pa_weightOf (a1 : Int32) (M : e_Me) : Option Int32 :=
  x_bd (ro_at 12 a1 M) fun x1 =>
  some x1
theorem c_pa_weightOf (a1 : Int32) (M : e_Me) : x_C G 41 [.ref 9, .int a1] M (x_ri M) (pa_weightOf a1 M) := by
  refine x_C_of 2 [some (.ref 9), some (.int a1)] (by decide) ml_41 (Nat.le_of_ble_eq_true rfl) rfl ?_
  rw [pa_weightOf]
  refine xr_2 f_41_0 rfl ?_
  refine xr_30r f_41_1 h_9 rfl ?_
  refine xr_1 f_41_4 rfl ?_
  refine xr_ci f_41_5 (Nat.le_of_ble_eq_true rfl) rfl rfl (xr_rv kd_113 h_12) (Nat.le_of_ble_eq_true rfl) mc_113 ms_113 (c_ro_at 12 a1 M) ?_
  intro x1
  exact xr_51 f_41_8

def pa_wantsAlone (a1 : Int32) (M : e_Me) : Option Int32 :=
  x_bd (ro_at 14 a1 M) fun x1 =>
  if (x1 &&& (1 : Int32)) = 0 then
    some (0 : Int32)
  else
    some (1 : Int32)
theorem c_pa_wantsAlone (a1 : Int32) (M : e_Me) : x_C G 42 [.ref 9, .int a1] M (x_ri M) (pa_wantsAlone a1 M) := by
  refine x_C_of 2 [some (.ref 9), some (.int a1)] (by decide) ml_42 (Nat.le_of_ble_eq_true rfl) rfl ?_
  rw [pa_wantsAlone]
  refine xr_2 f_42_0 rfl ?_
  refine xr_30r f_42_1 h_9 rfl ?_
  refine xr_1 f_42_4 rfl ?_
  refine xr_ci f_42_5 (Nat.le_of_ble_eq_true rfl) rfl rfl (xr_rv kd_113 h_14) (Nat.le_of_ble_eq_true rfl) mc_113 ms_113 (c_ro_at 14 a1 M) ?_
  intro x1
  refine xr_0 f_42_8 ?_
  refine xr_16 f_42_9 ?_
  refine xr_28_0 f_42_10 ?_ ?_
  · refine xr_0 f_42_17 ?_
    exact xr_52c f_42_18 (by decide)
  · refine xr_0 f_42_13 ?_
    refine xr_27 f_42_14 ?_
    exact xr_52c f_42_18 (by decide)

def pa_moveTo (a1 : Int32) (a2 : Int32) (M : e_Me) : Option e_Me :=
  x_bd (ro_set 16 a1 a2 M) fun M1 =>
  some M1
theorem c_pa_moveTo (a1 : Int32) (a2 : Int32) (M : e_Me) : x_C G 43 [.ref 9, .int a1, .int a2] M x_rv (pa_moveTo a1 a2 M) := by
  refine x_C_of 3 [some (.ref 9), some (.int a1), some (.int a2)] (by decide) ml_43 (Nat.le_of_ble_eq_true rfl) rfl ?_
  rw [pa_moveTo]
  refine xr_2 f_43_0 rfl ?_
  refine xr_30r f_43_1 h_9 rfl ?_
  refine xr_1 f_43_4 rfl ?_
  refine xr_1 f_43_5 rfl ?_
  refine xr_cv f_43_6 (Nat.le_of_ble_eq_true rfl) rfl rfl (xr_rv kd_116 h_16) (Nat.le_of_ble_eq_true rfl) mc_116 ms_116 (c_ro_set 16 a1 a2 M) ?_
  intro M1
  exact xr_50 f_43_9

def pa_see (a1 : Int32) (M : e_Me) : Option e_Me :=
  x_bd (ro_set 18 a1 (1 : Int32) M) fun M1 =>
  some M1
theorem c_pa_see (a1 : Int32) (M : e_Me) : x_C G 44 [.ref 9, .int a1] M x_rv (pa_see a1 M) := by
  refine x_C_of 2 [some (.ref 9), some (.int a1)] (by decide) ml_44 (Nat.le_of_ble_eq_true rfl) rfl ?_
  rw [pa_see]
  refine xr_2 f_44_0 rfl ?_
  refine xr_30r f_44_1 h_9 rfl ?_
  refine xr_1 f_44_4 rfl ?_
  refine xr_0 f_44_5 ?_
  refine xr_cv f_44_6 (Nat.le_of_ble_eq_true rfl) rfl rfl (xr_rv kd_116 h_18) (Nat.le_of_ble_eq_true rfl) mc_116 ms_116 (c_ro_set 18 a1 (1 : Int32) M) ?_
  intro M1
  exact xr_50 f_44_9

def pa_timesPassed (a1 : Int32) (M : e_Me) : Option Int32 :=
  x_bd (ro_at 20 a1 M) fun x1 =>
  some x1
theorem c_pa_timesPassed (a1 : Int32) (M : e_Me) : x_C G 45 [.ref 9, .int a1] M (x_ri M) (pa_timesPassed a1 M) := by
  refine x_C_of 2 [some (.ref 9), some (.int a1)] (by decide) ml_45 (Nat.le_of_ble_eq_true rfl) rfl ?_
  rw [pa_timesPassed]
  refine xr_2 f_45_0 rfl ?_
  refine xr_30r f_45_1 h_9 rfl ?_
  refine xr_1 f_45_4 rfl ?_
  refine xr_ci f_45_5 (Nat.le_of_ble_eq_true rfl) rfl rfl (xr_rv kd_113 h_20) (Nat.le_of_ble_eq_true rfl) mc_113 ms_113 (c_ro_at 20 a1 M) ?_
  intro x1
  exact xr_51 f_45_8

def pa_passOver (a1 : Int32) (M : e_Me) : Option e_Me :=
  x_bd (ro_at 20 a1 M) fun x1 =>
  x_bd (ro_set 20 a1 (x1 + (1 : Int32)) M) fun M2 =>
  some M2
theorem c_pa_passOver (a1 : Int32) (M : e_Me) : x_C G 46 [.ref 9, .int a1] M x_rv (pa_passOver a1 M) := by
  refine x_C_of 2 [some (.ref 9), some (.int a1)] (by decide) ml_46 (Nat.le_of_ble_eq_true rfl) rfl ?_
  rw [pa_passOver]
  refine xr_2 f_46_0 rfl ?_
  refine xr_30r f_46_1 h_9 rfl ?_
  refine xr_1 f_46_4 rfl ?_
  refine xr_2 f_46_5 rfl ?_
  refine xr_30r f_46_6 h_9 rfl ?_
  refine xr_1 f_46_9 rfl ?_
  refine xr_ci f_46_10 (Nat.le_of_ble_eq_true rfl) rfl rfl (xr_rv kd_113 h_20) (Nat.le_of_ble_eq_true rfl) mc_113 ms_113 (c_ro_at 20 a1 M) ?_
  intro x1
  refine xr_0 f_46_13 ?_
  refine xr_8 f_46_14 ?_
  refine xr_cv f_46_15 (Nat.le_of_ble_eq_true rfl) rfl rfl (xr_rv kd_116 h_20) (Nat.le_of_ble_eq_true rfl) mc_116 ms_116 (c_ro_set 20 a1 (x1 + (1 : Int32)) M) ?_
  intro M2
  exact xr_50 f_46_18

def pa_tell (a1 : Int32) (a2 : Int32) (M : e_Me) : Option Int32 :=
  if a1 < 0 then
    some (-101 : Int32)
  else
    x_bd (pa_count M) fun x1 =>
    if a1 < x1 then
      if a2 = 0 then
        x_bd (ro_at 10 a1 M) fun x2 =>
        some x2
      else
      if a2 = 1 then
        x_bd (ro_at 12 a1 M) fun x3 =>
        some x3
      else
      if a2 = 2 then
        x_bd (ro_at 14 a1 M) fun x4 =>
        some x4
      else
      if a2 = 3 then
        x_bd (ro_at 16 a1 M) fun x5 =>
        some x5
      else
      if a2 = 4 then
        x_bd (ro_at 18 a1 M) fun x6 =>
        some x6
      else
      if a2 = 5 then
        x_bd (ro_at 20 a1 M) fun x7 =>
        some x7
      else
      some (-102 : Int32)
    else
      some (-101 : Int32)
theorem c_pa_tell (a1 : Int32) (a2 : Int32) (M : e_Me) : x_C G 47 [.ref 9, .int a1, .int a2] M (x_ri M) (pa_tell a1 a2 M) := by
  refine x_C_of 3 [some (.ref 9), some (.int a1), some (.int a2)] (by decide) ml_47 (Nat.le_of_ble_eq_true rfl) rfl ?_
  rw [pa_tell]
  refine xr_1 f_47_0 rfl ?_
  refine xr_28_2 f_47_1 ?_ ?_
  · refine xr_0 f_47_12 ?_
    exact xr_51 f_47_14
  · refine xr_1 f_47_4 rfl ?_
    refine xr_2 f_47_5 rfl ?_
    refine xr_ci f_47_6 (Nat.le_of_ble_eq_true rfl) rfl rfl (xr_rv kd_36 h_9) (Nat.le_of_ble_eq_true rfl) mc_36 ms_36 (c_pa_count M) ?_
    intro x1
    refine xr_29_2 f_47_9 ?_ ?_
    · refine xr_1 f_47_15 rfl ?_
      refine xr_47 f_47_16 rfl ?_
      refine xr_s1 ?_ ?_
      · refine xr_2 f_47_56 rfl ?_
        refine xr_30r f_47_57 h_9 rfl ?_
        refine xr_1 f_47_60 rfl ?_
        refine xr_ci f_47_61 (Nat.le_of_ble_eq_true rfl) rfl rfl (xr_rv kd_113 h_10) (Nat.le_of_ble_eq_true rfl) mc_113 ms_113 (c_ro_at 10 a1 M) ?_
        intro x2
        exact xr_51 f_47_64
      refine xr_s1 ?_ ?_
      · refine xr_2 f_47_65 rfl ?_
        refine xr_30r f_47_66 h_9 rfl ?_
        refine xr_1 f_47_69 rfl ?_
        refine xr_ci f_47_70 (Nat.le_of_ble_eq_true rfl) rfl rfl (xr_rv kd_113 h_12) (Nat.le_of_ble_eq_true rfl) mc_113 ms_113 (c_ro_at 12 a1 M) ?_
        intro x3
        exact xr_51 f_47_73
      refine xr_s1 ?_ ?_
      · refine xr_2 f_47_74 rfl ?_
        refine xr_30r f_47_75 h_9 rfl ?_
        refine xr_1 f_47_78 rfl ?_
        refine xr_ci f_47_79 (Nat.le_of_ble_eq_true rfl) rfl rfl (xr_rv kd_113 h_14) (Nat.le_of_ble_eq_true rfl) mc_113 ms_113 (c_ro_at 14 a1 M) ?_
        intro x4
        exact xr_51 f_47_82
      refine xr_s1 ?_ ?_
      · refine xr_2 f_47_83 rfl ?_
        refine xr_30r f_47_84 h_9 rfl ?_
        refine xr_1 f_47_87 rfl ?_
        refine xr_ci f_47_88 (Nat.le_of_ble_eq_true rfl) rfl rfl (xr_rv kd_113 h_16) (Nat.le_of_ble_eq_true rfl) mc_113 ms_113 (c_ro_at 16 a1 M) ?_
        intro x5
        exact xr_51 f_47_91
      refine xr_s1 ?_ ?_
      · refine xr_2 f_47_92 rfl ?_
        refine xr_30r f_47_93 h_9 rfl ?_
        refine xr_1 f_47_96 rfl ?_
        refine xr_ci f_47_97 (Nat.le_of_ble_eq_true rfl) rfl rfl (xr_rv kd_113 h_18) (Nat.le_of_ble_eq_true rfl) mc_113 ms_113 (c_ro_at 18 a1 M) ?_
        intro x6
        exact xr_51 f_47_100
      refine xr_s1 ?_ ?_
      · refine xr_2 f_47_101 rfl ?_
        refine xr_30r f_47_102 h_9 rfl ?_
        refine xr_1 f_47_105 rfl ?_
        refine xr_ci f_47_106 (Nat.le_of_ble_eq_true rfl) rfl rfl (xr_rv kd_113 h_20) (Nat.le_of_ble_eq_true rfl) mc_113 ms_113 (c_ro_at 20 a1 M) ?_
        intro x7
        exact xr_51 f_47_109
      refine xr_s0 ?_
      refine xr_0 f_47_110 ?_
      exact xr_51 f_47_112
    · refine xr_0 f_47_12 ?_
      exact xr_51 f_47_14

def pa_mixInto_l13 (k2 : Int64 → Int32 → Option Int64) (a3 : Int32) (M : e_Me) : Nat → Int64 → Int32 → Option Int64
  | 0, _, _ => none
  | F + 1, a1, a4 =>
    if (5 : Int32) < a4 then
      k2 a1 (a3 + (1 : Int32))
    else
      x_bd (pa_tell a3 a4 M) fun x1 =>
      x_bd (ew_mix a1 (x1).toInt64 M) fun x2 =>
      x_lt x2 fun y3 =>
      pa_mixInto_l13 k2 a3 M F y3 (a4 + (1 : Int32))
theorem c_pa_mixInto_l13 (k2 : Int64 → Int32 → Option Int64) (a3 : Int32) (M : e_Me) (hk2 : ∀ (a1 : Int64) (a3 : Int32), x_X G 48 0 0 (x_rl M) 2 [some (.ref 9), some (.long a1), none, some (.int a3), none] [] M (k2 a1 a3)) : ∀ (F : Nat) (a1 : Int64) (a4 : Int32), x_X G 48 0 0 (x_rl M) 13 [some (.ref 9), some (.long a1), none, some (.int a3), some (.int a4)] [] M (pa_mixInto_l13 k2 a3 M F a1 a4) := by
  intro F
  induction F with
  | zero => intro a1 a4; exact xr_none
  | succ F ih =>
    intro a1 a4
    rw [pa_mixInto_l13]
    refine xr_1 f_48_13 rfl ?_
    refine xr_0 f_48_15 ?_
    refine xr_29_4 f_48_16 ?_ ?_
    · refine xr_7 [some (.ref 9), some (.long a1), none, some (.int (a3 + (1 : Int32))), some (.int a4)] f_48_38 rfl rfl rfl ?_
      refine xr_27 f_48_41 ?_
      refine xr_wk (L' := [some (.ref 9), some (.long a1), none, some (.int (a3 + (1 : Int32))), none]) [true, true, true, true, false] rfl ?_
      exact hk2 a1 (a3 + (1 : Int32))
    · refine xr_3 f_48_19 rfl ?_
      refine xr_2 f_48_20 rfl ?_
      refine xr_1 f_48_21 rfl ?_
      refine xr_1 f_48_22 rfl ?_
      refine xr_ci f_48_24 (Nat.le_of_ble_eq_true rfl) rfl rfl (xr_rv kd_47 h_9) (Nat.le_of_ble_eq_true rfl) mc_47 ms_47 (c_pa_tell a3 a4 M) ?_
      intro x1
      refine xr_19 f_48_27 ?_
      refine xr_cl f_48_28 (Nat.le_of_ble_eq_true rfl) rfl rfl (xr_rs kd_191) (Nat.le_of_ble_eq_true rfl) mc_191 ms_191 (c_ew_mix a1 (x1).toInt64 M) ?_
      intro x2
      refine xr_6l (fun y3 => [some (.ref 9), some (.long y3), none, some (.int a3), some (.int a4)]) f_48_31 rfl (fun _ => rfl) ?_
      intro y3
      refine xr_7 [some (.ref 9), some (.long y3), none, some (.int a3), some (.int (a4 + (1 : Int32)))] f_48_32 rfl rfl rfl ?_
      refine xr_27 f_48_35 ?_
      exact ih y3 (a4 + (1 : Int32))

def pa_mixInto_l2  (M : e_Me) : Nat → Int64 → Int32 → Option Int64
  | 0, _, _ => none
  | F + 1, a1, a3 =>
    x_bd (pa_count M) fun x1 =>
    if x1 ≤ a3 then
      some a1
    else
      pa_mixInto_l13 (pa_mixInto_l2 M F) a3 M e_F a1 (0 : Int32)
theorem c_pa_mixInto_l2  (M : e_Me)  : ∀ (F : Nat) (a1 : Int64) (a3 : Int32), x_X G 48 0 0 (x_rl M) 2 [some (.ref 9), some (.long a1), none, some (.int a3), none] [] M (pa_mixInto_l2 M F a1 a3) := by
  intro F
  induction F with
  | zero => intro a1 a3; exact xr_none
  | succ F ih =>
    intro a1 a3
    rw [pa_mixInto_l2]
    refine xr_1 f_48_2 rfl ?_
    refine xr_2 f_48_3 rfl ?_
    refine xr_ci f_48_4 (Nat.le_of_ble_eq_true rfl) rfl rfl (xr_rv kd_36 h_9) (Nat.le_of_ble_eq_true rfl) mc_36 ms_36 (c_pa_count M) ?_
    intro x1
    refine xr_29_3 f_48_7 ?_ ?_
    · refine xr_3 f_48_44 rfl ?_
      exact xr_53 f_48_45
    · refine xr_0 f_48_10 ?_
      refine xr_4 [some (.ref 9), some (.long a1), none, some (.int a3), some (.int (0 : Int32))] f_48_11 rfl rfl ?_
      exact c_pa_mixInto_l13 (pa_mixInto_l2 M F) a3 M ih e_F a1 (0 : Int32)

def pa_mixInto (a1 : Int64) (M : e_Me) : Option Int64 :=
  pa_mixInto_l2 M e_F a1 (0 : Int32)
theorem c_pa_mixInto (a1 : Int64) (M : e_Me) : x_C G 48 [.ref 9, .long a1] M (x_rl M) (pa_mixInto a1 M) := by
  refine x_C_of 5 [some (.ref 9), some (.long a1), none, none, none] (by decide) ml_48 (Nat.le_of_ble_eq_true rfl) rfl ?_
  rw [pa_mixInto]
  refine xr_0 f_48_0 ?_
  refine xr_4 [some (.ref 9), some (.long a1), none, some (.int (0 : Int32)), none] f_48_1 rfl rfl ?_
  exact c_pa_mixInto_l2 M e_F a1 (0 : Int32)

def re_dropAll  (M : e_Me) : Option (Int32 × e_Me) :=
  x_bd (ro_count 176 M) fun x1 =>
  x_bd (ro_clear 176 M) fun M2 =>
  x_bd (ro_clear 178 M2) fun M3 =>
  x_bd (ro_clear 180 M3) fun M4 =>
  some (x1, M4)
theorem c_re_dropAll  (M : e_Me) : x_C G 51 [.ref 171] M x_rim (re_dropAll  M) := by
  refine x_C_of 2 [some (.ref 171), none] (by decide) ml_51 (Nat.le_of_ble_eq_true rfl) rfl ?_
  rw [re_dropAll]
  refine xr_2 f_51_0 rfl ?_
  refine xr_30r f_51_1 h_171 rfl ?_
  refine xr_ci f_51_4 (Nat.le_of_ble_eq_true rfl) rfl rfl (xr_rv kd_111 h_176) (Nat.le_of_ble_eq_true rfl) mc_111 ms_111 (c_ro_count 176 M) ?_
  intro x1
  refine xr_4 [some (.ref 171), some (.int x1)] f_51_7 rfl rfl ?_
  refine xr_2 f_51_8 rfl ?_
  refine xr_30r f_51_9 h_171 rfl ?_
  refine xr_cv f_51_12 (Nat.le_of_ble_eq_true rfl) rfl rfl (xr_rv kd_119 h_176) (Nat.le_of_ble_eq_true rfl) mc_119 ms_119 (c_ro_clear 176 M) ?_
  intro M2
  refine xr_2 f_51_15 rfl ?_
  refine xr_30r f_51_16 h_171 rfl ?_
  refine xr_cv f_51_19 (Nat.le_of_ble_eq_true rfl) rfl rfl (xr_rv kd_119 h_178) (Nat.le_of_ble_eq_true rfl) mc_119 ms_119 (c_ro_clear 178 M2) ?_
  intro M3
  refine xr_2 f_51_22 rfl ?_
  refine xr_30r f_51_23 h_171 rfl ?_
  refine xr_cv f_51_26 (Nat.le_of_ble_eq_true rfl) rfl rfl (xr_rv kd_119 h_180) (Nat.le_of_ble_eq_true rfl) mc_119 ms_119 (c_ro_clear 180 M3) ?_
  intro M4
  refine xr_1 f_51_29 rfl ?_
  exact xr_51m f_51_30

def re_startAnew  (M : e_Me) : Option e_Me :=
  x_bi (re_dropAll M) fun x1 M2 =>
  x_bd (ar_fill 172 (0 : Int32) M2) fun M3 =>
  x_bd (ar_fill 173 (900 : Int32) M3) fun M4 =>
  some M4
theorem c_re_startAnew  (M : e_Me) : x_C G 50 [.ref 171] M x_rv (re_startAnew  M) := by
  refine x_C_of 1 [some (.ref 171)] (by decide) ml_50 (Nat.le_of_ble_eq_true rfl) rfl ?_
  rw [re_startAnew]
  refine xr_2 f_50_0 rfl ?_
  refine xr_cim f_50_1 (Nat.le_of_ble_eq_true rfl) rfl rfl (xr_rv kd_51 h_171) (Nat.le_of_ble_eq_true rfl) mc_51 ms_51 (c_re_dropAll M) ?_
  intro x1 M2
  refine xr_26i f_50_4 ?_
  refine xr_2 f_50_5 rfl ?_
  refine xr_30r f_50_6 h_171 rfl ?_
  refine xr_0 f_50_9 ?_
  refine xr_cv f_50_10 (Nat.le_of_ble_eq_true rfl) rfl rfl (xr_rs kd_267) (Nat.le_of_ble_eq_true rfl) mc_267 ms_267 (c_ar_fill 172 (0 : Int32) M2) ?_
  intro M3
  refine xr_2 f_50_13 rfl ?_
  refine xr_30r f_50_14 h_171 rfl ?_
  refine xr_0 f_50_17 ?_
  refine xr_cv f_50_20 (Nat.le_of_ble_eq_true rfl) rfl rfl (xr_rs kd_267) (Nat.le_of_ble_eq_true rfl) mc_267 ms_267 (c_ar_fill 173 (900 : Int32) M3) ?_
  intro M4
  exact xr_50 f_50_23

def re_holds (a0 : Int32) (M : e_Me) : Option Int32 :=
  if a0 < 0 then
    some (0 : Int32)
  else
    if (30 : Int32) ≤ a0 then
      some (0 : Int32)
    else
      some (1 : Int32)
theorem c_re_holds (a0 : Int32) (M : e_Me) : x_C G 52 [.int a0] M (x_ri M) (re_holds a0 M) := by
  refine x_C_of 1 [some (.int a0)] (by decide) ml_52 (Nat.le_of_ble_eq_true rfl) rfl ?_
  rw [re_holds]
  refine xr_1 f_52_0 rfl ?_
  refine xr_28_2 f_52_1 ?_ ?_
  · refine xr_0 f_52_14 ?_
    exact xr_52c f_52_15 (by decide)
  · refine xr_1 f_52_4 rfl ?_
    refine xr_0 f_52_5 ?_
    refine xr_29_3 f_52_7 ?_ ?_
    · refine xr_0 f_52_14 ?_
      exact xr_52c f_52_15 (by decide)
    · refine xr_0 f_52_10 ?_
      refine xr_27 f_52_11 ?_
      exact xr_52c f_52_15 (by decide)

def re_suppose (a1 : Int32) (a2 : Int32) (a3 : Int32) (M : e_Me) : Option (Int32 × e_Me) :=
  x_bd (re_holds a1 M) fun x1 =>
  if x1 = 0 then
    some ((0 : Int32), M)
  else
    if a2 < 0 then
      some ((0 : Int32), M)
    else
      if a3 < a2 then
        some ((0 : Int32), M)
      else
        if a3 ≤ (900 : Int32) then
          x_wr M 172 30 a1 a2 fun M2 =>
          x_wr M2 173 30 a1 a3 fun M3 =>
          some ((1 : Int32), M3)
        else
          some ((0 : Int32), M)
theorem c_re_suppose (a1 : Int32) (a2 : Int32) (a3 : Int32) (M : e_Me) : x_C G 53 [.ref 171, .int a1, .int a2, .int a3] M x_rim (re_suppose a1 a2 a3 M) := by
  refine x_C_of 4 [some (.ref 171), some (.int a1), some (.int a2), some (.int a3)] (by decide) ml_53 (Nat.le_of_ble_eq_true rfl) rfl ?_
  rw [re_suppose]
  refine xr_1 f_53_0 rfl ?_
  refine xr_ci f_53_1 (Nat.le_of_ble_eq_true rfl) rfl rfl (xr_rs kd_52) (Nat.le_of_ble_eq_true rfl) mc_52 ms_52 (c_re_holds a1 M) ?_
  intro x1
  refine xr_28_0 f_53_4 ?_ ?_
  · refine xr_0 f_53_23 ?_
    exact xr_52mc f_53_24 (by decide)
  · refine xr_1 f_53_7 rfl ?_
    refine xr_28_2 f_53_8 ?_ ?_
    · refine xr_0 f_53_23 ?_
      exact xr_52mc f_53_24 (by decide)
    · refine xr_1 f_53_11 rfl ?_
      refine xr_1 f_53_12 rfl ?_
      refine xr_29_4 f_53_13 ?_ ?_
      · refine xr_0 f_53_23 ?_
        exact xr_52mc f_53_24 (by decide)
      · refine xr_1 f_53_16 rfl ?_
        refine xr_0 f_53_17 ?_
        refine xr_29_5 f_53_20 ?_ ?_
        · refine xr_2 f_53_25 rfl ?_
          refine xr_30r f_53_26 h_171 rfl ?_
          refine xr_1 f_53_29 rfl ?_
          refine xr_1 f_53_30 rfl ?_
          refine xr_33 f_53_31 h_172 ?_
          intro M2
          refine xr_2 f_53_32 rfl ?_
          refine xr_30r f_53_33 h_171 rfl ?_
          refine xr_1 f_53_36 rfl ?_
          refine xr_1 f_53_37 rfl ?_
          refine xr_33 f_53_38 h_173 ?_
          intro M3
          refine xr_0 f_53_39 ?_
          exact xr_52mc f_53_40 (by decide)
        · refine xr_0 f_53_23 ?_
          exact xr_52mc f_53_24 (by decide)

def re_allows (a0 : Int32) (a1 : Int32) (M : e_Me) : Option Int32 :=
  if a0 < (-2000000 : Int32) then
    some (0 : Int32)
  else
    if (2000000 : Int32) < a0 then
      some (0 : Int32)
    else
      if a1 < 0 then
        some (0 : Int32)
      else
        if (100000 : Int32) < a1 then
          some (0 : Int32)
        else
          some (1 : Int32)
theorem c_re_allows (a0 : Int32) (a1 : Int32) (M : e_Me) : x_C G 54 [.int a0, .int a1] M (x_ri M) (re_allows a0 a1 M) := by
  refine x_C_of 2 [some (.int a0), some (.int a1)] (by decide) ml_54 (Nat.le_of_ble_eq_true rfl) rfl ?_
  rw [re_allows]
  refine xr_1 f_54_0 rfl ?_
  refine xr_0 f_54_1 ?_
  refine xr_29_2 f_54_3 ?_ ?_
  · refine xr_0 f_54_26 ?_
    exact xr_52c f_54_27 (by decide)
  · refine xr_1 f_54_6 rfl ?_
    refine xr_0 f_54_7 ?_
    refine xr_29_4 f_54_9 ?_ ?_
    · refine xr_0 f_54_26 ?_
      exact xr_52c f_54_27 (by decide)
    · refine xr_1 f_54_12 rfl ?_
      refine xr_28_2 f_54_13 ?_ ?_
      · refine xr_0 f_54_26 ?_
        exact xr_52c f_54_27 (by decide)
      · refine xr_1 f_54_16 rfl ?_
        refine xr_0 f_54_17 ?_
        refine xr_29_4 f_54_19 ?_ ?_
        · refine xr_0 f_54_26 ?_
          exact xr_52c f_54_27 (by decide)
        · refine xr_0 f_54_22 ?_
          refine xr_27 f_54_23 ?_
          exact xr_52c f_54_27 (by decide)

def re_write (a1 : Int32) (a2 : Int32) (a3 : Int32) (M : e_Me) : Option (Int32 × e_Me) :=
  x_bd (ro_hasRoom 176 M) fun x1 =>
  if x1 = 0 then
    some ((-104 : Int32), M)
  else
    x_bd (ro_append 176 a1 M) fun M2 =>
    x_bd (ro_append 178 a2 M2) fun M3 =>
    x_bd (ro_append 180 a3 M3) fun M4 =>
    x_bd (ro_count 176 M4) fun x5 =>
    some (x5, M4)
theorem c_re_write (a1 : Int32) (a2 : Int32) (a3 : Int32) (M : e_Me) : x_C G 55 [.ref 171, .int a1, .int a2, .int a3] M x_rim (re_write a1 a2 a3 M) := by
  refine x_C_of 4 [some (.ref 171), some (.int a1), some (.int a2), some (.int a3)] (by decide) ml_55 (Nat.le_of_ble_eq_true rfl) rfl ?_
  rw [re_write]
  refine xr_2 f_55_0 rfl ?_
  refine xr_30r f_55_1 h_171 rfl ?_
  refine xr_ci f_55_4 (Nat.le_of_ble_eq_true rfl) rfl rfl (xr_rv kd_112 h_176) (Nat.le_of_ble_eq_true rfl) mc_112 ms_112 (c_ro_hasRoom 176 M) ?_
  intro x1
  refine xr_28_1 f_55_7 ?_ ?_
  · refine xr_2 f_55_13 rfl ?_
    refine xr_30r f_55_14 h_171 rfl ?_
    refine xr_1 f_55_17 rfl ?_
    refine xr_cv f_55_18 (Nat.le_of_ble_eq_true rfl) rfl rfl (xr_rv kd_115 h_176) (Nat.le_of_ble_eq_true rfl) mc_115 ms_115 (c_ro_append 176 a1 M) ?_
    intro M2
    refine xr_2 f_55_21 rfl ?_
    refine xr_30r f_55_22 h_171 rfl ?_
    refine xr_1 f_55_25 rfl ?_
    refine xr_cv f_55_26 (Nat.le_of_ble_eq_true rfl) rfl rfl (xr_rv kd_115 h_178) (Nat.le_of_ble_eq_true rfl) mc_115 ms_115 (c_ro_append 178 a2 M2) ?_
    intro M3
    refine xr_2 f_55_29 rfl ?_
    refine xr_30r f_55_30 h_171 rfl ?_
    refine xr_1 f_55_33 rfl ?_
    refine xr_cv f_55_34 (Nat.le_of_ble_eq_true rfl) rfl rfl (xr_rv kd_115 h_180) (Nat.le_of_ble_eq_true rfl) mc_115 ms_115 (c_ro_append 180 a3 M3) ?_
    intro M4
    refine xr_2 f_55_37 rfl ?_
    refine xr_30r f_55_38 h_171 rfl ?_
    refine xr_ci f_55_41 (Nat.le_of_ble_eq_true rfl) rfl rfl (xr_rv kd_111 h_176) (Nat.le_of_ble_eq_true rfl) mc_111 ms_111 (c_ro_count 176 M4) ?_
    intro x5
    exact xr_51m f_55_44
  · refine xr_0 f_55_10 ?_
    exact xr_51m f_55_12

def re_lowOf (a1 : Int32) (M : e_Me) : Option Int32 :=
  x_bd (re_holds a1 M) fun x1 =>
  if x1 = 0 then
    some (-1 : Int32)
  else
    x_rd (M 174) 30 a1 fun x2 =>
    some x2
theorem c_re_lowOf (a1 : Int32) (M : e_Me) : x_C G 56 [.ref 171, .int a1] M (x_ri M) (re_lowOf a1 M) := by
  refine x_C_of 2 [some (.ref 171), some (.int a1)] (by decide) ml_56 (Nat.le_of_ble_eq_true rfl) rfl ?_
  rw [re_lowOf]
  refine xr_1 f_56_0 rfl ?_
  refine xr_ci f_56_1 (Nat.le_of_ble_eq_true rfl) rfl rfl (xr_rs kd_52) (Nat.le_of_ble_eq_true rfl) mc_52 ms_52 (c_re_holds a1 M) ?_
  intro x1
  refine xr_28_0 f_56_4 ?_ ?_
  · refine xr_0 f_56_16 ?_
    exact xr_51 f_56_17
  · refine xr_2 f_56_7 rfl ?_
    refine xr_30r f_56_8 h_171 rfl ?_
    refine xr_1 f_56_11 rfl ?_
    refine xr_32 f_56_12 h_174 ?_
    intro x2
    refine xr_27 f_56_13 ?_
    exact xr_51 f_56_17

def re_highOf (a1 : Int32) (M : e_Me) : Option Int32 :=
  x_bd (re_holds a1 M) fun x1 =>
  if x1 = 0 then
    some (-1 : Int32)
  else
    x_rd (M 175) 30 a1 fun x2 =>
    some x2
theorem c_re_highOf (a1 : Int32) (M : e_Me) : x_C G 57 [.ref 171, .int a1] M (x_ri M) (re_highOf a1 M) := by
  refine x_C_of 2 [some (.ref 171), some (.int a1)] (by decide) ml_57 (Nat.le_of_ble_eq_true rfl) rfl ?_
  rw [re_highOf]
  refine xr_1 f_57_0 rfl ?_
  refine xr_ci f_57_1 (Nat.le_of_ble_eq_true rfl) rfl rfl (xr_rs kd_52) (Nat.le_of_ble_eq_true rfl) mc_52 ms_52 (c_re_holds a1 M) ?_
  intro x1
  refine xr_28_0 f_57_4 ?_ ?_
  · refine xr_0 f_57_16 ?_
    exact xr_51 f_57_17
  · refine xr_2 f_57_7 rfl ?_
    refine xr_30r f_57_8 h_171 rfl ?_
    refine xr_1 f_57_11 rfl ?_
    refine xr_32 f_57_12 h_175 ?_
    intro x2
    refine xr_27 f_57_13 ?_
    exact xr_51 f_57_17

def re_leastOf (a1 : Int32) (a2 : Int32) (M : e_Me) : Option Int32 :=
  x_bd (wh_armOf a1 a2 M) fun x1 =>
  if x1 ≤ 0 then
    x_bd (re_highOf a1 M) fun x2 =>
    some (x1 * x2)
  else
    x_bd (re_lowOf a1 M) fun x3 =>
    some (x1 * x3)
theorem c_re_leastOf (a1 : Int32) (a2 : Int32) (M : e_Me) : x_C G 60 [.ref 171, .int a1, .int a2] M (x_ri M) (re_leastOf a1 a2 M) := by
  refine x_C_of 4 [some (.ref 171), some (.int a1), some (.int a2), none] (by decide) ml_60 (Nat.le_of_ble_eq_true rfl) rfl ?_
  rw [re_leastOf]
  refine xr_2 f_60_0 rfl ?_
  refine xr_30r f_60_1 h_171 rfl ?_
  refine xr_1 f_60_4 rfl ?_
  refine xr_1 f_60_5 rfl ?_
  refine xr_ci f_60_6 (Nat.le_of_ble_eq_true rfl) rfl rfl (xr_rv kd_144 h_3) (Nat.le_of_ble_eq_true rfl) mc_144 ms_144 (c_wh_armOf a1 a2 M) ?_
  intro x1
  refine xr_4 [some (.ref 171), some (.int a1), some (.int a2), some (.int x1)] f_60_9 rfl rfl ?_
  refine xr_1 f_60_10 rfl ?_
  refine xr_1 f_60_11 rfl ?_
  refine xr_28_5 f_60_12 ?_ ?_
  · refine xr_2 f_60_23 rfl ?_
    refine xr_1 f_60_24 rfl ?_
    refine xr_ci f_60_25 (Nat.le_of_ble_eq_true rfl) rfl rfl (xr_rv kd_57 h_171) (Nat.le_of_ble_eq_true rfl) mc_57 ms_57 (c_re_highOf a1 M) ?_
    intro x2
    refine xr_10 f_60_28 ?_
    exact xr_51 f_60_29
  · refine xr_2 f_60_15 rfl ?_
    refine xr_1 f_60_16 rfl ?_
    refine xr_ci f_60_17 (Nat.le_of_ble_eq_true rfl) rfl rfl (xr_rv kd_56 h_171) (Nat.le_of_ble_eq_true rfl) mc_56 ms_56 (c_re_lowOf a1 M) ?_
    intro x3
    refine xr_27 f_60_20 ?_
    refine xr_10 f_60_28 ?_
    exact xr_51 f_60_29

def re_mostOf (a1 : Int32) (a2 : Int32) (M : e_Me) : Option Int32 :=
  x_bd (wh_armOf a1 a2 M) fun x1 =>
  if x1 ≤ 0 then
    x_bd (re_lowOf a1 M) fun x2 =>
    some (x1 * x2)
  else
    x_bd (re_highOf a1 M) fun x3 =>
    some (x1 * x3)
theorem c_re_mostOf (a1 : Int32) (a2 : Int32) (M : e_Me) : x_C G 61 [.ref 171, .int a1, .int a2] M (x_ri M) (re_mostOf a1 a2 M) := by
  refine x_C_of 4 [some (.ref 171), some (.int a1), some (.int a2), none] (by decide) ml_61 (Nat.le_of_ble_eq_true rfl) rfl ?_
  rw [re_mostOf]
  refine xr_2 f_61_0 rfl ?_
  refine xr_30r f_61_1 h_171 rfl ?_
  refine xr_1 f_61_4 rfl ?_
  refine xr_1 f_61_5 rfl ?_
  refine xr_ci f_61_6 (Nat.le_of_ble_eq_true rfl) rfl rfl (xr_rv kd_144 h_3) (Nat.le_of_ble_eq_true rfl) mc_144 ms_144 (c_wh_armOf a1 a2 M) ?_
  intro x1
  refine xr_4 [some (.ref 171), some (.int a1), some (.int a2), some (.int x1)] f_61_9 rfl rfl ?_
  refine xr_1 f_61_10 rfl ?_
  refine xr_1 f_61_11 rfl ?_
  refine xr_28_5 f_61_12 ?_ ?_
  · refine xr_2 f_61_23 rfl ?_
    refine xr_1 f_61_24 rfl ?_
    refine xr_ci f_61_25 (Nat.le_of_ble_eq_true rfl) rfl rfl (xr_rv kd_56 h_171) (Nat.le_of_ble_eq_true rfl) mc_56 ms_56 (c_re_lowOf a1 M) ?_
    intro x2
    refine xr_10 f_61_28 ?_
    exact xr_51 f_61_29
  · refine xr_2 f_61_15 rfl ?_
    refine xr_1 f_61_16 rfl ?_
    refine xr_ci f_61_17 (Nat.le_of_ble_eq_true rfl) rfl rfl (xr_rv kd_57 h_171) (Nat.le_of_ble_eq_true rfl) mc_57 ms_57 (c_re_highOf a1 M) ?_
    intro x3
    refine xr_27 f_61_20 ?_
    refine xr_10 f_61_28 ?_
    exact xr_51 f_61_29

def re_dividedDown (a0 : Int32) (a1 : Int32) (M : e_Me) : Option Int32 :=
  if a1 = 0 then
    some (0 : Int32)
  else
    x_bd (ma_floorDiv a0 a1 M) fun x1 =>
    some x1
theorem c_re_dividedDown (a0 : Int32) (a1 : Int32) (M : e_Me) : x_C G 63 [.int a0, .int a1] M (x_ri M) (re_dividedDown a0 a1 M) := by
  refine x_C_of 2 [some (.int a0), some (.int a1)] (by decide) ml_63 (Nat.le_of_ble_eq_true rfl) rfl ?_
  rw [re_dividedDown]
  refine xr_1 f_63_0 rfl ?_
  refine xr_28_1 f_63_1 ?_ ?_
  · refine xr_1 f_63_8 rfl ?_
    refine xr_1 f_63_9 rfl ?_
    refine xr_ci f_63_10 (Nat.le_of_ble_eq_true rfl) rfl rfl (xr_rs kd_263) (Nat.le_of_ble_eq_true rfl) mc_263 ms_263 (c_ma_floorDiv a0 a1 M) ?_
    intro x1
    exact xr_51 f_63_13
  · refine xr_0 f_63_4 ?_
    refine xr_27 f_63_5 ?_
    exact xr_51 f_63_13

def re_dividedUp (a0 : Int32) (a1 : Int32) (M : e_Me) : Option Int32 :=
  x_bd (re_dividedDown (-a0) a1 M) fun x1 =>
  some (-x1)
theorem c_re_dividedUp (a0 : Int32) (a1 : Int32) (M : e_Me) : x_C G 64 [.int a0, .int a1] M (x_ri M) (re_dividedUp a0 a1 M) := by
  refine x_C_of 2 [some (.int a0), some (.int a1)] (by decide) ml_64 (Nat.le_of_ble_eq_true rfl) rfl ?_
  rw [re_dividedUp]
  refine xr_1 f_64_0 rfl ?_
  refine xr_11 f_64_1 ?_
  refine xr_1 f_64_2 rfl ?_
  refine xr_ci f_64_3 (Nat.le_of_ble_eq_true rfl) rfl rfl (xr_rs kd_63) (Nat.le_of_ble_eq_true rfl) mc_63 ms_63 (c_re_dividedDown (-a0) a1 M) ?_
  intro x1
  refine xr_11 f_64_6 ?_
  exact xr_51 f_64_7

def re_narrowCabin_b11  (a3 : Int32) (a4 : Int32) (M : e_Me) : Option (Int32 × e_Me) :=
  if 0 < a3 then
    some ((0 : Int32), M)
  else
    if a4 < 0 then
      some ((0 : Int32), M)
    else
      some ((1 : Int32), M)
theorem c_re_narrowCabin_b11  (a3 : Int32) (a4 : Int32) (M : e_Me)  : x_X G 62 0 0 x_rim 11 [none, none, none, some (.int a3), some (.int a4)] [] M (re_narrowCabin_b11 a3 a4 M) := by
  rw [re_narrowCabin_b11]
  refine xr_1 f_62_11 rfl ?_
  refine xr_28_4 f_62_12 ?_ ?_
  · refine xr_0 f_62_24 ?_
    exact xr_52mc f_62_25 (by decide)
  · refine xr_1 f_62_15 rfl ?_
    refine xr_28_2 f_62_17 ?_ ?_
    · refine xr_0 f_62_24 ?_
      exact xr_52mc f_62_25 (by decide)
    · refine xr_0 f_62_20 ?_
      refine xr_27 f_62_21 ?_
      exact xr_52mc f_62_25 (by decide)

def re_narrowCabin_b76  (a1 : Int32) (a2 : Int32) (s0 : Int32) (s1 : Int32) (s2 : Int32) (M : e_Me) : Option (Int32 × e_Me) :=
  x_bd (re_dividedDown s0 a2 M) fun x1 =>
  x_bd (ma_min s1 x1 M) fun x2 =>
  x_wr M 175 30 s2 x2 fun M3 =>
  x_rd (M3 174) 30 a1 fun x4 =>
  x_rd (M3 175) 30 a1 fun x5 =>
  if x5 < x4 then
    some ((0 : Int32), M3)
  else
    some ((1 : Int32), M3)
theorem c_re_narrowCabin_b76  (a1 : Int32) (a2 : Int32) (s0 : Int32) (s1 : Int32) (s2 : Int32) (M : e_Me)  : x_X G 62 0 0 x_rim 76 [some (.ref 171), some (.int a1), some (.int a2), none, none] [.int s0, .int s1, .int s2, .ref 175] M (re_narrowCabin_b76 a1 a2 s0 s1 s2 M) := by
  rw [re_narrowCabin_b76]
  refine xr_1 f_62_76 rfl ?_
  refine xr_ci f_62_77 (Nat.le_of_ble_eq_true rfl) rfl rfl (xr_rs kd_63) (Nat.le_of_ble_eq_true rfl) mc_63 ms_63 (c_re_dividedDown s0 a2 M) ?_
  intro x1
  refine xr_ci f_62_80 (Nat.le_of_ble_eq_true rfl) rfl rfl (xr_rs kd_266) (Nat.le_of_ble_eq_true rfl) mc_266 ms_266 (c_ma_min s1 x1 M) ?_
  intro x2
  refine xr_33 f_62_83 h_175 ?_
  intro M3
  refine xr_2 f_62_84 rfl ?_
  refine xr_30r f_62_85 h_171 rfl ?_
  refine xr_1 f_62_88 rfl ?_
  refine xr_32 f_62_89 h_174 ?_
  intro x4
  refine xr_2 f_62_90 rfl ?_
  refine xr_30r f_62_91 h_171 rfl ?_
  refine xr_1 f_62_94 rfl ?_
  refine xr_32 f_62_95 h_175 ?_
  intro x5
  refine xr_29_4 f_62_96 ?_ ?_
  · refine xr_0 f_62_103 ?_
    exact xr_52mc f_62_104 (by decide)
  · refine xr_0 f_62_99 ?_
    refine xr_27 f_62_100 ?_
    exact xr_52mc f_62_104 (by decide)

def re_narrowCabin_b47  (a1 : Int32) (a2 : Int32) (a3 : Int32) (a4 : Int32) (s0 : Int32) (s1 : Int32) (s2 : Int32) (M : e_Me) : Option (Int32 × e_Me) :=
  x_bd (re_dividedUp s0 a2 M) fun x1 =>
  x_bd (ma_max s1 x1 M) fun x2 =>
  x_wr M 174 30 s2 x2 fun M3 =>
  x_rd (M3 175) 30 a1 fun x4 =>
  if a2 ≤ 0 then
    re_narrowCabin_b76 a1 a2 a3 x4 a1 M3
  else
    re_narrowCabin_b76 a1 a2 a4 x4 a1 M3
theorem c_re_narrowCabin_b47  (a1 : Int32) (a2 : Int32) (a3 : Int32) (a4 : Int32) (s0 : Int32) (s1 : Int32) (s2 : Int32) (M : e_Me)  : x_X G 62 0 0 x_rim 47 [some (.ref 171), some (.int a1), some (.int a2), some (.int a3), some (.int a4)] [.int s0, .int s1, .int s2, .ref 174] M (re_narrowCabin_b47 a1 a2 a3 a4 s0 s1 s2 M) := by
  rw [re_narrowCabin_b47]
  refine xr_1 f_62_47 rfl ?_
  refine xr_ci f_62_48 (Nat.le_of_ble_eq_true rfl) rfl rfl (xr_rs kd_64) (Nat.le_of_ble_eq_true rfl) mc_64 ms_64 (c_re_dividedUp s0 a2 M) ?_
  intro x1
  refine xr_ci f_62_51 (Nat.le_of_ble_eq_true rfl) rfl rfl (xr_rs kd_265) (Nat.le_of_ble_eq_true rfl) mc_265 ms_265 (c_ma_max s1 x1 M) ?_
  intro x2
  refine xr_33 f_62_54 h_174 ?_
  intro M3
  refine xr_2 f_62_55 rfl ?_
  refine xr_30r f_62_56 h_171 rfl ?_
  refine xr_1 f_62_59 rfl ?_
  refine xr_2 f_62_60 rfl ?_
  refine xr_30r f_62_61 h_171 rfl ?_
  refine xr_1 f_62_64 rfl ?_
  refine xr_32 f_62_65 h_175 ?_
  intro x4
  refine xr_1 f_62_66 rfl ?_
  refine xr_28_5 f_62_67 ?_ ?_
  · refine xr_1 f_62_75 rfl ?_
    refine xr_wk (L' := [some (.ref 171), some (.int a1), some (.int a2), none, none]) [true, true, true, false, false] rfl ?_
    exact c_re_narrowCabin_b76 a1 a2 a3 x4 a1 M3
  · refine xr_1 f_62_70 rfl ?_
    refine xr_27 f_62_72 ?_
    refine xr_wk (L' := [some (.ref 171), some (.int a1), some (.int a2), none, none]) [true, true, true, false, false] rfl ?_
    exact c_re_narrowCabin_b76 a1 a2 a4 x4 a1 M3

def re_narrowCabin (a1 : Int32) (a2 : Int32) (a3 : Int32) (a4 : Int32) (M : e_Me) : Option (Int32 × e_Me) :=
  if a2 = 0 then
    re_narrowCabin_b11 a3 a4 M
  else
    x_bd (re_holds a1 M) fun x1 =>
    if x1 = 0 then
      re_narrowCabin_b11 a3 a4 M
    else
      x_rd (M 174) 30 a1 fun x2 =>
      if a2 ≤ 0 then
        re_narrowCabin_b47 a1 a2 a3 a4 a4 x2 a1 M
      else
        re_narrowCabin_b47 a1 a2 a3 a4 a3 x2 a1 M
theorem c_re_narrowCabin (a1 : Int32) (a2 : Int32) (a3 : Int32) (a4 : Int32) (M : e_Me) : x_C G 62 [.ref 171, .int a1, .int a2, .int a3, .int a4] M x_rim (re_narrowCabin a1 a2 a3 a4 M) := by
  refine x_C_of 5 [some (.ref 171), some (.int a1), some (.int a2), some (.int a3), some (.int a4)] (by decide) ml_62 (Nat.le_of_ble_eq_true rfl) rfl ?_
  rw [re_narrowCabin]
  refine xr_1 f_62_0 rfl ?_
  refine xr_28_0 f_62_1 ?_ ?_
  · refine xr_wk (L' := [none, none, none, some (.int a3), some (.int a4)]) [false, false, false, true, true] rfl ?_
    exact c_re_narrowCabin_b11 a3 a4 M
  · refine xr_1 f_62_4 rfl ?_
    refine xr_ci f_62_5 (Nat.le_of_ble_eq_true rfl) rfl rfl (xr_rs kd_52) (Nat.le_of_ble_eq_true rfl) mc_52 ms_52 (c_re_holds a1 M) ?_
    intro x1
    refine xr_28_1 f_62_8 ?_ ?_
    · refine xr_2 f_62_26 rfl ?_
      refine xr_30r f_62_27 h_171 rfl ?_
      refine xr_1 f_62_30 rfl ?_
      refine xr_2 f_62_31 rfl ?_
      refine xr_30r f_62_32 h_171 rfl ?_
      refine xr_1 f_62_35 rfl ?_
      refine xr_32 f_62_36 h_174 ?_
      intro x2
      refine xr_1 f_62_37 rfl ?_
      refine xr_28_5 f_62_38 ?_ ?_
      · refine xr_1 f_62_45 rfl ?_
        exact c_re_narrowCabin_b47 a1 a2 a3 a4 a4 x2 a1 M
      · refine xr_1 f_62_41 rfl ?_
        refine xr_27 f_62_42 ?_
        exact c_re_narrowCabin_b47 a1 a2 a3 a4 a3 x2 a1 M
    · refine xr_wk (L' := [none, none, none, some (.int a3), some (.int a4)]) [false, false, false, true, true] rfl ?_
      exact c_re_narrowCabin_b11 a3 a4 M

def re_narrowBy_l60  (a1 : Int32) (a2 : Int32) : Nat → Int32 → Int32 → Int32 → e_Me → Option (Int32 × e_Me)
  | 0, _, _, _, _ => none
  | F + 1, a3, a4, a5, M =>
    x_bd (wh_count M) fun x1 =>
    if x1 ≤ a5 then
      some ((1 : Int32), M)
    else
      x_bd (re_leastOf a5 a2 M) fun x2 =>
      x_lt (a3 - x2) fun y3 =>
      x_bd (re_mostOf a5 a2 M) fun x4 =>
      x_lt (a4 - x4) fun y5 =>
      x_bd (ro_at 178 a1 M) fun x6 =>
      x_bd (ro_at 180 a1 M) fun x7 =>
      x_lt ((x6 - x7) - y5) fun y8 =>
      x_bd (ro_at 178 a1 M) fun x9 =>
      x_bd (ro_at 180 a1 M) fun x10 =>
      x_lt ((x9 + x10) - y3) fun y11 =>
      x_bd (wh_armOf a5 a2 M) fun x12 =>
      x_bi (re_narrowCabin a5 x12 y8 y11 M) fun x13 M14 =>
      if x13 = 0 then
        some ((0 : Int32), M14)
      else
        x_bd (re_leastOf a5 a2 M14) fun x15 =>
        x_lt (y3 + x15) fun y16 =>
        x_bd (re_mostOf a5 a2 M14) fun x17 =>
        x_lt (y5 + x17) fun y18 =>
        re_narrowBy_l60 a1 a2 F y16 y18 (a5 + (1 : Int32)) M14
theorem c_re_narrowBy_l60  (a1 : Int32) (a2 : Int32)  : ∀ (F : Nat) (a3 : Int32) (a4 : Int32) (a5 : Int32) (M : e_Me), x_X G 59 0 0 x_rim 60 [some (.ref 171), some (.int a1), some (.int a2), some (.int a3), some (.int a4), some (.int a5), none, none, none, none] [] M (re_narrowBy_l60 a1 a2 F a3 a4 a5 M) := by
  intro F
  induction F with
  | zero => intro a3 a4 a5 M; exact xr_none
  | succ F ih =>
    intro a3 a4 a5 M
    rw [re_narrowBy_l60]
    refine xr_1 f_59_60 rfl ?_
    refine xr_2 f_59_62 rfl ?_
    refine xr_30r f_59_63 h_171 rfl ?_
    refine xr_ci f_59_66 (Nat.le_of_ble_eq_true rfl) rfl rfl (xr_rv kd_133 h_3) (Nat.le_of_ble_eq_true rfl) mc_133 ms_133 (c_wh_count M) ?_
    intro x1
    refine xr_29_3 f_59_69 ?_ ?_
    · refine xr_0 f_59_193 ?_
      exact xr_52mc f_59_194 (by decide)
    · refine xr_1 f_59_72 rfl ?_
      refine xr_2 f_59_73 rfl ?_
      refine xr_1 f_59_74 rfl ?_
      refine xr_1 f_59_76 rfl ?_
      refine xr_ci f_59_77 (Nat.le_of_ble_eq_true rfl) rfl rfl (xr_rv kd_60 h_171) (Nat.le_of_ble_eq_true rfl) mc_60 ms_60 (c_re_leastOf a5 a2 M) ?_
      intro x2
      refine xr_9 f_59_80 ?_
      refine xr_4l (fun y3 => [some (.ref 171), some (.int a1), some (.int a2), some (.int a3), some (.int a4), some (.int a5), some (.int y3), none, none, none]) f_59_81 rfl (fun _ => rfl) ?_
      intro y3
      refine xr_1 f_59_83 rfl ?_
      refine xr_2 f_59_85 rfl ?_
      refine xr_1 f_59_86 rfl ?_
      refine xr_1 f_59_88 rfl ?_
      refine xr_ci f_59_89 (Nat.le_of_ble_eq_true rfl) rfl rfl (xr_rv kd_61 h_171) (Nat.le_of_ble_eq_true rfl) mc_61 ms_61 (c_re_mostOf a5 a2 M) ?_
      intro x4
      refine xr_9 f_59_92 ?_
      refine xr_4l (fun y5 => [some (.ref 171), some (.int a1), some (.int a2), some (.int a3), some (.int a4), some (.int a5), some (.int y3), some (.int y5), none, none]) f_59_93 rfl (fun _ => rfl) ?_
      intro y5
      refine xr_2 f_59_95 rfl ?_
      refine xr_30r f_59_96 h_171 rfl ?_
      refine xr_1 f_59_99 rfl ?_
      refine xr_ci f_59_100 (Nat.le_of_ble_eq_true rfl) rfl rfl (xr_rv kd_113 h_178) (Nat.le_of_ble_eq_true rfl) mc_113 ms_113 (c_ro_at 178 a1 M) ?_
      intro x6
      refine xr_2 f_59_103 rfl ?_
      refine xr_30r f_59_104 h_171 rfl ?_
      refine xr_1 f_59_107 rfl ?_
      refine xr_ci f_59_108 (Nat.le_of_ble_eq_true rfl) rfl rfl (xr_rv kd_113 h_180) (Nat.le_of_ble_eq_true rfl) mc_113 ms_113 (c_ro_at 180 a1 M) ?_
      intro x7
      refine xr_9 f_59_111 ?_
      refine xr_1 f_59_112 rfl ?_
      refine xr_9 f_59_114 ?_
      refine xr_4l (fun y8 => [some (.ref 171), some (.int a1), some (.int a2), some (.int a3), some (.int a4), some (.int a5), some (.int y3), some (.int y5), some (.int y8), none]) f_59_115 rfl (fun _ => rfl) ?_
      intro y8
      refine xr_2 f_59_117 rfl ?_
      refine xr_30r f_59_118 h_171 rfl ?_
      refine xr_1 f_59_121 rfl ?_
      refine xr_ci f_59_122 (Nat.le_of_ble_eq_true rfl) rfl rfl (xr_rv kd_113 h_178) (Nat.le_of_ble_eq_true rfl) mc_113 ms_113 (c_ro_at 178 a1 M) ?_
      intro x9
      refine xr_2 f_59_125 rfl ?_
      refine xr_30r f_59_126 h_171 rfl ?_
      refine xr_1 f_59_129 rfl ?_
      refine xr_ci f_59_130 (Nat.le_of_ble_eq_true rfl) rfl rfl (xr_rv kd_113 h_180) (Nat.le_of_ble_eq_true rfl) mc_113 ms_113 (c_ro_at 180 a1 M) ?_
      intro x10
      refine xr_8 f_59_133 ?_
      refine xr_1 f_59_134 rfl ?_
      refine xr_9 f_59_136 ?_
      refine xr_4l (fun y11 => [some (.ref 171), some (.int a1), some (.int a2), some (.int a3), some (.int a4), some (.int a5), some (.int y3), some (.int y5), some (.int y8), some (.int y11)]) f_59_137 rfl (fun _ => rfl) ?_
      intro y11
      refine xr_2 f_59_139 rfl ?_
      refine xr_1 f_59_140 rfl ?_
      refine xr_2 f_59_142 rfl ?_
      refine xr_30r f_59_143 h_171 rfl ?_
      refine xr_1 f_59_146 rfl ?_
      refine xr_1 f_59_148 rfl ?_
      refine xr_ci f_59_149 (Nat.le_of_ble_eq_true rfl) rfl rfl (xr_rv kd_144 h_3) (Nat.le_of_ble_eq_true rfl) mc_144 ms_144 (c_wh_armOf a5 a2 M) ?_
      intro x12
      refine xr_1 f_59_152 rfl ?_
      refine xr_1 f_59_154 rfl ?_
      refine xr_cim f_59_156 (Nat.le_of_ble_eq_true rfl) rfl rfl (xr_rv kd_62 h_171) (Nat.le_of_ble_eq_true rfl) mc_62 ms_62 (c_re_narrowCabin a5 x12 y8 y11 M) ?_
      intro x13 M14
      refine xr_28_1 f_59_159 ?_ ?_
      · refine xr_1 f_59_164 rfl ?_
        refine xr_2 f_59_166 rfl ?_
        refine xr_1 f_59_167 rfl ?_
        refine xr_1 f_59_169 rfl ?_
        refine xr_ci f_59_170 (Nat.le_of_ble_eq_true rfl) rfl rfl (xr_rv kd_60 h_171) (Nat.le_of_ble_eq_true rfl) mc_60 ms_60 (c_re_leastOf a5 a2 M14) ?_
        intro x15
        refine xr_8 f_59_173 ?_
        refine xr_4l (fun y16 => [some (.ref 171), some (.int a1), some (.int a2), some (.int y16), some (.int a4), some (.int a5), some (.int y3), some (.int y5), some (.int y8), some (.int y11)]) f_59_174 rfl (fun _ => rfl) ?_
        intro y16
        refine xr_1 f_59_175 rfl ?_
        refine xr_2 f_59_177 rfl ?_
        refine xr_1 f_59_178 rfl ?_
        refine xr_1 f_59_180 rfl ?_
        refine xr_ci f_59_181 (Nat.le_of_ble_eq_true rfl) rfl rfl (xr_rv kd_61 h_171) (Nat.le_of_ble_eq_true rfl) mc_61 ms_61 (c_re_mostOf a5 a2 M14) ?_
        intro x17
        refine xr_8 f_59_184 ?_
        refine xr_4l (fun y18 => [some (.ref 171), some (.int a1), some (.int a2), some (.int y16), some (.int y18), some (.int a5), some (.int y3), some (.int y5), some (.int y8), some (.int y11)]) f_59_185 rfl (fun _ => rfl) ?_
        intro y18
        refine xr_7 [some (.ref 171), some (.int a1), some (.int a2), some (.int y16), some (.int y18), some (.int (a5 + (1 : Int32))), some (.int y3), some (.int y5), some (.int y8), some (.int y11)] f_59_187 rfl rfl rfl ?_
        refine xr_27 f_59_190 ?_
        refine xr_wk (L' := [some (.ref 171), some (.int a1), some (.int a2), some (.int y16), some (.int y18), some (.int (a5 + (1 : Int32))), none, none, none, none]) [true, true, true, true, true, true, false, false, false, false] rfl ?_
        exact ih y16 y18 (a5 + (1 : Int32)) M14
      · refine xr_0 f_59_162 ?_
        exact xr_52mc f_59_163 (by decide)

def re_narrowBy_l17  (a1 : Int32) (a2 : Int32) (M : e_Me) : Nat → Int32 → Int32 → Int32 → Option (Int32 × e_Me)
  | 0, _, _, _ => none
  | F + 1, a3, a4, a5 =>
    x_bd (wh_count M) fun x1 =>
    if x1 ≤ a5 then
      re_narrowBy_l60 a1 a2 e_F a3 a4 (0 : Int32) M
    else
      x_bd (re_leastOf a5 a2 M) fun x2 =>
      x_lt (a3 + x2) fun y3 =>
      x_bd (re_mostOf a5 a2 M) fun x4 =>
      x_lt (a4 + x4) fun y5 =>
      re_narrowBy_l17 a1 a2 M F y3 y5 (a5 + (1 : Int32))
theorem c_re_narrowBy_l17  (a1 : Int32) (a2 : Int32) (M : e_Me)  : ∀ (F : Nat) (a3 : Int32) (a4 : Int32) (a5 : Int32), x_X G 59 0 0 x_rim 17 [some (.ref 171), some (.int a1), some (.int a2), some (.int a3), some (.int a4), some (.int a5), none, none, none, none] [] M (re_narrowBy_l17 a1 a2 M F a3 a4 a5) := by
  intro F
  induction F with
  | zero => intro a3 a4 a5; exact xr_none
  | succ F ih =>
    intro a3 a4 a5
    rw [re_narrowBy_l17]
    refine xr_1 f_59_17 rfl ?_
    refine xr_2 f_59_19 rfl ?_
    refine xr_30r f_59_20 h_171 rfl ?_
    refine xr_ci f_59_23 (Nat.le_of_ble_eq_true rfl) rfl rfl (xr_rv kd_133 h_3) (Nat.le_of_ble_eq_true rfl) mc_133 ms_133 (c_wh_count M) ?_
    intro x1
    refine xr_29_3 f_59_26 ?_ ?_
    · refine xr_0 f_59_57 ?_
      refine xr_4 [some (.ref 171), some (.int a1), some (.int a2), some (.int a3), some (.int a4), some (.int (0 : Int32)), none, none, none, none] f_59_58 rfl rfl ?_
      exact c_re_narrowBy_l60 a1 a2 e_F a3 a4 (0 : Int32) M
    · refine xr_1 f_59_29 rfl ?_
      refine xr_2 f_59_30 rfl ?_
      refine xr_1 f_59_31 rfl ?_
      refine xr_1 f_59_33 rfl ?_
      refine xr_ci f_59_34 (Nat.le_of_ble_eq_true rfl) rfl rfl (xr_rv kd_60 h_171) (Nat.le_of_ble_eq_true rfl) mc_60 ms_60 (c_re_leastOf a5 a2 M) ?_
      intro x2
      refine xr_8 f_59_37 ?_
      refine xr_4l (fun y3 => [some (.ref 171), some (.int a1), some (.int a2), some (.int y3), some (.int a4), some (.int a5), none, none, none, none]) f_59_38 rfl (fun _ => rfl) ?_
      intro y3
      refine xr_1 f_59_39 rfl ?_
      refine xr_2 f_59_41 rfl ?_
      refine xr_1 f_59_42 rfl ?_
      refine xr_1 f_59_44 rfl ?_
      refine xr_ci f_59_45 (Nat.le_of_ble_eq_true rfl) rfl rfl (xr_rv kd_61 h_171) (Nat.le_of_ble_eq_true rfl) mc_61 ms_61 (c_re_mostOf a5 a2 M) ?_
      intro x4
      refine xr_8 f_59_48 ?_
      refine xr_4l (fun y5 => [some (.ref 171), some (.int a1), some (.int a2), some (.int y3), some (.int y5), some (.int a5), none, none, none, none]) f_59_49 rfl (fun _ => rfl) ?_
      intro y5
      refine xr_7 [some (.ref 171), some (.int a1), some (.int a2), some (.int y3), some (.int y5), some (.int (a5 + (1 : Int32))), none, none, none, none] f_59_51 rfl rfl rfl ?_
      refine xr_27 f_59_54 ?_
      exact ih y3 y5 (a5 + (1 : Int32))

def re_narrowBy (a1 : Int32) (M : e_Me) : Option (Int32 × e_Me) :=
  x_bd (ro_at 176 a1 M) fun x1 =>
  re_narrowBy_l17 a1 x1 M e_F (0 : Int32) (0 : Int32) (0 : Int32)
theorem c_re_narrowBy (a1 : Int32) (M : e_Me) : x_C G 59 [.ref 171, .int a1] M x_rim (re_narrowBy a1 M) := by
  refine x_C_of 10 [some (.ref 171), some (.int a1), none, none, none, none, none, none, none, none] (by decide) ml_59 (Nat.le_of_ble_eq_true rfl) rfl ?_
  rw [re_narrowBy]
  refine xr_2 f_59_0 rfl ?_
  refine xr_30r f_59_1 h_171 rfl ?_
  refine xr_1 f_59_4 rfl ?_
  refine xr_ci f_59_5 (Nat.le_of_ble_eq_true rfl) rfl rfl (xr_rv kd_113 h_176) (Nat.le_of_ble_eq_true rfl) mc_113 ms_113 (c_ro_at 176 a1 M) ?_
  intro x1
  refine xr_4 [some (.ref 171), some (.int a1), some (.int x1), none, none, none, none, none, none, none] f_59_8 rfl rfl ?_
  refine xr_0 f_59_9 ?_
  refine xr_4 [some (.ref 171), some (.int a1), some (.int x1), some (.int (0 : Int32)), none, none, none, none, none, none] f_59_10 rfl rfl ?_
  refine xr_0 f_59_11 ?_
  refine xr_4 [some (.ref 171), some (.int a1), some (.int x1), some (.int (0 : Int32)), some (.int (0 : Int32)), none, none, none, none, none] f_59_12 rfl rfl ?_
  refine xr_0 f_59_14 ?_
  refine xr_4 [some (.ref 171), some (.int a1), some (.int x1), some (.int (0 : Int32)), some (.int (0 : Int32)), some (.int (0 : Int32)), none, none, none, none] f_59_15 rfl rfl ?_
  exact c_re_narrowBy_l17 a1 x1 M e_F (0 : Int32) (0 : Int32) (0 : Int32)

def re_narrow_l32   : Nat → Int32 → e_Me → Option (Int32 × e_Me)
  | 0, _, _ => none
  | F + 1, a1, M =>
    x_bd (ro_count 176 M) fun x1 =>
    if x1 ≤ a1 then
      some ((-1 : Int32), M)
    else
      x_bi (re_narrowBy a1 M) fun x2 M3 =>
      if x2 = 0 then
        some (a1, M3)
      else
        re_narrow_l32  F (a1 + (1 : Int32)) M3
theorem c_re_narrow_l32    : ∀ (F : Nat) (a1 : Int32) (M : e_Me), x_X G 58 0 0 x_rim 32 [some (.ref 171), some (.int a1)] [] M (re_narrow_l32  F a1 M) := by
  intro F
  induction F with
  | zero => intro a1 M; exact xr_none
  | succ F ih =>
    intro a1 M
    rw [re_narrow_l32]
    refine xr_1 f_58_32 rfl ?_
    refine xr_2 f_58_33 rfl ?_
    refine xr_30r f_58_34 h_171 rfl ?_
    refine xr_ci f_58_37 (Nat.le_of_ble_eq_true rfl) rfl rfl (xr_rv kd_111 h_176) (Nat.le_of_ble_eq_true rfl) mc_111 ms_111 (c_ro_count 176 M) ?_
    intro x1
    refine xr_29_3 f_58_40 ?_ ?_
    · refine xr_0 f_58_59 ?_
      exact xr_51m f_58_60
    · refine xr_2 f_58_43 rfl ?_
      refine xr_1 f_58_44 rfl ?_
      refine xr_cim f_58_45 (Nat.le_of_ble_eq_true rfl) rfl rfl (xr_rv kd_59 h_171) (Nat.le_of_ble_eq_true rfl) mc_59 ms_59 (c_re_narrowBy a1 M) ?_
      intro x2 M3
      refine xr_28_1 f_58_48 ?_ ?_
      · refine xr_7 [some (.ref 171), some (.int (a1 + (1 : Int32)))] f_58_53 rfl rfl rfl ?_
        refine xr_27 f_58_56 ?_
        exact ih (a1 + (1 : Int32)) M3
      · refine xr_1 f_58_51 rfl ?_
        exact xr_51m f_58_52

def re_narrow  (M : e_Me) : Option (Int32 × e_Me) :=
  x_lt (e_row M 174 (fun b => if b < ((30 : Int32)).toNatClampNeg then M 172 b else M 174 b)) fun M1 =>
  x_lt (e_row M1 175 (fun b => if b < ((30 : Int32)).toNatClampNeg then M1 173 b else M1 175 b)) fun M2 =>
  re_narrow_l32  e_F (0 : Int32) M2
theorem c_re_narrow  (M : e_Me) : x_C G 58 [.ref 171] M x_rim (re_narrow  M) := by
  refine x_C_of 2 [some (.ref 171), none] (by decide) ml_58 (Nat.le_of_ble_eq_true rfl) rfl ?_
  rw [re_narrow]
  refine xr_2 f_58_0 rfl ?_
  refine xr_30r f_58_1 h_171 rfl ?_
  refine xr_0 f_58_4 ?_
  refine xr_2 f_58_5 rfl ?_
  refine xr_30r f_58_6 h_171 rfl ?_
  refine xr_0 f_58_9 ?_
  refine xr_0 f_58_10 ?_
  refine xr_45 f_58_12 h_172 h_174 (by decide) (by decide) (Nat.le_of_ble_eq_true rfl) ?_
  intro M1
  refine xr_2 f_58_15 rfl ?_
  refine xr_30r f_58_16 h_171 rfl ?_
  refine xr_0 f_58_19 ?_
  refine xr_2 f_58_20 rfl ?_
  refine xr_30r f_58_21 h_171 rfl ?_
  refine xr_0 f_58_24 ?_
  refine xr_0 f_58_25 ?_
  refine xr_45 f_58_27 h_173 h_175 (by decide) (by decide) (Nat.le_of_ble_eq_true rfl) ?_
  intro M2
  refine xr_0 f_58_30 ?_
  refine xr_4 [some (.ref 171), some (.int (0 : Int32))] f_58_31 rfl rfl ?_
  exact c_re_narrow_l32 e_F (0 : Int32) M2

def re_countAgreeing_l4  (M : e_Me) : Nat → Int32 → Int32 → Option Int32
  | 0, _, _ => none
  | F + 1, a1, a2 =>
    x_bd (wh_count M) fun x1 =>
    if x1 ≤ a2 then
      some a1
    else
      x_bd (wh_loadOf a2 M) fun x2 =>
      x_bd (re_lowOf a2 M) fun x3 =>
      if x2 < x3 then
        re_countAgreeing_l4 M F a1 (a2 + (1 : Int32))
      else
        x_bd (re_highOf a2 M) fun x4 =>
        if x4 < x2 then
          re_countAgreeing_l4 M F a1 (a2 + (1 : Int32))
        else
          re_countAgreeing_l4 M F (a1 + (1 : Int32)) (a2 + (1 : Int32))
theorem c_re_countAgreeing_l4  (M : e_Me)  : ∀ (F : Nat) (a1 : Int32) (a2 : Int32), x_X G 65 0 0 (x_ri M) 4 [some (.ref 171), some (.int a1), some (.int a2), none] [] M (re_countAgreeing_l4 M F a1 a2) := by
  intro F
  induction F with
  | zero => intro a1 a2; exact xr_none
  | succ F ih =>
    intro a1 a2
    rw [re_countAgreeing_l4]
    refine xr_1 f_65_4 rfl ?_
    refine xr_2 f_65_5 rfl ?_
    refine xr_30r f_65_6 h_171 rfl ?_
    refine xr_ci f_65_9 (Nat.le_of_ble_eq_true rfl) rfl rfl (xr_rv kd_133 h_3) (Nat.le_of_ble_eq_true rfl) mc_133 ms_133 (c_wh_count M) ?_
    intro x1
    refine xr_29_3 f_65_12 ?_ ?_
    · refine xr_1 f_65_51 rfl ?_
      exact xr_51 f_65_52
    · refine xr_2 f_65_15 rfl ?_
      refine xr_30r f_65_16 h_171 rfl ?_
      refine xr_1 f_65_19 rfl ?_
      refine xr_ci f_65_20 (Nat.le_of_ble_eq_true rfl) rfl rfl (xr_rv kd_145 h_3) (Nat.le_of_ble_eq_true rfl) mc_145 ms_145 (c_wh_loadOf a2 M) ?_
      intro x2
      refine xr_4 [some (.ref 171), some (.int a1), some (.int a2), some (.int x2)] f_65_23 rfl rfl ?_
      refine xr_1 f_65_24 rfl ?_
      refine xr_2 f_65_25 rfl ?_
      refine xr_1 f_65_26 rfl ?_
      refine xr_ci f_65_27 (Nat.le_of_ble_eq_true rfl) rfl rfl (xr_rv kd_56 h_171) (Nat.le_of_ble_eq_true rfl) mc_56 ms_56 (c_re_lowOf a2 M) ?_
      intro x3
      refine xr_29_2 f_65_30 ?_ ?_
      · refine xr_7 [some (.ref 171), some (.int a1), some (.int (a2 + (1 : Int32))), some (.int x2)] f_65_45 rfl rfl rfl ?_
        refine xr_27 f_65_48 ?_
        refine xr_wk (L' := [some (.ref 171), some (.int a1), some (.int (a2 + (1 : Int32))), none]) [true, true, true, false] rfl ?_
        exact ih a1 (a2 + (1 : Int32))
      · refine xr_1 f_65_33 rfl ?_
        refine xr_2 f_65_34 rfl ?_
        refine xr_1 f_65_35 rfl ?_
        refine xr_ci f_65_36 (Nat.le_of_ble_eq_true rfl) rfl rfl (xr_rv kd_57 h_171) (Nat.le_of_ble_eq_true rfl) mc_57 ms_57 (c_re_highOf a2 M) ?_
        intro x4
        refine xr_29_4 f_65_39 ?_ ?_
        · refine xr_7 [some (.ref 171), some (.int a1), some (.int (a2 + (1 : Int32))), some (.int x2)] f_65_45 rfl rfl rfl ?_
          refine xr_27 f_65_48 ?_
          refine xr_wk (L' := [some (.ref 171), some (.int a1), some (.int (a2 + (1 : Int32))), none]) [true, true, true, false] rfl ?_
          exact ih a1 (a2 + (1 : Int32))
        · refine xr_7 [some (.ref 171), some (.int (a1 + (1 : Int32))), some (.int a2), some (.int x2)] f_65_42 rfl rfl rfl ?_
          refine xr_7 [some (.ref 171), some (.int (a1 + (1 : Int32))), some (.int (a2 + (1 : Int32))), some (.int x2)] f_65_45 rfl rfl rfl ?_
          refine xr_27 f_65_48 ?_
          refine xr_wk (L' := [some (.ref 171), some (.int (a1 + (1 : Int32))), some (.int (a2 + (1 : Int32))), none]) [true, true, true, false] rfl ?_
          exact ih (a1 + (1 : Int32)) (a2 + (1 : Int32))

def re_countAgreeing  (M : e_Me) : Option Int32 :=
  re_countAgreeing_l4 M e_F (0 : Int32) (0 : Int32)
theorem c_re_countAgreeing  (M : e_Me) : x_C G 65 [.ref 171] M (x_ri M) (re_countAgreeing  M) := by
  refine x_C_of 4 [some (.ref 171), none, none, none] (by decide) ml_65 (Nat.le_of_ble_eq_true rfl) rfl ?_
  rw [re_countAgreeing]
  refine xr_0 f_65_0 ?_
  refine xr_4 [some (.ref 171), some (.int (0 : Int32)), none, none] f_65_1 rfl rfl ?_
  refine xr_0 f_65_2 ?_
  refine xr_4 [some (.ref 171), some (.int (0 : Int32)), some (.int (0 : Int32)), none] f_65_3 rfl rfl ?_
  exact c_re_countAgreeing_l4 M e_F (0 : Int32) (0 : Int32)

def re_mixInto_l49  (M : e_Me) : Nat → Int64 → Int32 → Option Int64
  | 0, _, _ => none
  | F + 1, a1, a3 =>
    x_bd (ro_count 176 M) fun x1 =>
    if x1 ≤ a3 then
      some a1
    else
      x_bd (ro_at 176 a3 M) fun x2 =>
      x_bd (ew_mix a1 (x2).toInt64 M) fun x3 =>
      x_bd (ro_at 178 a3 M) fun x4 =>
      x_bd (ew_mix x3 (x4).toInt64 M) fun x5 =>
      x_bd (ro_at 180 a3 M) fun x6 =>
      x_bd (ew_mix x5 (x6).toInt64 M) fun x7 =>
      x_lt x7 fun y8 =>
      re_mixInto_l49 M F y8 (a3 + (1 : Int32))
theorem c_re_mixInto_l49  (M : e_Me)  : ∀ (F : Nat) (a1 : Int64) (a3 : Int32), x_X G 66 0 0 (x_rl M) 49 [some (.ref 171), some (.long a1), none, some (.int a3)] [] M (re_mixInto_l49 M F a1 a3) := by
  intro F
  induction F with
  | zero => intro a1 a3; exact xr_none
  | succ F ih =>
    intro a1 a3
    rw [re_mixInto_l49]
    refine xr_1 f_66_49 rfl ?_
    refine xr_2 f_66_50 rfl ?_
    refine xr_30r f_66_51 h_171 rfl ?_
    refine xr_ci f_66_54 (Nat.le_of_ble_eq_true rfl) rfl rfl (xr_rv kd_111 h_176) (Nat.le_of_ble_eq_true rfl) mc_111 ms_111 (c_ro_count 176 M) ?_
    intro x1
    refine xr_29_3 f_66_57 ?_ ?_
    · refine xr_3 f_66_104 rfl ?_
      exact xr_53 f_66_105
    · refine xr_3 f_66_60 rfl ?_
      refine xr_2 f_66_61 rfl ?_
      refine xr_30r f_66_62 h_171 rfl ?_
      refine xr_1 f_66_65 rfl ?_
      refine xr_ci f_66_66 (Nat.le_of_ble_eq_true rfl) rfl rfl (xr_rv kd_113 h_176) (Nat.le_of_ble_eq_true rfl) mc_113 ms_113 (c_ro_at 176 a3 M) ?_
      intro x2
      refine xr_19 f_66_69 ?_
      refine xr_cl f_66_70 (Nat.le_of_ble_eq_true rfl) rfl rfl (xr_rs kd_191) (Nat.le_of_ble_eq_true rfl) mc_191 ms_191 (c_ew_mix a1 (x2).toInt64 M) ?_
      intro x3
      refine xr_2 f_66_73 rfl ?_
      refine xr_30r f_66_74 h_171 rfl ?_
      refine xr_1 f_66_77 rfl ?_
      refine xr_ci f_66_78 (Nat.le_of_ble_eq_true rfl) rfl rfl (xr_rv kd_113 h_178) (Nat.le_of_ble_eq_true rfl) mc_113 ms_113 (c_ro_at 178 a3 M) ?_
      intro x4
      refine xr_19 f_66_81 ?_
      refine xr_cl f_66_82 (Nat.le_of_ble_eq_true rfl) rfl rfl (xr_rs kd_191) (Nat.le_of_ble_eq_true rfl) mc_191 ms_191 (c_ew_mix x3 (x4).toInt64 M) ?_
      intro x5
      refine xr_2 f_66_85 rfl ?_
      refine xr_30r f_66_86 h_171 rfl ?_
      refine xr_1 f_66_89 rfl ?_
      refine xr_ci f_66_90 (Nat.le_of_ble_eq_true rfl) rfl rfl (xr_rv kd_113 h_180) (Nat.le_of_ble_eq_true rfl) mc_113 ms_113 (c_ro_at 180 a3 M) ?_
      intro x6
      refine xr_19 f_66_93 ?_
      refine xr_cl f_66_94 (Nat.le_of_ble_eq_true rfl) rfl rfl (xr_rs kd_191) (Nat.le_of_ble_eq_true rfl) mc_191 ms_191 (c_ew_mix x5 (x6).toInt64 M) ?_
      intro x7
      refine xr_6l (fun y8 => [some (.ref 171), some (.long y8), none, some (.int a3)]) f_66_97 rfl (fun _ => rfl) ?_
      intro y8
      refine xr_7 [some (.ref 171), some (.long y8), none, some (.int (a3 + (1 : Int32)))] f_66_98 rfl rfl rfl ?_
      refine xr_27 f_66_101 ?_
      exact ih y8 (a3 + (1 : Int32))

def re_mixInto_l2  (M : e_Me) : Nat → Int64 → Int32 → Option Int64
  | 0, _, _ => none
  | F + 1, a1, a3 =>
    x_bd (wh_count M) fun x1 =>
    if x1 ≤ a3 then
      re_mixInto_l49 M e_F a1 (0 : Int32)
    else
      if (30 : Int32) ≤ a3 then
        re_mixInto_l49 M e_F a1 (0 : Int32)
      else
        x_rd (M 172) 30 a3 fun x2 =>
        x_bd (ew_mix a1 (x2).toInt64 M) fun x3 =>
        x_rd (M 173) 30 a3 fun x4 =>
        x_bd (ew_mix x3 (x4).toInt64 M) fun x5 =>
        x_lt x5 fun y6 =>
        re_mixInto_l2 M F y6 (a3 + (1 : Int32))
theorem c_re_mixInto_l2  (M : e_Me)  : ∀ (F : Nat) (a1 : Int64) (a3 : Int32), x_X G 66 0 0 (x_rl M) 2 [some (.ref 171), some (.long a1), none, some (.int a3)] [] M (re_mixInto_l2 M F a1 a3) := by
  intro F
  induction F with
  | zero => intro a1 a3; exact xr_none
  | succ F ih =>
    intro a1 a3
    rw [re_mixInto_l2]
    refine xr_1 f_66_2 rfl ?_
    refine xr_2 f_66_3 rfl ?_
    refine xr_30r f_66_4 h_171 rfl ?_
    refine xr_ci f_66_7 (Nat.le_of_ble_eq_true rfl) rfl rfl (xr_rv kd_133 h_3) (Nat.le_of_ble_eq_true rfl) mc_133 ms_133 (c_wh_count M) ?_
    intro x1
    refine xr_29_3 f_66_10 ?_ ?_
    · refine xr_0 f_66_47 ?_
      refine xr_4 [some (.ref 171), some (.long a1), none, some (.int (0 : Int32))] f_66_48 rfl rfl ?_
      exact c_re_mixInto_l49 M e_F a1 (0 : Int32)
    · refine xr_1 f_66_13 rfl ?_
      refine xr_0 f_66_14 ?_
      refine xr_29_3 f_66_16 ?_ ?_
      · refine xr_0 f_66_47 ?_
        refine xr_4 [some (.ref 171), some (.long a1), none, some (.int (0 : Int32))] f_66_48 rfl rfl ?_
        exact c_re_mixInto_l49 M e_F a1 (0 : Int32)
      · refine xr_3 f_66_19 rfl ?_
        refine xr_2 f_66_20 rfl ?_
        refine xr_30r f_66_21 h_171 rfl ?_
        refine xr_1 f_66_24 rfl ?_
        refine xr_32 f_66_25 h_172 ?_
        intro x2
        refine xr_19 f_66_26 ?_
        refine xr_cl f_66_27 (Nat.le_of_ble_eq_true rfl) rfl rfl (xr_rs kd_191) (Nat.le_of_ble_eq_true rfl) mc_191 ms_191 (c_ew_mix a1 (x2).toInt64 M) ?_
        intro x3
        refine xr_2 f_66_30 rfl ?_
        refine xr_30r f_66_31 h_171 rfl ?_
        refine xr_1 f_66_34 rfl ?_
        refine xr_32 f_66_35 h_173 ?_
        intro x4
        refine xr_19 f_66_36 ?_
        refine xr_cl f_66_37 (Nat.le_of_ble_eq_true rfl) rfl rfl (xr_rs kd_191) (Nat.le_of_ble_eq_true rfl) mc_191 ms_191 (c_ew_mix x3 (x4).toInt64 M) ?_
        intro x5
        refine xr_6l (fun y6 => [some (.ref 171), some (.long y6), none, some (.int a3)]) f_66_40 rfl (fun _ => rfl) ?_
        intro y6
        refine xr_7 [some (.ref 171), some (.long y6), none, some (.int (a3 + (1 : Int32)))] f_66_41 rfl rfl rfl ?_
        refine xr_27 f_66_44 ?_
        exact ih y6 (a3 + (1 : Int32))

def re_mixInto (a1 : Int64) (M : e_Me) : Option Int64 :=
  re_mixInto_l2 M e_F a1 (0 : Int32)
theorem c_re_mixInto (a1 : Int64) (M : e_Me) : x_C G 66 [.ref 171, .long a1] M (x_rl M) (re_mixInto a1 M) := by
  refine x_C_of 4 [some (.ref 171), some (.long a1), none, none] (by decide) ml_66 (Nat.le_of_ble_eq_true rfl) rfl ?_
  rw [re_mixInto]
  refine xr_0 f_66_0 ?_
  refine xr_4 [some (.ref 171), some (.long a1), none, some (.int (0 : Int32))] f_66_1 rfl rfl ?_
  exact c_re_mixInto_l2 M e_F a1 (0 : Int32)

def rg_startAnew  (M : e_Me) : Option e_Me :=
  x_lt (e_up M 7 2 (0 : Int32)) fun M1 =>
  x_lt (e_up M1 7 3 (0 : Int32)) fun M2 =>
  some M2
theorem c_rg_startAnew  (M : e_Me) : x_C G 68 [.ref 7] M x_rv (rg_startAnew  M) := by
  refine x_C_of 1 [some (.ref 7)] (by decide) ml_68 (Nat.le_of_ble_eq_true rfl) rfl ?_
  rw [rg_startAnew]
  refine xr_2 f_68_0 rfl ?_
  refine xr_0 f_68_1 ?_
  refine xr_31 f_68_2 h_7 rfl ?_
  intro M1
  refine xr_2 f_68_5 rfl ?_
  refine xr_0 f_68_6 ?_
  refine xr_31 f_68_7 h_7 rfl ?_
  intro M2
  exact xr_50 f_68_10

def rg_warmthNow  (M : e_Me) : Option Int32 :=
  some (M 7 2)
theorem c_rg_warmthNow  (M : e_Me) : x_C G 69 [.ref 7] M (x_ri M) (rg_warmthNow  M) := by
  refine x_C_of 1 [some (.ref 7)] (by decide) ml_69 (Nat.le_of_ble_eq_true rfl) rfl ?_
  rw [rg_warmthNow]
  refine xr_2 f_69_0 rfl ?_
  refine xr_30i f_69_1 h_7 rfl ?_
  exact xr_51 f_69_4

def rg_stepsDone  (M : e_Me) : Option Int32 :=
  some (M 7 3)
theorem c_rg_stepsDone  (M : e_Me) : x_C G 70 [.ref 7] M (x_ri M) (rg_stepsDone  M) := by
  refine x_C_of 1 [some (.ref 7)] (by decide) ml_70 (Nat.le_of_ble_eq_true rfl) rfl ?_
  rw [rg_stepsDone]
  refine xr_2 f_70_0 rfl ?_
  refine xr_30i f_70_1 h_7 rfl ?_
  exact xr_51 f_70_4

def rg_isDriven  (M : e_Me) : Option Int32 :=
  x_gb (M 7 4) (some (M 7 4))
theorem c_rg_isDriven  (M : e_Me) : x_C G 71 [.ref 7] M (x_ri M) (rg_isDriven  M) := by
  refine x_C_of 1 [some (.ref 7)] (by decide) ml_71 (Nat.le_of_ble_eq_true rfl) rfl ?_
  rw [rg_isDriven]
  refine xr_2 f_71_0 rfl ?_
  refine xr_30i f_71_1 h_7 rfl ?_
  exact xr_52 f_71_4

def rg_setDriven (a1 : Int32) (M : e_Me) : Option (Int32 × e_Me) :=
  x_lt (M 7 4) fun y1 =>
  x_gb a1 <|
  x_lt (e_up M 7 4 a1) fun M2 =>
  x_gb y1 (some (y1, M2))
theorem c_rg_setDriven (a1 : Int32) (M : e_Me) : x_C G 72 [.ref 7, .int a1] M x_rim (rg_setDriven a1 M) := by
  refine x_C_of 3 [some (.ref 7), some (.int a1), none] (by decide) ml_72 (Nat.le_of_ble_eq_true rfl) rfl ?_
  rw [rg_setDriven]
  refine xr_2 f_72_0 rfl ?_
  refine xr_30i f_72_1 h_7 rfl ?_
  refine xr_4l (fun y1 => [some (.ref 7), some (.int a1), some (.int y1)]) f_72_4 rfl (fun _ => rfl) ?_
  intro y1
  refine xr_2 f_72_5 rfl ?_
  refine xr_1 f_72_6 rfl ?_
  refine xr_31b f_72_7 h_7 rfl ?_
  intro M2
  refine xr_1 f_72_10 rfl ?_
  exact xr_52m f_72_11

def rg_leanAfterStep  (M : e_Me) : Option Int32 :=
  x_bd (wh_turnNow M) fun x1 =>
  x_bd (wh_turnBehind x1 M) fun x2 =>
  x_bd (wh_leanAt x2 M) fun x3 =>
  some x3
theorem c_rg_leanAfterStep  (M : e_Me) : x_C G 73 [.ref 7] M (x_ri M) (rg_leanAfterStep  M) := by
  refine x_C_of 1 [some (.ref 7)] (by decide) ml_73 (Nat.le_of_ble_eq_true rfl) rfl ?_
  rw [rg_leanAfterStep]
  refine xr_2 f_73_0 rfl ?_
  refine xr_30r f_73_1 h_7 rfl ?_
  refine xr_2 f_73_4 rfl ?_
  refine xr_30r f_73_5 h_7 rfl ?_
  refine xr_2 f_73_8 rfl ?_
  refine xr_30r f_73_9 h_7 rfl ?_
  refine xr_ci f_73_12 (Nat.le_of_ble_eq_true rfl) rfl rfl (xr_rv kd_134 h_3) (Nat.le_of_ble_eq_true rfl) mc_134 ms_134 (c_wh_turnNow M) ?_
  intro x1
  refine xr_ci f_73_15 (Nat.le_of_ble_eq_true rfl) rfl rfl (xr_rv kd_136 h_3) (Nat.le_of_ble_eq_true rfl) mc_136 ms_136 (c_wh_turnBehind x1 M) ?_
  intro x2
  refine xr_ci f_73_18 (Nat.le_of_ble_eq_true rfl) rfl rfl (xr_rv kd_147 h_3) (Nat.le_of_ble_eq_true rfl) mc_147 ms_147 (c_wh_leanAt x2 M) ?_
  intro x3
  exact xr_51 f_73_21

def rg_warmthAfterStep  (M : e_Me) : Option Int32 :=
  x_bd (rg_leanAfterStep M) fun x1 =>
  if 0 ≤ x1 then
    x_bd (ru_valueOf (2 : Int32) M) fun x2 =>
    x_bd (ma_max (0 : Int32) ((M 7 2) - x2) M) fun x3 =>
    some x3
  else
    some ((M 7 2) + ((-x1) / (100 : Int32)))
theorem c_rg_warmthAfterStep  (M : e_Me) : x_C G 74 [.ref 7] M (x_ri M) (rg_warmthAfterStep  M) := by
  refine x_C_of 2 [some (.ref 7), none] (by decide) ml_74 (Nat.le_of_ble_eq_true rfl) rfl ?_
  rw [rg_warmthAfterStep]
  refine xr_2 f_74_0 rfl ?_
  refine xr_ci f_74_1 (Nat.le_of_ble_eq_true rfl) rfl rfl (xr_rv kd_73 h_7) (Nat.le_of_ble_eq_true rfl) mc_73 ms_73 (c_rg_leanAfterStep M) ?_
  intro x1
  refine xr_4 [some (.ref 7), some (.int x1)] f_74_4 rfl rfl ?_
  refine xr_1 f_74_5 rfl ?_
  refine xr_28_3 f_74_6 ?_ ?_
  · refine xr_0 f_74_20 ?_
    refine xr_2 f_74_21 rfl ?_
    refine xr_30i f_74_22 h_7 rfl ?_
    refine xr_2 f_74_25 rfl ?_
    refine xr_30r f_74_26 h_7 rfl ?_
    refine xr_0 f_74_29 ?_
    refine xr_ci f_74_30 (Nat.le_of_ble_eq_true rfl) rfl rfl (xr_rv kd_125 h_1) (Nat.le_of_ble_eq_true rfl) mc_125 ms_125 (c_ru_valueOf (2 : Int32) M) ?_
    intro x2
    refine xr_9 f_74_33 ?_
    refine xr_ci f_74_34 (Nat.le_of_ble_eq_true rfl) rfl rfl (xr_rs kd_265) (Nat.le_of_ble_eq_true rfl) mc_265 ms_265 (c_ma_max (0 : Int32) ((M 7 2) - x2) M) ?_
    intro x3
    exact xr_51 f_74_37
  · refine xr_2 f_74_9 rfl ?_
    refine xr_30i f_74_10 h_7 rfl ?_
    refine xr_1 f_74_13 rfl ?_
    refine xr_11 f_74_14 ?_
    refine xr_0 f_74_15 ?_
    refine xr_12c f_74_17 (by decide) ?_
    refine xr_8 f_74_18 ?_
    exact xr_51 f_74_19

def rg_whyNot  (M : e_Me) : Option Int32 :=
  x_bd (rg_leanAfterStep M) fun x1 =>
  x_bd (ma_abs x1 M) fun x2 =>
  x_bd (ru_valueOf (0 : Int32) M) fun x3 =>
  if x2 ≤ x3 then
    x_bd (rg_warmthAfterStep M) fun x4 =>
    x_bd (ru_valueOf (1 : Int32) M) fun x5 =>
    if x4 ≤ x5 then
      if x1 ≤ 0 then
        some (0 : Int32)
      else
        if (M 7 4) = 0 then
          some (3 : Int32)
        else
          some (0 : Int32)
    else
      some (2 : Int32)
  else
    some (1 : Int32)
theorem c_rg_whyNot  (M : e_Me) : x_C G 75 [.ref 7] M (x_ri M) (rg_whyNot  M) := by
  refine x_C_of 2 [some (.ref 7), none] (by decide) ml_75 (Nat.le_of_ble_eq_true rfl) rfl ?_
  rw [rg_whyNot]
  refine xr_2 f_75_0 rfl ?_
  refine xr_ci f_75_1 (Nat.le_of_ble_eq_true rfl) rfl rfl (xr_rv kd_73 h_7) (Nat.le_of_ble_eq_true rfl) mc_73 ms_73 (c_rg_leanAfterStep M) ?_
  intro x1
  refine xr_4 [some (.ref 7), some (.int x1)] f_75_4 rfl rfl ?_
  refine xr_1 f_75_5 rfl ?_
  refine xr_ci f_75_6 (Nat.le_of_ble_eq_true rfl) rfl rfl (xr_rs kd_264) (Nat.le_of_ble_eq_true rfl) mc_264 ms_264 (c_ma_abs x1 M) ?_
  intro x2
  refine xr_2 f_75_9 rfl ?_
  refine xr_30r f_75_10 h_7 rfl ?_
  refine xr_0 f_75_13 ?_
  refine xr_ci f_75_14 (Nat.le_of_ble_eq_true rfl) rfl rfl (xr_rv kd_125 h_1) (Nat.le_of_ble_eq_true rfl) mc_125 ms_125 (c_ru_valueOf (0 : Int32) M) ?_
  intro x3
  refine xr_29_5 f_75_17 ?_ ?_
  · refine xr_2 f_75_22 rfl ?_
    refine xr_ci f_75_23 (Nat.le_of_ble_eq_true rfl) rfl rfl (xr_rv kd_74 h_7) (Nat.le_of_ble_eq_true rfl) mc_74 ms_74 (c_rg_warmthAfterStep M) ?_
    intro x4
    refine xr_2 f_75_26 rfl ?_
    refine xr_30r f_75_27 h_7 rfl ?_
    refine xr_0 f_75_30 ?_
    refine xr_ci f_75_31 (Nat.le_of_ble_eq_true rfl) rfl rfl (xr_rv kd_125 h_1) (Nat.le_of_ble_eq_true rfl) mc_125 ms_125 (c_ru_valueOf (1 : Int32) M) ?_
    intro x5
    refine xr_29_5 f_75_34 ?_ ?_
    · refine xr_1 f_75_39 rfl ?_
      refine xr_28_5 f_75_40 ?_ ?_
      · refine xr_0 f_75_54 ?_
        exact xr_51 f_75_55
      · refine xr_2 f_75_43 rfl ?_
        refine xr_30i f_75_44 h_7 rfl ?_
        refine xr_28_1 f_75_47 ?_ ?_
        · refine xr_0 f_75_54 ?_
          exact xr_51 f_75_55
        · refine xr_0 f_75_50 ?_
          refine xr_27 f_75_51 ?_
          exact xr_51 f_75_55
    · refine xr_0 f_75_37 ?_
      exact xr_51 f_75_38
  · refine xr_0 f_75_20 ?_
    exact xr_51 f_75_21

def rg_goOn  (M : e_Me) : Option (Int32 × e_Me) :=
  x_bd (rg_whyNot M) fun x1 =>
  if x1 = 0 then
    x_bd (rg_warmthAfterStep M) fun x2 =>
    x_lt (e_up M 7 2 x2) fun M3 =>
    x_bd (wh_turnNow M3) fun x4 =>
    x_bd (wh_turnBehind x4 M3) fun x5 =>
    x_bd (wh_turnTo x5 M3) fun M6 =>
    x_lt (e_up M6 7 3 ((M6 7 3) + (1 : Int32))) fun M7 =>
    some ((1 : Int32), M7)
  else
    some ((0 : Int32), M)
theorem c_rg_goOn  (M : e_Me) : x_C G 76 [.ref 7] M x_rim (rg_goOn  M) := by
  refine x_C_of 1 [some (.ref 7)] (by decide) ml_76 (Nat.le_of_ble_eq_true rfl) rfl ?_
  rw [rg_goOn]
  refine xr_2 f_76_0 rfl ?_
  refine xr_ci f_76_1 (Nat.le_of_ble_eq_true rfl) rfl rfl (xr_rv kd_75 h_7) (Nat.le_of_ble_eq_true rfl) mc_75 ms_75 (c_rg_whyNot M) ?_
  intro x1
  refine xr_28_0 f_76_4 ?_ ?_
  · refine xr_2 f_76_9 rfl ?_
    refine xr_2 f_76_10 rfl ?_
    refine xr_ci f_76_11 (Nat.le_of_ble_eq_true rfl) rfl rfl (xr_rv kd_74 h_7) (Nat.le_of_ble_eq_true rfl) mc_74 ms_74 (c_rg_warmthAfterStep M) ?_
    intro x2
    refine xr_31 f_76_14 h_7 rfl ?_
    intro M3
    refine xr_2 f_76_17 rfl ?_
    refine xr_30r f_76_18 h_7 rfl ?_
    refine xr_2 f_76_21 rfl ?_
    refine xr_30r f_76_22 h_7 rfl ?_
    refine xr_2 f_76_25 rfl ?_
    refine xr_30r f_76_26 h_7 rfl ?_
    refine xr_ci f_76_29 (Nat.le_of_ble_eq_true rfl) rfl rfl (xr_rv kd_134 h_3) (Nat.le_of_ble_eq_true rfl) mc_134 ms_134 (c_wh_turnNow M3) ?_
    intro x4
    refine xr_ci f_76_32 (Nat.le_of_ble_eq_true rfl) rfl rfl (xr_rv kd_136 h_3) (Nat.le_of_ble_eq_true rfl) mc_136 ms_136 (c_wh_turnBehind x4 M3) ?_
    intro x5
    refine xr_cv f_76_35 (Nat.le_of_ble_eq_true rfl) rfl rfl (xr_rv kd_135 h_3) (Nat.le_of_ble_eq_true rfl) mc_135 ms_135 (c_wh_turnTo x5 M3) ?_
    intro M6
    refine xr_2 f_76_38 rfl ?_
    refine xr_24r f_76_39 ?_
    refine xr_30i f_76_40 h_7 rfl ?_
    refine xr_0 f_76_43 ?_
    refine xr_8 f_76_44 ?_
    refine xr_31 f_76_45 h_7 rfl ?_
    intro M7
    refine xr_0 f_76_48 ?_
    exact xr_52mc f_76_49 (by decide)
  · refine xr_0 f_76_7 ?_
    exact xr_52mc f_76_8 (by decide)

def ri_startAnew_l16   : Nat → Int32 → e_Me → Option e_Me
  | 0, _, _ => none
  | F + 1, a1, M =>
    if (nI 30) ≤ a1 then
      some M
    else
      x_ra 30 a1 fun j1 =>
      x_bd (e_cap (27 + 2 * j1)) fun n2 =>
      x_bd (ro_clear (27 + 2 * j1) M) fun M3 =>
      ri_startAnew_l16  F (a1 + (1 : Int32)) M3
theorem c_ri_startAnew_l16    : ∀ (F : Nat) (a1 : Int32) (M : e_Me), x_X G 78 0 0 x_rv 16 [some (.ref 8), some (.int a1)] [] M (ri_startAnew_l16  F a1 M) := by
  intro F
  induction F with
  | zero => intro a1 M; exact xr_none
  | succ F ih =>
    intro a1 M
    rw [ri_startAnew_l16]
    refine xr_1 f_78_16 rfl ?_
    refine xr_2 f_78_17 rfl ?_
    refine xr_30r f_78_18 h_8 rfl ?_
    refine xr_38 f_78_21 h_26 (by decide) ?_
    refine xr_29_3 f_78_22 ?_ ?_
    · exact xr_50 f_78_40
    · refine xr_2 f_78_25 rfl ?_
      refine xr_30r f_78_26 h_8 rfl ?_
      refine xr_1 f_78_29 rfl ?_
      refine xr_36 (r := fun j => 27 + 2 * j) f_78_30 h_26 (by decide) (fun j hj => if_pos hj) ?_
      intro j1
      refine xr_cap ?_
      intro n2 hn2
      refine xr_cv f_78_31 (Nat.le_of_ble_eq_true rfl) rfl rfl (xr_rv kd_119 (e_cap_obj hn2)) (Nat.le_of_ble_eq_true rfl) mc_119 ms_119 (c_ro_clear (27 + 2 * j1) M) ?_
      intro M3
      refine xr_7 [some (.ref 8), some (.int (a1 + (1 : Int32)))] f_78_34 rfl rfl rfl ?_
      refine xr_27 f_78_37 ?_
      exact ih (a1 + (1 : Int32)) M3

def ri_startAnew  (M : e_Me) : Option e_Me :=
  x_bd (pa_startAnew M) fun M1 =>
  x_bd (ro_clear 22 M1) fun M2 =>
  ri_startAnew_l16  e_F (0 : Int32) M2
theorem c_ri_startAnew  (M : e_Me) : x_C G 78 [.ref 8] M x_rv (ri_startAnew  M) := by
  refine x_C_of 2 [some (.ref 8), none] (by decide) ml_78 (Nat.le_of_ble_eq_true rfl) rfl ?_
  rw [ri_startAnew]
  refine xr_2 f_78_0 rfl ?_
  refine xr_30r f_78_1 h_8 rfl ?_
  refine xr_cv f_78_4 (Nat.le_of_ble_eq_true rfl) rfl rfl (xr_rv kd_35 h_9) (Nat.le_of_ble_eq_true rfl) mc_35 ms_35 (c_pa_startAnew M) ?_
  intro M1
  refine xr_2 f_78_7 rfl ?_
  refine xr_30r f_78_8 h_8 rfl ?_
  refine xr_cv f_78_11 (Nat.le_of_ble_eq_true rfl) rfl rfl (xr_rv kd_119 h_22) (Nat.le_of_ble_eq_true rfl) mc_119 ms_119 (c_ro_clear 22 M1) ?_
  intro M2
  refine xr_0 f_78_14 ?_
  refine xr_4 [some (.ref 8), some (.int (0 : Int32))] f_78_15 rfl rfl ?_
  exact c_ri_startAnew_l16 e_F (0 : Int32) M2

def ri_insideOf (a1 : Int32) (M : e_Me) : Option Nat :=
  if a1 < 0 then
    some 24
  else
    if (nI 30) ≤ a1 then
      some 24
    else
      x_ra 30 a1 fun j1 =>
      x_bd (e_cap (27 + 2 * j1)) fun n2 =>
      some (27 + 2 * j1)
theorem c_ri_insideOf (a1 : Int32) (M : e_Me) : x_C G 79 [.ref 8, .int a1] M (x_rr M) (ri_insideOf a1 M) := by
  refine x_C_of 2 [some (.ref 8), some (.int a1)] (by decide) ml_79 (Nat.le_of_ble_eq_true rfl) rfl ?_
  rw [ri_insideOf]
  refine xr_1 f_79_0 rfl ?_
  refine xr_28_2 f_79_1 ?_ ?_
  · refine xr_2 f_79_22 rfl ?_
    refine xr_30r f_79_23 h_8 rfl ?_
    exact xr_54 f_79_26
  · refine xr_1 f_79_4 rfl ?_
    refine xr_2 f_79_5 rfl ?_
    refine xr_30r f_79_6 h_8 rfl ?_
    refine xr_38 f_79_9 h_26 (by decide) ?_
    refine xr_29_3 f_79_10 ?_ ?_
    · refine xr_2 f_79_22 rfl ?_
      refine xr_30r f_79_23 h_8 rfl ?_
      exact xr_54 f_79_26
    · refine xr_2 f_79_13 rfl ?_
      refine xr_30r f_79_14 h_8 rfl ?_
      refine xr_1 f_79_17 rfl ?_
      refine xr_36 (r := fun j => 27 + 2 * j) f_79_18 h_26 (by decide) (fun j hj => if_pos hj) ?_
      intro j1
      refine xr_cap ?_
      intro n2 hn2
      refine xr_27 f_79_19 ?_
      exact xr_54 f_79_26

def ri_partiesCome  (M : e_Me) : Option Int32 :=
  x_bd (pa_count M) fun x1 =>
  some x1
theorem c_ri_partiesCome  (M : e_Me) : x_C G 80 [.ref 8] M (x_ri M) (ri_partiesCome  M) := by
  refine x_C_of 1 [some (.ref 8)] (by decide) ml_80 (Nat.le_of_ble_eq_true rfl) rfl ?_
  rw [ri_partiesCome]
  refine xr_2 f_80_0 rfl ?_
  refine xr_30r f_80_1 h_8 rfl ?_
  refine xr_ci f_80_4 (Nat.le_of_ble_eq_true rfl) rfl rfl (xr_rv kd_36 h_9) (Nat.le_of_ble_eq_true rfl) mc_36 ms_36 (c_pa_count M) ?_
  intro x1
  exact xr_51 f_80_7

def ri_tellParty (a1 : Int32) (a2 : Int32) (M : e_Me) : Option Int32 :=
  x_bd (pa_tell a1 a2 M) fun x1 =>
  some x1
theorem c_ri_tellParty (a1 : Int32) (a2 : Int32) (M : e_Me) : x_C G 81 [.ref 8, .int a1, .int a2] M (x_ri M) (ri_tellParty a1 a2 M) := by
  refine x_C_of 3 [some (.ref 8), some (.int a1), some (.int a2)] (by decide) ml_81 (Nat.le_of_ble_eq_true rfl) rfl ?_
  rw [ri_tellParty]
  refine xr_2 f_81_0 rfl ?_
  refine xr_30r f_81_1 h_8 rfl ?_
  refine xr_1 f_81_4 rfl ?_
  refine xr_1 f_81_5 rfl ?_
  refine xr_ci f_81_6 (Nat.le_of_ble_eq_true rfl) rfl rfl (xr_rv kd_47 h_9) (Nat.le_of_ble_eq_true rfl) mc_47 ms_47 (c_pa_tell a1 a2 M) ?_
  intro x1
  exact xr_51 f_81_9

def ri_partiesIn (a1 : Int32) (M : e_Me) : Option Int32 :=
  x_bd (ri_insideOf a1 M) fun r1 =>
  x_bd (e_cap r1) fun n2 =>
  x_bd (ro_count r1 M) fun x3 =>
  some x3
theorem c_ri_partiesIn (a1 : Int32) (M : e_Me) : x_C G 82 [.ref 8, .int a1] M (x_ri M) (ri_partiesIn a1 M) := by
  refine x_C_of 2 [some (.ref 8), some (.int a1)] (by decide) ml_82 (Nat.le_of_ble_eq_true rfl) rfl ?_
  rw [ri_partiesIn]
  refine xr_2 f_82_0 rfl ?_
  refine xr_1 f_82_1 rfl ?_
  refine xr_cr f_82_2 (Nat.le_of_ble_eq_true rfl) rfl rfl (xr_rv kd_79 h_8) (Nat.le_of_ble_eq_true rfl) mc_79 ms_79 (c_ri_insideOf a1 M) ?_
  intro r1
  refine xr_cap ?_
  intro n2 hn2
  refine xr_ci f_82_5 (Nat.le_of_ble_eq_true rfl) rfl rfl (xr_rv kd_111 (e_cap_obj hn2)) (Nat.le_of_ble_eq_true rfl) mc_111 ms_111 (c_ro_count r1 M) ?_
  intro x3
  exact xr_51 f_82_8

def ri_partyIn (a1 : Int32) (a2 : Int32) (M : e_Me) : Option Int32 :=
  x_bd (ri_insideOf a1 M) fun r1 =>
  x_bd (e_cap r1) fun n2 =>
  x_bd (ro_at r1 a2 M) fun x3 =>
  some x3
theorem c_ri_partyIn (a1 : Int32) (a2 : Int32) (M : e_Me) : x_C G 83 [.ref 8, .int a1, .int a2] M (x_ri M) (ri_partyIn a1 a2 M) := by
  refine x_C_of 3 [some (.ref 8), some (.int a1), some (.int a2)] (by decide) ml_83 (Nat.le_of_ble_eq_true rfl) rfl ?_
  rw [ri_partyIn]
  refine xr_2 f_83_0 rfl ?_
  refine xr_1 f_83_1 rfl ?_
  refine xr_cr f_83_2 (Nat.le_of_ble_eq_true rfl) rfl rfl (xr_rv kd_79 h_8) (Nat.le_of_ble_eq_true rfl) mc_79 ms_79 (c_ri_insideOf a1 M) ?_
  intro r1
  refine xr_cap ?_
  intro n2 hn2
  refine xr_1 f_83_5 rfl ?_
  refine xr_ci f_83_6 (Nat.le_of_ble_eq_true rfl) rfl rfl (xr_rv kd_113 (e_cap_obj hn2)) (Nat.le_of_ble_eq_true rfl) mc_113 ms_113 (c_ro_at r1 a2 M) ?_
  intro x3
  exact xr_51 f_83_9

def ri_personsIn (a1 : Int32) (M : e_Me) : Option Int32 :=
  x_bd (ri_insideOf a1 M) fun r1 =>
  x_bd (e_cap r1) fun n2 =>
  x_bd (pa_personsOfAll r1 M) fun x3 =>
  some x3
theorem c_ri_personsIn (a1 : Int32) (M : e_Me) : x_C G 84 [.ref 8, .int a1] M (x_ri M) (ri_personsIn a1 M) := by
  refine x_C_of 2 [some (.ref 8), some (.int a1)] (by decide) ml_84 (Nat.le_of_ble_eq_true rfl) rfl ?_
  rw [ri_personsIn]
  refine xr_2 f_84_0 rfl ?_
  refine xr_30r f_84_1 h_8 rfl ?_
  refine xr_2 f_84_4 rfl ?_
  refine xr_1 f_84_5 rfl ?_
  refine xr_cr f_84_6 (Nat.le_of_ble_eq_true rfl) rfl rfl (xr_rv kd_79 h_8) (Nat.le_of_ble_eq_true rfl) mc_79 ms_79 (c_ri_insideOf a1 M) ?_
  intro r1
  refine xr_cap ?_
  intro n2 hn2
  refine xr_ci f_84_9 (Nat.le_of_ble_eq_true rfl) rfl rfl (xr_rv kd_40 h_9) (Nat.le_of_ble_eq_true rfl) mc_40 ms_40 (c_pa_personsOfAll r1 M) ?_
  intro x3
  exact xr_51 f_84_12

def ri_personsUp_l4  (M : e_Me) : Nat → Int32 → Int32 → Option Int32
  | 0, _, _ => none
  | F + 1, a1, a2 =>
    x_bd (wh_count M) fun x1 =>
    if x1 ≤ a2 then
      some a1
    else
      x_bd (ri_personsIn a2 M) fun x2 =>
      x_lt (a1 + x2) fun y3 =>
      ri_personsUp_l4 M F y3 (a2 + (1 : Int32))
theorem c_ri_personsUp_l4  (M : e_Me)  : ∀ (F : Nat) (a1 : Int32) (a2 : Int32), x_X G 85 0 0 (x_ri M) 4 [some (.ref 8), some (.int a1), some (.int a2)] [] M (ri_personsUp_l4 M F a1 a2) := by
  intro F
  induction F with
  | zero => intro a1 a2; exact xr_none
  | succ F ih =>
    intro a1 a2
    rw [ri_personsUp_l4]
    refine xr_1 f_85_4 rfl ?_
    refine xr_2 f_85_5 rfl ?_
    refine xr_30r f_85_6 h_8 rfl ?_
    refine xr_ci f_85_9 (Nat.le_of_ble_eq_true rfl) rfl rfl (xr_rv kd_133 h_3) (Nat.le_of_ble_eq_true rfl) mc_133 ms_133 (c_wh_count M) ?_
    intro x1
    refine xr_29_3 f_85_12 ?_ ?_
    · refine xr_1 f_85_29 rfl ?_
      exact xr_51 f_85_30
    · refine xr_1 f_85_15 rfl ?_
      refine xr_2 f_85_16 rfl ?_
      refine xr_1 f_85_17 rfl ?_
      refine xr_ci f_85_18 (Nat.le_of_ble_eq_true rfl) rfl rfl (xr_rv kd_84 h_8) (Nat.le_of_ble_eq_true rfl) mc_84 ms_84 (c_ri_personsIn a2 M) ?_
      intro x2
      refine xr_8 f_85_21 ?_
      refine xr_4l (fun y3 => [some (.ref 8), some (.int y3), some (.int a2)]) f_85_22 rfl (fun _ => rfl) ?_
      intro y3
      refine xr_7 [some (.ref 8), some (.int y3), some (.int (a2 + (1 : Int32)))] f_85_23 rfl rfl rfl ?_
      refine xr_27 f_85_26 ?_
      exact ih y3 (a2 + (1 : Int32))

def ri_personsUp  (M : e_Me) : Option Int32 :=
  ri_personsUp_l4 M e_F (0 : Int32) (0 : Int32)
theorem c_ri_personsUp  (M : e_Me) : x_C G 85 [.ref 8] M (x_ri M) (ri_personsUp  M) := by
  refine x_C_of 3 [some (.ref 8), none, none] (by decide) ml_85 (Nat.le_of_ble_eq_true rfl) rfl ?_
  rw [ri_personsUp]
  refine xr_0 f_85_0 ?_
  refine xr_4 [some (.ref 8), some (.int (0 : Int32)), none] f_85_1 rfl rfl ?_
  refine xr_0 f_85_2 ?_
  refine xr_4 [some (.ref 8), some (.int (0 : Int32)), some (.int (0 : Int32))] f_85_3 rfl rfl ?_
  exact c_ri_personsUp_l4 M e_F (0 : Int32) (0 : Int32)

def ri_personsWaiting  (M : e_Me) : Option Int32 :=
  x_bd (pa_personsOfAll 22 M) fun x1 =>
  some x1
theorem c_ri_personsWaiting  (M : e_Me) : x_C G 86 [.ref 8] M (x_ri M) (ri_personsWaiting  M) := by
  refine x_C_of 1 [some (.ref 8)] (by decide) ml_86 (Nat.le_of_ble_eq_true rfl) rfl ?_
  rw [ri_personsWaiting]
  refine xr_2 f_86_0 rfl ?_
  refine xr_30r f_86_1 h_8 rfl ?_
  refine xr_2 f_86_4 rfl ?_
  refine xr_30r f_86_5 h_8 rfl ?_
  refine xr_ci f_86_8 (Nat.le_of_ble_eq_true rfl) rfl rfl (xr_rv kd_40 h_9) (Nat.le_of_ble_eq_true rfl) mc_40 ms_40 (c_pa_personsOfAll 22 M) ?_
  intro x1
  exact xr_51 f_86_11

def ri_isAlone_l8  (ra2 : Nat) (na2 : Nat) (M : e_Me) : Nat → Int32 → Option Int32
  | 0, _ => none
  | F + 1, a3 =>
    x_bd (ro_count ra2 M) fun x1 =>
    if x1 ≤ a3 then
      some (0 : Int32)
    else
      x_bd (ro_at ra2 a3 M) fun x2 =>
      x_bd (pa_wantsAlone x2 M) fun x3 =>
      if x3 = 0 then
        ri_isAlone_l8 ra2 na2 M F (a3 + (1 : Int32))
      else
        some (1 : Int32)
theorem c_ri_isAlone_l8  (ra2 : Nat) (na2 : Nat) (hra2 : e_cap ra2 = some na2) (M : e_Me)  : ∀ (F : Nat) (a3 : Int32), x_X G 87 0 0 (x_ri M) 8 [some (.ref 8), none, some (.ref ra2), some (.int a3)] [] M (ri_isAlone_l8 ra2 na2 M F a3) := by
  intro F
  induction F with
  | zero => intro a3; exact xr_none
  | succ F ih =>
    intro a3
    rw [ri_isAlone_l8]
    refine xr_1 f_87_8 rfl ?_
    refine xr_2 f_87_9 rfl ?_
    refine xr_ci f_87_10 (Nat.le_of_ble_eq_true rfl) rfl rfl (xr_rv kd_111 (e_cap_obj hra2)) (Nat.le_of_ble_eq_true rfl) mc_111 ms_111 (c_ro_count ra2 M) ?_
    intro x1
    refine xr_29_3 f_87_13 ?_ ?_
    · refine xr_0 f_87_39 ?_
      exact xr_52c f_87_40 (by decide)
    · refine xr_2 f_87_16 rfl ?_
      refine xr_30r f_87_17 h_8 rfl ?_
      refine xr_2 f_87_20 rfl ?_
      refine xr_1 f_87_21 rfl ?_
      refine xr_ci f_87_22 (Nat.le_of_ble_eq_true rfl) rfl rfl (xr_rv kd_113 (e_cap_obj hra2)) (Nat.le_of_ble_eq_true rfl) mc_113 ms_113 (c_ro_at ra2 a3 M) ?_
      intro x2
      refine xr_ci f_87_25 (Nat.le_of_ble_eq_true rfl) rfl rfl (xr_rv kd_42 h_9) (Nat.le_of_ble_eq_true rfl) mc_42 ms_42 (c_pa_wantsAlone x2 M) ?_
      intro x3
      refine xr_28_0 f_87_28 ?_ ?_
      · refine xr_7 [some (.ref 8), none, some (.ref ra2), some (.int (a3 + (1 : Int32)))] f_87_33 rfl rfl rfl ?_
        refine xr_27 f_87_36 ?_
        exact ih (a3 + (1 : Int32))
      · refine xr_0 f_87_31 ?_
        exact xr_52c f_87_32 (by decide)

def ri_isAlone (a1 : Int32) (M : e_Me) : Option Int32 :=
  x_bd (ri_insideOf a1 M) fun r1 =>
  x_bd (e_cap r1) fun n2 =>
  ri_isAlone_l8 r1 n2 M e_F (0 : Int32)
theorem c_ri_isAlone (a1 : Int32) (M : e_Me) : x_C G 87 [.ref 8, .int a1] M (x_ri M) (ri_isAlone a1 M) := by
  refine x_C_of 4 [some (.ref 8), some (.int a1), none, none] (by decide) ml_87 (Nat.le_of_ble_eq_true rfl) rfl ?_
  rw [ri_isAlone]
  refine xr_2 f_87_0 rfl ?_
  refine xr_1 f_87_1 rfl ?_
  refine xr_cr f_87_2 (Nat.le_of_ble_eq_true rfl) rfl rfl (xr_rv kd_79 h_8) (Nat.le_of_ble_eq_true rfl) mc_79 ms_79 (c_ri_insideOf a1 M) ?_
  intro r1
  refine xr_cap ?_
  intro n2 hn2
  refine xr_5 [some (.ref 8), some (.int a1), some (.ref r1), none] f_87_5 rfl rfl ?_
  refine xr_0 f_87_6 ?_
  refine xr_4 [some (.ref 8), some (.int a1), some (.ref r1), some (.int (0 : Int32))] f_87_7 rfl rfl ?_
  refine xr_wk (L' := [some (.ref 8), none, some (.ref r1), some (.int (0 : Int32))]) [true, false, true, true] rfl ?_
  exact c_ri_isAlone_l8 r1 n2 hn2 M e_F (0 : Int32)

def ri_showTop_l14  (ra1 : Nat) (na1 : Nat) : Nat → Int32 → e_Me → Option e_Me
  | 0, _, _ => none
  | F + 1, a2, M =>
    x_bd (ro_count ra1 M) fun x1 =>
    if x1 ≤ a2 then
      some M
    else
      x_bd (ro_at ra1 a2 M) fun x2 =>
      x_bd (pa_see x2 M) fun M3 =>
      ri_showTop_l14 ra1 na1 F (a2 + (1 : Int32)) M3
theorem c_ri_showTop_l14  (ra1 : Nat) (na1 : Nat) (hra1 : e_cap ra1 = some na1)  : ∀ (F : Nat) (a2 : Int32) (M : e_Me), x_X G 88 0 0 x_rv 14 [some (.ref 8), some (.ref ra1), some (.int a2)] [] M (ri_showTop_l14 ra1 na1 F a2 M) := by
  intro F
  induction F with
  | zero => intro a2 M; exact xr_none
  | succ F ih =>
    intro a2 M
    rw [ri_showTop_l14]
    refine xr_1 f_88_14 rfl ?_
    refine xr_2 f_88_15 rfl ?_
    refine xr_ci f_88_16 (Nat.le_of_ble_eq_true rfl) rfl rfl (xr_rv kd_111 (e_cap_obj hra1)) (Nat.le_of_ble_eq_true rfl) mc_111 ms_111 (c_ro_count ra1 M) ?_
    intro x1
    refine xr_29_3 f_88_19 ?_ ?_
    · exact xr_50 f_88_40
    · refine xr_2 f_88_22 rfl ?_
      refine xr_30r f_88_23 h_8 rfl ?_
      refine xr_2 f_88_26 rfl ?_
      refine xr_1 f_88_27 rfl ?_
      refine xr_ci f_88_28 (Nat.le_of_ble_eq_true rfl) rfl rfl (xr_rv kd_113 (e_cap_obj hra1)) (Nat.le_of_ble_eq_true rfl) mc_113 ms_113 (c_ro_at ra1 a2 M) ?_
      intro x2
      refine xr_cv f_88_31 (Nat.le_of_ble_eq_true rfl) rfl rfl (xr_rv kd_44 h_9) (Nat.le_of_ble_eq_true rfl) mc_44 ms_44 (c_pa_see x2 M) ?_
      intro M3
      refine xr_7 [some (.ref 8), some (.ref ra1), some (.int (a2 + (1 : Int32)))] f_88_34 rfl rfl rfl ?_
      refine xr_27 f_88_37 ?_
      exact ih (a2 + (1 : Int32)) M3

def ri_showTop  (M : e_Me) : Option e_Me :=
  x_bd (wh_atTop M) fun x1 =>
  x_bd (ri_insideOf x1 M) fun r2 =>
  x_bd (e_cap r2) fun n3 =>
  ri_showTop_l14 r2 n3 e_F (0 : Int32) M
theorem c_ri_showTop  (M : e_Me) : x_C G 88 [.ref 8] M x_rv (ri_showTop  M) := by
  refine x_C_of 3 [some (.ref 8), none, none] (by decide) ml_88 (Nat.le_of_ble_eq_true rfl) rfl ?_
  rw [ri_showTop]
  refine xr_2 f_88_0 rfl ?_
  refine xr_2 f_88_1 rfl ?_
  refine xr_30r f_88_2 h_8 rfl ?_
  refine xr_ci f_88_5 (Nat.le_of_ble_eq_true rfl) rfl rfl (xr_rv kd_141 h_3) (Nat.le_of_ble_eq_true rfl) mc_141 ms_141 (c_wh_atTop M) ?_
  intro x1
  refine xr_cr f_88_8 (Nat.le_of_ble_eq_true rfl) rfl rfl (xr_rv kd_79 h_8) (Nat.le_of_ble_eq_true rfl) mc_79 ms_79 (c_ri_insideOf x1 M) ?_
  intro r2
  refine xr_cap ?_
  intro n3 hn3
  refine xr_5 [some (.ref 8), some (.ref r2), none] f_88_11 rfl rfl ?_
  refine xr_0 f_88_12 ?_
  refine xr_4 [some (.ref 8), some (.ref r2), some (.int (0 : Int32))] f_88_13 rfl rfl ?_
  exact c_ri_showTop_l14 r2 n3 hn3 e_F (0 : Int32) M

def ri_takesMore  (M : e_Me) : Option Int32 :=
  x_bd (ro_hasRoom 22 M) fun x1 =>
  if x1 = 0 then
    some (0 : Int32)
  else
    x_bd (pa_hasRoom M) fun x2 =>
    if x2 = 0 then
      some (0 : Int32)
    else
      some (1 : Int32)
theorem c_ri_takesMore  (M : e_Me) : x_C G 89 [.ref 8] M (x_ri M) (ri_takesMore  M) := by
  refine x_C_of 1 [some (.ref 8)] (by decide) ml_89 (Nat.le_of_ble_eq_true rfl) rfl ?_
  rw [ri_takesMore]
  refine xr_2 f_89_0 rfl ?_
  refine xr_30r f_89_1 h_8 rfl ?_
  refine xr_ci f_89_4 (Nat.le_of_ble_eq_true rfl) rfl rfl (xr_rv kd_112 h_22) (Nat.le_of_ble_eq_true rfl) mc_112 ms_112 (c_ro_hasRoom 22 M) ?_
  intro x1
  refine xr_28_0 f_89_7 ?_ ?_
  · refine xr_0 f_89_24 ?_
    exact xr_52c f_89_25 (by decide)
  · refine xr_2 f_89_10 rfl ?_
    refine xr_30r f_89_11 h_8 rfl ?_
    refine xr_ci f_89_14 (Nat.le_of_ble_eq_true rfl) rfl rfl (xr_rv kd_37 h_9) (Nat.le_of_ble_eq_true rfl) mc_37 ms_37 (c_pa_hasRoom M) ?_
    intro x2
    refine xr_28_0 f_89_17 ?_ ?_
    · refine xr_0 f_89_24 ?_
      exact xr_52c f_89_25 (by decide)
    · refine xr_0 f_89_20 ?_
      refine xr_27 f_89_21 ?_
      exact xr_52c f_89_25 (by decide)

def ri_queueUp (a1 : Int32) (a2 : Int32) (a3 : Int32) (M : e_Me) : Option (Int32 × e_Me) :=
  x_bi (pa_add a1 a2 a3 M) fun x1 M2 =>
  x_bd (ro_append 22 x1 M2) fun M3 =>
  some (x1, M3)
theorem c_ri_queueUp (a1 : Int32) (a2 : Int32) (a3 : Int32) (M : e_Me) : x_C G 90 [.ref 8, .int a1, .int a2, .int a3] M x_rim (ri_queueUp a1 a2 a3 M) := by
  refine x_C_of 5 [some (.ref 8), some (.int a1), some (.int a2), some (.int a3), none] (by decide) ml_90 (Nat.le_of_ble_eq_true rfl) rfl ?_
  rw [ri_queueUp]
  refine xr_2 f_90_0 rfl ?_
  refine xr_30r f_90_1 h_8 rfl ?_
  refine xr_1 f_90_4 rfl ?_
  refine xr_1 f_90_5 rfl ?_
  refine xr_1 f_90_6 rfl ?_
  refine xr_cim f_90_7 (Nat.le_of_ble_eq_true rfl) rfl rfl (xr_rv kd_38 h_9) (Nat.le_of_ble_eq_true rfl) mc_38 ms_38 (c_pa_add a1 a2 a3 M) ?_
  intro x1 M2
  refine xr_4 [some (.ref 8), some (.int a1), some (.int a2), some (.int a3), some (.int x1)] f_90_10 rfl rfl ?_
  refine xr_2 f_90_12 rfl ?_
  refine xr_30r f_90_13 h_8 rfl ?_
  refine xr_1 f_90_16 rfl ?_
  refine xr_cv f_90_18 (Nat.le_of_ble_eq_true rfl) rfl rfl (xr_rv kd_115 h_22) (Nat.le_of_ble_eq_true rfl) mc_115 ms_115 (c_ro_append 22 x1 M2) ?_
  intro M3
  refine xr_1 f_90_21 rfl ?_
  exact xr_51m f_90_23

def ri_waiting (a1 : Int32) (M : e_Me) : Option Int32 :=
  x_bd (ro_at 22 a1 M) fun x1 =>
  some x1
theorem c_ri_waiting (a1 : Int32) (M : e_Me) : x_C G 91 [.ref 8, .int a1] M (x_ri M) (ri_waiting a1 M) := by
  refine x_C_of 2 [some (.ref 8), some (.int a1)] (by decide) ml_91 (Nat.le_of_ble_eq_true rfl) rfl ?_
  rw [ri_waiting]
  refine xr_2 f_91_0 rfl ?_
  refine xr_30r f_91_1 h_8 rfl ?_
  refine xr_1 f_91_4 rfl ?_
  refine xr_ci f_91_5 (Nat.le_of_ble_eq_true rfl) rfl rfl (xr_rv kd_113 h_22) (Nat.le_of_ble_eq_true rfl) mc_113 ms_113 (c_ro_at 22 a1 M) ?_
  intro x1
  exact xr_51 f_91_8

def ri_mayBoard_b58  (a1 : Int32) (a2 : Int32) (M : e_Me) : Option Int32 :=
  x_bd (pa_weightOf a1 M) fun x1 =>
  x_bd (wh_greatestWith a2 x1 M) fun x2 =>
  x_bd (ru_valueOf (0 : Int32) M) fun x3 =>
  if x3 < x2 then
    some (0 : Int32)
  else
    some (1 : Int32)
theorem c_ri_mayBoard_b58  (a1 : Int32) (a2 : Int32) (M : e_Me)  : x_X G 92 0 0 (x_ri M) 58 [some (.ref 8), some (.int a1), some (.int a2)] [] M (ri_mayBoard_b58 a1 a2 M) := by
  rw [ri_mayBoard_b58]
  refine xr_2 f_92_58 rfl ?_
  refine xr_30r f_92_59 h_8 rfl ?_
  refine xr_1 f_92_62 rfl ?_
  refine xr_2 f_92_63 rfl ?_
  refine xr_30r f_92_64 h_8 rfl ?_
  refine xr_1 f_92_67 rfl ?_
  refine xr_ci f_92_68 (Nat.le_of_ble_eq_true rfl) rfl rfl (xr_rv kd_41 h_9) (Nat.le_of_ble_eq_true rfl) mc_41 ms_41 (c_pa_weightOf a1 M) ?_
  intro x1
  refine xr_ci f_92_71 (Nat.le_of_ble_eq_true rfl) rfl rfl (xr_rv kd_149 h_3) (Nat.le_of_ble_eq_true rfl) mc_149 ms_149 (c_wh_greatestWith a2 x1 M) ?_
  intro x2
  refine xr_2 f_92_74 rfl ?_
  refine xr_30r f_92_75 h_8 rfl ?_
  refine xr_0 f_92_78 ?_
  refine xr_ci f_92_79 (Nat.le_of_ble_eq_true rfl) rfl rfl (xr_rv kd_125 h_1) (Nat.le_of_ble_eq_true rfl) mc_125 ms_125 (c_ru_valueOf (0 : Int32) M) ?_
  intro x3
  refine xr_29_4 f_92_82 ?_ ?_
  · refine xr_0 f_92_89 ?_
    exact xr_52c f_92_90 (by decide)
  · refine xr_0 f_92_85 ?_
    refine xr_27 f_92_86 ?_
    exact xr_52c f_92_90 (by decide)

def ri_mayBoard (a1 : Int32) (M : e_Me) : Option Int32 :=
  x_bd (wh_atDoor M) fun x1 =>
  x_bd (ri_personsIn x1 M) fun x2 =>
  x_bd (pa_personsOf a1 M) fun x3 =>
  if (x2 + x3) ≤ (6 : Int32) then
    x_bd (ri_partiesIn x1 M) fun x4 =>
    if x4 ≤ 0 then
      ri_mayBoard_b58 a1 x1 M
    else
      x_bd (ri_isAlone x1 M) fun x5 =>
      if x5 = 0 then
        x_bd (pa_wantsAlone a1 M) fun x6 =>
        if x6 = 0 then
          ri_mayBoard_b58 a1 x1 M
        else
          some (0 : Int32)
      else
        some (0 : Int32)
  else
    some (0 : Int32)
theorem c_ri_mayBoard (a1 : Int32) (M : e_Me) : x_C G 92 [.ref 8, .int a1] M (x_ri M) (ri_mayBoard a1 M) := by
  refine x_C_of 3 [some (.ref 8), some (.int a1), none] (by decide) ml_92 (Nat.le_of_ble_eq_true rfl) rfl ?_
  rw [ri_mayBoard]
  refine xr_2 f_92_0 rfl ?_
  refine xr_30r f_92_1 h_8 rfl ?_
  refine xr_ci f_92_4 (Nat.le_of_ble_eq_true rfl) rfl rfl (xr_rv kd_138 h_3) (Nat.le_of_ble_eq_true rfl) mc_138 ms_138 (c_wh_atDoor M) ?_
  intro x1
  refine xr_4 [some (.ref 8), some (.int a1), some (.int x1)] f_92_7 rfl rfl ?_
  refine xr_2 f_92_8 rfl ?_
  refine xr_1 f_92_9 rfl ?_
  refine xr_ci f_92_10 (Nat.le_of_ble_eq_true rfl) rfl rfl (xr_rv kd_84 h_8) (Nat.le_of_ble_eq_true rfl) mc_84 ms_84 (c_ri_personsIn x1 M) ?_
  intro x2
  refine xr_2 f_92_13 rfl ?_
  refine xr_30r f_92_14 h_8 rfl ?_
  refine xr_1 f_92_17 rfl ?_
  refine xr_ci f_92_18 (Nat.le_of_ble_eq_true rfl) rfl rfl (xr_rv kd_39 h_9) (Nat.le_of_ble_eq_true rfl) mc_39 ms_39 (c_pa_personsOf a1 M) ?_
  intro x3
  refine xr_8 f_92_21 ?_
  refine xr_0 f_92_22 ?_
  refine xr_29_5 f_92_24 ?_ ?_
  · refine xr_2 f_92_29 rfl ?_
    refine xr_1 f_92_30 rfl ?_
    refine xr_ci f_92_31 (Nat.le_of_ble_eq_true rfl) rfl rfl (xr_rv kd_82 h_8) (Nat.le_of_ble_eq_true rfl) mc_82 ms_82 (c_ri_partiesIn x1 M) ?_
    intro x4
    refine xr_28_5 f_92_34 ?_ ?_
    · exact c_ri_mayBoard_b58 a1 x1 M
    · refine xr_2 f_92_37 rfl ?_
      refine xr_1 f_92_38 rfl ?_
      refine xr_ci f_92_39 (Nat.le_of_ble_eq_true rfl) rfl rfl (xr_rv kd_87 h_8) (Nat.le_of_ble_eq_true rfl) mc_87 ms_87 (c_ri_isAlone x1 M) ?_
      intro x5
      refine xr_28_1 f_92_42 ?_ ?_
      · refine xr_0 f_92_56 ?_
        exact xr_52c f_92_57 (by decide)
      · refine xr_2 f_92_45 rfl ?_
        refine xr_30r f_92_46 h_8 rfl ?_
        refine xr_1 f_92_49 rfl ?_
        refine xr_ci f_92_50 (Nat.le_of_ble_eq_true rfl) rfl rfl (xr_rv kd_42 h_9) (Nat.le_of_ble_eq_true rfl) mc_42 ms_42 (c_pa_wantsAlone a1 M) ?_
        intro x6
        refine xr_28_0 f_92_53 ?_ ?_
        · exact c_ri_mayBoard_b58 a1 x1 M
        · refine xr_0 f_92_56 ?_
          exact xr_52c f_92_57 (by decide)
  · refine xr_0 f_92_27 ?_
    exact xr_52c f_92_28 (by decide)

def ri_placeOfNext_l11  (a1 : Int32) (M : e_Me) : Nat → Int32 → Option Int32
  | 0, _ => none
  | F + 1, a2 =>
    x_bd (ro_count 22 M) fun x1 =>
    if x1 ≤ a2 then
      some (-1 : Int32)
    else
      x_bd (ro_at 22 a2 M) fun x2 =>
      x_bd (ri_mayBoard x2 M) fun x3 =>
      if x3 = 0 then
        x_bd (pa_timesPassed x2 M) fun x4 =>
        if x4 < a1 then
          ri_placeOfNext_l11 a1 M F (a2 + (1 : Int32))
        else
          some (-1 : Int32)
      else
        some a2
theorem c_ri_placeOfNext_l11  (a1 : Int32) (M : e_Me)  : ∀ (F : Nat) (a2 : Int32), x_X G 93 0 0 (x_ri M) 11 [some (.ref 8), some (.int a1), some (.int a2), none] [] M (ri_placeOfNext_l11 a1 M F a2) := by
  intro F
  induction F with
  | zero => intro a2; exact xr_none
  | succ F ih =>
    intro a2
    rw [ri_placeOfNext_l11]
    refine xr_1 f_93_11 rfl ?_
    refine xr_2 f_93_12 rfl ?_
    refine xr_30r f_93_13 h_8 rfl ?_
    refine xr_ci f_93_16 (Nat.le_of_ble_eq_true rfl) rfl rfl (xr_rv kd_111 h_22) (Nat.le_of_ble_eq_true rfl) mc_111 ms_111 (c_ro_count 22 M) ?_
    intro x1
    refine xr_29_3 f_93_19 ?_ ?_
    · refine xr_0 f_93_61 ?_
      exact xr_51 f_93_62
    · refine xr_2 f_93_22 rfl ?_
      refine xr_30r f_93_23 h_8 rfl ?_
      refine xr_1 f_93_26 rfl ?_
      refine xr_ci f_93_27 (Nat.le_of_ble_eq_true rfl) rfl rfl (xr_rv kd_113 h_22) (Nat.le_of_ble_eq_true rfl) mc_113 ms_113 (c_ro_at 22 a2 M) ?_
      intro x2
      refine xr_4 [some (.ref 8), some (.int a1), some (.int a2), some (.int x2)] f_93_30 rfl rfl ?_
      refine xr_2 f_93_31 rfl ?_
      refine xr_1 f_93_32 rfl ?_
      refine xr_ci f_93_33 (Nat.le_of_ble_eq_true rfl) rfl rfl (xr_rv kd_92 h_8) (Nat.le_of_ble_eq_true rfl) mc_92 ms_92 (c_ri_mayBoard x2 M) ?_
      intro x3
      refine xr_28_0 f_93_36 ?_ ?_
      · refine xr_2 f_93_41 rfl ?_
        refine xr_30r f_93_42 h_8 rfl ?_
        refine xr_1 f_93_45 rfl ?_
        refine xr_ci f_93_46 (Nat.le_of_ble_eq_true rfl) rfl rfl (xr_rv kd_45 h_9) (Nat.le_of_ble_eq_true rfl) mc_45 ms_45 (c_pa_timesPassed x2 M) ?_
        intro x4
        refine xr_1 f_93_49 rfl ?_
        refine xr_29_2 f_93_50 ?_ ?_
        · refine xr_7 [some (.ref 8), some (.int a1), some (.int (a2 + (1 : Int32))), some (.int x2)] f_93_55 rfl rfl rfl ?_
          refine xr_27 f_93_58 ?_
          refine xr_wk (L' := [some (.ref 8), some (.int a1), some (.int (a2 + (1 : Int32))), none]) [true, true, true, false] rfl ?_
          exact ih (a2 + (1 : Int32))
        · refine xr_0 f_93_53 ?_
          exact xr_51 f_93_54
      · refine xr_1 f_93_39 rfl ?_
        exact xr_51 f_93_40

def ri_placeOfNext  (M : e_Me) : Option Int32 :=
  x_bd (ru_valueOf (3 : Int32) M) fun x1 =>
  ri_placeOfNext_l11 x1 M e_F (0 : Int32)
theorem c_ri_placeOfNext  (M : e_Me) : x_C G 93 [.ref 8] M (x_ri M) (ri_placeOfNext  M) := by
  refine x_C_of 4 [some (.ref 8), none, none, none] (by decide) ml_93 (Nat.le_of_ble_eq_true rfl) rfl ?_
  rw [ri_placeOfNext]
  refine xr_2 f_93_0 rfl ?_
  refine xr_30r f_93_1 h_8 rfl ?_
  refine xr_0 f_93_4 ?_
  refine xr_ci f_93_5 (Nat.le_of_ble_eq_true rfl) rfl rfl (xr_rv kd_125 h_1) (Nat.le_of_ble_eq_true rfl) mc_125 ms_125 (c_ru_valueOf (3 : Int32) M) ?_
  intro x1
  refine xr_4 [some (.ref 8), some (.int x1), none, none] f_93_8 rfl rfl ?_
  refine xr_0 f_93_9 ?_
  refine xr_4 [some (.ref 8), some (.int x1), some (.int (0 : Int32)), none] f_93_10 rfl rfl ?_
  exact c_ri_placeOfNext_l11 x1 M e_F (0 : Int32)

def ri_boardNext_b40  (a1 : Int32) (M : e_Me) : Option (Int32 × e_Me) :=
  x_bd (ro_at 22 a1 M) fun x1 =>
  x_bd (wh_atDoor M) fun x2 =>
  x_bd (ro_cut 22 a1 M) fun M3 =>
  x_bd (ri_insideOf x2 M3) fun r4 =>
  x_bd (e_cap r4) fun n5 =>
  x_bd (ro_append r4 x1 M3) fun M6 =>
  x_bd (pa_moveTo x1 x2 M6) fun M7 =>
  x_bd (pa_weightOf x1 M7) fun x8 =>
  x_bd (wh_addLoad x2 x8 M7) fun M9 =>
  some (x1, M9)
theorem c_ri_boardNext_b40  (a1 : Int32) (M : e_Me)  : x_X G 94 0 0 x_rim 40 [some (.ref 8), some (.int a1), none, none] [] M (ri_boardNext_b40 a1 M) := by
  rw [ri_boardNext_b40]
  refine xr_2 f_94_40 rfl ?_
  refine xr_30r f_94_41 h_8 rfl ?_
  refine xr_1 f_94_44 rfl ?_
  refine xr_ci f_94_45 (Nat.le_of_ble_eq_true rfl) rfl rfl (xr_rv kd_113 h_22) (Nat.le_of_ble_eq_true rfl) mc_113 ms_113 (c_ro_at 22 a1 M) ?_
  intro x1
  refine xr_4 [some (.ref 8), some (.int a1), some (.int x1), none] f_94_48 rfl rfl ?_
  refine xr_2 f_94_49 rfl ?_
  refine xr_30r f_94_50 h_8 rfl ?_
  refine xr_ci f_94_53 (Nat.le_of_ble_eq_true rfl) rfl rfl (xr_rv kd_138 h_3) (Nat.le_of_ble_eq_true rfl) mc_138 ms_138 (c_wh_atDoor M) ?_
  intro x2
  refine xr_4 [some (.ref 8), some (.int a1), some (.int x1), some (.int x2)] f_94_56 rfl rfl ?_
  refine xr_2 f_94_57 rfl ?_
  refine xr_30r f_94_58 h_8 rfl ?_
  refine xr_1 f_94_61 rfl ?_
  refine xr_cv f_94_62 (Nat.le_of_ble_eq_true rfl) rfl rfl (xr_rv kd_118 h_22) (Nat.le_of_ble_eq_true rfl) mc_118 ms_118 (c_ro_cut 22 a1 M) ?_
  intro M3
  refine xr_2 f_94_65 rfl ?_
  refine xr_1 f_94_66 rfl ?_
  refine xr_cr f_94_67 (Nat.le_of_ble_eq_true rfl) rfl rfl (xr_rv kd_79 h_8) (Nat.le_of_ble_eq_true rfl) mc_79 ms_79 (c_ri_insideOf x2 M3) ?_
  intro r4
  refine xr_cap ?_
  intro n5 hn5
  refine xr_1 f_94_70 rfl ?_
  refine xr_cv f_94_71 (Nat.le_of_ble_eq_true rfl) rfl rfl (xr_rv kd_115 (e_cap_obj hn5)) (Nat.le_of_ble_eq_true rfl) mc_115 ms_115 (c_ro_append r4 x1 M3) ?_
  intro M6
  refine xr_2 f_94_74 rfl ?_
  refine xr_30r f_94_75 h_8 rfl ?_
  refine xr_1 f_94_78 rfl ?_
  refine xr_1 f_94_79 rfl ?_
  refine xr_cv f_94_80 (Nat.le_of_ble_eq_true rfl) rfl rfl (xr_rv kd_43 h_9) (Nat.le_of_ble_eq_true rfl) mc_43 ms_43 (c_pa_moveTo x1 x2 M6) ?_
  intro M7
  refine xr_2 f_94_83 rfl ?_
  refine xr_30r f_94_84 h_8 rfl ?_
  refine xr_1 f_94_87 rfl ?_
  refine xr_2 f_94_88 rfl ?_
  refine xr_30r f_94_89 h_8 rfl ?_
  refine xr_1 f_94_92 rfl ?_
  refine xr_ci f_94_93 (Nat.le_of_ble_eq_true rfl) rfl rfl (xr_rv kd_41 h_9) (Nat.le_of_ble_eq_true rfl) mc_41 ms_41 (c_pa_weightOf x1 M7) ?_
  intro x8
  refine xr_cv f_94_96 (Nat.le_of_ble_eq_true rfl) rfl rfl (xr_rv kd_146 h_3) (Nat.le_of_ble_eq_true rfl) mc_146 ms_146 (c_wh_addLoad x2 x8 M7) ?_
  intro M9
  refine xr_1 f_94_99 rfl ?_
  exact xr_51m f_94_100

def ri_boardNext_l14  (a1 : Int32) : Nat → Int32 → e_Me → Option (Int32 × e_Me)
  | 0, _, _ => none
  | F + 1, a2, M =>
    if a1 ≤ a2 then
      ri_boardNext_b40 a1 M
    else
      x_bd (ro_at 22 a2 M) fun x1 =>
      x_bd (pa_passOver x1 M) fun M2 =>
      ri_boardNext_l14 a1 F (a2 + (1 : Int32)) M2
theorem c_ri_boardNext_l14  (a1 : Int32)  : ∀ (F : Nat) (a2 : Int32) (M : e_Me), x_X G 94 0 0 x_rim 14 [some (.ref 8), some (.int a1), some (.int a2), none] [] M (ri_boardNext_l14 a1 F a2 M) := by
  intro F
  induction F with
  | zero => intro a2 M; exact xr_none
  | succ F ih =>
    intro a2 M
    rw [ri_boardNext_l14]
    refine xr_1 f_94_14 rfl ?_
    refine xr_1 f_94_15 rfl ?_
    refine xr_29_3 f_94_16 ?_ ?_
    · refine xr_wk (L' := [some (.ref 8), some (.int a1), none, none]) [true, true, false, true] rfl ?_
      exact c_ri_boardNext_b40 a1 M
    · refine xr_2 f_94_19 rfl ?_
      refine xr_30r f_94_20 h_8 rfl ?_
      refine xr_2 f_94_23 rfl ?_
      refine xr_30r f_94_24 h_8 rfl ?_
      refine xr_1 f_94_27 rfl ?_
      refine xr_ci f_94_28 (Nat.le_of_ble_eq_true rfl) rfl rfl (xr_rv kd_113 h_22) (Nat.le_of_ble_eq_true rfl) mc_113 ms_113 (c_ro_at 22 a2 M) ?_
      intro x1
      refine xr_cv f_94_31 (Nat.le_of_ble_eq_true rfl) rfl rfl (xr_rv kd_46 h_9) (Nat.le_of_ble_eq_true rfl) mc_46 ms_46 (c_pa_passOver x1 M) ?_
      intro M2
      refine xr_7 [some (.ref 8), some (.int a1), some (.int (a2 + (1 : Int32))), none] f_94_34 rfl rfl rfl ?_
      refine xr_27 f_94_37 ?_
      exact ih (a2 + (1 : Int32)) M2

def ri_boardNext  (M : e_Me) : Option (Int32 × e_Me) :=
  x_bd (ri_placeOfNext M) fun x1 =>
  if x1 = (-1 : Int32) then
    some ((-1 : Int32), M)
  else
    ri_boardNext_l14 x1 e_F (0 : Int32) M
theorem c_ri_boardNext  (M : e_Me) : x_C G 94 [.ref 8] M x_rim (ri_boardNext  M) := by
  refine x_C_of 4 [some (.ref 8), none, none, none] (by decide) ml_94 (Nat.le_of_ble_eq_true rfl) rfl ?_
  rw [ri_boardNext]
  refine xr_2 f_94_0 rfl ?_
  refine xr_ci f_94_1 (Nat.le_of_ble_eq_true rfl) rfl rfl (xr_rv kd_93 h_8) (Nat.le_of_ble_eq_true rfl) mc_93 ms_93 (c_ri_placeOfNext M) ?_
  intro x1
  refine xr_4 [some (.ref 8), some (.int x1), none, none] f_94_4 rfl rfl ?_
  refine xr_1 f_94_5 rfl ?_
  refine xr_0 f_94_6 ?_
  refine xr_29_1 f_94_7 ?_ ?_
  · refine xr_0 f_94_12 ?_
    refine xr_4 [some (.ref 8), some (.int x1), some (.int (0 : Int32)), none] f_94_13 rfl rfl ?_
    exact c_ri_boardNext_l14 x1 e_F (0 : Int32) M
  · refine xr_0 f_94_10 ?_
    exact xr_51m f_94_11

def ri_sendAway (a1 : Int32) (M : e_Me) : Option (Int32 × e_Me) :=
  x_bd (ro_at 22 a1 M) fun x1 =>
  x_bd (ro_cut 22 a1 M) fun M2 =>
  x_bd (pa_moveTo x1 (101 : Int32) M2) fun M3 =>
  some (x1, M3)
theorem c_ri_sendAway (a1 : Int32) (M : e_Me) : x_C G 95 [.ref 8, .int a1] M x_rim (ri_sendAway a1 M) := by
  refine x_C_of 3 [some (.ref 8), some (.int a1), none] (by decide) ml_95 (Nat.le_of_ble_eq_true rfl) rfl ?_
  rw [ri_sendAway]
  refine xr_2 f_95_0 rfl ?_
  refine xr_30r f_95_1 h_8 rfl ?_
  refine xr_1 f_95_4 rfl ?_
  refine xr_ci f_95_5 (Nat.le_of_ble_eq_true rfl) rfl rfl (xr_rv kd_113 h_22) (Nat.le_of_ble_eq_true rfl) mc_113 ms_113 (c_ro_at 22 a1 M) ?_
  intro x1
  refine xr_4 [some (.ref 8), some (.int a1), some (.int x1)] f_95_8 rfl rfl ?_
  refine xr_2 f_95_9 rfl ?_
  refine xr_30r f_95_10 h_8 rfl ?_
  refine xr_1 f_95_13 rfl ?_
  refine xr_cv f_95_14 (Nat.le_of_ble_eq_true rfl) rfl rfl (xr_rv kd_118 h_22) (Nat.le_of_ble_eq_true rfl) mc_118 ms_118 (c_ro_cut 22 a1 M) ?_
  intro M2
  refine xr_2 f_95_17 rfl ?_
  refine xr_30r f_95_18 h_8 rfl ?_
  refine xr_1 f_95_21 rfl ?_
  refine xr_0 f_95_22 ?_
  refine xr_cv f_95_24 (Nat.le_of_ble_eq_true rfl) rfl rfl (xr_rv kd_43 h_9) (Nat.le_of_ble_eq_true rfl) mc_43 ms_43 (c_pa_moveTo x1 (101 : Int32) M2) ?_
  intro M3
  refine xr_1 f_95_27 rfl ?_
  exact xr_51m f_95_28

def ri_isAtDoor (a1 : Int32) (M : e_Me) : Option Int32 :=
  x_bd (wh_atDoor M) fun x1 =>
  x_bd (ri_insideOf x1 M) fun r2 =>
  x_bd (e_cap r2) fun n3 =>
  x_bd (ro_placeOf r2 a1 M) fun x4 =>
  if x4 = (-1 : Int32) then
    some (0 : Int32)
  else
    some (1 : Int32)
theorem c_ri_isAtDoor (a1 : Int32) (M : e_Me) : x_C G 96 [.ref 8, .int a1] M (x_ri M) (ri_isAtDoor a1 M) := by
  refine x_C_of 2 [some (.ref 8), some (.int a1)] (by decide) ml_96 (Nat.le_of_ble_eq_true rfl) rfl ?_
  rw [ri_isAtDoor]
  refine xr_2 f_96_0 rfl ?_
  refine xr_2 f_96_1 rfl ?_
  refine xr_30r f_96_2 h_8 rfl ?_
  refine xr_ci f_96_5 (Nat.le_of_ble_eq_true rfl) rfl rfl (xr_rv kd_138 h_3) (Nat.le_of_ble_eq_true rfl) mc_138 ms_138 (c_wh_atDoor M) ?_
  intro x1
  refine xr_cr f_96_8 (Nat.le_of_ble_eq_true rfl) rfl rfl (xr_rv kd_79 h_8) (Nat.le_of_ble_eq_true rfl) mc_79 ms_79 (c_ri_insideOf x1 M) ?_
  intro r2
  refine xr_cap ?_
  intro n3 hn3
  refine xr_1 f_96_11 rfl ?_
  refine xr_ci f_96_12 (Nat.le_of_ble_eq_true rfl) rfl rfl (xr_rv kd_114 (e_cap_obj hn3)) (Nat.le_of_ble_eq_true rfl) mc_114 ms_114 (c_ro_placeOf r2 a1 M) ?_
  intro x4
  refine xr_0 f_96_15 ?_
  refine xr_29_0 f_96_16 ?_ ?_
  · refine xr_0 f_96_23 ?_
    exact xr_52c f_96_24 (by decide)
  · refine xr_0 f_96_19 ?_
    refine xr_27 f_96_20 ?_
    exact xr_52c f_96_24 (by decide)

def ri_mayLeave (a1 : Int32) (M : e_Me) : Option Int32 :=
  x_bd (wh_atDoor M) fun x1 =>
  x_bd (pa_weightOf a1 M) fun x2 =>
  x_bd (wh_greatestWith x1 (-x2) M) fun x3 =>
  x_bd (ru_valueOf (0 : Int32) M) fun x4 =>
  if x3 ≤ x4 then
    some (1 : Int32)
  else
    x_bd (wh_greatestLean M) fun x5 =>
    if x5 ≤ x3 then
      some (0 : Int32)
    else
      some (1 : Int32)
theorem c_ri_mayLeave (a1 : Int32) (M : e_Me) : x_C G 97 [.ref 8, .int a1] M (x_ri M) (ri_mayLeave a1 M) := by
  refine x_C_of 3 [some (.ref 8), some (.int a1), none] (by decide) ml_97 (Nat.le_of_ble_eq_true rfl) rfl ?_
  rw [ri_mayLeave]
  refine xr_2 f_97_0 rfl ?_
  refine xr_30r f_97_1 h_8 rfl ?_
  refine xr_2 f_97_4 rfl ?_
  refine xr_30r f_97_5 h_8 rfl ?_
  refine xr_ci f_97_8 (Nat.le_of_ble_eq_true rfl) rfl rfl (xr_rv kd_138 h_3) (Nat.le_of_ble_eq_true rfl) mc_138 ms_138 (c_wh_atDoor M) ?_
  intro x1
  refine xr_2 f_97_11 rfl ?_
  refine xr_30r f_97_12 h_8 rfl ?_
  refine xr_1 f_97_15 rfl ?_
  refine xr_ci f_97_16 (Nat.le_of_ble_eq_true rfl) rfl rfl (xr_rv kd_41 h_9) (Nat.le_of_ble_eq_true rfl) mc_41 ms_41 (c_pa_weightOf a1 M) ?_
  intro x2
  refine xr_11 f_97_19 ?_
  refine xr_ci f_97_20 (Nat.le_of_ble_eq_true rfl) rfl rfl (xr_rv kd_149 h_3) (Nat.le_of_ble_eq_true rfl) mc_149 ms_149 (c_wh_greatestWith x1 (-x2) M) ?_
  intro x3
  refine xr_4 [some (.ref 8), some (.int a1), some (.int x3)] f_97_23 rfl rfl ?_
  refine xr_1 f_97_24 rfl ?_
  refine xr_2 f_97_25 rfl ?_
  refine xr_30r f_97_26 h_8 rfl ?_
  refine xr_0 f_97_29 ?_
  refine xr_ci f_97_30 (Nat.le_of_ble_eq_true rfl) rfl rfl (xr_rv kd_125 h_1) (Nat.le_of_ble_eq_true rfl) mc_125 ms_125 (c_ru_valueOf (0 : Int32) M) ?_
  intro x4
  refine xr_29_5 f_97_33 ?_ ?_
  · refine xr_0 f_97_47 ?_
    refine xr_27 f_97_48 ?_
    exact xr_52c f_97_52 (by decide)
  · refine xr_1 f_97_36 rfl ?_
    refine xr_2 f_97_37 rfl ?_
    refine xr_30r f_97_38 h_8 rfl ?_
    refine xr_ci f_97_41 (Nat.le_of_ble_eq_true rfl) rfl rfl (xr_rv kd_148 h_3) (Nat.le_of_ble_eq_true rfl) mc_148 ms_148 (c_wh_greatestLean M) ?_
    intro x5
    refine xr_29_3 f_97_44 ?_ ?_
    · refine xr_0 f_97_51 ?_
      exact xr_52c f_97_52 (by decide)
    · refine xr_0 f_97_47 ?_
      refine xr_27 f_97_48 ?_
      exact xr_52c f_97_52 (by decide)

def ri_getOff (a1 : Int32) (M : e_Me) : Option (Int32 × e_Me) :=
  x_bd (wh_atDoor M) fun x1 =>
  x_bd (ri_insideOf x1 M) fun r2 =>
  x_bd (e_cap r2) fun n3 =>
  x_bd (ro_placeOf r2 a1 M) fun x4 =>
  x_bd (ro_cut r2 x4 M) fun M5 =>
  x_bd (pa_moveTo a1 (101 : Int32) M5) fun M6 =>
  x_bd (pa_weightOf a1 M6) fun x7 =>
  x_bd (wh_addLoad x1 (-x7) M6) fun M8 =>
  x_bd (pa_personsOf a1 M8) fun x9 =>
  some (x9, M8)
theorem c_ri_getOff (a1 : Int32) (M : e_Me) : x_C G 98 [.ref 8, .int a1] M x_rim (ri_getOff a1 M) := by
  refine x_C_of 4 [some (.ref 8), some (.int a1), none, none] (by decide) ml_98 (Nat.le_of_ble_eq_true rfl) rfl ?_
  rw [ri_getOff]
  refine xr_2 f_98_0 rfl ?_
  refine xr_30r f_98_1 h_8 rfl ?_
  refine xr_ci f_98_4 (Nat.le_of_ble_eq_true rfl) rfl rfl (xr_rv kd_138 h_3) (Nat.le_of_ble_eq_true rfl) mc_138 ms_138 (c_wh_atDoor M) ?_
  intro x1
  refine xr_4 [some (.ref 8), some (.int a1), some (.int x1), none] f_98_7 rfl rfl ?_
  refine xr_2 f_98_8 rfl ?_
  refine xr_1 f_98_9 rfl ?_
  refine xr_cr f_98_10 (Nat.le_of_ble_eq_true rfl) rfl rfl (xr_rv kd_79 h_8) (Nat.le_of_ble_eq_true rfl) mc_79 ms_79 (c_ri_insideOf x1 M) ?_
  intro r2
  refine xr_cap ?_
  intro n3 hn3
  refine xr_5 [some (.ref 8), some (.int a1), some (.int x1), some (.ref r2)] f_98_13 rfl rfl ?_
  refine xr_2 f_98_14 rfl ?_
  refine xr_2 f_98_15 rfl ?_
  refine xr_1 f_98_16 rfl ?_
  refine xr_ci f_98_17 (Nat.le_of_ble_eq_true rfl) rfl rfl (xr_rv kd_114 (e_cap_obj hn3)) (Nat.le_of_ble_eq_true rfl) mc_114 ms_114 (c_ro_placeOf r2 a1 M) ?_
  intro x4
  refine xr_cv f_98_20 (Nat.le_of_ble_eq_true rfl) rfl rfl (xr_rv kd_118 (e_cap_obj hn3)) (Nat.le_of_ble_eq_true rfl) mc_118 ms_118 (c_ro_cut r2 x4 M) ?_
  intro M5
  refine xr_2 f_98_23 rfl ?_
  refine xr_30r f_98_24 h_8 rfl ?_
  refine xr_1 f_98_27 rfl ?_
  refine xr_0 f_98_28 ?_
  refine xr_cv f_98_30 (Nat.le_of_ble_eq_true rfl) rfl rfl (xr_rv kd_43 h_9) (Nat.le_of_ble_eq_true rfl) mc_43 ms_43 (c_pa_moveTo a1 (101 : Int32) M5) ?_
  intro M6
  refine xr_2 f_98_33 rfl ?_
  refine xr_30r f_98_34 h_8 rfl ?_
  refine xr_1 f_98_37 rfl ?_
  refine xr_2 f_98_38 rfl ?_
  refine xr_30r f_98_39 h_8 rfl ?_
  refine xr_1 f_98_42 rfl ?_
  refine xr_ci f_98_43 (Nat.le_of_ble_eq_true rfl) rfl rfl (xr_rv kd_41 h_9) (Nat.le_of_ble_eq_true rfl) mc_41 ms_41 (c_pa_weightOf a1 M6) ?_
  intro x7
  refine xr_11 f_98_46 ?_
  refine xr_cv f_98_47 (Nat.le_of_ble_eq_true rfl) rfl rfl (xr_rv kd_146 h_3) (Nat.le_of_ble_eq_true rfl) mc_146 ms_146 (c_wh_addLoad x1 (-x7) M6) ?_
  intro M8
  refine xr_2 f_98_50 rfl ?_
  refine xr_30r f_98_51 h_8 rfl ?_
  refine xr_1 f_98_54 rfl ?_
  refine xr_ci f_98_55 (Nat.le_of_ble_eq_true rfl) rfl rfl (xr_rv kd_39 h_9) (Nat.le_of_ble_eq_true rfl) mc_39 ms_39 (c_pa_personsOf a1 M8) ?_
  intro x9
  exact xr_51m f_98_58

def ri_vacate_b45  (a1 : Int32) (a2 : Int32) (ra3 : Nat) (na3 : Nat) (M : e_Me) : Option (Int32 × e_Me) :=
  x_bd (ro_clear ra3 M) fun M1 =>
  x_bd (wh_loadOf a1 M1) fun x2 =>
  x_bd (wh_addLoad a1 (-x2) M1) fun M3 =>
  some (a2, M3)
theorem c_ri_vacate_b45  (a1 : Int32) (a2 : Int32) (ra3 : Nat) (na3 : Nat) (hra3 : e_cap ra3 = some na3) (M : e_Me)  : x_X G 99 0 0 x_rim 45 [some (.ref 8), some (.int a1), some (.int a2), some (.ref ra3), none] [] M (ri_vacate_b45 a1 a2 ra3 na3 M) := by
  rw [ri_vacate_b45]
  refine xr_2 f_99_45 rfl ?_
  refine xr_cv f_99_46 (Nat.le_of_ble_eq_true rfl) rfl rfl (xr_rv kd_119 (e_cap_obj hra3)) (Nat.le_of_ble_eq_true rfl) mc_119 ms_119 (c_ro_clear ra3 M) ?_
  intro M1
  refine xr_2 f_99_49 rfl ?_
  refine xr_30r f_99_50 h_8 rfl ?_
  refine xr_1 f_99_53 rfl ?_
  refine xr_2 f_99_54 rfl ?_
  refine xr_30r f_99_55 h_8 rfl ?_
  refine xr_1 f_99_58 rfl ?_
  refine xr_ci f_99_59 (Nat.le_of_ble_eq_true rfl) rfl rfl (xr_rv kd_145 h_3) (Nat.le_of_ble_eq_true rfl) mc_145 ms_145 (c_wh_loadOf a1 M1) ?_
  intro x2
  refine xr_11 f_99_62 ?_
  refine xr_cv f_99_63 (Nat.le_of_ble_eq_true rfl) rfl rfl (xr_rv kd_146 h_3) (Nat.le_of_ble_eq_true rfl) mc_146 ms_146 (c_wh_addLoad a1 (-x2) M1) ?_
  intro M3
  refine xr_1 f_99_66 rfl ?_
  exact xr_51m f_99_67

def ri_vacate_l15  (a1 : Int32) (a2 : Int32) (ra3 : Nat) (na3 : Nat) : Nat → Int32 → e_Me → Option (Int32 × e_Me)
  | 0, _, _ => none
  | F + 1, a4, M =>
    x_bd (ro_count ra3 M) fun x1 =>
    if x1 ≤ a4 then
      ri_vacate_b45 a1 a2 ra3 na3 M
    else
      x_bd (ro_at ra3 a4 M) fun x2 =>
      x_bd (pa_moveTo x2 (101 : Int32) M) fun M3 =>
      ri_vacate_l15 a1 a2 ra3 na3 F (a4 + (1 : Int32)) M3
theorem c_ri_vacate_l15  (a1 : Int32) (a2 : Int32) (ra3 : Nat) (na3 : Nat) (hra3 : e_cap ra3 = some na3)  : ∀ (F : Nat) (a4 : Int32) (M : e_Me), x_X G 99 0 0 x_rim 15 [some (.ref 8), some (.int a1), some (.int a2), some (.ref ra3), some (.int a4)] [] M (ri_vacate_l15 a1 a2 ra3 na3 F a4 M) := by
  intro F
  induction F with
  | zero => intro a4 M; exact xr_none
  | succ F ih =>
    intro a4 M
    rw [ri_vacate_l15]
    refine xr_1 f_99_15 rfl ?_
    refine xr_2 f_99_17 rfl ?_
    refine xr_ci f_99_18 (Nat.le_of_ble_eq_true rfl) rfl rfl (xr_rv kd_111 (e_cap_obj hra3)) (Nat.le_of_ble_eq_true rfl) mc_111 ms_111 (c_ro_count ra3 M) ?_
    intro x1
    refine xr_29_3 f_99_21 ?_ ?_
    · refine xr_wk (L' := [some (.ref 8), some (.int a1), some (.int a2), some (.ref ra3), none]) [true, true, true, true, false] rfl ?_
      exact c_ri_vacate_b45 a1 a2 ra3 na3 hra3 M
    · refine xr_2 f_99_24 rfl ?_
      refine xr_30r f_99_25 h_8 rfl ?_
      refine xr_2 f_99_28 rfl ?_
      refine xr_1 f_99_29 rfl ?_
      refine xr_ci f_99_31 (Nat.le_of_ble_eq_true rfl) rfl rfl (xr_rv kd_113 (e_cap_obj hra3)) (Nat.le_of_ble_eq_true rfl) mc_113 ms_113 (c_ro_at ra3 a4 M) ?_
      intro x2
      refine xr_0 f_99_34 ?_
      refine xr_cv f_99_36 (Nat.le_of_ble_eq_true rfl) rfl rfl (xr_rv kd_43 h_9) (Nat.le_of_ble_eq_true rfl) mc_43 ms_43 (c_pa_moveTo x2 (101 : Int32) M) ?_
      intro M3
      refine xr_7 [some (.ref 8), some (.int a1), some (.int a2), some (.ref ra3), some (.int (a4 + (1 : Int32)))] f_99_39 rfl rfl rfl ?_
      refine xr_27 f_99_42 ?_
      exact ih (a4 + (1 : Int32)) M3

def ri_vacate (a1 : Int32) (M : e_Me) : Option (Int32 × e_Me) :=
  x_bd (ri_personsIn a1 M) fun x1 =>
  x_bd (ri_insideOf a1 M) fun r2 =>
  x_bd (e_cap r2) fun n3 =>
  ri_vacate_l15 a1 x1 r2 n3 e_F (0 : Int32) M
theorem c_ri_vacate (a1 : Int32) (M : e_Me) : x_C G 99 [.ref 8, .int a1] M x_rim (ri_vacate a1 M) := by
  refine x_C_of 5 [some (.ref 8), some (.int a1), none, none, none] (by decide) ml_99 (Nat.le_of_ble_eq_true rfl) rfl ?_
  rw [ri_vacate]
  refine xr_2 f_99_0 rfl ?_
  refine xr_1 f_99_1 rfl ?_
  refine xr_ci f_99_2 (Nat.le_of_ble_eq_true rfl) rfl rfl (xr_rv kd_84 h_8) (Nat.le_of_ble_eq_true rfl) mc_84 ms_84 (c_ri_personsIn a1 M) ?_
  intro x1
  refine xr_4 [some (.ref 8), some (.int a1), some (.int x1), none, none] f_99_5 rfl rfl ?_
  refine xr_2 f_99_6 rfl ?_
  refine xr_1 f_99_7 rfl ?_
  refine xr_cr f_99_8 (Nat.le_of_ble_eq_true rfl) rfl rfl (xr_rv kd_79 h_8) (Nat.le_of_ble_eq_true rfl) mc_79 ms_79 (c_ri_insideOf a1 M) ?_
  intro r2
  refine xr_cap ?_
  intro n3 hn3
  refine xr_5 [some (.ref 8), some (.int a1), some (.int x1), some (.ref r2), none] f_99_11 rfl rfl ?_
  refine xr_0 f_99_12 ?_
  refine xr_4 [some (.ref 8), some (.int a1), some (.int x1), some (.ref r2), some (.int (0 : Int32))] f_99_13 rfl rfl ?_
  exact c_ri_vacate_l15 a1 x1 r2 n3 hn3 e_F (0 : Int32) M

def ri_mixInto_l20  (M : e_Me) : Nat → Int64 → Int32 → Option Int64
  | 0, _, _ => none
  | F + 1, a1, a3 =>
    x_bd (wh_count M) fun x1 =>
    if x1 ≤ a3 then
      some a1
    else
      x_bd (ri_insideOf a3 M) fun r2 =>
      x_bd (e_cap r2) fun n3 =>
      x_bd (ro_mixInto r2 a1 M) fun x4 =>
      x_lt x4 fun y5 =>
      ri_mixInto_l20 M F y5 (a3 + (1 : Int32))
theorem c_ri_mixInto_l20  (M : e_Me)  : ∀ (F : Nat) (a1 : Int64) (a3 : Int32), x_X G 100 0 0 (x_rl M) 20 [some (.ref 8), some (.long a1), none, some (.int a3)] [] M (ri_mixInto_l20 M F a1 a3) := by
  intro F
  induction F with
  | zero => intro a1 a3; exact xr_none
  | succ F ih =>
    intro a1 a3
    rw [ri_mixInto_l20]
    refine xr_1 f_100_20 rfl ?_
    refine xr_2 f_100_21 rfl ?_
    refine xr_30r f_100_22 h_8 rfl ?_
    refine xr_ci f_100_25 (Nat.le_of_ble_eq_true rfl) rfl rfl (xr_rv kd_133 h_3) (Nat.le_of_ble_eq_true rfl) mc_133 ms_133 (c_wh_count M) ?_
    intro x1
    refine xr_29_3 f_100_28 ?_ ?_
    · refine xr_3 f_100_47 rfl ?_
      exact xr_53 f_100_48
    · refine xr_2 f_100_31 rfl ?_
      refine xr_1 f_100_32 rfl ?_
      refine xr_cr f_100_33 (Nat.le_of_ble_eq_true rfl) rfl rfl (xr_rv kd_79 h_8) (Nat.le_of_ble_eq_true rfl) mc_79 ms_79 (c_ri_insideOf a3 M) ?_
      intro r2
      refine xr_cap ?_
      intro n3 hn3
      refine xr_3 f_100_36 rfl ?_
      refine xr_cl f_100_37 (Nat.le_of_ble_eq_true rfl) rfl rfl (xr_rv kd_121 (e_cap_obj hn3)) (Nat.le_of_ble_eq_true rfl) mc_121 ms_121 (c_ro_mixInto r2 a1 M) ?_
      intro x4
      refine xr_6l (fun y5 => [some (.ref 8), some (.long y5), none, some (.int a3)]) f_100_40 rfl (fun _ => rfl) ?_
      intro y5
      refine xr_7 [some (.ref 8), some (.long y5), none, some (.int (a3 + (1 : Int32)))] f_100_41 rfl rfl rfl ?_
      refine xr_27 f_100_44 ?_
      exact ih y5 (a3 + (1 : Int32))

def ri_mixInto (a1 : Int64) (M : e_Me) : Option Int64 :=
  x_bd (pa_mixInto a1 M) fun x1 =>
  x_lt x1 fun y2 =>
  x_bd (ro_mixInto 22 y2 M) fun x3 =>
  x_lt x3 fun y4 =>
  ri_mixInto_l20 M e_F y4 (0 : Int32)
theorem c_ri_mixInto (a1 : Int64) (M : e_Me) : x_C G 100 [.ref 8, .long a1] M (x_rl M) (ri_mixInto a1 M) := by
  refine x_C_of 4 [some (.ref 8), some (.long a1), none, none] (by decide) ml_100 (Nat.le_of_ble_eq_true rfl) rfl ?_
  rw [ri_mixInto]
  refine xr_2 f_100_0 rfl ?_
  refine xr_30r f_100_1 h_8 rfl ?_
  refine xr_3 f_100_4 rfl ?_
  refine xr_cl f_100_5 (Nat.le_of_ble_eq_true rfl) rfl rfl (xr_rv kd_48 h_9) (Nat.le_of_ble_eq_true rfl) mc_48 ms_48 (c_pa_mixInto a1 M) ?_
  intro x1
  refine xr_6l (fun y2 => [some (.ref 8), some (.long y2), none, none]) f_100_8 rfl (fun _ => rfl) ?_
  intro y2
  refine xr_2 f_100_9 rfl ?_
  refine xr_30r f_100_10 h_8 rfl ?_
  refine xr_3 f_100_13 rfl ?_
  refine xr_cl f_100_14 (Nat.le_of_ble_eq_true rfl) rfl rfl (xr_rv kd_121 h_22) (Nat.le_of_ble_eq_true rfl) mc_121 ms_121 (c_ro_mixInto 22 y2 M) ?_
  intro x3
  refine xr_6l (fun y4 => [some (.ref 8), some (.long y4), none, none]) f_100_17 rfl (fun _ => rfl) ?_
  intro y4
  refine xr_0 f_100_18 ?_
  refine xr_4 [some (.ref 8), some (.long y4), none, some (.int (0 : Int32))] f_100_19 rfl rfl ?_
  exact c_ri_mixInto_l20 M e_F y4 (0 : Int32)

def rl_copyWheel_l13   : Nat → Int32 → e_Me → Option e_Me
  | 0, _, _ => none
  | F + 1, a1, M =>
    x_bd (wh_count M) fun x1 =>
    if x1 ≤ a1 then
      some M
    else
      if (nI 30) ≤ a1 then
        some M
      else
        x_bd (wh_leanAt a1 M) fun x2 =>
        x_wr M 163 30 a1 x2 fun M3 =>
        rl_copyWheel_l13  F (a1 + (1 : Int32)) M3
theorem c_rl_copyWheel_l13    : ∀ (F : Nat) (a1 : Int32) (M : e_Me), x_X G 105 0 0 x_rv 13 [some (.ref 162), some (.int a1)] [] M (rl_copyWheel_l13  F a1 M) := by
  intro F
  induction F with
  | zero => intro a1 M; exact xr_none
  | succ F ih =>
    intro a1 M
    rw [rl_copyWheel_l13]
    refine xr_1 f_105_13 rfl ?_
    refine xr_2 f_105_14 rfl ?_
    refine xr_30r f_105_15 h_162 rfl ?_
    refine xr_ci f_105_18 (Nat.le_of_ble_eq_true rfl) rfl rfl (xr_rv kd_133 h_3) (Nat.le_of_ble_eq_true rfl) mc_133 ms_133 (c_wh_count M) ?_
    intro x1
    refine xr_29_3 f_105_21 ?_ ?_
    · exact xr_50 f_105_53
    · refine xr_1 f_105_24 rfl ?_
      refine xr_2 f_105_25 rfl ?_
      refine xr_30r f_105_26 h_162 rfl ?_
      refine xr_38 f_105_29 h_163 (by decide) ?_
      refine xr_29_3 f_105_30 ?_ ?_
      · exact xr_50 f_105_53
      · refine xr_2 f_105_33 rfl ?_
        refine xr_30r f_105_34 h_162 rfl ?_
        refine xr_1 f_105_37 rfl ?_
        refine xr_2 f_105_38 rfl ?_
        refine xr_30r f_105_39 h_162 rfl ?_
        refine xr_1 f_105_42 rfl ?_
        refine xr_ci f_105_43 (Nat.le_of_ble_eq_true rfl) rfl rfl (xr_rv kd_147 h_3) (Nat.le_of_ble_eq_true rfl) mc_147 ms_147 (c_wh_leanAt a1 M) ?_
        intro x2
        refine xr_33 f_105_46 h_163 ?_
        intro M3
        refine xr_7 [some (.ref 162), some (.int (a1 + (1 : Int32)))] f_105_47 rfl rfl rfl ?_
        refine xr_27 f_105_50 ?_
        exact ih (a1 + (1 : Int32)) M3

def rl_copyWheel  (M : e_Me) : Option e_Me :=
  x_bd (wh_turnNow M) fun x1 =>
  x_lt (e_up M 162 4 x1) fun M2 =>
  rl_copyWheel_l13  e_F (0 : Int32) M2
theorem c_rl_copyWheel  (M : e_Me) : x_C G 105 [.ref 162] M x_rv (rl_copyWheel  M) := by
  refine x_C_of 2 [some (.ref 162), none] (by decide) ml_105 (Nat.le_of_ble_eq_true rfl) rfl ?_
  rw [rl_copyWheel]
  refine xr_2 f_105_0 rfl ?_
  refine xr_2 f_105_1 rfl ?_
  refine xr_30r f_105_2 h_162 rfl ?_
  refine xr_ci f_105_5 (Nat.le_of_ble_eq_true rfl) rfl rfl (xr_rv kd_134 h_3) (Nat.le_of_ble_eq_true rfl) mc_134 ms_134 (c_wh_turnNow M) ?_
  intro x1
  refine xr_31 f_105_8 h_162 rfl ?_
  intro M2
  refine xr_0 f_105_11 ?_
  refine xr_4 [some (.ref 162), some (.int (0 : Int32))] f_105_12 rfl rfl ?_
  exact c_rl_copyWheel_l13 e_F (0 : Int32) M2

def rl_leanAt (a1 : Int32) (M : e_Me) : Option Int32 :=
  if a1 < 0 then
    some (0 : Int32)
  else
    if (nI 30) ≤ a1 then
      some (0 : Int32)
    else
      x_rd (M 163) 30 a1 fun x1 =>
      some x1
theorem c_rl_leanAt (a1 : Int32) (M : e_Me) : x_C G 106 [.ref 162, .int a1] M (x_ri M) (rl_leanAt a1 M) := by
  refine x_C_of 2 [some (.ref 162), some (.int a1)] (by decide) ml_106 (Nat.le_of_ble_eq_true rfl) rfl ?_
  rw [rl_leanAt]
  refine xr_1 f_106_0 rfl ?_
  refine xr_28_2 f_106_1 ?_ ?_
  · refine xr_0 f_106_22 ?_
    exact xr_51 f_106_23
  · refine xr_1 f_106_4 rfl ?_
    refine xr_2 f_106_5 rfl ?_
    refine xr_30r f_106_6 h_162 rfl ?_
    refine xr_38 f_106_9 h_163 (by decide) ?_
    refine xr_29_3 f_106_10 ?_ ?_
    · refine xr_0 f_106_22 ?_
      exact xr_51 f_106_23
    · refine xr_2 f_106_13 rfl ?_
      refine xr_30r f_106_14 h_162 rfl ?_
      refine xr_1 f_106_17 rfl ?_
      refine xr_32 f_106_18 h_163 ?_
      intro x1
      refine xr_27 f_106_19 ?_
      exact xr_51 f_106_23

def rl_toRest_b101 (k4 : Int32 → Int32 → e_Me → Option (Int32 × e_Me)) (a1 : Int32) (a2 : Int32) (a3 : Int32) (a4 : Int32) (M : e_Me) : Option (Int32 × e_Me) :=
  x_lt (e_up M 162 4 a4) fun M1 =>
  if a3 = 0 then
    x_lt (a1 + (1 : Int32)) fun y2 =>
    k4 y2 (a2 + (1 : Int32)) M1
  else
    x_lt (a1 + (-1 : Int32)) fun y3 =>
    k4 y3 (a2 + (1 : Int32)) M1
theorem c_rl_toRest_b101 (k4 : Int32 → Int32 → e_Me → Option (Int32 × e_Me)) (a1 : Int32) (a2 : Int32) (a3 : Int32) (a4 : Int32) (M : e_Me) (hk4 : ∀ (a1 : Int32) (a2 : Int32) (M : e_Me), x_X G 107 0 0 x_rim 4 [some (.ref 162), some (.int a1), some (.int a2), none, none] [] M (k4 a1 a2 M)) : x_X G 107 0 0 x_rim 101 [some (.ref 162), some (.int a1), some (.int a2), some (.int a3), some (.int a4)] [] M (rl_toRest_b101 k4 a1 a2 a3 a4 M) := by
  rw [rl_toRest_b101]
  refine xr_2 f_107_101 rfl ?_
  refine xr_1 f_107_102 rfl ?_
  refine xr_31 f_107_104 h_162 rfl ?_
  intro M1
  refine xr_1 f_107_107 rfl ?_
  refine xr_1 f_107_108 rfl ?_
  refine xr_28_0 f_107_109 ?_ ?_
  · refine xr_0 f_107_116 ?_
    refine xr_8 f_107_117 ?_
    refine xr_4l (fun y2 => [some (.ref 162), some (.int y2), some (.int a2), some (.int a3), some (.int a4)]) f_107_118 rfl (fun _ => rfl) ?_
    intro y2
    refine xr_7 [some (.ref 162), some (.int y2), some (.int (a2 + (1 : Int32))), some (.int a3), some (.int a4)] f_107_119 rfl rfl rfl ?_
    refine xr_27 f_107_122 ?_
    refine xr_wk (L' := [some (.ref 162), some (.int y2), some (.int (a2 + (1 : Int32))), none, none]) [true, true, true, false, false] rfl ?_
    exact hk4 y2 (a2 + (1 : Int32)) M1
  · refine xr_0 f_107_112 ?_
    refine xr_27 f_107_113 ?_
    refine xr_8 f_107_117 ?_
    refine xr_4l (fun y3 => [some (.ref 162), some (.int y3), some (.int a2), some (.int a3), some (.int a4)]) f_107_118 rfl (fun _ => rfl) ?_
    intro y3
    refine xr_7 [some (.ref 162), some (.int y3), some (.int (a2 + (1 : Int32))), some (.int a3), some (.int a4)] f_107_119 rfl rfl rfl ?_
    refine xr_27 f_107_122 ?_
    refine xr_wk (L' := [some (.ref 162), some (.int y3), some (.int (a2 + (1 : Int32))), none, none]) [true, true, true, false, false] rfl ?_
    exact hk4 y3 (a2 + (1 : Int32)) M1

def rl_toRest_b72 (k4 : Int32 → Int32 → e_Me → Option (Int32 × e_Me)) (a1 : Int32) (a2 : Int32) (a3 : Int32) (s0 : Int32) (M : e_Me) : Option (Int32 × e_Me) :=
  if a3 = 0 then
    x_bd (rl_leanAt s0 M) fun x1 =>
    if x1 ≤ 0 then
      rl_toRest_b101 k4 a1 a2 a3 s0 M
    else
      some (a1, M)
  else
    x_bd (rl_leanAt s0 M) fun x2 =>
    if 0 ≤ x2 then
      rl_toRest_b101 k4 a1 a2 a3 s0 M
    else
      some (a1, M)
theorem c_rl_toRest_b72 (k4 : Int32 → Int32 → e_Me → Option (Int32 × e_Me)) (a1 : Int32) (a2 : Int32) (a3 : Int32) (s0 : Int32) (M : e_Me) (hk4 : ∀ (a1 : Int32) (a2 : Int32) (M : e_Me), x_X G 107 0 0 x_rim 4 [some (.ref 162), some (.int a1), some (.int a2), none, none] [] M (k4 a1 a2 M)) : x_X G 107 0 0 x_rim 72 [some (.ref 162), some (.int a1), some (.int a2), some (.int a3), none] [.int s0] M (rl_toRest_b72 k4 a1 a2 a3 s0 M) := by
  rw [rl_toRest_b72]
  refine xr_4 [some (.ref 162), some (.int a1), some (.int a2), some (.int a3), some (.int s0)] f_107_72 rfl rfl ?_
  refine xr_1 f_107_74 rfl ?_
  refine xr_28_0 f_107_75 ?_ ?_
  · refine xr_2 f_107_90 rfl ?_
    refine xr_1 f_107_91 rfl ?_
    refine xr_ci f_107_93 (Nat.le_of_ble_eq_true rfl) rfl rfl (xr_rv kd_106 h_162) (Nat.le_of_ble_eq_true rfl) mc_106 ms_106 (c_rl_leanAt s0 M) ?_
    intro x1
    refine xr_28_5 f_107_96 ?_ ?_
    · exact c_rl_toRest_b101 k4 a1 a2 a3 s0 M hk4
    · refine xr_1 f_107_99 rfl ?_
      exact xr_51m f_107_100
  · refine xr_2 f_107_78 rfl ?_
    refine xr_1 f_107_79 rfl ?_
    refine xr_ci f_107_81 (Nat.le_of_ble_eq_true rfl) rfl rfl (xr_rv kd_106 h_162) (Nat.le_of_ble_eq_true rfl) mc_106 ms_106 (c_rl_leanAt s0 M) ?_
    intro x2
    refine xr_28_3 f_107_84 ?_ ?_
    · exact c_rl_toRest_b101 k4 a1 a2 a3 s0 M hk4
    · refine xr_27 f_107_87 ?_
      refine xr_1 f_107_99 rfl ?_
      exact xr_51m f_107_100

def rl_toRest_b42 (k4 : Int32 → Int32 → e_Me → Option (Int32 × e_Me)) (a1 : Int32) (a2 : Int32) (s0 : Int32) (M : e_Me) : Option (Int32 × e_Me) :=
  if s0 = 0 then
    x_bd (wh_turnBehind (M 162 4) M) fun x1 =>
    rl_toRest_b72 k4 a1 a2 s0 x1 M
  else
    x_bd (wh_turnAhead (M 162 4) M) fun x2 =>
    rl_toRest_b72 k4 a1 a2 s0 x2 M
theorem c_rl_toRest_b42 (k4 : Int32 → Int32 → e_Me → Option (Int32 × e_Me)) (a1 : Int32) (a2 : Int32) (s0 : Int32) (M : e_Me) (hk4 : ∀ (a1 : Int32) (a2 : Int32) (M : e_Me), x_X G 107 0 0 x_rim 4 [some (.ref 162), some (.int a1), some (.int a2), none, none] [] M (k4 a1 a2 M)) : x_X G 107 0 0 x_rim 42 [some (.ref 162), some (.int a1), some (.int a2), none, none] [.int s0] M (rl_toRest_b42 k4 a1 a2 s0 M) := by
  rw [rl_toRest_b42]
  refine xr_4 [some (.ref 162), some (.int a1), some (.int a2), some (.int s0), none] f_107_42 rfl rfl ?_
  refine xr_1 f_107_43 rfl ?_
  refine xr_28_0 f_107_44 ?_ ?_
  · refine xr_2 f_107_61 rfl ?_
    refine xr_30r f_107_62 h_162 rfl ?_
    refine xr_2 f_107_65 rfl ?_
    refine xr_30i f_107_66 h_162 rfl ?_
    refine xr_ci f_107_69 (Nat.le_of_ble_eq_true rfl) rfl rfl (xr_rv kd_136 h_3) (Nat.le_of_ble_eq_true rfl) mc_136 ms_136 (c_wh_turnBehind (M 162 4) M) ?_
    intro x1
    exact c_rl_toRest_b72 k4 a1 a2 s0 x1 M hk4
  · refine xr_2 f_107_47 rfl ?_
    refine xr_30r f_107_48 h_162 rfl ?_
    refine xr_2 f_107_51 rfl ?_
    refine xr_30i f_107_52 h_162 rfl ?_
    refine xr_ci f_107_55 (Nat.le_of_ble_eq_true rfl) rfl rfl (xr_rv kd_137 h_3) (Nat.le_of_ble_eq_true rfl) mc_137 ms_137 (c_wh_turnAhead (M 162 4) M) ?_
    intro x2
    refine xr_27 f_107_58 ?_
    exact c_rl_toRest_b72 k4 a1 a2 s0 x2 M hk4

def rl_toRest_l4   : Nat → Int32 → Int32 → e_Me → Option (Int32 × e_Me)
  | 0, _, _, _ => none
  | F + 1, a1, a2, M =>
    x_bd (wh_count M) fun x1 =>
    if x1 ≤ a2 then
      some (a1, M)
    else
      x_bd (rl_leanAt (M 162 4) M) fun x2 =>
      if x2 = 0 then
        some (a1, M)
      else
        x_bd (rl_leanAt (M 162 4) M) fun x3 =>
        if x3 ≤ 0 then
          rl_toRest_b42 (rl_toRest_l4  F) a1 a2 (0 : Int32) M
        else
          rl_toRest_b42 (rl_toRest_l4  F) a1 a2 (1 : Int32) M
theorem c_rl_toRest_l4    : ∀ (F : Nat) (a1 : Int32) (a2 : Int32) (M : e_Me), x_X G 107 0 0 x_rim 4 [some (.ref 162), some (.int a1), some (.int a2), none, none] [] M (rl_toRest_l4  F a1 a2 M) := by
  intro F
  induction F with
  | zero => intro a1 a2 M; exact xr_none
  | succ F ih =>
    intro a1 a2 M
    rw [rl_toRest_l4]
    refine xr_1 f_107_4 rfl ?_
    refine xr_2 f_107_5 rfl ?_
    refine xr_30r f_107_6 h_162 rfl ?_
    refine xr_ci f_107_9 (Nat.le_of_ble_eq_true rfl) rfl rfl (xr_rv kd_133 h_3) (Nat.le_of_ble_eq_true rfl) mc_133 ms_133 (c_wh_count M) ?_
    intro x1
    refine xr_29_3 f_107_12 ?_ ?_
    · refine xr_1 f_107_125 rfl ?_
      exact xr_51m f_107_126
    · refine xr_2 f_107_15 rfl ?_
      refine xr_2 f_107_16 rfl ?_
      refine xr_30i f_107_17 h_162 rfl ?_
      refine xr_ci f_107_20 (Nat.le_of_ble_eq_true rfl) rfl rfl (xr_rv kd_106 h_162) (Nat.le_of_ble_eq_true rfl) mc_106 ms_106 (c_rl_leanAt (M 162 4) M) ?_
      intro x2
      refine xr_28_0 f_107_23 ?_ ?_
      · refine xr_1 f_107_125 rfl ?_
        exact xr_51m f_107_126
      · refine xr_2 f_107_26 rfl ?_
        refine xr_2 f_107_27 rfl ?_
        refine xr_30i f_107_28 h_162 rfl ?_
        refine xr_ci f_107_31 (Nat.le_of_ble_eq_true rfl) rfl rfl (xr_rv kd_106 h_162) (Nat.le_of_ble_eq_true rfl) mc_106 ms_106 (c_rl_leanAt (M 162 4) M) ?_
        intro x3
        refine xr_28_5 f_107_34 ?_ ?_
        · refine xr_0 f_107_41 ?_
          exact c_rl_toRest_b42 (rl_toRest_l4  F) a1 a2 (0 : Int32) M ih
        · refine xr_0 f_107_37 ?_
          refine xr_27 f_107_38 ?_
          exact c_rl_toRest_b42 (rl_toRest_l4  F) a1 a2 (1 : Int32) M ih

def rl_toRest  (M : e_Me) : Option (Int32 × e_Me) :=
  rl_toRest_l4  e_F (0 : Int32) (0 : Int32) M
theorem c_rl_toRest  (M : e_Me) : x_C G 107 [.ref 162] M x_rim (rl_toRest  M) := by
  refine x_C_of 5 [some (.ref 162), none, none, none, none] (by decide) ml_107 (Nat.le_of_ble_eq_true rfl) rfl ?_
  rw [rl_toRest]
  refine xr_0 f_107_0 ?_
  refine xr_4 [some (.ref 162), some (.int (0 : Int32)), none, none, none] f_107_1 rfl rfl ?_
  refine xr_0 f_107_2 ?_
  refine xr_4 [some (.ref 162), some (.int (0 : Int32)), some (.int (0 : Int32)), none, none] f_107_3 rfl rfl ?_
  exact c_rl_toRest_l4 e_F (0 : Int32) (0 : Int32) M

def rl_rollNow  (M : e_Me) : Option (Int32 × e_Me) :=
  x_bd (rl_copyWheel M) fun M1 =>
  x_bi (rl_toRest M1) fun x2 M3 =>
  x_bd (wh_turnTo (M3 162 4) M3) fun M4 =>
  some (x2, M4)
theorem c_rl_rollNow  (M : e_Me) : x_C G 102 [.ref 162] M x_rim (rl_rollNow  M) := by
  refine x_C_of 2 [some (.ref 162), none] (by decide) ml_102 (Nat.le_of_ble_eq_true rfl) rfl ?_
  rw [rl_rollNow]
  refine xr_2 f_102_0 rfl ?_
  refine xr_cv f_102_1 (Nat.le_of_ble_eq_true rfl) rfl rfl (xr_rv kd_105 h_162) (Nat.le_of_ble_eq_true rfl) mc_105 ms_105 (c_rl_copyWheel M) ?_
  intro M1
  refine xr_2 f_102_4 rfl ?_
  refine xr_cim f_102_5 (Nat.le_of_ble_eq_true rfl) rfl rfl (xr_rv kd_107 h_162) (Nat.le_of_ble_eq_true rfl) mc_107 ms_107 (c_rl_toRest M1) ?_
  intro x2 M3
  refine xr_4 [some (.ref 162), some (.int x2)] f_102_8 rfl rfl ?_
  refine xr_2 f_102_9 rfl ?_
  refine xr_30r f_102_10 h_162 rfl ?_
  refine xr_2 f_102_13 rfl ?_
  refine xr_30i f_102_14 h_162 rfl ?_
  refine xr_cv f_102_17 (Nat.le_of_ble_eq_true rfl) rfl rfl (xr_rv kd_135 h_3) (Nat.le_of_ble_eq_true rfl) mc_135 ms_135 (c_wh_turnTo (M3 162 4) M3) ?_
  intro M4
  refine xr_1 f_102_20 rfl ?_
  exact xr_51m f_102_21

def rl_takeOff_l2  (a1 : Int32) : Nat → Int32 → e_Me → Option e_Me
  | 0, _, _ => none
  | F + 1, a2, M =>
    x_bd (wh_count M) fun x1 =>
    if x1 ≤ a2 then
      some M
    else
      if (nI 30) ≤ a2 then
        some M
      else
        x_rd (M 163) 30 a2 fun x2 =>
        x_bd (wh_loadOf a1 M) fun x3 =>
        x_bd (wh_armOf a1 a2 M) fun x4 =>
        x_wr M 163 30 a2 (x2 - (x3 * x4)) fun M5 =>
        rl_takeOff_l2 a1 F (a2 + (1 : Int32)) M5
theorem c_rl_takeOff_l2  (a1 : Int32)  : ∀ (F : Nat) (a2 : Int32) (M : e_Me), x_X G 109 0 0 x_rv 2 [some (.ref 162), some (.int a1), some (.int a2)] [] M (rl_takeOff_l2 a1 F a2 M) := by
  intro F
  induction F with
  | zero => intro a2 M; exact xr_none
  | succ F ih =>
    intro a2 M
    rw [rl_takeOff_l2]
    refine xr_1 f_109_2 rfl ?_
    refine xr_2 f_109_3 rfl ?_
    refine xr_30r f_109_4 h_162 rfl ?_
    refine xr_ci f_109_7 (Nat.le_of_ble_eq_true rfl) rfl rfl (xr_rv kd_133 h_3) (Nat.le_of_ble_eq_true rfl) mc_133 ms_133 (c_wh_count M) ?_
    intro x1
    refine xr_29_3 f_109_10 ?_ ?_
    · exact xr_50 f_109_55
    · refine xr_1 f_109_13 rfl ?_
      refine xr_2 f_109_14 rfl ?_
      refine xr_30r f_109_15 h_162 rfl ?_
      refine xr_38 f_109_18 h_163 (by decide) ?_
      refine xr_29_3 f_109_19 ?_ ?_
      · exact xr_50 f_109_55
      · refine xr_2 f_109_22 rfl ?_
        refine xr_30r f_109_23 h_162 rfl ?_
        refine xr_1 f_109_26 rfl ?_
        refine xr_25 f_109_27 ?_
        refine xr_32 f_109_28 h_163 ?_
        intro x2
        refine xr_2 f_109_29 rfl ?_
        refine xr_30r f_109_30 h_162 rfl ?_
        refine xr_1 f_109_33 rfl ?_
        refine xr_ci f_109_34 (Nat.le_of_ble_eq_true rfl) rfl rfl (xr_rv kd_145 h_3) (Nat.le_of_ble_eq_true rfl) mc_145 ms_145 (c_wh_loadOf a1 M) ?_
        intro x3
        refine xr_2 f_109_37 rfl ?_
        refine xr_30r f_109_38 h_162 rfl ?_
        refine xr_1 f_109_41 rfl ?_
        refine xr_1 f_109_42 rfl ?_
        refine xr_ci f_109_43 (Nat.le_of_ble_eq_true rfl) rfl rfl (xr_rv kd_144 h_3) (Nat.le_of_ble_eq_true rfl) mc_144 ms_144 (c_wh_armOf a1 a2 M) ?_
        intro x4
        refine xr_10 f_109_46 ?_
        refine xr_9 f_109_47 ?_
        refine xr_33 f_109_48 h_163 ?_
        intro M5
        refine xr_7 [some (.ref 162), some (.int a1), some (.int (a2 + (1 : Int32)))] f_109_49 rfl rfl rfl ?_
        refine xr_27 f_109_52 ?_
        exact ih (a2 + (1 : Int32)) M5

def rl_takeOff (a1 : Int32) (M : e_Me) : Option e_Me :=
  rl_takeOff_l2 a1 e_F (0 : Int32) M
theorem c_rl_takeOff (a1 : Int32) (M : e_Me) : x_C G 109 [.ref 162, .int a1] M x_rv (rl_takeOff a1 M) := by
  refine x_C_of 3 [some (.ref 162), some (.int a1), none] (by decide) ml_109 (Nat.le_of_ble_eq_true rfl) rfl ?_
  rw [rl_takeOff]
  refine xr_0 f_109_0 ?_
  refine xr_4 [some (.ref 162), some (.int a1), some (.int (0 : Int32))] f_109_1 rfl rfl ?_
  exact c_rl_takeOff_l2 a1 e_F (0 : Int32) M

def rl_tryLettingOut_l13   : Nat → Int32 → e_Me → Option e_Me
  | 0, _, _ => none
  | F + 1, a1, M =>
    x_bd (wh_count M) fun x1 =>
    if x1 < a1 then
      some M
    else
      x_bi (rl_toRest M) fun x2 M3 =>
      x_bd (wh_atDoorWith (M3 162 4) M3) fun x4 =>
      x_bd (wh_loadOf x4 M3) fun x5 =>
      if x5 = 0 then
        some M3
      else
        x_bd (ro_placeOf 164 x4 M3) fun x6 =>
        if x6 = (-1 : Int32) then
          x_bd (ro_append 164 x4 M3) fun M7 =>
          x_bd (rl_takeOff x4 M7) fun M8 =>
          rl_tryLettingOut_l13  F (a1 + (1 : Int32)) M8
        else
          some M3
theorem c_rl_tryLettingOut_l13    : ∀ (F : Nat) (a1 : Int32) (M : e_Me), x_X G 108 0 0 x_rv 13 [some (.ref 162), some (.int a1), none] [] M (rl_tryLettingOut_l13  F a1 M) := by
  intro F
  induction F with
  | zero => intro a1 M; exact xr_none
  | succ F ih =>
    intro a1 M
    rw [rl_tryLettingOut_l13]
    refine xr_1 f_108_13 rfl ?_
    refine xr_2 f_108_14 rfl ?_
    refine xr_30r f_108_15 h_162 rfl ?_
    refine xr_ci f_108_18 (Nat.le_of_ble_eq_true rfl) rfl rfl (xr_rv kd_133 h_3) (Nat.le_of_ble_eq_true rfl) mc_133 ms_133 (c_wh_count M) ?_
    intro x1
    refine xr_29_4 f_108_21 ?_ ?_
    · exact xr_50 f_108_84
    · refine xr_2 f_108_24 rfl ?_
      refine xr_cim f_108_25 (Nat.le_of_ble_eq_true rfl) rfl rfl (xr_rv kd_107 h_162) (Nat.le_of_ble_eq_true rfl) mc_107 ms_107 (c_rl_toRest M) ?_
      intro x2 M3
      refine xr_26i f_108_28 ?_
      refine xr_2 f_108_29 rfl ?_
      refine xr_30r f_108_30 h_162 rfl ?_
      refine xr_2 f_108_33 rfl ?_
      refine xr_30i f_108_34 h_162 rfl ?_
      refine xr_ci f_108_37 (Nat.le_of_ble_eq_true rfl) rfl rfl (xr_rv kd_139 h_3) (Nat.le_of_ble_eq_true rfl) mc_139 ms_139 (c_wh_atDoorWith (M3 162 4) M3) ?_
      intro x4
      refine xr_4 [some (.ref 162), some (.int a1), some (.int x4)] f_108_40 rfl rfl ?_
      refine xr_2 f_108_41 rfl ?_
      refine xr_30r f_108_42 h_162 rfl ?_
      refine xr_1 f_108_45 rfl ?_
      refine xr_ci f_108_46 (Nat.le_of_ble_eq_true rfl) rfl rfl (xr_rv kd_145 h_3) (Nat.le_of_ble_eq_true rfl) mc_145 ms_145 (c_wh_loadOf x4 M3) ?_
      intro x5
      refine xr_28_0 f_108_49 ?_ ?_
      · exact xr_50 f_108_64
      · refine xr_2 f_108_52 rfl ?_
        refine xr_30r f_108_53 h_162 rfl ?_
        refine xr_1 f_108_56 rfl ?_
        refine xr_ci f_108_57 (Nat.le_of_ble_eq_true rfl) rfl rfl (xr_rv kd_114 h_164) (Nat.le_of_ble_eq_true rfl) mc_114 ms_114 (c_ro_placeOf 164 x4 M3) ?_
        intro x6
        refine xr_0 f_108_60 ?_
        refine xr_29_0 f_108_61 ?_ ?_
        · refine xr_2 f_108_65 rfl ?_
          refine xr_30r f_108_66 h_162 rfl ?_
          refine xr_1 f_108_69 rfl ?_
          refine xr_cv f_108_70 (Nat.le_of_ble_eq_true rfl) rfl rfl (xr_rv kd_115 h_164) (Nat.le_of_ble_eq_true rfl) mc_115 ms_115 (c_ro_append 164 x4 M3) ?_
          intro M7
          refine xr_2 f_108_73 rfl ?_
          refine xr_1 f_108_74 rfl ?_
          refine xr_cv f_108_75 (Nat.le_of_ble_eq_true rfl) rfl rfl (xr_rv kd_109 h_162) (Nat.le_of_ble_eq_true rfl) mc_109 ms_109 (c_rl_takeOff x4 M7) ?_
          intro M8
          refine xr_7 [some (.ref 162), some (.int (a1 + (1 : Int32))), some (.int x4)] f_108_78 rfl rfl rfl ?_
          refine xr_27 f_108_81 ?_
          refine xr_wk (L' := [some (.ref 162), some (.int (a1 + (1 : Int32))), none]) [true, true, false] rfl ?_
          exact ih (a1 + (1 : Int32)) M8
        · exact xr_50 f_108_64

def rl_tryLettingOut  (M : e_Me) : Option e_Me :=
  x_bd (rl_copyWheel M) fun M1 =>
  x_bd (ro_clear 164 M1) fun M2 =>
  rl_tryLettingOut_l13  e_F (0 : Int32) M2
theorem c_rl_tryLettingOut  (M : e_Me) : x_C G 108 [.ref 162] M x_rv (rl_tryLettingOut  M) := by
  refine x_C_of 3 [some (.ref 162), none, none] (by decide) ml_108 (Nat.le_of_ble_eq_true rfl) rfl ?_
  rw [rl_tryLettingOut]
  refine xr_2 f_108_0 rfl ?_
  refine xr_cv f_108_1 (Nat.le_of_ble_eq_true rfl) rfl rfl (xr_rv kd_105 h_162) (Nat.le_of_ble_eq_true rfl) mc_105 ms_105 (c_rl_copyWheel M) ?_
  intro M1
  refine xr_2 f_108_4 rfl ?_
  refine xr_30r f_108_5 h_162 rfl ?_
  refine xr_cv f_108_8 (Nat.le_of_ble_eq_true rfl) rfl rfl (xr_rv kd_119 h_164) (Nat.le_of_ble_eq_true rfl) mc_119 ms_119 (c_ro_clear 164 M1) ?_
  intro M2
  refine xr_0 f_108_11 ?_
  refine xr_4 [some (.ref 162), some (.int (0 : Int32)), none] f_108_12 rfl rfl ?_
  exact c_rl_tryLettingOut_l13 e_F (0 : Int32) M2

def rl_letAllOut_b43  (a1 : Int32) (M : e_Me) : Option (Int32 × e_Me) :=
  x_bd (wh_turnTo (M 162 4) M) fun M1 =>
  some (a1, M1)
theorem c_rl_letAllOut_b43  (a1 : Int32) (M : e_Me)  : x_X G 103 0 0 x_rim 43 [some (.ref 162), some (.int a1), none] [] M (rl_letAllOut_b43 a1 M) := by
  rw [rl_letAllOut_b43]
  refine xr_2 f_103_43 rfl ?_
  refine xr_30r f_103_44 h_162 rfl ?_
  refine xr_2 f_103_47 rfl ?_
  refine xr_30i f_103_48 h_162 rfl ?_
  refine xr_cv f_103_51 (Nat.le_of_ble_eq_true rfl) rfl rfl (xr_rv kd_135 h_3) (Nat.le_of_ble_eq_true rfl) mc_135 ms_135 (c_wh_turnTo (M 162 4) M) ?_
  intro M1
  refine xr_1 f_103_54 rfl ?_
  exact xr_51m f_103_55

def rl_letAllOut_l8   : Nat → Int32 → Int32 → e_Me → Option (Int32 × e_Me)
  | 0, _, _, _ => none
  | F + 1, a1, a2, M =>
    x_bd (ro_count 164 M) fun x1 =>
    if x1 ≤ a2 then
      rl_letAllOut_b43 a1 M
    else
      x_bd (ro_at 164 a2 M) fun x2 =>
      x_bi (ri_vacate x2 M) fun x3 M4 =>
      x_lt (a1 + x3) fun y5 =>
      rl_letAllOut_l8  F y5 (a2 + (1 : Int32)) M4
theorem c_rl_letAllOut_l8    : ∀ (F : Nat) (a1 : Int32) (a2 : Int32) (M : e_Me), x_X G 103 0 0 x_rim 8 [some (.ref 162), some (.int a1), some (.int a2)] [] M (rl_letAllOut_l8  F a1 a2 M) := by
  intro F
  induction F with
  | zero => intro a1 a2 M; exact xr_none
  | succ F ih =>
    intro a1 a2 M
    rw [rl_letAllOut_l8]
    refine xr_1 f_103_8 rfl ?_
    refine xr_2 f_103_9 rfl ?_
    refine xr_30r f_103_10 h_162 rfl ?_
    refine xr_ci f_103_13 (Nat.le_of_ble_eq_true rfl) rfl rfl (xr_rv kd_111 h_164) (Nat.le_of_ble_eq_true rfl) mc_111 ms_111 (c_ro_count 164 M) ?_
    intro x1
    refine xr_29_3 f_103_16 ?_ ?_
    · refine xr_wk (L' := [some (.ref 162), some (.int a1), none]) [true, true, false] rfl ?_
      exact c_rl_letAllOut_b43 a1 M
    · refine xr_1 f_103_19 rfl ?_
      refine xr_2 f_103_20 rfl ?_
      refine xr_30r f_103_21 h_162 rfl ?_
      refine xr_2 f_103_24 rfl ?_
      refine xr_30r f_103_25 h_162 rfl ?_
      refine xr_1 f_103_28 rfl ?_
      refine xr_ci f_103_29 (Nat.le_of_ble_eq_true rfl) rfl rfl (xr_rv kd_113 h_164) (Nat.le_of_ble_eq_true rfl) mc_113 ms_113 (c_ro_at 164 a2 M) ?_
      intro x2
      refine xr_cim f_103_32 (Nat.le_of_ble_eq_true rfl) rfl rfl (xr_rv kd_99 h_8) (Nat.le_of_ble_eq_true rfl) mc_99 ms_99 (c_ri_vacate x2 M) ?_
      intro x3 M4
      refine xr_8 f_103_35 ?_
      refine xr_4l (fun y5 => [some (.ref 162), some (.int y5), some (.int a2)]) f_103_36 rfl (fun _ => rfl) ?_
      intro y5
      refine xr_7 [some (.ref 162), some (.int y5), some (.int (a2 + (1 : Int32)))] f_103_37 rfl rfl rfl ?_
      refine xr_27 f_103_40 ?_
      exact ih y5 (a2 + (1 : Int32)) M4

def rl_letAllOut  (M : e_Me) : Option (Int32 × e_Me) :=
  x_bd (rl_tryLettingOut M) fun M1 =>
  rl_letAllOut_l8  e_F (0 : Int32) (0 : Int32) M1
theorem c_rl_letAllOut  (M : e_Me) : x_C G 103 [.ref 162] M x_rim (rl_letAllOut  M) := by
  refine x_C_of 3 [some (.ref 162), none, none] (by decide) ml_103 (Nat.le_of_ble_eq_true rfl) rfl ?_
  rw [rl_letAllOut]
  refine xr_2 f_103_0 rfl ?_
  refine xr_cv f_103_1 (Nat.le_of_ble_eq_true rfl) rfl rfl (xr_rv kd_108 h_162) (Nat.le_of_ble_eq_true rfl) mc_108 ms_108 (c_rl_tryLettingOut M) ?_
  intro M1
  refine xr_0 f_103_4 ?_
  refine xr_4 [some (.ref 162), some (.int (0 : Int32)), none] f_103_5 rfl rfl ?_
  refine xr_0 f_103_6 ?_
  refine xr_4 [some (.ref 162), some (.int (0 : Int32)), some (.int (0 : Int32))] f_103_7 rfl rfl ?_
  exact c_rl_letAllOut_l8 e_F (0 : Int32) (0 : Int32) M1

def rl_wouldStrand_l14  (M : e_Me) : Nat → Int32 → Int32 → Option (Int32 × e_Me)
  | 0, _, _ => none
  | F + 1, a1, a2 =>
    x_bd (ro_count 164 M) fun x1 =>
    if x1 ≤ a2 then
      some (a1, M)
    else
      x_bd (ro_at 164 a2 M) fun x2 =>
      x_bd (ri_personsIn x2 M) fun x3 =>
      x_lt (a1 - x3) fun y4 =>
      rl_wouldStrand_l14 M F y4 (a2 + (1 : Int32))
theorem c_rl_wouldStrand_l14  (M : e_Me)  : ∀ (F : Nat) (a1 : Int32) (a2 : Int32), x_X G 104 0 0 x_rim 14 [some (.ref 162), some (.int a1), some (.int a2)] [] M (rl_wouldStrand_l14 M F a1 a2) := by
  intro F
  induction F with
  | zero => intro a1 a2; exact xr_none
  | succ F ih =>
    intro a1 a2
    rw [rl_wouldStrand_l14]
    refine xr_1 f_104_14 rfl ?_
    refine xr_2 f_104_15 rfl ?_
    refine xr_30r f_104_16 h_162 rfl ?_
    refine xr_ci f_104_19 (Nat.le_of_ble_eq_true rfl) rfl rfl (xr_rv kd_111 h_164) (Nat.le_of_ble_eq_true rfl) mc_111 ms_111 (c_ro_count 164 M) ?_
    intro x1
    refine xr_29_3 f_104_22 ?_ ?_
    · refine xr_1 f_104_49 rfl ?_
      exact xr_51m f_104_50
    · refine xr_1 f_104_25 rfl ?_
      refine xr_2 f_104_26 rfl ?_
      refine xr_30r f_104_27 h_162 rfl ?_
      refine xr_2 f_104_30 rfl ?_
      refine xr_30r f_104_31 h_162 rfl ?_
      refine xr_1 f_104_34 rfl ?_
      refine xr_ci f_104_35 (Nat.le_of_ble_eq_true rfl) rfl rfl (xr_rv kd_113 h_164) (Nat.le_of_ble_eq_true rfl) mc_113 ms_113 (c_ro_at 164 a2 M) ?_
      intro x2
      refine xr_ci f_104_38 (Nat.le_of_ble_eq_true rfl) rfl rfl (xr_rv kd_84 h_8) (Nat.le_of_ble_eq_true rfl) mc_84 ms_84 (c_ri_personsIn x2 M) ?_
      intro x3
      refine xr_9 f_104_41 ?_
      refine xr_4l (fun y4 => [some (.ref 162), some (.int y4), some (.int a2)]) f_104_42 rfl (fun _ => rfl) ?_
      intro y4
      refine xr_7 [some (.ref 162), some (.int y4), some (.int (a2 + (1 : Int32)))] f_104_43 rfl rfl rfl ?_
      refine xr_27 f_104_46 ?_
      exact ih y4 (a2 + (1 : Int32))

def rl_wouldStrand  (M : e_Me) : Option (Int32 × e_Me) :=
  x_bd (rl_tryLettingOut M) fun M1 =>
  x_bd (ri_personsUp M1) fun x2 =>
  rl_wouldStrand_l14 M1 e_F x2 (0 : Int32)
theorem c_rl_wouldStrand  (M : e_Me) : x_C G 104 [.ref 162] M x_rim (rl_wouldStrand  M) := by
  refine x_C_of 3 [some (.ref 162), none, none] (by decide) ml_104 (Nat.le_of_ble_eq_true rfl) rfl ?_
  rw [rl_wouldStrand]
  refine xr_2 f_104_0 rfl ?_
  refine xr_cv f_104_1 (Nat.le_of_ble_eq_true rfl) rfl rfl (xr_rv kd_108 h_162) (Nat.le_of_ble_eq_true rfl) mc_108 ms_108 (c_rl_tryLettingOut M) ?_
  intro M1
  refine xr_2 f_104_4 rfl ?_
  refine xr_30r f_104_5 h_162 rfl ?_
  refine xr_ci f_104_8 (Nat.le_of_ble_eq_true rfl) rfl rfl (xr_rv kd_85 h_8) (Nat.le_of_ble_eq_true rfl) mc_85 ms_85 (c_ri_personsUp M1) ?_
  intro x2
  refine xr_4 [some (.ref 162), some (.int x2), none] f_104_11 rfl rfl ?_
  refine xr_0 f_104_12 ?_
  refine xr_4 [some (.ref 162), some (.int x2), some (.int (0 : Int32))] f_104_13 rfl rfl ?_
  exact c_rl_wouldStrand_l14 M1 e_F x2 (0 : Int32)

end
