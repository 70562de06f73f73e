/-! THE WHEEL: arms, loads, leans -/
section
variable {G : e_G} {M : e_Me} {Q : Option Value → e_Me → Prop} {n : Nat}
theorem zw_mod {c t n : Nat} (hc : c < n) (ht : t < n) : (c + t) % n = if c + t < n then c + t else c + t - n := by
  split
  · rename_i h
    exact Nat.mod_eq_of_lt h
  · rename_i h
    rw [Nat.mod_eq_sub_mod (by omega), Nat.mod_eq_of_lt (by omega)]
set_option maxRecDepth 100000 in
set_option maxHeartbeats 200000 in
theorem zw_placeWith {c t : Nat} (hn : M 3 3 = nI n) (hn30 : n ≤ 30) (hc : c < n) (ht : t < n) (hq : Q (some (.int (nI ((c + t) % n)))) M) : e_C G 143 [.ref 3, .int (nI c), .int (nI t)] M Q := by
  rw [zw_mod hc ht] at hq
  by_cases h : c + t < n
  · have b1 : ¬ nI n ≤ nI (c + t) := nI_ge h (by omega)
    rw [if_pos h] at hq
    refine e_call 40 (fun z => false) (fun y p => y == 143 && (false)) (by decide) 3 ml_143 (Nat.le_of_ble_eq_true rfl) ?_
    show e_wp G _ _ 40 143 0 [some (.ref 3), some (.int (nI c)), some (.int (nI t))] [] e_SH M 0 0 (e_qq 143 _)
    simp [e_kk_a, e_kc_a, e_wp_s f_143_0, e_wp_s f_143_1, e_wp_s f_143_2, e_wp_s f_143_3, e_wp_s f_143_4, e_wp_s f_143_7, e_wp_s f_143_10, e_wp_s f_143_11, e_wp_s f_143_12, e_wp_s f_143_13, e_wp_s f_143_16, e_wp_s f_143_17, e_wp_s f_143_18, e_wp_s f_143_19, e_wp_s f_143_20, e_wp_s f_143_23, e_wp_s f_143_24, mc_143, ms_143, ml_143, es_1, es_2, es_8, es_9, es_27, es_29, e_ife, es_30, e_fv, es_51, e_qq, h_3, hn, nI_add, b1]
    exact hq
  · have b1 : nI n ≤ nI (c + t) := nI_le (by omega) (by omega)
    have b2 : nI (c + t) - nI n = nI (c + t - n) := pk_sub (by omega)
    rw [if_neg h] at hq
    refine e_call 40 (fun z => false) (fun y p => y == 143 && (false)) (by decide) 3 ml_143 (Nat.le_of_ble_eq_true rfl) ?_
    show e_wp G _ _ 40 143 0 [some (.ref 3), some (.int (nI c)), some (.int (nI t))] [] e_SH M 0 0 (e_qq 143 _)
    simp [e_kk_a, e_kc_a, e_wp_s f_143_0, e_wp_s f_143_1, e_wp_s f_143_2, e_wp_s f_143_3, e_wp_s f_143_4, e_wp_s f_143_7, e_wp_s f_143_10, e_wp_s f_143_11, e_wp_s f_143_12, e_wp_s f_143_13, e_wp_s f_143_16, e_wp_s f_143_17, e_wp_s f_143_18, e_wp_s f_143_19, e_wp_s f_143_20, e_wp_s f_143_23, e_wp_s f_143_24, mc_143, ms_143, ml_143, es_1, es_2, es_8, es_9, es_27, es_29, e_ife, es_30, e_fv, es_51, e_qq, h_3, hn, nI_add, b1, b2]
    exact hq
set_option maxRecDepth 100000 in
set_option maxHeartbeats 200000 in
theorem zw_armOf {c t : Nat} (hn : M 3 3 = nI n) (hn30 : n ≤ 30) (hc : c < n) (ht : t < n) (hq : Q (some (.int (M 4 ((c + t) % n)))) M) : e_C G 144 [.ref 3, .int (nI c), .int (nI t)] M Q := by
  have hlt : (c + t) % n < n := Nat.mod_lt _ (by omega)
  have b1 : ¬ nI ((c + t) % n) < 0 := nI_pos (by omega)
  have b2 : ¬ nI n ≤ nI ((c + t) % n) := nI_ge hlt (by omega)
  have b3 : (nI ((c + t) % n)).toNatClampNeg = (c + t) % n := nI_clamp (by omega)
  have b4 : vp_in (nI ((c + t) % n)) 30 := e_in (by omega) (by omega)
  refine e_call 60 (fun z => z == 132) (fun y p => y == 144 && (false)) (by decide) 4 ml_144 (Nat.le_of_ble_eq_true rfl) ?_
  show e_wp G _ _ 60 144 0 [some (.ref 3), some (.int (nI c)), some (.int (nI t)), none] [] e_SH M 0 0 (e_qq 144 _)
  simp [e_kk_a, e_kc_a, e_wp_s f_144_0, e_wp_s f_144_1, e_wp_s f_144_2, e_wp_s f_144_3, kd_143, mc_143, ms_143, e_wp_s f_144_6, e_wp_s f_144_7, e_wp_s f_144_8, e_wp_s f_144_9, kd_132, mc_132, ms_132, ml_132, e_wp_s f_144_12, e_wp_s f_144_15, e_wp_s f_144_16, e_wp_s f_144_19, e_wp_s f_144_20, e_wp_s f_144_21, e_wp_s f_144_24, e_wp_s f_144_25, mc_144, ms_144, ml_144, e_wp_s f_132_0, e_wp_s f_132_1, e_wp_s f_132_4, e_wp_s f_132_5, e_wp_s f_132_6, e_wp_s f_132_9, e_wp_s f_132_12, e_wp_s f_132_13, e_wp_s f_132_16, e_wp_s f_132_17, es_0, es_1, es_2, es_4, e_nl, es_27, es_28, e_ife, es_29, es_30, e_fv, es_32, es_44, e_rcv, e_cat, e_fl2, Value.category, es_51, es_52, e_qq, h_3]
  refine e_C_use (zw_placeWith hn hn30 hc ht ?_)
  simp [e_kk_a, e_kc_a, e_wp_s f_144_0, e_wp_s f_144_1, e_wp_s f_144_2, e_wp_s f_144_3, kd_143, mc_143, ms_143, e_wp_s f_144_6, e_wp_s f_144_7, e_wp_s f_144_8, e_wp_s f_144_9, kd_132, mc_132, ms_132, ml_132, e_wp_s f_144_12, e_wp_s f_144_15, e_wp_s f_144_16, e_wp_s f_144_19, e_wp_s f_144_20, e_wp_s f_144_21, e_wp_s f_144_24, e_wp_s f_144_25, mc_144, ms_144, ml_144, e_wp_s f_132_0, e_wp_s f_132_1, e_wp_s f_132_4, e_wp_s f_132_5, e_wp_s f_132_6, e_wp_s f_132_9, e_wp_s f_132_12, e_wp_s f_132_13, e_wp_s f_132_16, e_wp_s f_132_17, es_0, es_1, es_2, es_4, e_nl, es_27, es_28, e_ife, es_29, es_30, e_fv, es_32, es_44, e_rcv, e_cat, e_fl2, Value.category, es_51, es_52, e_qq, h_3, h_4, hn, b1, b2, b3, b4]
  exact hq
/-- the leans behind a load's change, up to a turn -/
def zw_lf (M : e_Me) (n c : Nat) (x : Int32) (i : Nat) : Nat → Int32 := fun t => if t < i then M 6 t + x * M 4 ((c + t) % n) else M 6 t
theorem zw_lf_s (M : e_Me) (n c : Nat) (x : Int32) (i : Nat) : upd (zw_lf M n c x i) i (M 6 i + x * M 4 ((c + i) % n)) = zw_lf M n c x (i + 1) := by
  funext t
  simp only [upd, zw_lf]
  by_cases h : t = i
  · subst h
    simp
  · rw [if_neg h]
    by_cases h2 : t < i
    · rw [if_pos h2, if_pos (by omega)]
    · rw [if_neg h2, if_neg (by omega)]
set_option maxRecDepth 100000 in
set_option maxHeartbeats 200000 in
theorem zw_add_l {c : Nat} {x : Int32} (hn30 : n ≤ 30) (hc : c < n) {M0 : e_Me} (hn : M0 3 3 = nI n) : ∀ (d i : Nat), i + d = n → Q none (e_row M0 6 (zw_lf M0 n c x n)) → e_EX G 146 21 [some (.ref 3), some (.int (nI c)), some (.int x), some (.int (nI i))] [] e_SH (e_row M0 6 (zw_lf M0 n c x i)) 0 0 (e_qq 146 Q) := by
  intro d
  induction d with
  | zero =>
    intro i hi hq
    have b1 : nI n ≤ nI i := nI_le (by omega) (by omega)
    have e : i = n := by omega
    subst e
    refine e_wp_ok (inl := fun z => false) (sp := fun y p => y == 146 && (p == 21)) 60 _ _ _ _ _ _ _ _ _ ?_
    simp [e_kk_a, e_kc_a, e_wp_s f_146_0, e_wp_s f_146_1, e_wp_s f_146_2, kd_132, mc_132, ms_132, e_wp_s f_146_5, e_wp_s f_146_8, e_wp_s f_146_9, e_wp_s f_146_10, e_wp_s f_146_13, e_wp_s f_146_14, e_wp_s f_146_15, e_wp_s f_146_16, e_wp_s f_146_17, e_wp_s f_146_18, e_wp_s f_146_19, e_wp_s f_146_20, e_wp_s f_146_21, e_wp_s f_146_22, e_wp_s f_146_23, e_wp_s f_146_26, e_wp_s f_146_29, e_wp_s f_146_30, e_wp_s f_146_33, e_wp_s f_146_34, e_wp_s f_146_35, e_wp_s f_146_36, e_wp_s f_146_37, e_wp_s f_146_38, e_wp_s f_146_39, e_wp_s f_146_40, kd_144, mc_144, ms_144, e_wp_s f_146_43, e_wp_s f_146_44, e_wp_s f_146_45, e_wp_s f_146_46, e_wp_s f_146_49, e_wp_s f_146_52, mc_146, ms_146, ml_146, es_0, es_1, es_2, es_4, e_nl, es_7, es_8, es_10, es_25, es_27, es_28, e_ife, es_29, es_30, e_fv, es_32, es_33, es_44, e_rcv, e_cat, e_fl2, Value.category, es_50, e_qq, h_3, hn, e_row_app, b1]
    exact hq
  | succ d ih =>
    intro i hi hq
    have b1 : ¬ nI n ≤ nI i := nI_ge (by omega) (by omega)
    have b2 : (nI i).toNatClampNeg = i := nI_clamp (by omega)
    have b3 : vp_in (nI i) 30 := e_in (by omega) (by omega)
    refine e_wp_ok (inl := fun z => false) (sp := fun y p => y == 146 && (p == 21)) 60 _ _ _ _ _ _ _ _ _ ?_
    simp [e_kk_a, e_kc_a, e_wp_s f_146_0, e_wp_s f_146_1, e_wp_s f_146_2, kd_132, mc_132, ms_132, e_wp_s f_146_5, e_wp_s f_146_8, e_wp_s f_146_9, e_wp_s f_146_10, e_wp_s f_146_13, e_wp_s f_146_14, e_wp_s f_146_15, e_wp_s f_146_16, e_wp_s f_146_17, e_wp_s f_146_18, e_wp_s f_146_19, e_wp_s f_146_20, e_wp_s f_146_21, e_wp_s f_146_22, e_wp_s f_146_23, e_wp_s f_146_26, e_wp_s f_146_29, e_wp_s f_146_30, e_wp_s f_146_33, e_wp_s f_146_34, e_wp_s f_146_35, e_wp_s f_146_36, e_wp_s f_146_37, e_wp_s f_146_38, e_wp_s f_146_39, e_wp_s f_146_40, kd_144, mc_144, ms_144, e_wp_s f_146_43, e_wp_s f_146_44, e_wp_s f_146_45, e_wp_s f_146_46, e_wp_s f_146_49, e_wp_s f_146_52, mc_146, ms_146, ml_146, es_0, es_1, es_2, es_4, e_nl, es_7, es_8, es_10, es_25, es_27, es_28, e_ife, es_29, es_30, e_fv, es_32, es_33, es_44, e_rcv, e_cat, e_fl2, Value.category, es_50, e_qq, h_3, h_6, hn, e_row_app, b1, b2, b3]
    refine e_C_use (zw_armOf (n := n) (by simp [e_row_app, hn]) hn30 hc (by omega) ?_)
    simp [e_kk_a, e_kc_a, e_wp_s f_146_0, e_wp_s f_146_1, e_wp_s f_146_2, kd_132, mc_132, ms_132, e_wp_s f_146_5, e_wp_s f_146_8, e_wp_s f_146_9, e_wp_s f_146_10, e_wp_s f_146_13, e_wp_s f_146_14, e_wp_s f_146_15, e_wp_s f_146_16, e_wp_s f_146_17, e_wp_s f_146_18, e_wp_s f_146_19, e_wp_s f_146_20, e_wp_s f_146_21, e_wp_s f_146_22, e_wp_s f_146_23, e_wp_s f_146_26, e_wp_s f_146_29, e_wp_s f_146_30, e_wp_s f_146_33, e_wp_s f_146_34, e_wp_s f_146_35, e_wp_s f_146_36, e_wp_s f_146_37, e_wp_s f_146_38, e_wp_s f_146_39, e_wp_s f_146_40, kd_144, mc_144, ms_144, e_wp_s f_146_43, e_wp_s f_146_44, e_wp_s f_146_45, e_wp_s f_146_46, e_wp_s f_146_49, e_wp_s f_146_52, mc_146, ms_146, ml_146, es_0, es_1, es_2, es_4, e_nl, es_7, es_8, es_10, es_25, es_27, es_28, e_ife, es_29, es_30, e_fv, es_32, es_33, es_44, e_rcv, e_cat, e_fl2, Value.category, es_50, e_qq, h_3, h_6, hn, e_row_app, b1, b2, b3, nI_1, e_up_row]
    have := ih (i + 1) (by omega) hq
    rw [← zw_lf_s] at this
    simpa [zw_lf] using this
set_option maxRecDepth 100000 in
set_option maxHeartbeats 200000 in
theorem zw_addLoad {c : Nat} {x : Int32} (hn : M 3 3 = nI n) (hn30 : n ≤ 30) (hc : c < n) (hq : Q none (e_row (e_up M 5 c (M 5 c + x)) 6 (zw_lf M n c x n))) : e_C G 146 [.ref 3, .int (nI c), .int x] M Q := by
  have b1 : ¬ nI c < 0 := nI_pos (by omega)
  have b2 : ¬ nI n ≤ nI c := nI_ge hc (by omega)
  have b3 : (nI c).toNatClampNeg = c := nI_clamp (by omega)
  have b4 : vp_in (nI c) 30 := e_in (by omega) (by omega)
  refine e_call 60 (fun z => z == 132) (fun y p => y == 146 && (p == 21)) (by decide) 4 ml_146 (Nat.le_of_ble_eq_true rfl) ?_
  show e_wp G _ _ 60 146 0 [some (.ref 3), some (.int (nI c)), some (.int x), none] [] e_SH M 0 0 (e_qq 146 _)
  simp [e_kk_a, e_kc_a, e_wp_s f_146_0, e_wp_s f_146_1, e_wp_s f_146_2, kd_132, mc_132, ms_132, ml_132, e_wp_s f_146_5, e_wp_s f_146_8, e_wp_s f_146_9, e_wp_s f_146_10, e_wp_s f_146_13, e_wp_s f_146_14, e_wp_s f_146_15, e_wp_s f_146_16, e_wp_s f_146_17, e_wp_s f_146_18, e_wp_s f_146_19, e_wp_s f_146_20, e_wp_s f_146_21, e_wp_s f_146_22, e_wp_s f_146_23, e_wp_s f_146_26, e_wp_s f_146_29, e_wp_s f_146_30, e_wp_s f_146_33, e_wp_s f_146_34, e_wp_s f_146_35, e_wp_s f_146_36, e_wp_s f_146_37, e_wp_s f_146_38, e_wp_s f_146_39, e_wp_s f_146_40, kd_144, mc_144, ms_144, e_wp_s f_146_43, e_wp_s f_146_44, e_wp_s f_146_45, e_wp_s f_146_46, e_wp_s f_146_49, e_wp_s f_146_52, mc_146, ms_146, ml_146, e_wp_s f_132_0, e_wp_s f_132_1, e_wp_s f_132_4, e_wp_s f_132_5, e_wp_s f_132_6, e_wp_s f_132_9, e_wp_s f_132_12, e_wp_s f_132_13, e_wp_s f_132_16, e_wp_s f_132_17, es_0, es_1, es_2, es_4, e_nl, es_7, es_8, es_10, es_25, es_27, es_28, e_ife, es_29, es_30, e_fv, es_32, es_33, es_44, e_rcv, e_cat, e_fl2, Value.category, es_50, es_52, e_qq, h_3, h_5, hn, b1, b2, b3, b4]
  have e : ∀ i, zw_lf (e_up M 5 c (M 5 c + x)) n c x i = zw_lf M n c x i := by
    intro i
    funext t
    simp [zw_lf, e_up_app]
  have h0 : e_row (e_up M 5 c (M 5 c + x)) 6 (zw_lf (e_up M 5 c (M 5 c + x)) n c x 0) = e_up M 5 c (M 5 c + x) := by
    have : zw_lf (e_up M 5 c (M 5 c + x)) n c x 0 = (e_up M 5 c (M 5 c + x)) 6 := by
      funext t
      simp [zw_lf]
    rw [this, e_row_self]
  have := zw_add_l (G := G) (Q := Q) (M0 := e_up M 5 c (M 5 c + x)) (x := x) hn30 hc (by simp [e_up_app, hn]) n 0 (by omega) (by rw [e]; exact hq)
  rw [h0] at this
  exact this
def zj_max (a b : Int32) : Int32 := if a < b then b else a
def zj_min (a b : Int32) : Int32 := if b < a then b else a
def zj_abs (a : Int32) : Int32 := if 0 ≤ a then a else -a
set_option maxRecDepth 100000 in
set_option maxHeartbeats 200000 in
theorem zj_maxC {a b : Int32} (hq : Q (some (.int (zj_max a b))) M) : e_C G 265 [.int a, .int b] M Q := by
  unfold zj_max at hq
  refine e_call 40 (fun z => false) (fun y p => y == 265 && (false)) (by decide) 2 ml_265 (Nat.le_of_ble_eq_true rfl) ?_
  show e_wp G _ _ 40 265 0 [some (.int a), some (.int b)] [] e_SH M 0 0 (e_qq 265 _)
  simp [e_kk_a, e_kc_a, e_wp_s f_265_0, e_wp_s f_265_1, e_wp_s f_265_2, e_wp_s f_265_5, e_wp_s f_265_6, e_wp_s f_265_9, e_wp_s f_265_10, mc_265, ms_265, ml_265, es_1, es_27, es_29, e_ife, es_51, e_qq]
  split
  · rename_i h
    rw [if_pos h] at hq
    exact hq
  · rename_i h
    rw [if_neg h] at hq
    exact hq
set_option maxRecDepth 100000 in
set_option maxHeartbeats 200000 in
theorem zj_minC {a b : Int32} (hq : Q (some (.int (zj_min a b))) M) : e_C G 266 [.int a, .int b] M Q := by
  unfold zj_min at hq
  refine e_call 40 (fun z => false) (fun y p => y == 266 && (false)) (by decide) 2 ml_266 (Nat.le_of_ble_eq_true rfl) ?_
  show e_wp G _ _ 40 266 0 [some (.int a), some (.int b)] [] e_SH M 0 0 (e_qq 266 _)
  simp [e_kk_a, e_kc_a, e_wp_s f_266_0, e_wp_s f_266_1, e_wp_s f_266_2, e_wp_s f_266_5, e_wp_s f_266_6, e_wp_s f_266_9, e_wp_s f_266_10, mc_266, ms_266, ml_266, es_1, es_27, es_29, e_ife, es_51, e_qq]
  split
  · rename_i h
    rw [if_pos h] at hq
    exact hq
  · rename_i h
    rw [if_neg h] at hq
    exact hq
set_option maxRecDepth 100000 in
set_option maxHeartbeats 200000 in
theorem zj_absC {a : Int32} (hq : Q (some (.int (zj_abs a))) M) : e_C G 264 [.int a] M Q := by
  unfold zj_abs at hq
  refine e_call 40 (fun z => false) (fun y p => y == 264 && (false)) (by decide) 1 ml_264 (Nat.le_of_ble_eq_true rfl) ?_
  show e_wp G _ _ 40 264 0 [some (.int a)] [] e_SH M 0 0 (e_qq 264 _)
  simp [e_kk_a, e_kc_a, e_wp_s f_264_0, e_wp_s f_264_1, e_wp_s f_264_4, e_wp_s f_264_5, e_wp_s f_264_6, e_wp_s f_264_9, e_wp_s f_264_10, mc_264, ms_264, ml_264, es_1, es_11, es_27, es_28, e_ife, es_51, e_qq]
  split
  · rename_i h
    rw [if_pos h] at hq
    exact hq
  · rename_i h
    rw [if_neg h] at hq
    exact hq
/-- GREATEST LEAN with so much more in a cabin -/
def zw_gl (M : e_Me) (n c : Nat) (x : Int32) : Nat → Nat → Int32 → Int32
  | 0, _, a => a
  | d + 1, i, a => zw_gl M n c x d (i + 1) (zj_max a (zj_abs (M 6 i + x * M 4 ((c + i) % n))))
set_option maxRecDepth 100000 in
set_option maxHeartbeats 200000 in
theorem zw_great_l {c : Nat} {x : Int32} (hn30 : n ≤ 30) (hc : c < n) (hn : M 3 3 = nI n) : ∀ (d i : Nat) (a : Int32), i + d = n → Q (some (.int (zw_gl M n c x d i a))) M → e_EX G 149 5 [some (.ref 3), some (.int (nI c)), some (.int x), some (.int a), some (.int (nI i))] [] e_SH M 0 0 (e_qq 149 Q) := by
  intro d
  induction d with
  | zero =>
    intro i a hi hq
    have b1 : nI n ≤ nI i := nI_le (by omega) (by omega)
    refine e_wp_ok (inl := fun z => false) (sp := fun y p => y == 149 && (p == 5)) 60 _ _ _ _ _ _ _ _ _ ?_
    simp [e_kk_a, e_kc_a, e_wp_s f_149_0, e_wp_s f_149_1, e_wp_s f_149_2, e_wp_s f_149_3, e_wp_s f_149_5, e_wp_s f_149_7, e_wp_s f_149_8, e_wp_s f_149_11, e_wp_s f_149_14, e_wp_s f_149_15, e_wp_s f_149_16, e_wp_s f_149_19, e_wp_s f_149_21, e_wp_s f_149_22, e_wp_s f_149_23, e_wp_s f_149_24, e_wp_s f_149_25, e_wp_s f_149_27, kd_144, mc_144, ms_144, e_wp_s f_149_30, e_wp_s f_149_31, e_wp_s f_149_32, kd_264, mc_264, ms_264, e_wp_s f_149_35, kd_265, mc_265, ms_265, e_wp_s f_149_38, e_wp_s f_149_39, e_wp_s f_149_42, e_wp_s f_149_45, e_wp_s f_149_46, mc_149, ms_149, ml_149, es_0, es_1, es_2, es_4, e_nl, es_7, es_8, es_10, es_27, es_29, e_ife, es_30, e_fv, es_32, es_44, e_rcv, e_cat, e_fl2, Value.category, es_51, e_qq, h_3, hn, b1]
    exact hq
  | succ d ih =>
    intro i a hi hq
    have b1 : ¬ nI n ≤ nI i := nI_ge (by omega) (by omega)
    have b2 : (nI i).toNatClampNeg = i := nI_clamp (by omega)
    have b3 : vp_in (nI i) 30 := e_in (by omega) (by omega)
    refine e_wp_ok (inl := fun z => false) (sp := fun y p => y == 149 && (p == 5)) 60 _ _ _ _ _ _ _ _ _ ?_
    simp [e_kk_a, e_kc_a, e_wp_s f_149_0, e_wp_s f_149_1, e_wp_s f_149_2, e_wp_s f_149_3, e_wp_s f_149_5, e_wp_s f_149_7, e_wp_s f_149_8, e_wp_s f_149_11, e_wp_s f_149_14, e_wp_s f_149_15, e_wp_s f_149_16, e_wp_s f_149_19, e_wp_s f_149_21, e_wp_s f_149_22, e_wp_s f_149_23, e_wp_s f_149_24, e_wp_s f_149_25, e_wp_s f_149_27, kd_144, mc_144, ms_144, e_wp_s f_149_30, e_wp_s f_149_31, e_wp_s f_149_32, kd_264, mc_264, ms_264, e_wp_s f_149_35, kd_265, mc_265, ms_265, e_wp_s f_149_38, e_wp_s f_149_39, e_wp_s f_149_42, e_wp_s f_149_45, e_wp_s f_149_46, mc_149, ms_149, ml_149, es_0, es_1, es_2, es_4, e_nl, es_7, es_8, es_10, es_27, es_29, e_ife, es_30, e_fv, es_32, es_44, e_rcv, e_cat, e_fl2, Value.category, es_51, e_qq, h_3, h_6, hn, b1, b2, b3]
    refine e_C_use (zw_armOf (n := n) hn hn30 hc (by omega) ?_)
    simp [e_kk_a, e_kc_a, e_wp_s f_149_0, e_wp_s f_149_1, e_wp_s f_149_2, e_wp_s f_149_3, e_wp_s f_149_5, e_wp_s f_149_7, e_wp_s f_149_8, e_wp_s f_149_11, e_wp_s f_149_14, e_wp_s f_149_15, e_wp_s f_149_16, e_wp_s f_149_19, e_wp_s f_149_21, e_wp_s f_149_22, e_wp_s f_149_23, e_wp_s f_149_24, e_wp_s f_149_25, e_wp_s f_149_27, kd_144, mc_144, ms_144, e_wp_s f_149_30, e_wp_s f_149_31, e_wp_s f_149_32, kd_264, mc_264, ms_264, e_wp_s f_149_35, kd_265, mc_265, ms_265, e_wp_s f_149_38, e_wp_s f_149_39, e_wp_s f_149_42, e_wp_s f_149_45, e_wp_s f_149_46, mc_149, ms_149, ml_149, es_0, es_1, es_2, es_4, e_nl, es_7, es_8, es_10, es_27, es_29, e_ife, es_30, e_fv, es_32, es_44, e_rcv, e_cat, e_fl2, Value.category, es_51, e_qq, h_3, h_6, hn, b1, b2, b3]
    refine e_C_use (zj_absC ?_)
    simp [e_kk_a, e_kc_a, e_wp_s f_149_0, e_wp_s f_149_1, e_wp_s f_149_2, e_wp_s f_149_3, e_wp_s f_149_5, e_wp_s f_149_7, e_wp_s f_149_8, e_wp_s f_149_11, e_wp_s f_149_14, e_wp_s f_149_15, e_wp_s f_149_16, e_wp_s f_149_19, e_wp_s f_149_21, e_wp_s f_149_22, e_wp_s f_149_23, e_wp_s f_149_24, e_wp_s f_149_25, e_wp_s f_149_27, kd_144, mc_144, ms_144, e_wp_s f_149_30, e_wp_s f_149_31, e_wp_s f_149_32, kd_264, mc_264, ms_264, e_wp_s f_149_35, kd_265, mc_265, ms_265, e_wp_s f_149_38, e_wp_s f_149_39, e_wp_s f_149_42, e_wp_s f_149_45, e_wp_s f_149_46, mc_149, ms_149, ml_149, es_0, es_1, es_2, es_4, e_nl, es_7, es_8, es_10, es_27, es_29, e_ife, es_30, e_fv, es_32, es_44, e_rcv, e_cat, e_fl2, Value.category, es_51, e_qq]
    refine e_C_use (zj_maxC ?_)
    simp [e_kk_a, e_kc_a, e_wp_s f_149_0, e_wp_s f_149_1, e_wp_s f_149_2, e_wp_s f_149_3, e_wp_s f_149_5, e_wp_s f_149_7, e_wp_s f_149_8, e_wp_s f_149_11, e_wp_s f_149_14, e_wp_s f_149_15, e_wp_s f_149_16, e_wp_s f_149_19, e_wp_s f_149_21, e_wp_s f_149_22, e_wp_s f_149_23, e_wp_s f_149_24, e_wp_s f_149_25, e_wp_s f_149_27, kd_144, mc_144, ms_144, e_wp_s f_149_30, e_wp_s f_149_31, e_wp_s f_149_32, kd_264, mc_264, ms_264, e_wp_s f_149_35, kd_265, mc_265, ms_265, e_wp_s f_149_38, e_wp_s f_149_39, e_wp_s f_149_42, e_wp_s f_149_45, e_wp_s f_149_46, mc_149, ms_149, ml_149, es_0, es_1, es_2, es_4, e_nl, es_7, es_8, es_10, es_27, es_29, e_ife, es_30, e_fv, es_32, es_44, e_rcv, e_cat, e_fl2, Value.category, es_51, e_qq, nI_1]
    exact ih (i + 1) _ (by omega) hq
set_option maxRecDepth 100000 in
set_option maxHeartbeats 200000 in
theorem zw_greatestWith {c : Nat} {x : Int32} (hn : M 3 3 = nI n) (hn30 : n ≤ 30) (hc : c < n) (hq : Q (some (.int (zw_gl M n c x n 0 0))) M) : e_C G 149 [.ref 3, .int (nI c), .int x] M Q := by
  refine e_call 40 (fun z => false) (fun y p => y == 149 && (p == 5)) (by decide) 5 ml_149 (Nat.le_of_ble_eq_true rfl) ?_
  show e_wp G _ _ 40 149 0 [some (.ref 3), some (.int (nI c)), some (.int x), none, none] [] e_SH M 0 0 (e_qq 149 _)
  simp [e_kk_a, e_kc_a, e_wp_s f_149_0, e_wp_s f_149_1, e_wp_s f_149_2, e_wp_s f_149_3, e_wp_s f_149_5, e_wp_s f_149_7, e_wp_s f_149_8, e_wp_s f_149_11, e_wp_s f_149_14, e_wp_s f_149_15, e_wp_s f_149_16, e_wp_s f_149_19, e_wp_s f_149_21, e_wp_s f_149_22, e_wp_s f_149_23, e_wp_s f_149_24, e_wp_s f_149_25, e_wp_s f_149_27, kd_144, mc_144, ms_144, e_wp_s f_149_30, e_wp_s f_149_31, e_wp_s f_149_32, kd_264, mc_264, ms_264, e_wp_s f_149_35, kd_265, mc_265, ms_265, e_wp_s f_149_38, e_wp_s f_149_39, e_wp_s f_149_42, e_wp_s f_149_45, e_wp_s f_149_46, mc_149, ms_149, ml_149, es_0, es_1, es_2, es_4, e_nl, es_7, es_8, es_10, es_27, es_29, e_ife, es_30, e_fv, es_32, es_44, e_rcv, e_cat, e_fl2, Value.category, es_51, e_qq]
  exact zw_great_l hn30 hc hn n 0 0 (by omega) hq
/-- the turn with the greatest lean -/
def zw_wl (f : Nat → Int32) : Nat → Nat → Nat → Nat
  | 0, _, w => w
  | d + 1, i, w => zw_wl f d (i + 1) (if zj_abs (f w) < zj_abs (f i) then i else w)
theorem zw_wl_lt (f : Nat → Int32) (n : Nat) : ∀ (d i w : Nat), i + d = n → w < n → zw_wl f d i w < n := by
  intro d
  induction d with
  | zero => intro i w _ h; exact h
  | succ d ih =>
    intro i w hi hw
    refine ih _ _ (by omega) ?_
    split <;> omega
set_option maxRecDepth 100000 in
set_option maxHeartbeats 200000 in
theorem zw_worst_l (hn30 : n ≤ 30) (hn : M 3 3 = nI n) : ∀ (d i w : Nat), i + d = n → w < n → Q (some (.int (nI (zw_wl (M 6) d i w)))) M → e_EX G 150 4 [some (.ref 3), some (.int (nI w)), some (.int (nI i))] [] e_SH M 0 0 (e_qq 150 Q) := by
  intro d
  induction d with
  | zero =>
    intro i w hi hw hq
    have b1 : nI n ≤ nI i := nI_le (by omega) (by omega)
    refine e_wp_ok (inl := fun z => false) (sp := fun y p => y == 150 && (p == 4)) 60 _ _ _ _ _ _ _ _ _ ?_
    simp [e_kk_a, e_kc_a, e_wp_s f_150_0, e_wp_s f_150_1, e_wp_s f_150_2, e_wp_s f_150_3, e_wp_s f_150_4, e_wp_s f_150_5, e_wp_s f_150_6, e_wp_s f_150_9, e_wp_s f_150_12, e_wp_s f_150_13, e_wp_s f_150_16, e_wp_s f_150_17, e_wp_s f_150_18, kd_264, mc_264, ms_264, e_wp_s f_150_21, e_wp_s f_150_22, e_wp_s f_150_25, e_wp_s f_150_26, e_wp_s f_150_27, e_wp_s f_150_30, e_wp_s f_150_33, e_wp_s f_150_34, e_wp_s f_150_35, e_wp_s f_150_38, e_wp_s f_150_41, e_wp_s f_150_42, mc_150, ms_150, ml_150, es_0, es_1, es_2, es_4, e_nl, es_7, es_27, es_29, e_ife, es_30, e_fv, es_32, es_44, e_rcv, e_cat, e_fl2, Value.category, es_51, e_qq, h_3, hn, b1]
    exact hq
  | succ d ih =>
    intro i w hi hw hq
    have b1 : ¬ nI n ≤ nI i := nI_ge (by omega) (by omega)
    have b2 : (nI i).toNatClampNeg = i := nI_clamp (by omega)
    have b3 : vp_in (nI i) 30 := e_in (by omega) (by omega)
    have b4 : (nI w).toNatClampNeg = w := nI_clamp (by omega)
    have b5 : vp_in (nI w) 30 := e_in (by omega) (by omega)
    simp only [zw_wl] at hq
    refine e_wp_ok (inl := fun z => false) (sp := fun y p => y == 150 && (p == 4)) 60 _ _ _ _ _ _ _ _ _ ?_
    simp [e_kk_a, e_kc_a, e_wp_s f_150_0, e_wp_s f_150_1, e_wp_s f_150_2, e_wp_s f_150_3, e_wp_s f_150_4, e_wp_s f_150_5, e_wp_s f_150_6, e_wp_s f_150_9, e_wp_s f_150_12, e_wp_s f_150_13, e_wp_s f_150_16, e_wp_s f_150_17, e_wp_s f_150_18, kd_264, mc_264, ms_264, e_wp_s f_150_21, e_wp_s f_150_22, e_wp_s f_150_25, e_wp_s f_150_26, e_wp_s f_150_27, e_wp_s f_150_30, e_wp_s f_150_33, e_wp_s f_150_34, e_wp_s f_150_35, e_wp_s f_150_38, e_wp_s f_150_41, e_wp_s f_150_42, mc_150, ms_150, ml_150, es_0, es_1, es_2, es_4, e_nl, es_7, es_27, es_29, e_ife, es_30, e_fv, es_32, es_44, e_rcv, e_cat, e_fl2, Value.category, es_51, e_qq, h_3, h_6, hn, b1, b2, b3, b4, b5]
    refine e_C_use (zj_absC ?_)
    simp [e_kk_a, e_kc_a, e_wp_s f_150_0, e_wp_s f_150_1, e_wp_s f_150_2, e_wp_s f_150_3, e_wp_s f_150_4, e_wp_s f_150_5, e_wp_s f_150_6, e_wp_s f_150_9, e_wp_s f_150_12, e_wp_s f_150_13, e_wp_s f_150_16, e_wp_s f_150_17, e_wp_s f_150_18, kd_264, mc_264, ms_264, e_wp_s f_150_21, e_wp_s f_150_22, e_wp_s f_150_25, e_wp_s f_150_26, e_wp_s f_150_27, e_wp_s f_150_30, e_wp_s f_150_33, e_wp_s f_150_34, e_wp_s f_150_35, e_wp_s f_150_38, e_wp_s f_150_41, e_wp_s f_150_42, mc_150, ms_150, ml_150, es_0, es_1, es_2, es_4, e_nl, es_7, es_27, es_29, e_ife, es_30, e_fv, es_32, es_44, e_rcv, e_cat, e_fl2, Value.category, es_51, e_qq, h_3, h_6, hn, b1, b2, b3, b4, b5]
    refine e_C_use (zj_absC ?_)
    simp [e_kk_a, e_kc_a, e_wp_s f_150_0, e_wp_s f_150_1, e_wp_s f_150_2, e_wp_s f_150_3, e_wp_s f_150_4, e_wp_s f_150_5, e_wp_s f_150_6, e_wp_s f_150_9, e_wp_s f_150_12, e_wp_s f_150_13, e_wp_s f_150_16, e_wp_s f_150_17, e_wp_s f_150_18, kd_264, mc_264, ms_264, e_wp_s f_150_21, e_wp_s f_150_22, e_wp_s f_150_25, e_wp_s f_150_26, e_wp_s f_150_27, e_wp_s f_150_30, e_wp_s f_150_33, e_wp_s f_150_34, e_wp_s f_150_35, e_wp_s f_150_38, e_wp_s f_150_41, e_wp_s f_150_42, mc_150, ms_150, ml_150, es_0, es_1, es_2, es_4, e_nl, es_7, es_27, es_29, e_ife, es_30, e_fv, es_32, es_44, e_rcv, e_cat, e_fl2, Value.category, es_51, e_qq, nI_1]
    split
    · rename_i h
      rw [if_neg (Int32.not_lt.mpr h)] at hq
      exact ih (i + 1) w (by omega) hw hq
    · rename_i h
      rw [if_pos (Int32.not_le.mp h)] at hq
      exact ih (i + 1) i (by omega) (by omega) hq
set_option maxRecDepth 100000 in
set_option maxHeartbeats 200000 in
theorem zw_worstTurn (hn : M 3 3 = nI n) (hn30 : n ≤ 30) (h0 : 0 < n) (hq : Q (some (.int (nI (zw_wl (M 6) (n - 1) 1 0)))) M) : e_C G 150 [.ref 3] M Q := by
  refine e_call 40 (fun z => false) (fun y p => y == 150 && (p == 4)) (by decide) 3 ml_150 (Nat.le_of_ble_eq_true rfl) ?_
  show e_wp G _ _ 40 150 0 [some (.ref 3), none, none] [] e_SH M 0 0 (e_qq 150 _)
  simp [e_kk_a, e_kc_a, e_wp_s f_150_0, e_wp_s f_150_1, e_wp_s f_150_2, e_wp_s f_150_3, e_wp_s f_150_4, e_wp_s f_150_5, e_wp_s f_150_6, e_wp_s f_150_9, e_wp_s f_150_12, e_wp_s f_150_13, e_wp_s f_150_16, e_wp_s f_150_17, e_wp_s f_150_18, kd_264, mc_264, ms_264, e_wp_s f_150_21, e_wp_s f_150_22, e_wp_s f_150_25, e_wp_s f_150_26, e_wp_s f_150_27, e_wp_s f_150_30, e_wp_s f_150_33, e_wp_s f_150_34, e_wp_s f_150_35, e_wp_s f_150_38, e_wp_s f_150_41, e_wp_s f_150_42, mc_150, ms_150, ml_150, es_0, es_1, es_2, es_4, e_nl, es_7, es_27, es_29, e_ife, es_30, e_fv, es_32, es_44, e_rcv, e_cat, e_fl2, Value.category, es_51, e_qq]
  exact zw_worst_l hn30 hn (n - 1) 1 0 (by omega) (by omega) hq
end
