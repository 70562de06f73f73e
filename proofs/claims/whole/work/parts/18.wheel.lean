/-! THE WHEEL: arms, loads, leans -/
section
variable {G : e_G} {M : e_Me} {Q : Option Value → e_Me → Prop} {n : Nat}
theorem zw_mod {c t n : Nat} (hc : c < n) (ht : t < n) : (c + t) % n = if c + t < n then c + t else c + t - n := by
  split
  · rename_i h
    exact Nat.mod_eq_of_lt h
  · rename_i h
    rw [Nat.mod_eq_sub_mod (by omega), Nat.mod_eq_of_lt (by omega)]
set_option maxRecDepth 100000 in
set_option maxHeartbeats 400000 in
theorem zw_placeWith {c t : Nat} (hn : M 3 3 = nI n) (hn30 : n ≤ 30) (hc : c < n) (ht : t < n) (hq : Q (some (.int (nI ((c + t) % n)))) M) : e_C G 143 [.ref 3, .int (nI c), .int (nI t)] M Q := by
  rw [zw_mod hc ht] at hq
  by_cases h : c + t < n
  · have b1 : nI (c + t) < nI n := nI_lt h (by omega)
    rw [if_pos h] at hq
    refine e_call 40 (fun z => false) (fun y p => Nat.beq y 143 && (false)) (by decide) 3 ml_143 (Nat.le_of_ble_eq_true rfl) ?_
    show e_wp G _ _ 40 143 0 [some (.ref 3), some (.int (nI c)), some (.int (nI t))] [] e_SH M 0 0 (e_qq 143 _)
    simp [e_kk_a, e_kc_a, e_wp_s f_143_0, e_wp_s f_143_1, e_wp_s f_143_2, e_wp_s f_143_3, e_wp_s f_143_4, e_wp_s f_143_7, e_wp_s f_143_10, e_wp_s f_143_11, e_wp_s f_143_12, e_wp_s f_143_13, e_wp_s f_143_16, e_wp_s f_143_17, e_wp_s f_143_18, e_wp_s f_143_19, e_wp_s f_143_20, e_wp_s f_143_23, e_wp_s f_143_24, mc_143, ms_143, ml_143, es_1, es_2, es_8, es_9, es_27, es_29, e_ife, es_30, e_fv, es_51, e_qq, h_3, hn, nI_add, b1]
    exact hq
  · have b1 : ¬ nI (c + t) < nI n := nI_nlt (by omega) (by omega)
    have b2 : nI (c + t) - nI n = nI (c + t - n) := pk_sub (by omega)
    rw [if_neg h] at hq
    refine e_call 40 (fun z => false) (fun y p => Nat.beq y 143 && (false)) (by decide) 3 ml_143 (Nat.le_of_ble_eq_true rfl) ?_
    show e_wp G _ _ 40 143 0 [some (.ref 3), some (.int (nI c)), some (.int (nI t))] [] e_SH M 0 0 (e_qq 143 _)
    simp [e_kk_a, e_kc_a, e_wp_s f_143_0, e_wp_s f_143_1, e_wp_s f_143_2, e_wp_s f_143_3, e_wp_s f_143_4, e_wp_s f_143_7, e_wp_s f_143_10, e_wp_s f_143_11, e_wp_s f_143_12, e_wp_s f_143_13, e_wp_s f_143_16, e_wp_s f_143_17, e_wp_s f_143_18, e_wp_s f_143_19, e_wp_s f_143_20, e_wp_s f_143_23, e_wp_s f_143_24, mc_143, ms_143, ml_143, es_1, es_2, es_8, es_9, es_27, es_29, e_ife, es_30, e_fv, es_51, e_qq, h_3, hn, nI_add, b1, b2]
    exact hq
set_option maxRecDepth 100000 in
set_option maxHeartbeats 400000 in
theorem zw_armOf {c t : Nat} (hn : M 3 3 = nI n) (hn30 : n ≤ 30) (hc : c < n) (ht : t < n) (hq : Q (some (.int (M 4 ((c + t) % n)))) M) : e_C G 144 [.ref 3, .int (nI c), .int (nI t)] M Q := by
  have hlt : (c + t) % n < n := Nat.mod_lt _ (by omega)
  have b1 : ¬ nI ((c + t) % n) < 0 := nI_pos (by omega)
  have b2 : nI ((c + t) % n) < nI n := nI_lt hlt (by omega)
  have b3 : (nI ((c + t) % n)).toNatClampNeg = (c + t) % n := nI_clamp (by omega)
  have b4 : vp_in (nI ((c + t) % n)) 30 := e_in (by omega) (by omega)
  refine e_call 60 (fun z => false) (fun y p => Nat.beq y 144 && (false)) (by decide) 4 ml_144 (Nat.le_of_ble_eq_true rfl) ?_
  show e_wp G _ _ 60 144 0 [some (.ref 3), some (.int (nI c)), some (.int (nI t)), none] [] e_SH M 0 0 (e_qq 144 _)
  simp [e_kk_a, e_kc_a, e_wp_s f_144_0, e_wp_s f_144_1, e_wp_s f_144_2, e_wp_s f_144_3, kd_143, mc_143, ms_143, e_wp_s f_144_6, e_wp_s f_144_7, e_wp_s f_144_8, e_wp_s f_144_9, kd_132, mc_132, ms_132, e_wp_s f_144_12, e_wp_s f_144_15, e_wp_s f_144_16, e_wp_s f_144_19, e_wp_s f_144_20, e_wp_s f_144_21, e_wp_s f_144_24, e_wp_s f_144_25, mc_144, ms_144, ml_144, es_0, es_1, es_2, es_4, e_nl, es_27, es_28, e_ife, es_30, e_fv, es_32, es_44, e_rcv, e_cat, e_fl2, Value.category, es_51, e_qq]
  refine e_C_use (zw_placeWith hn hn30 hc ht ?_)
  simp [e_kk_a, e_kc_a, e_wp_s f_144_0, e_wp_s f_144_1, e_wp_s f_144_2, e_wp_s f_144_3, kd_143, mc_143, ms_143, e_wp_s f_144_6, e_wp_s f_144_7, e_wp_s f_144_8, e_wp_s f_144_9, kd_132, mc_132, ms_132, ml_132, e_wp_s f_144_12, e_wp_s f_144_15, e_wp_s f_144_16, e_wp_s f_144_19, e_wp_s f_144_20, e_wp_s f_144_21, e_wp_s f_144_24, e_wp_s f_144_25, mc_144, ms_144, ml_144, e_wp_s f_132_0, e_wp_s f_132_1, e_wp_s f_132_4, e_wp_s f_132_5, e_wp_s f_132_6, e_wp_s f_132_9, e_wp_s f_132_12, e_wp_s f_132_13, e_wp_s f_132_16, e_wp_s f_132_17, es_0, es_1, es_2, es_4, e_nl, es_27, es_28, e_ife, es_29, es_30, e_fv, es_32, es_44, e_rcv, e_cat, e_fl2, Value.category, es_51, es_52, e_qq, h_3, h_4, hn, b1, b2, b3, b4]
  exact hq
/-- the leans behind a load's change, up to a turn -/
def zw_lf (M : e_Me) (n c : Nat) (x : Int32) (i : Nat) : Nat → Int32 := fun t => if t < i then M 6 t + x * M 4 ((c + t) % n) else M 6 t
theorem zw_lf_s (M : e_Me) (n c : Nat) (x : Int32) (i : Nat) : upd (zw_lf M n c x i) i (M 6 i + x * M 4 ((c + i) % n)) = zw_lf M n c x (i + 1) := by
  funext t
  simp only [upd, zw_lf]
  by_cases h : t = i
  · subst h
    simp
  · rw [if_neg h]
    by_cases h2 : t < i
    · rw [if_pos h2, if_pos (by omega)]
    · rw [if_neg h2, if_neg (by omega)]
set_option maxRecDepth 100000 in
set_option maxHeartbeats 400000 in
theorem zw_add_l {c : Nat} {x : Int32} (hn30 : n ≤ 30) (hc : c < n) {M0 : e_Me} (hn : M0 3 3 = nI n) : ∀ (d i : Nat), i + d = n → Q none (e_row M0 6 (zw_lf M0 n c x n)) → e_EX G 146 21 [some (.ref 3), some (.int (nI c)), some (.int x), some (.int (nI i))] [] e_SH (e_row M0 6 (zw_lf M0 n c x i)) 0 0 (e_qq 146 Q) := by
  intro d
  induction d with
  | zero =>
    intro i hi hq
    have b1 : nI n ≤ nI i := nI_le (by omega) (by omega)
    have e : i = n := by omega
    subst e
    refine e_wp_ok (inl := fun z => false) (sp := fun y p => Nat.beq y 146 && (Nat.beq p 21)) 60 _ _ _ _ _ _ _ _ _ ?_
    simp [e_kk_a, e_kc_a, e_wp_s f_146_0, e_wp_s f_146_1, e_wp_s f_146_2, kd_132, mc_132, ms_132, e_wp_s f_146_5, e_wp_s f_146_8, e_wp_s f_146_9, e_wp_s f_146_10, e_wp_s f_146_13, e_wp_s f_146_14, e_wp_s f_146_15, e_wp_s f_146_16, e_wp_s f_146_17, e_wp_s f_146_18, e_wp_s f_146_19, e_wp_s f_146_20, e_wp_s f_146_21, e_wp_s f_146_22, e_wp_s f_146_23, e_wp_s f_146_26, e_wp_s f_146_29, e_wp_s f_146_30, e_wp_s f_146_33, e_wp_s f_146_34, e_wp_s f_146_35, e_wp_s f_146_36, e_wp_s f_146_37, e_wp_s f_146_38, e_wp_s f_146_39, e_wp_s f_146_40, kd_144, mc_144, ms_144, e_wp_s f_146_43, e_wp_s f_146_44, e_wp_s f_146_45, e_wp_s f_146_46, e_wp_s f_146_49, e_wp_s f_146_52, mc_146, ms_146, ml_146, es_0, es_1, es_2, es_4, e_nl, es_7, es_8, es_10, es_25, es_27, es_28, e_ife, es_29, es_30, e_fv, es_32, es_33, es_44, e_rcv, e_cat, e_fl2, Value.category, es_50, e_qq, h_3, hn, e_row_app, b1]
    exact hq
  | succ d ih =>
    intro i hi hq
    have b1 : ¬ nI n ≤ nI i := nI_ge (by omega) (by omega)
    have b2 : (nI i).toNatClampNeg = i := nI_clamp (by omega)
    have b3 : vp_in (nI i) 30 := e_in (by omega) (by omega)
    refine e_wp_ok (inl := fun z => false) (sp := fun y p => Nat.beq y 146 && (Nat.beq p 21)) 60 _ _ _ _ _ _ _ _ _ ?_
    simp [e_kk_a, e_kc_a, e_wp_s f_146_0, e_wp_s f_146_1, e_wp_s f_146_2, kd_132, mc_132, ms_132, e_wp_s f_146_5, e_wp_s f_146_8, e_wp_s f_146_9, e_wp_s f_146_10, e_wp_s f_146_13, e_wp_s f_146_14, e_wp_s f_146_15, e_wp_s f_146_16, e_wp_s f_146_17, e_wp_s f_146_18, e_wp_s f_146_19, e_wp_s f_146_20, e_wp_s f_146_21, e_wp_s f_146_22, e_wp_s f_146_23, e_wp_s f_146_26, e_wp_s f_146_29, e_wp_s f_146_30, e_wp_s f_146_33, e_wp_s f_146_34, e_wp_s f_146_35, e_wp_s f_146_36, e_wp_s f_146_37, e_wp_s f_146_38, e_wp_s f_146_39, e_wp_s f_146_40, kd_144, mc_144, ms_144, e_wp_s f_146_43, e_wp_s f_146_44, e_wp_s f_146_45, e_wp_s f_146_46, e_wp_s f_146_49, e_wp_s f_146_52, mc_146, ms_146, ml_146, es_0, es_1, es_2, es_4, e_nl, es_7, es_8, es_10, es_25, es_27, es_28, e_ife, es_29, es_30, e_fv, es_32, es_33, es_44, e_rcv, e_cat, e_fl2, Value.category, es_50, e_qq, h_3, h_6, hn, e_row_app, b1, b2, b3]
    refine e_C_use (zw_armOf (n := n) (by simp [e_row_app, hn]) hn30 hc (by omega) ?_)
    simp [e_kk_a, e_kc_a, e_wp_s f_146_0, e_wp_s f_146_1, e_wp_s f_146_2, kd_132, mc_132, ms_132, e_wp_s f_146_5, e_wp_s f_146_8, e_wp_s f_146_9, e_wp_s f_146_10, e_wp_s f_146_13, e_wp_s f_146_14, e_wp_s f_146_15, e_wp_s f_146_16, e_wp_s f_146_17, e_wp_s f_146_18, e_wp_s f_146_19, e_wp_s f_146_20, e_wp_s f_146_21, e_wp_s f_146_22, e_wp_s f_146_23, e_wp_s f_146_26, e_wp_s f_146_29, e_wp_s f_146_30, e_wp_s f_146_33, e_wp_s f_146_34, e_wp_s f_146_35, e_wp_s f_146_36, e_wp_s f_146_37, e_wp_s f_146_38, e_wp_s f_146_39, e_wp_s f_146_40, kd_144, mc_144, ms_144, e_wp_s f_146_43, e_wp_s f_146_44, e_wp_s f_146_45, e_wp_s f_146_46, e_wp_s f_146_49, e_wp_s f_146_52, mc_146, ms_146, ml_146, es_0, es_1, es_2, es_4, e_nl, es_7, es_8, es_10, es_25, es_27, es_28, e_ife, es_29, es_30, e_fv, es_32, es_33, es_44, e_rcv, e_cat, e_fl2, Value.category, es_50, e_qq, h_3, h_6, hn, e_row_app, b1, b2, b3, nI_1, e_up_row]
    have := ih (i + 1) (by omega) hq
    rw [← zw_lf_s] at this
    simpa [zw_lf] using this
end
