/-! rows -/
theorem e_ofNat (n : Nat) : Int32.ofNat n = nI n := rfl
theorem e_up_app (M : e_Me) (i j : Nat) (x : Int32) (a b : Nat) : e_up M i j x a b = if a = i then (if b = j then x else M a b) else M a b := rfl
theorem e_row_app (M : e_Me) (i : Nat) (f : Nat → Int32) (a b : Nat) : e_row M i f a b = if a = i then f b else M a b := by
  unfold e_row
  split <;> rfl
theorem e_up_row (M : e_Me) (i j : Nat) (x : Int32) (f : Nat → Int32) : e_up (e_row M i f) i j x = e_row M i (upd f j x) := by
  funext a b
  by_cases h : a = i <;> simp [e_up, e_row, upd, h]
theorem e_up_M (M : e_Me) (i j : Nat) (x : Int32) : e_up M i j x = e_row M i (upd (M i) j x) := by
  funext a b
  by_cases h : a = i <;> simp [e_up, e_row, upd, h]
theorem e_row_row (M : e_Me) (i : Nat) (f g : Nat → Int32) : e_row (e_row M i f) i g = e_row M i g := by
  funext a
  by_cases h : a = i <;> simp [e_row, h]
theorem e_row_self (M : e_Me) (i : Nat) : e_row M i (M i) = M := by
  funext a
  by_cases h : a = i <;> simp [e_row, h]
theorem e_in {k N : Nat} (h : k < N) (hN : N < 2 ^ 31) : vp_in (nI k) N := vp_in_nI h hN
def e_isRow (r cap : Nat) : Prop := e_SH[r]? = some (.inr (7, [some (.ref (r + 1)), none])) ∧ e_SH[r + 1]? = some (.inl (0, cap, none)) ∧ cap < 1000
def e_ra (M : e_Me) (r : Nat) (x : Int32) : Int32 := if x < 0 then -1 else if M r 1 ≤ x then -1 else M (r + 1) x.toNatClampNeg
theorem e_vpin {x : Int32} {m cap : Nat} (h0 : ¬ x < 0) (h : ¬ nI m ≤ x) (hm : m ≤ cap) (hc : cap < 2 ^ 31) : vp_in x cap := by
  obtain ⟨j, hj, rfl⟩ := nI_of h0
  rw [nI_leI (by omega) hj] at h
  exact e_in (by omega) hc
section
variable {G : e_G} {r cap m : Nat} {M : e_Me} {Q : Option Value → e_Me → Prop}
set_option maxRecDepth 100000 in
set_option maxHeartbeats 200000 in
theorem zr_at {x : Int32} (hr : e_isRow r cap) (hm : M r 1 = nI m) (hc : m ≤ cap) (hq : Q (some (.int (e_ra M r x))) M) : e_C G 113 [.ref r, .int x] M Q := by
  obtain ⟨h1, h2, h3⟩ := hr
  refine e_call 30 (fun z => false) (fun y p => y == 113 && (false)) (by decide) 2 ml_113 (Nat.le_of_ble_eq_true rfl) ?_
  show e_wp G _ _ 30 113 0 [some (.ref r), some (.int x)] [] e_SH M 0 0 (e_qq 113 _)
  simp [e_kk_a, e_kc_a, e_wp_s f_113_0, e_wp_s f_113_1, e_wp_s f_113_4, e_wp_s f_113_5, e_wp_s f_113_6, e_wp_s f_113_9, e_wp_s f_113_12, e_wp_s f_113_13, e_wp_s f_113_16, e_wp_s f_113_17, e_wp_s f_113_18, e_wp_s f_113_21, e_wp_s f_113_22, mc_113, ms_113, ml_113, es_0, es_1, es_2, es_27, es_28, e_ife, es_29, es_30, e_fv, es_32, es_51, e_qq, h1, h2]
  unfold e_ra at hq
  split
  · rename_i g
    rw [if_pos g] at hq
    exact hq
  · rename_i g
    rw [if_neg g] at hq
    split
    · rename_i g2
      rw [if_pos g2] at hq
      exact hq
    · rename_i g2
      rw [if_neg g2] at hq
      exact ⟨e_vpin g (by rw [← hm]; exact g2) hc (by omega), hq⟩
set_option maxRecDepth 100000 in
set_option maxHeartbeats 200000 in
theorem zr_append {x : Int32} (hr : e_isRow r cap) (hm : M r 1 = nI m) (hc : m < cap) (hq : Q none (e_up (e_up M (r + 1) m x) r 1 (nI (m + 1)))) : e_C G 115 [.ref r, .int x] M Q := by
  obtain ⟨h1, h2, h3⟩ := hr
  have b1 : ¬ nI cap ≤ nI m := nI_ge hc (by omega)
  have b2 : (nI m).toNatClampNeg = m := nI_clamp (by omega)
  have b3 : vp_in (nI m) cap := e_in hc (by omega)
  refine e_call 60 (fun z => z == 112) (fun y p => y == 115 && (false)) (by decide) 2 ml_115 (Nat.le_of_ble_eq_true rfl) ?_
  show e_wp G _ _ 60 115 0 [some (.ref r), some (.int x)] [] e_SH M 0 0 (e_qq 115 _)
  simp [e_kk_a, e_kc_a, e_wp_s f_115_0, e_wp_s f_115_1, kd_112, mc_112, ms_112, ml_112, e_wp_s f_115_4, e_wp_s f_115_7, e_wp_s f_115_8, e_wp_s f_115_11, e_wp_s f_115_12, e_wp_s f_115_15, e_wp_s f_115_16, e_wp_s f_115_17, e_wp_s f_115_18, e_wp_s f_115_19, e_wp_s f_115_22, e_wp_s f_115_23, e_wp_s f_115_24, e_wp_s f_115_27, mc_115, ms_115, ml_115, e_wp_s f_112_0, e_wp_s f_112_1, e_wp_s f_112_4, e_wp_s f_112_5, e_wp_s f_112_8, e_wp_s f_112_9, e_wp_s f_112_12, e_wp_s f_112_13, e_wp_s f_112_16, e_wp_s f_112_17, es_0, es_1, es_2, es_8, es_24i, es_24r, es_27, es_28, e_ife, es_29, es_30, e_fv, es_31, es_33, es_38, es_44, e_rcv, e_cat, e_fl2, Value.category, es_50, es_52, e_qq, h1, h2, hm, e_ofNat, b1, b2, b3, e_up_app, nI_1]
  exact hq
def e_fnd (f : Nat → Int32) (x : Int32) : Nat → Nat → Int32
  | 0, _ => -1
  | d + 1, i => if f i = x then nI i else e_fnd f x d (i + 1)
set_option maxRecDepth 100000 in
set_option maxHeartbeats 200000 in
theorem zr_placeOf_l {x : Int32} (hr : e_isRow r cap) (hm : M r 1 = nI m) (hc : m ≤ cap) : ∀ (d i : Nat), i + d = m → Q (some (.int (e_fnd (M (r + 1)) x d i))) M → e_EX G 114 2 [some (.ref r), some (.int x), some (.int (nI i))] [] e_SH M 0 0 (e_qq 114 Q) := by
  obtain ⟨h1, h2, h3⟩ := hr
  intro d
  induction d with
  | zero =>
    intro i hi hq
    have b1 : nI m ≤ nI i := nI_le (by omega) (by omega)
    refine e_wp_ok (inl := fun z => false) (sp := fun y p => y == 114 && (p == 2)) 40 _ _ _ _ _ _ _ _ _ ?_
    simp [e_kk_a, e_kc_a, e_wp_s f_114_0, e_wp_s f_114_1, e_wp_s f_114_2, e_wp_s f_114_3, e_wp_s f_114_4, e_wp_s f_114_7, e_wp_s f_114_10, e_wp_s f_114_11, e_wp_s f_114_14, e_wp_s f_114_15, e_wp_s f_114_16, e_wp_s f_114_17, e_wp_s f_114_20, e_wp_s f_114_21, e_wp_s f_114_22, e_wp_s f_114_25, e_wp_s f_114_28, e_wp_s f_114_29, mc_114, ms_114, ml_114, es_0, es_1, es_2, es_4, e_nl, es_7, es_27, es_29, e_ife, es_30, e_fv, es_32, es_51, e_qq, h1, h2, hm, b1]
    exact hq
  | succ d ih =>
    intro i hi hq
    have b1 : ¬ nI m ≤ nI i := nI_ge (by omega) (by omega)
    have b2 : (nI i).toNatClampNeg = i := nI_clamp (by omega)
    have b3 : vp_in (nI i) cap := e_in (by omega) (by omega)
    simp only [e_fnd] at hq
    refine e_wp_ok (inl := fun z => false) (sp := fun y p => y == 114 && (p == 2)) 40 _ _ _ _ _ _ _ _ _ ?_
    simp [e_kk_a, e_kc_a, e_wp_s f_114_0, e_wp_s f_114_1, e_wp_s f_114_2, e_wp_s f_114_3, e_wp_s f_114_4, e_wp_s f_114_7, e_wp_s f_114_10, e_wp_s f_114_11, e_wp_s f_114_14, e_wp_s f_114_15, e_wp_s f_114_16, e_wp_s f_114_17, e_wp_s f_114_20, e_wp_s f_114_21, e_wp_s f_114_22, e_wp_s f_114_25, e_wp_s f_114_28, e_wp_s f_114_29, mc_114, ms_114, ml_114, es_0, es_1, es_2, es_4, e_nl, es_7, es_27, es_29, e_ife, es_30, e_fv, es_32, es_51, e_qq, h1, h2, hm, b1, b2, b3, nI_1]
    split at hq
    · rename_i g
      simp [g, hq]
    · rename_i g
      simp [g]
      exact ih (i + 1) (by omega) hq
set_option maxRecDepth 100000 in
set_option maxHeartbeats 200000 in
theorem zr_placeOf {x : Int32} (hr : e_isRow r cap) (hm : M r 1 = nI m) (hc : m ≤ cap) (hq : Q (some (.int (e_fnd (M (r + 1)) x m 0))) M) : e_C G 114 [.ref r, .int x] M Q := by
  refine e_call 40 (fun z => false) (fun y p => y == 114 && (p == 2)) (by decide) 3 ml_114 (Nat.le_of_ble_eq_true rfl) ?_
  show e_wp G _ _ 40 114 0 [some (.ref r), some (.int x), none] [] e_SH M 0 0 (e_qq 114 _)
  simp [e_kk_a, e_kc_a, e_wp_s f_114_0, e_wp_s f_114_1, e_wp_s f_114_2, e_wp_s f_114_3, e_wp_s f_114_4, e_wp_s f_114_7, e_wp_s f_114_10, e_wp_s f_114_11, e_wp_s f_114_14, e_wp_s f_114_15, e_wp_s f_114_16, e_wp_s f_114_17, e_wp_s f_114_20, e_wp_s f_114_21, e_wp_s f_114_22, e_wp_s f_114_25, e_wp_s f_114_28, e_wp_s f_114_29, mc_114, ms_114, ml_114, es_0, es_1, es_2, es_4, e_nl, es_7, es_27, es_29, e_ife, es_30, e_fv, es_32, es_51, e_qq]
  exact zr_placeOf_l hr hm hc m 0 (by omega) hq
set_option maxRecDepth 100000 in
set_option maxHeartbeats 200000 in
theorem zr_set {x y : Int32} {M' : e_Me} (hr : e_isRow r cap) (hm : M r 1 = nI m) (hc : m ≤ cap) (hM : M' = if x < 0 then M else if nI m ≤ x then M else e_up M (r + 1) x.toNatClampNeg y) (hq : Q none M') : e_C G 116 [.ref r, .int x, .int y] M Q := by
  obtain ⟨h1, h2, h3⟩ := hr
  refine e_call 40 (fun z => false) (fun y p => y == 116 && (false)) (by decide) 3 ml_116 (Nat.le_of_ble_eq_true rfl) ?_
  show e_wp G _ _ 40 116 0 [some (.ref r), some (.int x), some (.int y)] [] e_SH M 0 0 (e_qq 116 _)
  simp [e_kk_a, e_kc_a, e_wp_s f_116_0, e_wp_s f_116_1, e_wp_s f_116_4, e_wp_s f_116_5, e_wp_s f_116_6, e_wp_s f_116_9, e_wp_s f_116_12, e_wp_s f_116_13, e_wp_s f_116_16, e_wp_s f_116_17, e_wp_s f_116_18, e_wp_s f_116_19, mc_116, ms_116, ml_116, es_1, es_2, es_28, e_ife, es_29, es_30, e_fv, es_33, es_50, e_qq, h1, h2, hm]
  split
  · rename_i g
    rw [if_pos g] at hM
    exact hM ▸ hq
  · rename_i g
    rw [if_neg g] at hM
    split
    · rename_i g2
      rw [if_pos g2] at hM
      exact hM ▸ hq
    · rename_i g2
      rw [if_neg g2] at hM
      exact ⟨e_vpin g g2 hc (by omega), hM ▸ hq⟩
set_option maxRecDepth 100000 in
set_option maxHeartbeats 200000 in
theorem zr_clear (hr : e_isRow r cap) (hq : Q none (e_up M r 1 0)) : e_C G 119 [.ref r] M Q := by
  obtain ⟨h1, h2, h3⟩ := hr
  refine e_call 40 (fun z => false) (fun y p => y == 119 && (false)) (by decide) 1 ml_119 (Nat.le_of_ble_eq_true rfl) ?_
  show e_wp G _ _ 40 119 0 [some (.ref r)] [] e_SH M 0 0 (e_qq 119 _)
  simp [e_kk_a, e_kc_a, e_wp_s f_119_0, e_wp_s f_119_1, e_wp_s f_119_2, e_wp_s f_119_5, mc_119, ms_119, ml_119, es_0, es_2, es_31, es_50, e_qq, h1, h2]
  exact hq
def e_shl (f : Nat → Int32) : Nat → Nat → (Nat → Int32)
  | 0, _ => f
  | d + 1, j => e_shl (upd f (j - 1) (f j)) d (j + 1)
set_option maxRecDepth 100000 in
set_option maxHeartbeats 200000 in
theorem zr_cut_l {k : Int32} (hr : e_isRow r cap) (hc : m ≤ cap) : ∀ (d j : Nat) (M : e_Me), M r 1 = nI m → 0 < j → j + d = m → Q none (e_up (e_row M (r + 1) (e_shl (M (r + 1)) d j)) r 1 (nI (m - 1))) → e_EX G 118 17 [some (.ref r), some (.int k), some (.int (nI j))] [] e_SH M 0 0 (e_qq 118 Q) := by
  obtain ⟨h1, h2, h3⟩ := hr
  intro d
  induction d with
  | zero =>
    intro j M hm hj hd hq
    have b1 : nI m ≤ nI j := nI_le (by omega) (by omega)
    have b2 : nI m - 1 = nI (m - 1) := by
      obtain ⟨m', rfl⟩ : ∃ m', m = m' + 1 := ⟨m - 1, by omega⟩
      exact nI_pred m'
    rw [e_shl, e_row_self] at hq
    refine e_wp_ok (inl := fun z => false) (sp := fun y p => y == 118 && (p == 17)) 60 _ _ _ _ _ _ _ _ _ ?_
    simp [e_kk_a, e_kc_a, e_wp_s f_118_0, e_wp_s f_118_1, e_wp_s f_118_4, e_wp_s f_118_5, e_wp_s f_118_6, e_wp_s f_118_9, e_wp_s f_118_12, e_wp_s f_118_13, e_wp_s f_118_14, e_wp_s f_118_15, e_wp_s f_118_16, e_wp_s f_118_17, e_wp_s f_118_18, e_wp_s f_118_19, e_wp_s f_118_22, e_wp_s f_118_25, e_wp_s f_118_26, e_wp_s f_118_29, e_wp_s f_118_30, e_wp_s f_118_31, e_wp_s f_118_32, e_wp_s f_118_33, e_wp_s f_118_36, e_wp_s f_118_37, e_wp_s f_118_38, e_wp_s f_118_39, e_wp_s f_118_42, e_wp_s f_118_45, e_wp_s f_118_46, e_wp_s f_118_47, e_wp_s f_118_50, e_wp_s f_118_51, e_wp_s f_118_52, e_wp_s f_118_55, mc_118, ms_118, ml_118, es_0, es_1, es_2, es_4, e_nl, es_7, es_8, es_9, es_24i, es_24r, es_27, es_28, e_ife, es_29, es_30, e_fv, es_31, es_32, es_33, es_50, e_qq, h1, h2, hm, b1, b2]
    exact hq
  | succ d ih =>
    intro j M hm hj hd hq
    have b1 : ¬ nI m ≤ nI j := nI_ge (by omega) (by omega)
    have b2 : (nI j).toNatClampNeg = j := nI_clamp (by omega)
    have b3 : vp_in (nI j) cap := e_in (by omega) (by omega)
    have b4 : nI j - 1 = nI (j - 1) := by
      obtain ⟨j', rfl⟩ : ∃ j', j = j' + 1 := ⟨j - 1, by omega⟩
      exact nI_pred j'
    have b5 : (nI (j - 1)).toNatClampNeg = j - 1 := nI_clamp (by omega)
    have b6 : vp_in (nI (j - 1)) cap := e_in (by omega) (by omega)
    refine e_wp_ok (inl := fun z => false) (sp := fun y p => y == 118 && (p == 17)) 60 _ _ _ _ _ _ _ _ _ ?_
    simp [e_kk_a, e_kc_a, e_wp_s f_118_0, e_wp_s f_118_1, e_wp_s f_118_4, e_wp_s f_118_5, e_wp_s f_118_6, e_wp_s f_118_9, e_wp_s f_118_12, e_wp_s f_118_13, e_wp_s f_118_14, e_wp_s f_118_15, e_wp_s f_118_16, e_wp_s f_118_17, e_wp_s f_118_18, e_wp_s f_118_19, e_wp_s f_118_22, e_wp_s f_118_25, e_wp_s f_118_26, e_wp_s f_118_29, e_wp_s f_118_30, e_wp_s f_118_31, e_wp_s f_118_32, e_wp_s f_118_33, e_wp_s f_118_36, e_wp_s f_118_37, e_wp_s f_118_38, e_wp_s f_118_39, e_wp_s f_118_42, e_wp_s f_118_45, e_wp_s f_118_46, e_wp_s f_118_47, e_wp_s f_118_50, e_wp_s f_118_51, e_wp_s f_118_52, e_wp_s f_118_55, mc_118, ms_118, ml_118, es_0, es_1, es_2, es_4, e_nl, es_7, es_8, es_9, es_24i, es_24r, es_27, es_28, e_ife, es_29, es_30, e_fv, es_31, es_32, es_33, es_50, e_qq, h1, h2, hm, b1, b2, b3, b4, b5, b6, nI_1]
    refine ih (j + 1) _ (by simp [e_up_app, hm]) (by omega) (by omega) ?_
    rw [e_up_M M (r + 1) (j - 1), e_row_at, e_row_row]
    exact hq
set_option maxRecDepth 100000 in
set_option maxHeartbeats 200000 in
theorem zr_cut {k : Nat} (hr : e_isRow r cap) (hm : M r 1 = nI m) (hc : m ≤ cap) (hk : k < m) (hq : Q none (e_up (e_row M (r + 1) (e_shl (M (r + 1)) (m - k - 1) (k + 1))) r 1 (nI (m - 1)))) : e_C G 118 [.ref r, .int (nI k)] M Q := by
  have hr' := hr
  obtain ⟨h1, h2, h3⟩ := hr
  have b1 : ¬ nI k < 0 := nI_pos (by omega)
  have b2 : nI k < nI m := nI_lt (by omega) (by omega)
  refine e_call 60 (fun z => false) (fun y p => y == 118 && (p == 17)) (by decide) 3 ml_118 (Nat.le_of_ble_eq_true rfl) ?_
  show e_wp G _ _ 60 118 0 [some (.ref r), some (.int (nI k)), none] [] e_SH M 0 0 (e_qq 118 _)
  simp [e_kk_a, e_kc_a, e_wp_s f_118_0, e_wp_s f_118_1, e_wp_s f_118_4, e_wp_s f_118_5, e_wp_s f_118_6, e_wp_s f_118_9, e_wp_s f_118_12, e_wp_s f_118_13, e_wp_s f_118_14, e_wp_s f_118_15, e_wp_s f_118_16, e_wp_s f_118_17, e_wp_s f_118_18, e_wp_s f_118_19, e_wp_s f_118_22, e_wp_s f_118_25, e_wp_s f_118_26, e_wp_s f_118_29, e_wp_s f_118_30, e_wp_s f_118_31, e_wp_s f_118_32, e_wp_s f_118_33, e_wp_s f_118_36, e_wp_s f_118_37, e_wp_s f_118_38, e_wp_s f_118_39, e_wp_s f_118_42, e_wp_s f_118_45, e_wp_s f_118_46, e_wp_s f_118_47, e_wp_s f_118_50, e_wp_s f_118_51, e_wp_s f_118_52, e_wp_s f_118_55, mc_118, ms_118, ml_118, es_0, es_1, es_2, es_4, e_nl, es_7, es_8, es_9, es_24i, es_24r, es_27, es_28, e_ife, es_29, es_30, e_fv, es_31, es_32, es_33, es_50, e_qq, h1, h2, hm, b1, b2, nI_1]
  exact zr_cut_l hr' hc (m - k - 1) (k + 1) M hm (by omega) (by omega) hq
def e_cpr (M : e_Me) (r q : Nat) : Nat → Nat → e_Me
  | 0, _ => M
  | d + 1, i => e_cpr (e_up (e_up M (r + 1) i (M (q + 1) i)) r 1 (nI (i + 1))) r q d (i + 1)
set_option maxRecDepth 100000 in
set_option maxHeartbeats 200000 in
theorem zr_copy_l {q cap2 m2 : Nat} (hr : e_isRow r cap) (hq2 : e_isRow q cap2) (hne : r ≠ q ∧ r ≠ q + 1 ∧ q ≠ r + 1) (hc : m2 ≤ cap) (hc2 : m2 ≤ cap2) : ∀ (d i : Nat) (M : e_Me), M r 1 = nI i → M q 1 = nI m2 → i + d = m2 → Q none (e_cpr M r q d i) → e_EX G 120 6 [some (.ref r), some (.ref q), some (.int (nI i))] [] e_SH M 0 0 (e_qq 120 Q) := by
  obtain ⟨h1, h2, h3⟩ := hr
  obtain ⟨g1, g2, g3⟩ := hq2
  obtain ⟨n1, n2, n3⟩ := hne
  have n4 : ¬ q = r := fun h => n1 h.symm
  intro d
  induction d with
  | zero =>
    intro i M hm hm2 hd hq
    have b1 : nI m2 ≤ nI i := nI_le (by omega) (by omega)
    refine e_wp_ok (inl := fun z => z == 111) (sp := fun y p => y == 120 && (p == 6)) 60 _ _ _ _ _ _ _ _ _ ?_
    simp [e_kk_a, e_kc_a, e_wp_s f_120_0, e_wp_s f_120_1, kd_119, mc_119, ms_119, e_wp_s f_120_4, e_wp_s f_120_5, e_wp_s f_120_6, e_wp_s f_120_7, e_wp_s f_120_8, kd_111, mc_111, ms_111, ml_111, e_wp_s f_120_11, e_wp_s f_120_14, e_wp_s f_120_15, e_wp_s f_120_16, e_wp_s f_120_17, kd_113, mc_113, ms_113, e_wp_s f_120_20, kd_115, mc_115, ms_115, e_wp_s f_120_23, e_wp_s f_120_26, e_wp_s f_120_29, mc_120, ms_120, ml_120, e_wp_s f_111_0, e_wp_s f_111_1, e_wp_s f_111_4, es_0, es_1, es_2, es_4, e_nl, es_7, es_27, es_29, e_ife, es_30, e_fv, es_44, e_rcv, e_cat, e_fl2, Value.category, es_50, es_51, e_qq, h1, h2, g1, g2, hm, hm2, b1]
    exact hq
  | succ d ih =>
    intro i M hm hm2 hd hq
    have b1 : ¬ nI m2 ≤ nI i := nI_ge (by omega) (by omega)
    have b2 : (nI i).toNatClampNeg = i := nI_clamp (by omega)
    have b3 : ¬ nI i < 0 := nI_pos (by omega)
    have b4 : vp_in (nI i) cap := e_in (by omega) (by omega)
    have b5 : vp_in (nI i) cap2 := e_in (by omega) (by omega)
    have b6 : ¬ nI cap ≤ nI i := nI_ge (by omega) (by omega)
    refine e_wp_ok (inl := fun z => z == 111 || z == 113 || z == 115 || z == 112) (sp := fun y p => y == 120 && (p == 6)) 80 _ _ _ _ _ _ _ _ _ ?_
    simp [e_kk_a, e_kc_a, e_wp_s f_120_0, e_wp_s f_120_1, kd_119, mc_119, ms_119, e_wp_s f_120_4, e_wp_s f_120_5, e_wp_s f_120_6, e_wp_s f_120_7, e_wp_s f_120_8, kd_111, mc_111, ms_111, ml_111, e_wp_s f_120_11, e_wp_s f_120_14, e_wp_s f_120_15, e_wp_s f_120_16, e_wp_s f_120_17, kd_113, mc_113, ms_113, ml_113, e_wp_s f_120_20, kd_115, mc_115, ms_115, ml_115, e_wp_s f_120_23, e_wp_s f_120_26, e_wp_s f_120_29, mc_120, ms_120, ml_120, e_wp_s f_111_0, e_wp_s f_111_1, e_wp_s f_111_4, e_wp_s f_113_0, e_wp_s f_113_1, e_wp_s f_113_4, e_wp_s f_113_5, e_wp_s f_113_6, e_wp_s f_113_9, e_wp_s f_113_12, e_wp_s f_113_13, e_wp_s f_113_16, e_wp_s f_113_17, e_wp_s f_113_18, e_wp_s f_113_21, e_wp_s f_113_22, e_wp_s f_115_0, e_wp_s f_115_1, kd_112, mc_112, ms_112, ml_112, e_wp_s f_115_4, e_wp_s f_115_7, e_wp_s f_115_8, e_wp_s f_115_11, e_wp_s f_115_12, e_wp_s f_115_15, e_wp_s f_115_16, e_wp_s f_115_17, e_wp_s f_115_18, e_wp_s f_115_19, e_wp_s f_115_22, e_wp_s f_115_23, e_wp_s f_115_24, e_wp_s f_115_27, e_wp_s f_112_0, e_wp_s f_112_1, e_wp_s f_112_4, e_wp_s f_112_5, e_wp_s f_112_8, e_wp_s f_112_9, e_wp_s f_112_12, e_wp_s f_112_13, e_wp_s f_112_16, e_wp_s f_112_17, es_0, es_1, es_2, es_4, e_nl, es_7, es_8, es_24i, es_24r, es_27, es_28, e_ife, es_29, es_30, e_fv, es_31, es_32, es_33, es_38, es_44, e_rcv, e_cat, e_fl2, Value.category, es_50, es_51, es_52, e_qq, h1, h2, g1, g2, hm, hm2, b1, b2, b3, b4, b5, b6, nI_1, e_ofNat, e_up_app]
    exact ih (i + 1) _ (by simp [e_up_app]) (by simp [e_up_app, hm2, n1, n2, n3, n4]) (by omega) hq
set_option maxRecDepth 100000 in
set_option maxHeartbeats 200000 in
theorem zr_copyFrom {q cap2 m2 : Nat} (hr : e_isRow r cap) (hq2 : e_isRow q cap2) (hne : r ≠ q ∧ r ≠ q + 1 ∧ q ≠ r + 1) (hc : m2 ≤ cap) (hc2 : m2 ≤ cap2) (hm2 : M q 1 = nI m2) (hq : Q none (e_cpr (e_up M r 1 0) r q m2 0)) : e_C G 120 [.ref r, .ref q] M Q := by
  obtain ⟨h1, h2, h3⟩ := id hr
  have n4 : ¬ q = r := fun h => hne.1 h.symm
  refine e_call 40 (fun z => z == 119) (fun y p => y == 120 && (p == 6)) (by decide) 3 ml_120 (Nat.le_of_ble_eq_true rfl) ?_
  show e_wp G _ _ 40 120 0 [some (.ref r), some (.ref q), none] [] e_SH M 0 0 (e_qq 120 _)
  simp [e_kk_a, e_kc_a, e_wp_s f_120_0, e_wp_s f_120_1, kd_119, mc_119, ms_119, ml_119, e_wp_s f_120_4, e_wp_s f_120_5, e_wp_s f_120_6, e_wp_s f_120_7, e_wp_s f_120_8, kd_111, mc_111, ms_111, e_wp_s f_120_11, e_wp_s f_120_14, e_wp_s f_120_15, e_wp_s f_120_16, e_wp_s f_120_17, kd_113, mc_113, ms_113, e_wp_s f_120_20, kd_115, mc_115, ms_115, e_wp_s f_120_23, e_wp_s f_120_26, e_wp_s f_120_29, mc_120, ms_120, ml_120, e_wp_s f_119_0, e_wp_s f_119_1, e_wp_s f_119_2, e_wp_s f_119_5, es_0, es_1, es_2, es_4, e_nl, es_7, es_27, es_29, e_ife, es_31, es_44, e_rcv, e_cat, e_fl2, Value.category, es_50, e_qq, h1, h2]
  refine zr_copy_l hr hq2 hne hc hc2 m2 0 _ (by simp [e_up_app, nI_0]) (by simp [e_up_app, hm2, n4]) (by omega) hq
/-- 31 times h, and a number more -/
def e_mx (h : Int64) (x : Int32) : Int64 := 31 * h + x.toInt64
def e_mxl (f : Nat → Int32) : Nat → Nat → Int64 → Int64
  | 0, _, h => h
  | d + 1, i, h => e_mxl f d (i + 1) (e_mx h (f i))
set_option maxRecDepth 100000 in
set_option maxHeartbeats 200000 in
theorem zr_mix_l (hr : e_isRow r cap) (hm : M r 1 = nI m) (hc : m ≤ cap) : ∀ (d i : Nat) (h : Int64), i + d = m → Q (some (.long (e_mxl (M (r + 1)) d i h))) M → e_EX G 121 2 [some (.ref r), some (.long h), none, some (.int (nI i))] [] e_SH M 0 0 (e_qq 121 Q) := by
  obtain ⟨h1, h2, h3⟩ := hr
  intro d
  induction d with
  | zero =>
    intro i h hi hq
    have b1 : nI m ≤ nI i := nI_le (by omega) (by omega)
    refine e_wp_ok (inl := fun z => false) (sp := fun y p => y == 121 && (p == 2)) 40 _ _ _ _ _ _ _ _ _ ?_
    simp [e_kk_a, e_kc_a, e_wp_s f_121_0, e_wp_s f_121_1, e_wp_s f_121_2, e_wp_s f_121_3, e_wp_s f_121_4, e_wp_s f_121_7, e_wp_s f_121_10, e_wp_s f_121_11, e_wp_s f_121_12, e_wp_s f_121_15, e_wp_s f_121_16, e_wp_s f_121_17, e_wp_s f_121_18, kd_191, mc_191, ms_191, e_wp_s f_121_21, e_wp_s f_121_22, e_wp_s f_121_25, e_wp_s f_121_28, e_wp_s f_121_29, mc_121, ms_121, ml_121, es_0, es_1, es_2, es_3, es_4, e_nl, es_6, es_7, es_19, es_27, es_29, e_ife, es_30, e_fv, es_32, es_44, e_rcv, e_cat, e_fl2, Value.category, es_53, e_qq, h1, h2, hm, b1]
    exact hq
  | succ d ih =>
    intro i h hi hq
    have b1 : ¬ nI m ≤ nI i := nI_ge (by omega) (by omega)
    have b2 : (nI i).toNatClampNeg = i := nI_clamp (by omega)
    have b3 : vp_in (nI i) cap := e_in (by omega) (by omega)
    refine e_wp_ok (inl := fun z => z == 191) (sp := fun y p => y == 121 && (p == 2)) 40 _ _ _ _ _ _ _ _ _ ?_
    simp [e_kk_a, e_kc_a, e_wp_s f_121_0, e_wp_s f_121_1, e_wp_s f_121_2, e_wp_s f_121_3, e_wp_s f_121_4, e_wp_s f_121_7, e_wp_s f_121_10, e_wp_s f_121_11, e_wp_s f_121_12, e_wp_s f_121_15, e_wp_s f_121_16, e_wp_s f_121_17, e_wp_s f_121_18, kd_191, mc_191, ms_191, ml_191, e_wp_s f_121_21, e_wp_s f_121_22, e_wp_s f_121_25, e_wp_s f_121_28, e_wp_s f_121_29, mc_121, ms_121, ml_121, e_wp_s f_191_0, e_wp_s f_191_3, e_wp_s f_191_4, e_wp_s f_191_5, e_wp_s f_191_6, e_wp_s f_191_7, es_0, es_1, es_2, es_3, es_4, e_nl, es_6, es_7, es_19, es_20, es_21, es_23, es_27, es_29, e_ife, es_30, e_fv, es_32, es_44, e_rcv, e_cat, e_fl2, Value.category, es_53, e_qq, h1, h2, hm, b1, b2, b3, nI_1]
    exact ih (i + 1) _ (by omega) hq
set_option maxRecDepth 100000 in
set_option maxHeartbeats 200000 in
theorem zr_mixInto {h : Int64} (hr : e_isRow r cap) (hm : M r 1 = nI m) (hc : m ≤ cap) (hq : Q (some (.long (e_mxl (M (r + 1)) m 0 h))) M) : e_C G 121 [.ref r, .long h] M Q := by
  refine e_call 40 (fun z => false) (fun y p => y == 121 && (p == 2)) (by decide) 4 ml_121 (Nat.le_of_ble_eq_true rfl) ?_
  show e_wp G _ _ 40 121 0 [some (.ref r), some (.long h), none, none] [] e_SH M 0 0 (e_qq 121 _)
  simp [e_kk_a, e_kc_a, e_wp_s f_121_0, e_wp_s f_121_1, e_wp_s f_121_2, e_wp_s f_121_3, e_wp_s f_121_4, e_wp_s f_121_7, e_wp_s f_121_10, e_wp_s f_121_11, e_wp_s f_121_12, e_wp_s f_121_15, e_wp_s f_121_16, e_wp_s f_121_17, e_wp_s f_121_18, kd_191, mc_191, ms_191, e_wp_s f_121_21, e_wp_s f_121_22, e_wp_s f_121_25, e_wp_s f_121_28, e_wp_s f_121_29, mc_121, ms_121, ml_121, es_0, es_1, es_2, es_3, es_4, e_nl, es_6, es_7, es_19, es_27, es_29, e_ife, es_30, e_fv, es_32, es_44, e_rcv, e_cat, e_fl2, Value.category, es_53, e_qq]
  exact zr_mix_l hr hm hc m 0 h (by omega) hq
end
