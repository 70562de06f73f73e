/-! Arrays.fill -/
section
variable {G : e_G} {M : e_Me} {Q : Option Value → e_Me → Prop}
theorem zj_fu {M0 : e_Me} {a i : Nat} {x : Int32} : upd (fun j => if j < i then x else M0 a j) i x = fun j => if j < i + 1 then x else M0 a j := by
  funext j
  simp only [upd]
  by_cases h : j = i
  · subst h
    simp
  · rw [if_neg h]
    by_cases h2 : j < i
    · rw [if_pos h2, if_pos (by omega)]
    · rw [if_neg h2, if_neg (by omega)]
theorem zj_fill_s {a N i : Nat} {x : Int32} {f : Nat → Int32} (ha : e_SH[a]? = some (.inl (0, N, none))) (hN : N < 1000) (hi : i < N) (h : e_EX G 267 5 [some (.ref a), some (.int x), some (.int (nI (i + 1))), some (.int (nI N))] [] e_SH (e_row M a (upd f i x)) 0 0 (e_qq 267 Q)) : e_EX G 267 5 [some (.ref a), some (.int x), some (.int (nI i)), some (.int (nI N))] [] e_SH (e_row M a f) 0 0 (e_qq 267 Q) := by
  sorry
set_option maxRecDepth 100000 in
set_option maxHeartbeats 200000 in
theorem zj_fill_e {a N : Nat} {x : Int32} {M : e_Me} (hq : Q none M) : e_EX G 267 5 [some (.ref a), some (.int x), some (.int (nI N)), some (.int (nI N))] [] e_SH M 0 0 (e_qq 267 Q) := by
  refine e_wp_ok (inl := fun z => false) (sp := fun y p => y == 267 && (p == 5)) 20 _ _ _ _ _ _ _ _ _ ?_
  simp [e_kk_a, e_kc_a, e_wp_s f_267_0, e_wp_s f_267_1, e_wp_s f_267_2, e_wp_s f_267_3, e_wp_s f_267_4, e_wp_s f_267_5, e_wp_s f_267_6, e_wp_s f_267_7, e_wp_s f_267_10, e_wp_s f_267_11, e_wp_s f_267_12, e_wp_s f_267_13, e_wp_s f_267_14, e_wp_s f_267_17, e_wp_s f_267_20, mc_267, ms_267, ml_267, es_0, es_1, es_2, es_4, e_nl, es_7, es_27, es_29, e_ife, es_33, es_38, es_50, e_qq]
  exact hq
theorem zj_fill_l {a N : Nat} {x : Int32} (ha : e_SH[a]? = some (.inl (0, N, none))) (hN : N < 1000) {M0 : e_Me} (hq : Q none (e_row M0 a (fun j => if j < N then x else M0 a j))) : ∀ (d i : Nat), i + d = N → e_EX G 267 5 [some (.ref a), some (.int x), some (.int (nI i)), some (.int (nI N))] [] e_SH (e_row M0 a (fun j => if j < i then x else M0 a j)) 0 0 (e_qq 267 Q) := by
  intro d
  induction d with
  | zero =>
    intro i hi
    have e : i = N := by omega
    rw [e]
    exact zj_fill_e hq
  | succ d ih =>
    intro i hi
    refine zj_fill_s ha hN (by omega) ?_
    rw [zj_fu]
    exact ih (i + 1) (by omega)
set_option maxRecDepth 100000 in
set_option maxHeartbeats 200000 in
theorem zj_fill {a N : Nat} {x : Int32} (ha : e_SH[a]? = some (.inl (0, N, none))) (hN : N < 1000) (hq : Q none (e_row M a (fun j => if j < N then x else M a j))) : e_C G 267 [.ref a, .int x] M Q := by
  have h0 := zj_fill_l (G := G) (x := x) ha hN hq N 0 (by omega)
  rw [show (fun j => if j < 0 then x else M a j) = M a by funext j; simp, e_row_self, nI_0] at h0
  refine e_call 20 (fun z => false) (fun y p => y == 267 && (p == 5)) (by decide) 4 ml_267 (Nat.le_of_ble_eq_true rfl) ?_
  show e_wp G _ _ 20 267 0 [some (.ref a), some (.int x), none, none] [] e_SH M 0 0 (e_qq 267 _)
  simp [e_kk_a, e_kc_a, e_wp_s f_267_0, e_wp_s f_267_1, e_wp_s f_267_2, e_wp_s f_267_3, e_wp_s f_267_4, e_wp_s f_267_5, e_wp_s f_267_6, e_wp_s f_267_7, e_wp_s f_267_10, e_wp_s f_267_11, e_wp_s f_267_12, e_wp_s f_267_13, e_wp_s f_267_14, e_wp_s f_267_17, e_wp_s f_267_20, mc_267, ms_267, ml_267, es_0, es_1, es_2, es_4, e_nl, es_7, es_27, es_29, e_ife, es_33, es_38, es_50, e_qq, ha, e_ofNat]
  exact h0
end
