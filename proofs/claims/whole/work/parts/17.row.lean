/-! rows -/
def e_isRow (r cap : Nat) : Prop := e_SH[r]? = some (.inr (7, [some (.ref (r + 1)), none])) ∧ e_SH[r + 1]? = some (.inl (0, cap, none)) ∧ cap < 1000
def e_ra (M : e_Me) (r : Nat) (x : Int32) : Int32 := if x < 0 then -1 else if M r 1 ≤ x then -1 else M (r + 1) x.toNatClampNeg
theorem t_at {G : e_G} {r cap m : Nat} {x : Int32} {M : e_Me} {Q : Option Value → e_Me → Prop} (hr : e_isRow r cap) (hm : M r 1 = nI m) (hc : m ≤ cap) (hq : Q (some (.int (e_ra M r x))) M) : e_C G 113 [.ref r, .int x] M Q := by
  obtain ⟨h1, h2, h3⟩ := hr
  refine e_call 30 (fun _ => false) (fun _ _ => false) (by decide) 2 ml_113 (Nat.le_of_ble_eq_true rfl) ?_
  show e_wp G _ _ 30 113 0 [some (.ref r), some (.int x)] [] e_SH M 0 0 (e_qq 113 Q)
  simp [e_wp, f_113_0, f_113_1, f_113_4, f_113_5, f_113_6, f_113_9, f_113_12, f_113_13, f_113_16, f_113_17, f_113_18, f_113_21, f_113_22, es_0, es_1, es_2, es_27, es_28, es_29, es_30, es_32, es_51, e_ife, h1, h2, e_fv, e_qq, mc_113, ms_113]
  exact hq
