/-! the law's loop -/
theorem lg_cmp_self (x : Int64) : lg_cmp x x = 0 := by
  unfold lg_cmp
  simp
section
variable {G : e_G}
theorem la_ok (hN : e_sn G ≤ 3072) : ∀ (d a F : Nat) (M : e_Me), e_sn G < a + 6 * d + 6 → d < F → a ≤ 10000 → Inv M → ∃ M', la_law_l18 G F (nI a) M = some (1, M') := by
  intro d
  induction d with
  | zero =>
    intro a F M h1 h2 h3 h
    obtain ⟨F, rfl⟩ : ∃ F', F = F' + 1 := ⟨F - 1, by omega⟩
    have hs : nI (e_sn G) - (6 : Int32) < nI a := by
      rw [nI_iI, nI_iI, show (6 : Int32) = iI 6 from rfl, iI_sub, iI_lt (by omega) (by omega) (by omega) (by omega)]
      omega
    exact ⟨M, by rw [la_law_l18, if_pos hs]⟩
  | succ d ih =>
    intro a F M h1 h2 h3 h
    obtain ⟨F, rfl⟩ : ∃ F', F = F' + 1 := ⟨F - 1, by omega⟩
    by_cases hs : nI (e_sn G) - (6 : Int32) < nI a
    · exact ⟨M, by rw [la_law_l18, if_pos hs]⟩
    · rw [la_law_l18, if_neg hs]
      rw [nI_iI, nI_iI, show (6 : Int32) = iI 6 from rfl, iI_sub, iI_lt (by omega) (by omega) (by omega) (by omega)] at hs
      have hB : e_sn G ≤ 100000 := by omega
      have r0 : ∀ f : Int32 → Option (Int32 × e_Me), x_rd (e_sx G) (e_sn G) (nI a) f = f (e_sx G a) := fun f => x_rd_n (by omega) hB
      have r1 : ∀ f : Int32 → Option (Int32 × e_Me), x_rd (e_sx G) (e_sn G) (nI a + (1 : Int32)) f = f (e_sx G (a + 1)) := fun f => by
        rw [show nI a + (1 : Int32) = nI (a + 1) from nI_add a 1]
        exact x_rd_n (by omega) hB
      have r2 : ∀ f : Int32 → Option (Int32 × e_Me), x_rd (e_sx G) (e_sn G) (nI a + (2 : Int32)) f = f (e_sx G (a + 2)) := fun f => by
        rw [show nI a + (2 : Int32) = nI (a + 2) from nI_add a 2]
        exact x_rd_n (by omega) hB
      have r3 : ∀ f : Int32 → Option (Int32 × e_Me), x_rd (e_sx G) (e_sn G) (nI a + (3 : Int32)) f = f (e_sx G (a + 3)) := fun f => by
        rw [show nI a + (3 : Int32) = nI (a + 3) from nI_add a 3]
        exact x_rd_n (by omega) hB
      have r4 : ∀ f : Int32 → Option (Int32 × e_Me), x_rd (e_sx G) (e_sn G) (nI a + (4 : Int32)) f = f (e_sx G (a + 4)) := fun f => by
        rw [show nI a + (4 : Int32) = nI (a + 4) from nI_add a 4]
        exact x_rd_n (by omega) hB
      have r5 : ∀ f : Int32 → Option (Int32 × e_Me), x_rd (e_sx G) (e_sn G) (nI a + (5 : Int32)) f = f (e_sx G (a + 5)) := fun f => by
        rw [show nI a + (5 : Int32) = nI (a + 5) from nI_add a 5]
        exact x_rd_n (by omega) hB
      have e6 : nI a + (6 : Int32) = nI (a + 6) := nI_add a 6
      have ih2 : ∀ M2 : e_Me, Inv M2 → ∃ M', la_law_l18 G F (nI (a + 6)) M2 = some (1, M') := fun M2 h2 => ih (a + 6) F M2 (by omega) (by omega) (by omega) h2
      rw [r0]
      simp only [e6]
      generalize la_law_l18 G F = K at ih2
      generalize e_sx G a &&& (63 : Int32) = op
      by_cases h0 : op = 0
      · rw [if_pos h0]
        obtain ⟨r, M1, M2, e1, e2, hI⟩ := l_build h (e_sx G (a + 1))
        simp only [r1, e1, e2, x_bi_s, if_true]
        exact ih2 M2 hI
      rw [if_neg h0]
      by_cases h1 : op = 1
      · rw [if_pos h1]
        obtain ⟨r, e1, e2⟩ := l_arm h (e_sx G (a + 1))
        simp only [r1, e1, e2, x_bd_s, if_true]
        exact ih2 M h
      rw [if_neg h1]
      by_cases h2 : op = 2
      · rw [if_pos h2]
        obtain ⟨r, e1, e2⟩ := l_told h (e_sx G (a + 1))
        simp only [r1, e1, e2, x_bd_s, if_true]
        exact ih2 M h
      rw [if_neg h2]
      by_cases h3 : op = 3
      · rw [if_pos h3]
        obtain ⟨r, M1, M2, e1, e2, hI⟩ := l_rule h (e_sx G (a + 1)) (e_sx G (a + 2))
        simp only [r1, r2, e1, e2, x_bi_s, if_true]
        exact ih2 M2 hI
      rw [if_neg h3]
      by_cases h4 : op = 4
      · rw [if_pos h4]
        simp only [r1, la_law_b320, la_law_b337, e6]
        by_cases z : e_sx G (a + 1) = 0
        · obtain ⟨r, M1, M2, e1, e2, hI⟩ := l_drive h 0 (Or.inl rfl)
          simp only [z, if_true, e1, x_bi_s, e2]
          exact ih2 M2 hI
        · obtain ⟨r, M1, M2, e1, e2, hI⟩ := l_drive h 1 (Or.inr rfl)
          simp only [z, if_false, e1, x_bi_s, e2, if_true]
          exact ih2 M2 hI
      rw [if_neg h4]
      by_cases h5 : op = 5
      · rw [if_pos h5]
        obtain ⟨r, e1, e2⟩ := l_lean h (e_sx G (a + 1))
        simp only [r1, e1, e2, x_bd_s, if_true]
        exact ih2 M h
      rw [if_neg h5]
      by_cases h6 : op = 6
      · rw [if_pos h6]
        obtain ⟨r, e1, e2⟩ := l_greatest h
        simp only [e1, e2, x_bd_s, if_true]
        exact ih2 M h
      rw [if_neg h6]
      by_cases h7 : op = 7
      · rw [if_pos h7]
        obtain ⟨r, e1, e2⟩ := l_worst h
        simp only [e1, e2, x_bd_s, if_true]
        exact ih2 M h
      rw [if_neg h7]
      by_cases h8 : op = 8
      · rw [if_pos h8]
        obtain ⟨r, e1, e2⟩ := l_load h (e_sx G (a + 1))
        simp only [r1, e1, e2, x_bd_s, if_true]
        exact ih2 M h
      rw [if_neg h8]
      by_cases h9 : op = 9
      · rw [if_pos h9]
        obtain ⟨r, e1, e2⟩ := l_cabin h (e_sx G (a + 1)) (e_sx G (a + 2))
        simp only [r1, r2, e1, e2, x_bd_s, if_true]
        exact ih2 M h
      rw [if_neg h9]
      by_cases h10 : op = 10
      · rw [if_pos h10]
        obtain ⟨r, e1, e2⟩ := l_inside h (e_sx G (a + 1)) (e_sx G (a + 2))
        simp only [r1, r2, e1, e2, x_bd_s, if_true]
        exact ih2 M h
      rw [if_neg h10]
      by_cases h11 : op = 11
      · rw [if_pos h11]
        obtain ⟨r, M1, M2, e1, e2, hI⟩ := l_step h
        simp only [e1, e2, x_bi_s, if_true]
        exact ih2 M2 hI
      rw [if_neg h11]
      by_cases h12 : op = 12
      · rw [if_pos h12]
        obtain ⟨r, e1, e2⟩ := l_why h
        simp only [e1, e2, x_bd_s, if_true]
        exact ih2 M h
      rw [if_neg h12]
      by_cases h13 : op = 13
      · rw [if_pos h13]
        obtain ⟨r, M1, M2, e1, e2, hI⟩ := l_stop h (e_sx G (a + 1))
        simp only [r1, e1, e2, x_bi_s, if_true]
        exact ih2 M2 hI
      rw [if_neg h13]
      by_cases h14 : op = 14
      · rw [if_pos h14]
        obtain ⟨r, M1, M2, e1, e2, hI⟩ := l_come h (e_sx G (a + 1)) (e_sx G (a + 2)) (e_sx G (a + 3)) (e_sx G (a + 4)) (e_sx G (a + 5))
        simp only [r1, r2, r3, r4, r5, e1, e2, x_bi_s, if_true]
        exact ih2 M2 hI
      rw [if_neg h14]
      by_cases h15 : op = 15
      · rw [if_pos h15]
        obtain ⟨r, e1, e2⟩ := l_waits h (e_sx G (a + 1))
        simp only [r1, e1, e2, x_bd_s, if_true]
        exact ih2 M h
      rw [if_neg h15]
      by_cases h16 : op = 16
      · rw [if_pos h16]
        obtain ⟨r, e1, e2⟩ := l_may h (e_sx G (a + 1))
        simp only [r1, e1, e2, x_bd_s, x_bi_s, if_true]
        exact ih2 M h
      rw [if_neg h16]
      by_cases h17 : op = 17
      · rw [if_pos h17]
        obtain ⟨r, M1, M2, e1, e2, hI⟩ := l_next h
        simp only [e1, e2, x_bi_s, if_true]
        exact ih2 M2 hI
      rw [if_neg h17]
      by_cases h18 : op = 18
      · rw [if_pos h18]
        obtain ⟨r, M1, M2, e1, e2, hI⟩ := l_fill h
        simp only [e1, e2, x_bi_s, if_true]
        exact ih2 M2 hI
      rw [if_neg h18]
      by_cases h19 : op = 19
      · rw [if_pos h19]
        obtain ⟨r, M1, M2, e1, e2, hI⟩ := l_tire h (e_sx G (a + 1))
        simp only [r1, e1, e2, x_bi_s, if_true]
        exact ih2 M2 hI
      rw [if_neg h19]
      by_cases h20 : op = 20
      · rw [if_pos h20]
        obtain ⟨r, M1, M2, e1, e2, hI⟩ := l_leave h (e_sx G (a + 1))
        simp only [r1, e1, e2, x_bi_s, if_true]
        exact ih2 M2 hI
      rw [if_neg h20]
      by_cases h21 : op = 21
      · rw [if_pos h21]
        obtain ⟨r, e1, e2⟩ := l_party h (e_sx G (a + 1)) (e_sx G (a + 2))
        simp only [r1, r2, e1, e2, x_bd_s, if_true]
        exact ih2 M h
      rw [if_neg h21]
      by_cases h22 : op = 22
      · rw [if_pos h22]
        obtain ⟨r, M1, M2, e1, e2, hI⟩ := l_order h (e_sx G (a + 1))
        simp only [r1, e1, e2, x_bi_s, if_true]
        exact ih2 M2 hI
      rw [if_neg h22]
      by_cases h23 : op = 23
      · rw [if_pos h23]
        obtain ⟨r, M1, M2, e1, e2, hI⟩ := l_ordered h (e_sx G (a + 1))
        simp only [r1, e1, e2, x_bi_s, if_true]
        exact ih2 M2 hI
      rw [if_neg h23]
      by_cases h24 : op = 24
      · rw [if_pos h24]
        obtain ⟨r, M1, M2, e1, e2, hI⟩ := l_cost h (e_sx G (a + 1))
        simp only [r1, e1, e2, x_bi_s, if_true]
        exact ih2 M2 hI
      rw [if_neg h24]
      by_cases h25 : op = 25
      · rw [if_pos h25]
        obtain ⟨r, M1, M2, e1, e2, hI⟩ := l_roll h
        simp only [e1, e2, x_bi_s, if_true]
        exact ih2 M2 hI
      rw [if_neg h25]
      by_cases h26 : op = 26
      · rw [if_pos h26]
        obtain ⟨r, M1, M2, e1, e2, hI⟩ := l_letOut h
        simp only [e1, e2, x_bi_s, if_true]
        exact ih2 M2 hI
      rw [if_neg h26]
      by_cases h27 : op = 27
      · rw [if_pos h27]
        obtain ⟨r, M1, M2, e1, e2, hI⟩ := l_stranded h
        simp only [e1, e2, x_bi_s, if_true]
        exact ih2 M2 hI
      rw [if_neg h27]
      by_cases h28 : op = 28
      · rw [if_pos h28]
        obtain ⟨r, M1, M2, e1, e2, hI⟩ := l_note h (e_sx G (a + 1)) (e_sx G (a + 2))
        simp only [r1, r2, e1, e2, x_bi_s, if_true]
        exact ih2 M2 hI
      rw [if_neg h28]
      by_cases h29 : op = 29
      · rw [if_pos h29]
        obtain ⟨r, M1, M2, e1, e2, hI⟩ := l_up h (e_sx G (a + 1)) (e_sx G (a + 2))
        simp only [r1, r2, e1, e2, x_bi_s, if_true]
        exact ih2 M2 hI
      rw [if_neg h29]
      by_cases h30 : op = 30
      · rw [if_pos h30]
        obtain ⟨r, M1, M2, e1, e2, hI⟩ := l_begins h
        simp only [e1, e2, x_bi_s, if_true]
        exact ih2 M2 hI
      rw [if_neg h30]
      by_cases h31 : op = 31
      · rw [if_pos h31]
        obtain ⟨r, M1, M2, e1, e2, hI⟩ := l_tear h
        simp only [e1, e2, x_bi_s, if_true]
        exact ih2 M2 hI
      rw [if_neg h31]
      by_cases h32 : op = 32
      · rw [if_pos h32]
        obtain ⟨r, M1, M2, e1, e2, hI⟩ := l_guess h (e_sx G (a + 1)) (e_sx G (a + 2)) (e_sx G (a + 3))
        simp only [r1, r2, r3, e1, e2, x_bi_s, if_true]
        exact ih2 M2 hI
      rw [if_neg h32]
      by_cases h33 : op = 33
      · rw [if_pos h33]
        obtain ⟨r, M1, M2, e1, e2, hI⟩ := l_read h (e_sx G (a + 1)) (e_sx G (a + 2)) (e_sx G (a + 3))
        simp only [r1, r2, r3, e1, e2, x_bi_s, if_true]
        exact ih2 M2 hI
      rw [if_neg h33]
      by_cases h34 : op = 34
      · rw [if_pos h34]
        obtain ⟨r, M1, M2, e1, e2, hI⟩ := l_forget h
        simp only [e1, e2, x_bi_s, if_true]
        exact ih2 M2 hI
      rw [if_neg h34]
      by_cases h35 : op = 35
      · rw [if_pos h35]
        obtain ⟨r, M1, M2, e1, e2, hI⟩ := l_fit h (e_sx G (a + 1)) (e_sx G (a + 2))
        simp only [r1, r2, e1, e2, x_bi_s, if_true]
        exact ih2 M2 hI
      rw [if_neg h35]
      by_cases h36 : op = 36
      · rw [if_pos h36]
        obtain ⟨r, M1, M2, e1, e2, hI⟩ := l_breaks h
        simp only [e1, e2, x_bi_s, if_true]
        exact ih2 M2 hI
      rw [if_neg h36]
      by_cases h37 : op = 37
      · rw [if_pos h37]
        obtain ⟨r, M1, M2, e1, e2, hI⟩ := l_agree h
        simp only [e1, e2, x_bi_s, if_true]
        exact ih2 M2 hI
      rw [if_neg h37]
      by_cases h38 : op = 38
      · rw [if_pos h38]
        obtain ⟨r, e1, e2⟩ := l_digest h
        simp only [e1, e2, x_bd_s, lg_cmp_self, if_true]
        exact ih2 M h
      rw [if_neg h38]
      exact ih2 M h
end
/-! from its start -/
theorem inv_0 {M : e_Me} (h : ∀ q ∈ e_chk, M q.1 q.2.1 = q.2.2) : Inv M := by
  have g : ∀ i j v, (i, j, v) ∈ e_chk → M i j = v := fun i j v hm => h (i, j, v) hm
  have d1 : ∀ c, c < 30 → (5, c, (0 : Int32)) ∈ e_chk := by decide +kernel
  have d2 : ∀ c, c < 30 → (185, c, (0 : Int32)) ∈ e_chk := by decide +kernel
  have d3 : ∀ c, c < 30 → (172, c, (0 : Int32)) ∈ e_chk := by decide +kernel
  have d4 : ∀ c, c < 30 → (173, c, (900 : Int32)) ∈ e_chk := by decide +kernel
  have d5 : ∀ c, c < 30 → (201, c, (0 : Int32)) ∈ e_chk := by decide +kernel
  have d6 : ∀ c, c < 30 → (202, c, (900 : Int32)) ∈ e_chk := by decide +kernel
  have d7 : ∀ c, c < 30 → (95, c, (0 : Int32)) ∈ e_chk := by decide +kernel
  have d8 : ∀ c, c < 30 → (27 + 2 * c, 1, (0 : Int32)) ∈ e_chk := by decide +kernel
  have d9 : ∀ c, c < 30 → (184, c, (0 : Int32)) ∈ e_chk := by decide +kernel
  have c1 : ∀ c, c < 30 → (5, c, (0 : Int32)) ∈ e_chk ∧ (185, c, (0 : Int32)) ∈ e_chk ∧ (172, c, (0 : Int32)) ∈ e_chk ∧ (173, c, (900 : Int32)) ∈ e_chk ∧ (201, c, (0 : Int32)) ∈ e_chk ∧ (202, c, (900 : Int32)) ∈ e_chk ∧ (95, c, (0 : Int32)) ∈ e_chk ∧ (27 + 2 * c, 1, (0 : Int32)) ∈ e_chk ∧ (184, c, (0 : Int32)) ∈ e_chk := fun c hc => ⟨d1 c hc, d2 c hc, d3 c hc, d4 c hc, d5 c hc, d6 c hc, d7 c hc, d8 c hc, d9 c hc⟩
  have c2 : ∀ r, r < 6 → (6, r, (0 : Int32)) ∈ e_chk := by decide +kernel
  have c3 : ∀ p, p < 6 → (4, p, iI (armZ 6 p)) ∈ e_chk := by decide +kernel
  refine ⟨6, 0, fun _ => 0, ⟨⟨Or.inl rfl, by omega, g 3 3 6 (by decide +kernel), g 3 4 0 (by decide +kernel), fun p hp => g _ _ _ (c3 p hp), fun c hc => g _ _ _ (c1 c hc).1, fun r hr => ?_, fun c _ => Nat.zero_le _⟩, g 182 0 6 (by decide +kernel), g 182 1 0 (by decide +kernel), fun c hc => g _ _ _ (c1 c hc).2.1⟩,
    ⟨0, 0, 1, g 7 2 0 (by decide +kernel), g 7 3 0 (by decide +kernel), g 7 4 1 (by decide +kernel), g 182 2 0 (by decide +kernel), g 182 3 0 (by decide +kernel), g 182 8 1 (by decide +kernel), Or.inr rfl, by omega⟩,
    ⟨60000, 3000, 20, 5, g 2 0 60000 (by decide +kernel), g 2 1 3000 (by decide +kernel), g 2 2 20 (by decide +kernel), g 2 3 5 (by decide +kernel), g 182 4 60000 (by decide +kernel), g 182 5 3000 (by decide +kernel), g 182 6 20 (by decide +kernel), g 182 7 5 (by decide +kernel), by omega, by omega, by omega, by omega⟩,
    ⟨0, fun _ => 0, fun _ => 0, by omega, g 167 1 0 (by decide +kernel), g 169 1 0 (by decide +kernel), g 182 31 0 (by decide +kernel), fun i hi => absurd hi (Nat.not_lt_zero _)⟩,
    ⟨0, fun _ => 0, fun _ => 0, fun _ => 0, by omega, g 176 1 0 (by decide +kernel), g 178 1 0 (by decide +kernel), g 180 1 0 (by decide +kernel), g 182 38 0 (by decide +kernel), fun i hi => absurd hi (Nat.not_lt_zero _)⟩,
    ⟨fun _ => 0, fun _ => 900, fun c hc => ⟨g _ _ _ (c1 c hc).2.2.1, g _ _ _ (c1 c hc).2.2.2.1, g _ _ _ (c1 c hc).2.2.2.2.1, g _ _ _ (c1 c hc).2.2.2.2.2.1, Nat.zero_le _, Nat.le_refl _⟩⟩,
    ⟨0, g 87 10 0 (by decide +kernel), g 182 21 0 (by decide +kernel), by omega, fun t ht => g _ _ _ (c1 t ht).2.2.2.2.2.2.1, g 160 0 0 (by decide +kernel), g 161 0 0 (by decide +kernel)⟩,
    0, fun _ => 0, fun _ => 0, fun _ => 0, fun _ => 0, fun _ => 0, fun _ => 0, 0, fun _ => 0, fun _ => 0, fun _ _ => 0,
    ⟨⟨g 10 1 0 (by decide +kernel), g 12 1 0 (by decide +kernel), g 14 1 0 (by decide +kernel), g 16 1 0 (by decide +kernel), g 18 1 0 (by decide +kernel), g 20 1 0 (by decide +kernel)⟩, fun p hp => absurd hp (Nat.not_lt_zero _), g 22 1 0 (by decide +kernel), fun k hk => absurd hk (Nat.not_lt_zero _), fun c hc => g _ _ _ (c1 c hc).2.2.2.2.2.2.2.1, fun c hc i hi => absurd hi (Nat.not_lt_zero _)⟩,
    ⟨g 182 12 0 (by decide +kernel), fun p hp => absurd hp (Nat.not_lt_zero _), g 182 19 0 (by decide +kernel), fun k hk => absurd hk (Nat.not_lt_zero _), fun c hc => g _ _ _ (c1 c hc).2.2.2.2.2.2.2.2, fun c hc i hi => absurd hi (Nat.not_lt_zero _)⟩,
    by omega, by omega, fun p hp => absurd hp (Nat.not_lt_zero _), fun p hp => absurd hp (Nat.not_lt_zero _), fun p q hp => absurd hp (Nat.not_lt_zero _), fun c hc i hi => absurd hi (Nat.not_lt_zero _), fun c hc i j hi => absurd hi (Nat.not_lt_zero _), fun p hp => absurd hp (Nat.not_lt_zero _), fun c hc => ⟨rfl, Nat.zero_le _⟩, fun c hc hc2 => rfl⟩
  rw [lnZ_0]
  exact g _ _ _ (c2 r hr)
theorem e_law_run {G : e_G} (hL : e_sn G ≤ 3072) : e_EX G 268 0 [some (.ref 1000), none, none, none] [] [] (fun _ _ => 0) 0 0 (fun r _ _ k n => r = some (.int 1) ∧ k ≤ 600000 ∧ n ≤ 7302250) := by
  refine e_head (fun M k n hk hn hM => ?_)
  have hmc : e_mc 268 = 600000 := by decide +kernel
  have hms : e_ms 268 = 7302250 := by decide +kernel
  obtain ⟨M', hM'⟩ := la_ok hL 600 0 e_F M (by omega) (by have := e_Fge; omega) (by omega) (inv_0 hM)
  rw [nI_0] at hM'
  have K := c_la_law_l18 (G := G) k n e_F 0 M (by rw [hmc]; exact hk) (by rw [hms]; exact hn) _ hM' (fun r _ => r = some (.int 1)) rfl
  exact e_EX_mono K (fun r S M k n q => ⟨q.2.2.2, by rw [← hmc]; exact q.1, by rw [← hms]; exact q.2.1⟩)
