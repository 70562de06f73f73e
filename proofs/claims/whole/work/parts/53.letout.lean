/-! LETTING OUT -/
/-- how many CABINS have a LOAD -/
def cnL (n : Nat) (ld : Nat → Nat) : Nat := smN n (fun c => if ld c = 0 then 0 else 1)
theorem smN_upn {c v : Nat} {f : Nat → Nat} : ∀ {k : Nat}, c < k → smN k (upn f c v) + f c = smN k f + v
  | 0, h => by omega
  | k + 1, h => by
    rw [smN, smN]
    by_cases e : c = k
    · subst e
      rw [upn_e, smN_cong (g := f) (fun i hi => upn_o (by omega))]
      omega
    · have := smN_upn (c := c) (v := v) (f := f) (k := k) (by omega)
      rw [upn_o (fun q => e q.symm)]
      omega
theorem cnL_upn {n c : Nat} {ld : Nat → Nat} (hc : c < n) (h : ld c ≠ 0) : cnL n (upn ld c 0) + 1 = cnL n ld := by
  have e : smN n (fun d => if upn ld c 0 d = 0 then 0 else 1) = smN n (upn (fun d => if ld d = 0 then 0 else 1) c 0) := smN_cong (fun d _ => by
    unfold upn
    split
    · rfl
    · rfl)
  have := smN_upn (c := c) (v := 0) (k := n) (f := fun d => if ld d = 0 then 0 else 1) hc
  unfold cnL
  rw [e]
  simp only [h, if_false] at this
  omega
theorem cnL_le (n : Nat) (ld : Nat → Nat) : cnL n ld ≤ n := by
  have := smN_b (k := n) (f := fun c => if ld c = 0 then 0 else 1) (B := 1) (fun c _ => by
    show (if ld c = 0 then 0 else 1) ≤ 1
    split <;> omega)
  unfold cnL
  omega
theorem cnL_0 {n c : Nat} {ld : Nat → Nat} (h : cnL n ld = 0) (hc : c < n) : ld c = 0 := by
  have h2 : (if ld c = 0 then 0 else 1) ≤ cnL n ld := smN_ge1 (f := fun c => if ld c = 0 then 0 else 1) (k := n) hc
  rw [h] at h2
  split at h2
  · assumption
  · omega
/-- THE TURN at the end, and who is let out, one behind the other -/
def loF (n : Nat) : Nat → Nat → (Nat → Nat) → Nat × List Nat
  | 0, t, _ => (t, [])
  | m + 1, t, ld => if ld ((0 + n - (rlF n (lnZ n (fun c => (ld c : Int))) n t 0).2) % n) = 0 then ((rlF n (lnZ n (fun c => (ld c : Int))) n t 0).2, []) else
    ((loF n m (rlF n (lnZ n (fun c => (ld c : Int))) n t 0).2 (upn ld ((0 + n - (rlF n (lnZ n (fun c => (ld c : Int))) n t 0).2) % n) 0)).1, (0 + n - (rlF n (lnZ n (fun c => (ld c : Int))) n t 0).2) % n :: (loF n m (rlF n (lnZ n (fun c => (ld c : Int))) n t 0).2 (upn ld ((0 + n - (rlF n (lnZ n (fun c => (ld c : Int))) n t 0).2) % n) 0)).2)
theorem loF_lt {n : Nat} (hn : 0 < n) : ∀ (m t : Nat) (ld : Nat → Nat), t < n → (loF n m t ld).1 < n ∧ ∀ c ∈ (loF n m t ld).2, c < n
  | 0, t, ld, h => ⟨h, fun c hc => by cases hc⟩
  | m + 1, t, ld, h => by
    have h1 := rlF_lt (g := lnZ n (fun c => (ld c : Int))) hn n t 0 h
    rw [loF]
    split
    · exact ⟨h1, fun c hc => by cases hc⟩
    · obtain ⟨i1, i2⟩ := loF_lt hn m (rlF n (lnZ n (fun c => (ld c : Int))) n t 0).2 (upn ld ((0 + n - (rlF n (lnZ n (fun c => (ld c : Int))) n t 0).2) % n) 0) h1
      refine ⟨i1, fun c hc => ?_⟩
      rcases List.mem_cons.mp hc with e | e
      · rw [e]
        exact Nat.mod_lt _ hn
      · exact i2 c e
/-! the class tries -/
section
variable {n t0 : Nat} {ld : Nat → Nat}
theorem takeOff_ok {c : Nat} {ld2 : Nat → Nat} {M : e_Me} (hc0 : c < n) (hc : cW M n t0 ld) (h9 : ∀ c, c < n → ld2 c ≤ 900) (he : ld2 c = ld c) (h1 : ∀ r, r < n → M 163 r = iI (lnZ n (fun c => (ld2 c : Int)) r)) :
    ∃ M', rl_takeOff (nI c) M = some M' ∧ (∀ r, r < n → M' 163 r = iI (lnZ n (fun d => ((upn ld2 c 0 d : Nat) : Int)) r)) ∧ ∀ a b, a ≠ 163 → M' a b = M a b := by
  have hb := okn_b hc.1
  have eq : ∀ r, lnZ n (fun d => ((upn ld2 c 0 d : Nat) : Int)) r = lnZ n (fun c => (ld2 c : Int)) r + -(ld c : Int) * armZ n ((c + r) % n) := fun r => by
    rw [← lnZ_upd hc0]
    refine lnZ_cong (fun d hd => ?_)
    unfold upn
    by_cases e : d = c
    · subst e
      simp only [if_true]
      omega
    · simp only [e, if_false]
      omega
  have key : ∀ (d r F : Nat) (M1 : e_Me), r + d = n → d < F → cW M1 n t0 ld → (∀ q, q < r → M1 163 q = iI (lnZ n (fun d => ((upn ld2 c 0 d : Nat) : Int)) q)) → (∀ q, r ≤ q → q < n → M1 163 q = iI (lnZ n (fun c => (ld2 c : Int)) q)) →
      ∃ M', rl_takeOff_l2 (nI c) F (nI r) M1 = some M' ∧ (∀ q, q < n → M' 163 q = iI (lnZ n (fun d => ((upn ld2 c 0 d : Nat) : Int)) q)) ∧ ∀ a b, a ≠ 163 → M' a b = M1 a b := by
    intro d
    induction d with
    | zero =>
      intro r F M1 g1 g2 g3 g4 g5
      obtain ⟨F, rfl⟩ : ∃ F', F = F' + 1 := ⟨F - 1, by omega⟩
      have e : r = n := by omega
      subst e
      exact ⟨M1, by simp (disch := omega) only [x_bd_s, x_bi_s, x_lt_e, x_rd_n, x_wr_n, x_ra_n, x_dv_n, s_lt, s_le, s_eq, s_lt0, s_le0, s_0lt, s_0le, s_eq0, s_sub, s_rem, s_div, s_in, bI_0, bI_1, x_gb_b, x_gb_0, x_gb_1, nI_add, nI_1, s_size, s_abs, s_max, iI_mul, iI_add, iI_neg, Nat.le_refl, Nat.lt_irrefl, if_true, if_false, ite_true, ite_false, not_true, not_false_eq_true, rl_takeOff_l2, wh_count, g3.2.2.1], g4, fun a b _ => rfl⟩
    | succ d ih =>
      intro r F M1 g1 g2 g3 g4 g5
      obtain ⟨F, rfl⟩ : ∃ F', F = F' + 1 := ⟨F - 1, by omega⟩
      have c1 : ¬ n ≤ r := by omega
      have c2 : ¬ 30 ≤ r := by omega
      have e1 : iI (lnZ n (fun c => (ld2 c : Int)) r) - iI ((ld c : Int) * armZ n ((c + r) % n)) = iI (lnZ n (fun d => ((upn ld2 c 0 d : Nat) : Int)) r) := by
        rw [iI_sub, eq r, Int.neg_mul]
        rfl
      obtain ⟨M', k1, k2, k3⟩ := ih (r + 1) F (e_up M1 163 r (iI (lnZ n (fun d => ((upn ld2 c 0 d : Nat) : Int)) r))) (by omega) (by omega) (cW_frame g3 (by funext j; simp [e_up_a]) (by funext j; simp [e_up_a]) (by funext j; simp [e_up_a]) (by funext j; simp [e_up_a])) (fun q hq => by
        by_cases e : q = r
        · subst e
          rw [e_up_e]
        · rw [e_up_o (by omega), g4 q (by omega)]) (fun q hq hq2 => by rw [e_up_o (by omega), g5 q (by omega) hq2])
      refine ⟨M', ?_, k2, fun a b hab => by rw [k3 a b hab, e_up_o (by omega)]⟩
      have e2 : nI (ld c) * iI (armZ n ((c + r) % n)) = iI ((ld c : Int) * armZ n ((c + r) % n)) := by rw [nI_iI, iI_mul]
      simp (disch := omega) only [rl_takeOff_l2, wh_count, g3.2.2.1, x_bd_s, s_le, c1, c2, if_false, x_rd_n, g5 r (Nat.le_refl _) (show r < n by omega), wh_loadOf_ok g3 hc0, wh_armOf_ok g3 hc0 (show r < n by omega), e2, e1, x_wr_n]
      simp (disch := omega) only [x_bd_s, x_bi_s, x_lt_e, x_rd_n, x_wr_n, x_ra_n, x_dv_n, s_lt, s_le, s_eq, s_lt0, s_le0, s_0lt, s_0le, s_eq0, s_sub, s_rem, s_div, s_in, bI_0, bI_1, x_gb_b, x_gb_0, x_gb_1, nI_add, nI_1, s_size, s_abs, s_max, iI_mul, iI_add, iI_neg, Nat.le_refl, Nat.lt_irrefl, if_true, if_false, ite_true, ite_false, not_true, not_false_eq_true, ]
      exact k1
  obtain ⟨M', k1, k2, k3⟩ := key n 0 e_F M (by omega) (by have := e_Fge; omega) hc (fun q hq => by omega) (fun q _ hq => h1 q hq)
  rw [nI_0] at k1
  exact ⟨M', k1, k2, k3⟩
theorem tryC : ∀ (m i F : Nat) (M : e_Me) (t : Nat) (ld2 : Nat → Nat) (E : List Nat), cnL n ld2 < m → m < F → i + cnL n ld2 ≤ n → E.length = i → cW M n t0 ld → M 162 4 = nI t → t < n → (∀ c, c < n → ld2 c ≤ 900) → (∀ r, r < n → M 163 r = iI (lnZ n (fun c => (ld2 c : Int)) r)) → M 164 1 = nI i → (∀ j, j < i → M 165 j = nI (E.getD j 0)) → (∀ c ∈ E, c < n) → (∀ c, c < n → ld2 c = if c ∈ E then 0 else ld c) →
    ∃ M', rl_tryLettingOut_l13 F (nI i) M = some M' ∧ M' 162 4 = nI (loF n m t ld2).1 ∧ M' 164 1 = nI (E ++ (loF n m t ld2).2).length ∧ (E ++ (loF n m t ld2).2).length ≤ n ∧ (∀ j, j < (E ++ (loF n m t ld2).2).length → M' 165 j = nI ((E ++ (loF n m t ld2).2).getD j 0)) ∧ ∀ a b, ¬ (a = 163 ∨ a = 164 ∨ a = 165 ∨ (a = 162 ∧ b = 4)) → M' a b = M a b := by
  intro m
  induction m with
  | zero => intro i F M t ld2 E h; omega
  | succ m ih =>
    intro i F M t ld2 E h1 h2 h3 h4 hc h5 ht h9 h6 h7 h8 h10 h11
    obtain ⟨F, rfl⟩ : ∃ F', F = F' + 1 := ⟨F - 1, by omega⟩
    have hb := okn_b hc.1
    have c1 : ¬ n < i := by omega
    obtain ⟨A, a1, a2, a3⟩ := toRest_ok hc h9 h6 h5 ht
    have hlt := rlF_lt (g := lnZ n (fun c => (ld2 c : Int))) (show 0 < n by omega) n t 0 ht
    have hcA : cW A n t0 ld := cW_frame hc (funext fun j => a3 3 j (by omega)) (funext fun j => a3 4 j (by omega)) (funext fun j => a3 5 j (by omega)) (funext fun j => a3 6 j (by omega))
    have hd := wh_atDoorWith_ok hcA hlt
    rw [loF]
    generalize (rlF n (lnZ n (fun c => (ld2 c : Int))) n t 0).1 = way at a1
    generalize (rlF n (lnZ n (fun c => (ld2 c : Int))) n t 0).2 = t1 at a2 hlt hd
    have hdr : (0 + n - t1) % n < n := Nat.mod_lt _ (by omega)
    generalize (0 + n - t1) % n = c at hd hdr
    have hl := wh_loadOf_ok hcA hdr
    have hld9 := hc.2.2.2.2.2.2.2 c (by omega)
    have f164 : A 164 1 = nI i := by rw [a3 _ _ (by omega), h7]
    have f165 : ∀ j, j < i → A 165 j = nI (E.getD j 0) := fun j hj => by rw [a3 _ _ (by omega), h8 j hj]
    have glt : ∀ j, j < i → E.getD j 0 < n ∧ E.getD j 0 ∈ E := fun j hj => by
      have e : E.getD j 0 = E[j]'(by omega) := by
        rw [List.getD_eq_getElem?_getD, List.getElem?_eq_getElem (by omega)]
        rfl
      rw [e]
      exact ⟨h10 _ (List.getElem_mem _), List.getElem_mem _⟩
    by_cases z : ld2 c = 0
    · rw [if_pos z]
      refine ⟨A, ?_, a2, ?_, ?_, fun j hj => ?_, fun a b hab => a3 a b (by omega)⟩
      · by_cases z2 : ld c = 0
        · simp (disch := omega) only [x_bd_s, x_bi_s, x_lt_e, x_rd_n, x_wr_n, x_ra_n, x_dv_n, s_lt, s_le, s_eq, s_lt0, s_le0, s_0lt, s_0le, s_eq0, s_sub, s_rem, s_div, s_in, bI_0, bI_1, x_gb_b, x_gb_0, x_gb_1, nI_add, nI_1, s_size, s_abs, s_max, iI_mul, iI_add, iI_neg, Nat.le_refl, Nat.lt_irrefl, if_true, if_false, ite_true, ite_false, not_true, not_false_eq_true, rl_tryLettingOut_l13, wh_count, hc.2.2.1, c1, a1, a2, hd, hl, z2]
        · have hm : c ∈ E := by
            have := h11 c hdr
            rw [z] at this
            split at this
            · assumption
            · exact absurd this.symm z2
          obtain ⟨j0, hj0, hj1⟩ := List.getElem_of_mem hm
          -- the first place
          have hex : ∃ j, j < i ∧ E.getD j 0 = c ∧ ∀ q, q < j → E.getD q 0 ≠ c := by
            have : ∀ k, k ≤ i → (∃ j, j < k ∧ E.getD j 0 = c ∧ ∀ q, q < j → E.getD q 0 ≠ c) ∨ ∀ q, q < k → E.getD q 0 ≠ c := by
              intro k
              induction k with
              | zero => intro _; exact Or.inr (fun q hq => by omega)
              | succ k ih2 =>
                intro hk
                rcases ih2 (by omega) with ⟨j, q1, q2, q3⟩ | q
                · exact Or.inl ⟨j, by omega, q2, q3⟩
                · by_cases e : E.getD k 0 = c
                  · exact Or.inl ⟨k, by omega, e, q⟩
                  · right
                    intro q' hq'
                    by_cases e2 : q' = k
                    · rw [e2]
                      exact e
                    · exact q q' (by omega)
            rcases this i (Nat.le_refl _) with q | q
            · exact q
            · exfalso
              refine q j0 (by omega) ?_
              rw [List.getD_eq_getElem?_getD, List.getElem?_eq_getElem hj0, hj1]
              rfl
          obtain ⟨j, q1, q2, q3⟩ := hex
          have pl := ro_placeOf_yes (M := A) (x := nI c) cap_164 f164 (by omega) (show 30 ≤ 1000 by omega) q1 (by rw [f165 j q1, q2]) (fun q hq e => by
            rw [f165 q (by omega), s_eq (by have := (glt q (by omega)).1; omega) (by omega)] at e
            exact q3 q hq e)
          have pli : (nI j = (-1 : Int32)) = False := by
            rw [nI_iI, ← iI_m1, iI_eq (by omega) (by omega) (by omega) (by omega)]
            exact eq_false (by omega)
          simp (disch := omega) only [x_bd_s, x_bi_s, x_lt_e, x_rd_n, x_wr_n, x_ra_n, x_dv_n, s_lt, s_le, s_eq, s_lt0, s_le0, s_0lt, s_0le, s_eq0, s_sub, s_rem, s_div, s_in, bI_0, bI_1, x_gb_b, x_gb_0, x_gb_1, nI_add, nI_1, s_size, s_abs, s_max, iI_mul, iI_add, iI_neg, Nat.le_refl, Nat.lt_irrefl, if_true, if_false, ite_true, ite_false, not_true, not_false_eq_true, rl_tryLettingOut_l13, wh_count, hc.2.2.1, c1, a1, a2, hd, hl, z2, pl, pli]
      · show A 164 1 = nI (E ++ []).length
        rw [List.append_nil, h4, f164]
      · show (E ++ []).length ≤ n
        rw [List.append_nil, h4]
        omega
      · have hj' : j < (E ++ []).length := hj
        show A 165 j = nI ((E ++ []).getD j 0)
        rw [List.append_nil] at hj' ⊢
        rw [f165 j (by omega)]
    · rw [if_neg z]
      have hnm : c ∉ E := fun hm => by
        have := h11 c hdr
        rw [if_pos hm] at this
        exact z this
      have heq : ld2 c = ld c := by
        have := h11 c hdr
        rw [if_neg hnm] at this
        exact this
      have z2 : ¬ ld c = 0 := by omega
      have hcn := cnL_upn hdr z
      have hi30 : i < 30 := by omega
      have pl := ro_placeOf_no (M := A) (x := nI c) cap_164 f164 (by omega) (show 30 ≤ 1000 by omega) (fun j hj e => by
        have := glt j hj
        rw [f165 j hj, s_eq (by omega) (by omega)] at e
        rw [e] at this
        exact hnm this.2)
      have ap := ro_append_ok (M := A) (x := nI c) cap_164 f164 hi30 (by omega)
      generalize hB : e_up (e_up A (164 + 1) i (nI c)) 164 1 (nI (i + 1)) = B at ap
      have fB : ∀ a b, ¬ (a = 164 ∨ a = 165) → B a b = A a b := fun a b hab => by
        rw [← hB, e_up_o (by omega), e_up_o (by omega)]
      have hcB : cW B n t0 ld := cW_frame hcA (funext fun j => fB 3 j (by omega)) (funext fun j => fB 4 j (by omega)) (funext fun j => fB 5 j (by omega)) (funext fun j => fB 6 j (by omega))
      obtain ⟨C, k1, k2, k3⟩ := takeOff_ok (M := B) (ld2 := ld2) hdr hcB h9 heq (fun r hr => by rw [fB _ _ (by omega), a3 _ _ (by omega), h6 r hr])
      have hcC : cW C n t0 ld := cW_frame hcB (funext fun j => k3 3 j (by omega)) (funext fun j => k3 4 j (by omega)) (funext fun j => k3 5 j (by omega)) (funext fun j => k3 6 j (by omega))
      obtain ⟨D, d1, d2, d3, d4, d5, d6⟩ := ih (i + 1) F C t1 (upn ld2 c 0) (E ++ [c]) (by omega) (by omega) (by omega) (by rw [List.length_append, h4]; rfl) hcC (by rw [k3 _ _ (by omega), fB _ _ (by omega), a2]) hlt (fun d hd => by
        unfold upn
        split
        · omega
        · exact h9 d hd) k2 (by rw [k3 _ _ (by omega), ← hB, e_up_e]) (fun j hj => by
        rw [k3 _ _ (by omega), ← hB, e_up_o (by omega), show 164 + 1 = 165 from rfl]
        by_cases e : j = i
        · subst e
          rw [e_up_e, List.getD_eq_getElem?_getD, List.getElem?_append_right (by omega), h4, Nat.sub_self]
          rfl
        · rw [e_up_o (by omega), f165 j (by omega), List.getD_eq_getElem?_getD, List.getD_eq_getElem?_getD, List.getElem?_append_left (by omega)]) (fun d hd => by
        rcases List.mem_append.mp hd with q | q
        · exact h10 d q
        · rw [List.mem_singleton.mp q]
          exact hdr) (fun d hd => by
        unfold upn
        by_cases e : d = c
        · subst e
          rw [if_pos rfl, if_pos (by simp)]
        · rw [if_neg e, h11 d hd]
          by_cases e2 : d ∈ E
          · rw [if_pos e2, if_pos (by simp [e2])]
          · rw [if_neg e2, if_neg (by simp [e2, e])])
      have ea : E ++ [c] ++ (loF n m t1 (upn ld2 c 0)).2 = E ++ (c :: (loF n m t1 (upn ld2 c 0)).2) := by simp
      rw [ea] at d3 d4 d5
      refine ⟨D, ?_, d2, d3, d4, d5, fun a b hab => by rw [d6 a b hab, k3 _ _ (by omega), fB _ _ (by omega), a3 _ _ (by omega)]⟩
      have em1 : ((-1 : Int32) = -1) = True := eq_true rfl
      simp (disch := omega) only [x_bd_s, x_bi_s, x_lt_e, x_rd_n, x_wr_n, x_ra_n, x_dv_n, s_lt, s_le, s_eq, s_lt0, s_le0, s_0lt, s_0le, s_eq0, s_sub, s_rem, s_div, s_in, bI_0, bI_1, x_gb_b, x_gb_0, x_gb_1, nI_add, nI_1, s_size, s_abs, s_max, iI_mul, iI_add, iI_neg, Nat.le_refl, Nat.lt_irrefl, if_true, if_false, ite_true, ite_false, not_true, not_false_eq_true, rl_tryLettingOut_l13, wh_count, hc.2.2.1, c1, a1, a2, hd, hl, z2, pl, em1, ap, k1]
      exact d1
theorem tryAll {M : e_Me} {t : Nat} (hc : cW M n t ld) : ∃ M', rl_tryLettingOut M = some M' ∧ M' 162 4 = nI (loF n (n + 1) t ld).1 ∧ M' 164 1 = nI (loF n (n + 1) t ld).2.length ∧ (loF n (n + 1) t ld).2.length ≤ n ∧ (∀ j, j < (loF n (n + 1) t ld).2.length → M' 165 j = nI ((loF n (n + 1) t ld).2.getD j 0)) ∧ ∀ a b, ¬ (a = 163 ∨ a = 164 ∨ a = 165 ∨ (a = 162 ∧ b = 4)) → M' a b = M a b := by
  have hb := okn_b hc.1
  obtain ⟨A, a1, a2, a3, a4⟩ := copy_ok hc
  have hcA : cW (e_up A 164 1 0) n t ld := cW_frame hc (funext fun j => by rw [e_up_o (by omega), a4 _ _ (by omega)]) (funext fun j => by rw [e_up_o (by omega), a4 _ _ (by omega)]) (funext fun j => by rw [e_up_o (by omega), a4 _ _ (by omega)]) (funext fun j => by rw [e_up_o (by omega), a4 _ _ (by omega)])
  have hcn := cnL_le n ld
  obtain ⟨D, d1, d2, d3, d4, d5, d6⟩ := tryC (n + 1) 0 e_F (e_up A 164 1 0) t ld [] (by omega) (by have := e_Fge; omega) (by omega) rfl hcA (by rw [e_up_o (by omega), a2]) hc.2.1 (fun c hc2 => hc.2.2.2.2.2.2.2 c (by omega)) (fun r hr => by rw [e_up_o (by omega), a3 r hr]) (by rw [e_up_e]; rfl) (fun j hj => by omega) (fun c hc => by cases hc) (fun c _ => by simp)
  rw [List.nil_append] at d3 d4 d5
  rw [nI_0] at d1
  refine ⟨D, ?_, d2, d3, d4, d5, fun a b hab => by rw [d6 a b hab, e_up_o (by omega), a4 _ _ (by omega)]⟩
  simp only [rl_tryLettingOut, a1, x_bd_s, ro_clear_ok cap_164, d1]
end
/-! a CABIN emptied -/
def vcF (wh f : Nat → Nat) : Nat → Nat → Nat
  | 0 => wh
  | k + 1 => upn (vcF wh f k) (f k) 101
theorem vcF_in {wh f : Nat → Nat} : ∀ {k i : Nat}, i < k → vcF wh f k (f i) = 101
  | 0, i, h => by omega
  | k + 1, i, h => by
    rw [vcF]
    unfold upn
    split
    · rfl
    · rename_i e
      exact vcF_in (by
        by_cases e2 : i = k
        · subst e2
          exact absurd rfl e
        · omega)
theorem vcF_out {wh f : Nat → Nat} {p : Nat} : ∀ {k : Nat}, (∀ i, i < k → f i ≠ p) → vcF wh f k p = wh p
  | 0, _ => rfl
  | k + 1, h => by
    rw [vcF, upn_o (fun e => h k (by omega) e.symm)]
    exact vcF_out (fun i hi => h i (by omega))
def vcS (c : Nat) : bS → bS
  | (ld, pa, wh, l, ln, sc, cb) => (upn ld c 0, pa, vcF wh (cb c) (sc c), l, ln, upn sc c 0, cb)
section
variable {np : Nat} {pe we wi se : Nat → Nat} {n : Nat}
theorem vcW {c : Nat} (hc : c < 30) {x : bS} (hw : wPx n np pe we wi se x) : wPx n np pe we wi se (vcS c x) := by
  obtain ⟨ld, pa, wh, l, ln, sc, cb⟩ := x
  unfold wPx at hw
  simp only at hw
  obtain ⟨h1, h2, h3, h4, h5, h6, h7, h8, h9, h10⟩ := hw
  have sp : ∀ p, p < np → (wh p = c ∧ vcF wh (cb c) (sc c) p = 101) ∨ (wh p ≠ c ∧ vcF wh (cb c) (sc c) p = wh p) := fun p hp => by
    by_cases e : wh p = c
    · obtain ⟨i, i1, i2⟩ := h8 p hp (by omega)
      rw [e] at i1 i2
      left
      refine ⟨e, ?_⟩
      have := vcF_in (wh := wh) (f := cb c) i1
      rw [i2] at this
      exact this
    · right
      exact ⟨e, vcF_out (fun i hi q => e (by have := (h6 c hc i hi).2; rw [q] at this; exact this))⟩
  refine ⟨h1, h2, fun p hp => ?_, fun k hk => ?_, h5, fun d hd i hi => ?_, fun d hd i j hi hj hij => ?_, fun p hp hp2 => ?_, fun d hd => ?_, fun d hd hd2 => ?_⟩
  · obtain ⟨y1, y2, y3, y4, y5, y6, y7⟩ := h3 p hp
    refine ⟨y1, y2, y3, y4, y5, y6, ?_⟩
    show vcF wh (cb c) (sc c) p ≤ 101
    rcases sp p hp with q | q <;> omega
  · obtain ⟨q1, q2⟩ := h4 k hk
    refine ⟨q1, ?_⟩
    show vcF wh (cb c) (sc c) (ln k) = 100
    rcases sp _ q1 with q | q <;> omega
  · have hi' : i < upn sc c 0 d := hi
    show cb d i < np ∧ vcF wh (cb c) (sc c) (cb d i) = d
    by_cases e : d = c
    · rw [e, upn_e] at hi'
      omega
    · rw [upn_o e] at hi'
      obtain ⟨q1, q2⟩ := h6 d hd i hi'
      refine ⟨q1, ?_⟩
      rcases sp _ q1 with q | q <;> omega
  · have hi' : i < upn sc c 0 d := hi
    have hj' : j < upn sc c 0 d := hj
    by_cases e : d = c
    · rw [e, upn_e] at hi'
      omega
    · rw [upn_o e] at hi' hj'
      exact h7 d hd i j hi' hj' hij
  · have hp2' : vcF wh (cb c) (sc c) p < 30 := hp2
    show ∃ i, i < upn sc c 0 (vcF wh (cb c) (sc c) p) ∧ cb (vcF wh (cb c) (sc c) p) i = p
    rcases sp p hp with q | q
    · omega
    · rw [q.2] at hp2' ⊢
      rw [upn_o q.1]
      exact h8 p hp hp2'
  · show upn ld c 0 d = smN (upn sc c 0 d) (fun i => we (cb d i)) ∧ smN (upn sc c 0 d) (fun i => pe (cb d i)) ≤ 6
    by_cases e : d = c
    · subst e
      rw [upn_e, upn_e]
      exact ⟨rfl, Nat.zero_le _⟩
    · rw [upn_o e, upn_o e]
      exact h9 d hd
  · show upn sc c 0 d = 0
    unfold upn
    split
    · rfl
    · exact h10 d hd hd2
/-- PERSONS of a CABIN -/
def psn (pe : Nat → Nat) (x : bS) (c : Nat) : Int32 := nI (smN (x.2.2.2.2.2.1 c) (fun i => pe (x.2.2.2.2.2.2 c i)))
theorem vacC {M : e_Me} {t c : Nat} {x : bS} (hc : cW M n t x.1) (hP : cPx M np pe we wi se x) (hw : wPx n np pe we wi se x) (hcn : c < n) :
    ∃ M', ri_vacate (nI c) M = some (psn pe x c, M') ∧ cW M' n t (vcS c x).1 ∧ cPx M' np pe we wi se (vcS c x) ∧ ∀ i j, ¬ (i = 5 ∨ i = 6 ∨ i = 17 ∨ (27 ≤ i ∧ i ≤ 86)) → M' i j = M i j := by
  have hb := okn_b hc.1
  have hc30 : c < 30 := by omega
  have hW2 := vcW hc30 hw
  obtain ⟨ld, pa, wh, l, ln, sc, cb⟩ := x
  unfold cPx at hP
  unfold wPx at hw
  simp only at hP hw hc
  have h6 := wP_sc hw hc30
  have hnp := hw.1
  obtain ⟨⟨r1, r2, r3, r4, r5, r6⟩, r7, r8, r9, r10, r11⟩ := id hP
  have pi := personsIn_ok hP hw hc30
  have key : ∀ (d i F : Nat) (y : Int32) (M1 : e_Me), i + d = sc c → d < F → (∀ a b, a ≠ 17 → M1 a b = M a b) → (∀ p, p < np → M1 17 p = nI (vcF wh (cb c) i p)) →
      ∃ M', ri_vacate_l15 (nI c) y (27 + 2 * c) 6 F (nI i) M1 = ri_vacate_b45 (nI c) y (27 + 2 * c) 6 M' ∧ (∀ p, p < np → M' 17 p = nI (vcF wh (cb c) (sc c) p)) ∧ ∀ a b, a ≠ 17 → M' a b = M a b := by
    intro d
    induction d with
    | zero =>
      intro i F y M1 g1 g2 g3 g4
      obtain ⟨F, rfl⟩ : ∃ F', F = F' + 1 := ⟨F - 1, by omega⟩
      have e : i = sc c := by omega
      subst e
      exact ⟨M1, by simp (disch := omega) only [x_bd_s, x_bi_s, x_lt_e, x_rd_n, x_wr_n, x_ra_n, x_dv_n, s_lt, s_le, s_eq, s_lt0, s_le0, s_0lt, s_0le, s_eq0, s_sub, s_rem, s_div, s_in, bI_0, bI_1, x_gb_b, x_gb_0, x_gb_1, nI_add, nI_1, s_size, s_abs, s_max, iI_mul, iI_add, iI_neg, Nat.le_refl, Nat.lt_irrefl, if_true, if_false, ite_true, ite_false, not_true, not_false_eq_true, ri_vacate_l15, ro_count_ok (cap_cab c hc30), g3 (27 + 2 * c) 1 (by omega), r10 c hc30], g4, g3⟩
    | succ d ih =>
      intro i F y M1 g1 g2 g3 g4
      obtain ⟨F, rfl⟩ : ∃ F', F = F' + 1 := ⟨F - 1, by omega⟩
      have c1 : ¬ sc c ≤ i := by omega
      have hi : i < sc c := by omega
      have hp := (hw.2.2.2.2.2.1 c hc30 i hi).1
      have a1 := ro_at_ok (M := M1) (cap_cab c hc30) (m := sc c) (by rw [g3 _ _ (by omega), r10 c hc30]) h6 (show 6 ≤ 1000 by omega) hi
      rw [g3 _ _ (by omega), r11 c hc30 i hi] at a1
      have a2 := ro_set_ok (M := M1) (x := (101 : Int32)) cap_200.2.2.2.1 (m := np) (by rw [g3 _ _ (by omega), r4]) hnp (show 200 ≤ 1000 by omega) hp
      obtain ⟨M', k1, k2, k3⟩ := ih (i + 1) F y (e_up M1 (16 + 1) (cb c i) 101) (by omega) (by omega) (fun a b hab => by rw [e_up_o (by omega), g3 a b hab]) (fun p hp2 => by
        simp only [vcF, upn]
        by_cases e : p = cb c i
        · subst e
          rw [if_pos rfl, show 17 = 16 + 1 from rfl, e_up_e]
          rfl
        · rw [if_neg e, e_up_o (by omega), g4 p hp2])
      refine ⟨M', ?_, k2, k3⟩
      simp (disch := omega) only [x_bd_s, x_bi_s, x_lt_e, x_rd_n, x_wr_n, x_ra_n, x_dv_n, s_lt, s_le, s_eq, s_lt0, s_le0, s_0lt, s_0le, s_eq0, s_sub, s_rem, s_div, s_in, bI_0, bI_1, x_gb_b, x_gb_0, x_gb_1, nI_add, nI_1, s_size, s_abs, s_max, iI_mul, iI_add, iI_neg, Nat.le_refl, Nat.lt_irrefl, if_true, if_false, ite_true, ite_false, not_true, not_false_eq_true, ri_vacate_l15, ro_count_ok (cap_cab c hc30), g3 (27 + 2 * c) 1 (by omega), r10 c hc30, c1, a1, pa_moveTo, a2]
      exact k1
  obtain ⟨A, a1, a2, a3⟩ := key (sc c) 0 e_F (nI (smN (sc c) (fun i => pe (cb c i)))) M (by omega) (by have := e_Fge; omega) (fun a b _ => rfl) (fun p hp => (r7 p hp).2.2.2.1)
  rw [nI_0] at a1
  generalize hB : e_up A (27 + 2 * c) 1 0 = B
  have fB : ∀ a b, ¬ (a = 17 ∨ (27 ≤ a ∧ a ≤ 86)) → B a b = M a b := fun a b hab => by rw [← hB, e_up_o (by omega), a3 _ _ (by omega)]
  have hcB : cW B n t ld := cW_frame hc (funext fun j => fB 3 j (by omega)) (funext fun j => fB 4 j (by omega)) (funext fun j => fB 5 j (by omega)) (funext fun j => fB 6 j (by omega))
  have hl := wh_loadOf_ok hcB hcn
  obtain ⟨C, c1, c2, c3⟩ := wh_addLoad_ok (w := -(ld c : Int)) (ld' := upn ld c 0) hcB hcn (fun d hd => by
    unfold upn
    by_cases e : d = c
    · subst e
      simp only [if_true]
      omega
    · simp only [e, if_false]
      omega) (fun d hd => wP_ld hW2 hd)
  have ew : -nI (ld c) = iI (-(ld c : Int)) := by rw [nI_iI, iI_neg]
  rw [← ew] at c1
  have fC : ∀ a b, a ≠ 5 → a ≠ 6 → C a b = B a b := fun a b x1 x2 => by rw [c3 a x1 x2]
  have fM : ∀ i j, ¬ (i = 5 ∨ i = 6 ∨ i = 17 ∨ (27 ≤ i ∧ i ≤ 86)) → C i j = M i j := fun i j hij => by rw [fC _ _ (by omega) (by omega), fB _ _ (by omega)]
  refine ⟨C, ?_, c2, ⟨?_, fun z hz => ?_, ?_, fun j hj => ?_, fun d hd => ?_, fun d hd j hj => ?_⟩, fM⟩
  · simp only [ri_vacate, pi, x_bd_s, insideOf_ok hc30, cap_cab c hc30, a1, ri_vacate_b45, ro_clear_ok (cap_cab c hc30)]
    rw [hB]
    simp only [hl, x_bd_s, c1]
    rfl
  · rw [fM _ _ (by omega), fM _ _ (by omega), fM _ _ (by omega), fM _ _ (by omega), fM _ _ (by omega), fM _ _ (by omega)]
    exact ⟨r1, r2, r3, r4, r5, r6⟩
  · rw [fM 11 _ (by omega), fM 13 _ (by omega), fM 15 _ (by omega), fM 19 _ (by omega), fC 17 _ (by omega) (by omega), fM 21 _ (by omega)]
    obtain ⟨y1, y2, y3, y4, y5, y6⟩ := r7 z hz
    refine ⟨y1, y2, y3, ?_, y5, y6⟩
    show B 17 z = nI (vcF wh (cb c) (sc c) z)
    rw [← hB, e_up_o (by omega), a2 z hz]
  · rw [fM _ _ (by omega)]
    exact r8
  · rw [fM _ _ (by omega)]
    exact r9 j hj
  · show C (27 + 2 * d) 1 = nI (upn sc c 0 d)
    rw [fC _ _ (by omega) (by omega), ← hB]
    by_cases e : d = c
    · subst e
      rw [upn_e, e_up_e]
      rfl
    · rw [upn_o e, e_up_o (by omega), a3 _ _ (by omega), r10 d hd]
  · have hj' : j < upn sc c 0 d := hj
    show C (27 + 2 * d + 1) j = nI (cb d j)
    by_cases e : d = c
    · rw [e, upn_e] at hj'
      omega
    · rw [upn_o e] at hj'
      rw [fC _ _ (by omega) (by omega), ← hB, e_up_o (by omega), a3 _ _ (by omega), r11 d hd j hj']
/-- one behind the other: how many get off, and what is then -/
def vcL (pe : Nat → Nat) : List Nat → bS → Int32 → Int32 × bS
  | [], x, a => (a, x)
  | c :: L, x, a => vcL pe L (vcS c x) (a + psn pe x c)
theorem vcL_w : ∀ (L : List Nat) (x : bS) (a : Int32), (∀ c ∈ L, c < 30) → wPx n np pe we wi se x → wPx n np pe we wi se (vcL pe L x a).2
  | [], x, a, _, hw => hw
  | c :: L, x, a, hL, hw => vcL_w L (vcS c x) _ (fun d hd => hL d (List.mem_cons_of_mem _ hd)) (vcW (hL c List.mem_cons_self) hw)
theorem vacAllC {E : List Nat} (hE : E.length ≤ 30) : ∀ (L : List Nat) (i F : Nat) (M : e_Me) (t : Nat) (x : bS) (a : Int32), L.length < F → i + L.length = E.length → (∀ j, j < L.length → E.getD (i + j) 0 = L.getD j 0) → (∀ c ∈ L, c < n) → M 164 1 = nI E.length → (∀ j, j < E.length → M 165 j = nI (E.getD j 0)) → cW M n t x.1 → cPx M np pe we wi se x → wPx n np pe we wi se x →
    ∃ M', rl_letAllOut_l8 F a (nI i) M = rl_letAllOut_b43 (vcL pe L x a).1 M' ∧ cW M' n t (vcL pe L x a).2.1 ∧ cPx M' np pe we wi se (vcL pe L x a).2 ∧ ∀ i j, ¬ (i = 5 ∨ i = 6 ∨ i = 17 ∨ (27 ≤ i ∧ i ≤ 86)) → M' i j = M i j := by
  intro L
  induction L with
  | nil =>
    intro i F M t x a h1 h2 h3 h4 h5 h6 hc hP hw
    obtain ⟨F, rfl⟩ : ∃ F', F = F' + 1 := ⟨F - 1, by omega⟩
    have e : i = E.length := by simpa using h2
    subst e
    exact ⟨M, by simp (disch := omega) only [x_bd_s, x_bi_s, x_lt_e, x_rd_n, x_wr_n, x_ra_n, x_dv_n, s_lt, s_le, s_eq, s_lt0, s_le0, s_0lt, s_0le, s_eq0, s_sub, s_rem, s_div, s_in, bI_0, bI_1, x_gb_b, x_gb_0, x_gb_1, nI_add, nI_1, s_size, s_abs, s_max, iI_mul, iI_add, iI_neg, Nat.le_refl, Nat.lt_irrefl, if_true, if_false, ite_true, ite_false, not_true, not_false_eq_true, rl_letAllOut_l8, ro_count_ok cap_164, h5]; rfl, hc, hP, fun i j _ => rfl⟩
  | cons c L ih =>
    intro i F M t x a h1 h2 h3 h4 h5 h6 hc hP hw
    obtain ⟨F, rfl⟩ : ∃ F', F = F' + 1 := ⟨F - 1, by omega⟩
    have hb := okn_b hc.1
    rw [List.length_cons] at h1 h2 h3
    have c1 : ¬ E.length ≤ i := by omega
    have hcn := h4 c List.mem_cons_self
    obtain ⟨A, a1, a2, a3, a4⟩ := vacC hc hP hw hcn
    have e0 := h3 0 (by omega)
    have e0' : E.getD i 0 = c := e0
    have at1 := ro_at_ok (M := M) cap_164 h5 hE (show 30 ≤ 1000 by omega) (show i < E.length by omega)
    rw [show 164 + 1 = 165 from rfl, h6 i (by omega), e0'] at at1
    obtain ⟨B, b1, b2, b3, b4⟩ := ih (i + 1) F A t (vcS c x) (a + psn pe x c) (by omega) (by omega) (fun j hj => by
      have := h3 (j + 1) (by omega)
      rw [show i + 1 + j = i + (j + 1) by omega, this]
      rfl) (fun d hd => h4 d (List.mem_cons_of_mem _ hd)) (by rw [a4 _ _ (by omega), h5]) (fun j hj => by rw [a4 _ _ (by omega), h6 j hj]) a2 a3 (vcW (by omega) hw)
    refine ⟨B, ?_, b2, b3, fun i j hij => by rw [b4 i j hij, a4 i j hij]⟩
    simp (disch := omega) only [x_bd_s, x_bi_s, x_lt_e, x_rd_n, x_wr_n, x_ra_n, x_dv_n, s_lt, s_le, s_eq, s_lt0, s_le0, s_0lt, s_0le, s_eq0, s_sub, s_rem, s_div, s_in, bI_0, bI_1, x_gb_b, x_gb_0, x_gb_1, nI_add, nI_1, s_size, s_abs, s_max, iI_mul, iI_add, iI_neg, Nat.le_refl, Nat.lt_irrefl, if_true, if_false, ite_true, ite_false, not_true, not_false_eq_true, rl_letAllOut_l8, ro_count_ok cap_164, h5, c1, at1, a1]
    exact b1
theorem strC {E : List Nat} {M : e_Me} {x : bS} (hE : E.length ≤ 30) (hn : n ≤ 30) (h5 : M 164 1 = nI E.length) (h6 : ∀ j, j < E.length → M 165 j = nI (E.getD j 0)) (hP : cPx M np pe we wi se x) (hw : wPx n np pe we wi se x) : ∀ (L : List Nat) (i F : Nat) (a : Int32), L.length < F → i + L.length = E.length → (∀ j, j < L.length → E.getD (i + j) 0 = L.getD j 0) → (∀ c ∈ L, c < n) →
    rl_wouldStrand_l14 M F a (nI i) = some (L.foldl (fun a c => a - psn pe x c) a, M) := by
  intro L
  induction L with
  | nil =>
    intro i F a h1 h2 h3 h4
    obtain ⟨F, rfl⟩ : ∃ F', F = F' + 1 := ⟨F - 1, by omega⟩
    have e : i = E.length := by simpa using h2
    subst e
    simp (disch := omega) only [x_bd_s, x_bi_s, x_lt_e, x_rd_n, x_wr_n, x_ra_n, x_dv_n, s_lt, s_le, s_eq, s_lt0, s_le0, s_0lt, s_0le, s_eq0, s_sub, s_rem, s_div, s_in, bI_0, bI_1, x_gb_b, x_gb_0, x_gb_1, nI_add, nI_1, s_size, s_abs, s_max, iI_mul, iI_add, iI_neg, Nat.le_refl, Nat.lt_irrefl, if_true, if_false, ite_true, ite_false, not_true, not_false_eq_true, rl_wouldStrand_l14, ro_count_ok cap_164, h5]
    rfl
  | cons c L ih =>
    intro i F a h1 h2 h3 h4
    obtain ⟨F, rfl⟩ : ∃ F', F = F' + 1 := ⟨F - 1, by omega⟩
    rw [List.length_cons] at h1 h2 h3
    have c1 : ¬ E.length ≤ i := by omega
    have hcn := h4 c List.mem_cons_self
    have e0' : E.getD i 0 = c := h3 0 (by omega)
    have at1 := ro_at_ok (M := M) cap_164 h5 hE (show 30 ≤ 1000 by omega) (show i < E.length by omega)
    rw [show 164 + 1 = 165 from rfl, h6 i (by omega), e0'] at at1
    have pi := personsIn_ok hP hw (show c < 30 by omega)
    have ih2 := ih (i + 1) F (a - psn pe x c) (by omega) (by omega) (fun j hj => by
      have := h3 (j + 1) (by omega)
      rw [show i + 1 + j = i + (j + 1) by omega, this]
      rfl) (fun d hd => h4 d (List.mem_cons_of_mem _ hd))
    simp (disch := omega) only [x_bd_s, x_bi_s, x_lt_e, x_rd_n, x_wr_n, x_ra_n, x_dv_n, s_lt, s_le, s_eq, s_lt0, s_le0, s_0lt, s_0le, s_eq0, s_sub, s_rem, s_div, s_in, bI_0, bI_1, x_gb_b, x_gb_0, x_gb_1, nI_add, nI_1, s_size, s_abs, s_max, iI_mul, iI_add, iI_neg, Nat.le_refl, Nat.lt_irrefl, if_true, if_false, ite_true, ite_false, not_true, not_false_eq_true, rl_wouldStrand_l14, ro_count_ok cap_164, h5, c1, at1, pi]
    exact ih2
end
