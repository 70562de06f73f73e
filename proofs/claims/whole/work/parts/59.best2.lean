/-! THE BEST ORDER: the reference -/
theorem pkF_ge {r : Nat} : ∀ (F q x : Nat), x ≤ pkF r F q x
  | 0, _, x => Nat.le_refl _
  | F + 1, q, x => by
    rw [pkF]
    split
    · have := pkF_ge (r := r) F (if r.testBit x = true then q else q - 1) (x + 1)
      omega
    · exact Nat.le_refl _
theorem l46M {k11 : Int32 → Int32 → Int32 → Int32 → e_Me → Option e_Me} {a3 a4 a6 : Int32} {M : e_Me} {r p : Nat} (hr : r < 64) (hp : p < 6) : ∀ (G F q x : Nat), pkF r G q x = p → G + x = 7 → G < F → q ≤ 720 → md_layOrder_l46 k11 a3 a4 (nI r) a6 M F (nI q) (nI x) = md_layOrder_b89 k11 a3 a4 (nI r) a6 (nI p) M := by
  intro G
  induction G with
  | zero =>
    intro F q x h1 h2
    have : x = p := h1
    omega
  | succ G ih =>
    intro F q x h1 h2 h3 h4
    obtain ⟨F, rfl⟩ : ∃ F', F = F' + 1 := ⟨F - 1, by omega⟩
    have hx := pkF_ge (r := r) (G + 1) q x
    have hb := bit_i x (by omega) r hr
    rw [pkF] at h1
    cases ht : r.testBit x with
    | true =>
      rw [ht] at h1 hb
      rw [if_pos (Or.inr rfl), if_pos rfl] at h1
      have ih2 := ih F q (x + 1) h1 (by omega) (by omega) h4
      have e0 : nI q - (0 : Int32) = nI q := Int32.sub_zero _
      by_cases g : 0 < q
      · simp (disch := omega) only [md_layOrder_l46, s_0lt, g, if_true, md_layOrder_b62, hb, x_lt_e, e0, nI_1]
        exact ih2
      · simp (disch := omega) only [md_layOrder_l46, s_0lt, g, if_false, hb, if_true, md_layOrder_b62, x_lt_e, e0, nI_1]
        exact ih2
    | false =>
      rw [ht] at h1 hb
      have hb' : ((nI r >>> (nI x &&& 31)) &&& (1 : Int32) = 1) = False := by
        rw [hb]
        simp
      by_cases g : 0 < q
      · rw [if_pos (Or.inl g), if_neg (by simp)] at h1
        have ih2 := ih F (q - 1) (x + 1) h1 (by omega) (by omega) (by omega)
        have e0 : nI q - (1 : Int32) = nI (q - 1) := s_sub (b := 1) (by omega)
        simp (disch := omega) only [md_layOrder_l46, s_0lt, g, if_true, md_layOrder_b62, hb', if_false, x_lt_e, e0, nI_1]
        exact ih2
      · rw [if_neg (by simp [g])] at h1
        subst h1
        simp (disch := omega) only [md_layOrder_l46, s_0lt, g, if_false, hb']
section
variable {n t : Nat} {ld : Nat → Nat}
theorem l11M (hk6 : cnL n ld ≤ 6) : ∀ (G x w r i F : Nat) (M : e_Me) (L : List Nat), layF (cnL n ld) G x w r i = L → L.length = cnL n ld - i → i ≤ cnL n ld → (∀ q, q < L.length → lsF L q < cnL n ld) → r < 64 → x ≤ 720 → w ≤ 720 → G < F → M 182 24 = nI (cnL n ld) → (∀ q, q < cnL n ld → M 194 q = nI (loA ld n q)) →
    ∃ M', md_layOrder_l11 F (nI x) (nI w) (nI r) (nI i) M = some M' ∧ (∀ q, q < L.length → M' 195 (i + q) = nI (loA ld n (lsF L q))) ∧ ∀ a b, ¬ (a = 195 ∧ i ≤ b) → M' a b = M a b := by
  intro G
  induction G with
  | zero =>
    intro x w r i F M L h1 h2 h3 h4 h5 h6 h7 h8 h9 h10
    obtain ⟨F, rfl⟩ : ∃ F', F = F' + 1 := ⟨F - 1, by omega⟩
    have e : L = [] := h1.symm
    rw [e] at h2
    have c1 : cnL n ld ≤ i := by
      have : 0 = cnL n ld - i := h2
      omega
    refine ⟨M, by simp (disch := omega) only [md_layOrder_l11, h9, s_le, c1, if_true], fun q hq => ?_, fun a b _ => rfl⟩
    rw [e] at hq
    exact absurd hq (Nat.not_lt_zero _)
  | succ G ih =>
    intro x w r i F M L h1 h2 h3 h4 h5 h6 h7 h8 h9 h10
    obtain ⟨F, rfl⟩ : ∃ F', F = F' + 1 := ⟨F - 1, by omega⟩
    rw [layF] at h1
    by_cases c1 : cnL n ld ≤ i
    · rw [if_pos c1] at h1
      refine ⟨M, by simp (disch := omega) only [md_layOrder_l11, h9, s_le, c1, if_true], fun q hq => ?_, fun a b _ => rfl⟩
      rw [← h1] at hq
      exact absurd hq (Nat.not_lt_zero _)
    · rw [if_neg c1] at h1
      by_cases c2 : w / (cnL n ld - i) = 0
      · rw [if_pos c2] at h1
        rw [← h1] at h2
        have : 0 = cnL n ld - i := h2
        omega
      · rw [if_neg c2] at h1
        have c3 : 0 < w / (cnL n ld - i) := Nat.pos_of_ne_zero c2
        have w1 : w / (cnL n ld - i) ≤ w := Nat.div_le_self _ _
        have x1 : x / (w / (cnL n ld - i)) ≤ x := Nat.div_le_self _ _
        have x2 : x % (w / (cnL n ld - i)) ≤ x := Nat.mod_le _ _
        generalize hp : pkF r 7 (x / (w / (cnL n ld - i))) 0 = p at h1
        generalize hR : layF (cnL n ld) G (x % (w / (cnL n ld - i))) (w / (cnL n ld - i)) (r ||| 2 ^ p) (i + 1) = R at h1
        subst h1
        rw [List.length_cons] at h2 h4
        have hp6 : p < cnL n ld := h4 0 (by omega)
        obtain ⟨or1, or2⟩ := or_i p (by omega) r h5
        have l46 := l46M (k11 := md_layOrder_l11 F) (a3 := nI (x % (w / (cnL n ld - i)))) (a4 := nI (w / (cnL n ld - i))) (a6 := nI i) (M := M) h5 (show p < 6 by omega) 7 e_F (x / (w / (cnL n ld - i))) 0 hp (by omega) (by have := e_Fge; omega) (by omega)
        rw [nI_0] at l46
        generalize hA : e_up M 195 i (nI (loA ld n p)) = A
        obtain ⟨M', k1, k2, k3⟩ := ih (x % (w / (cnL n ld - i))) (w / (cnL n ld - i)) (r ||| 2 ^ p) (i + 1) F A R hR (by omega) (by omega) (fun q hq => h4 (q + 1) (by omega)) or2 (by omega) (by omega) (by omega) (by rw [← hA, e_up_o (by omega), h9]) (fun q hq => by rw [← hA, e_up_o (by omega), h10 q hq])
        refine ⟨M', ?_, fun q hq => ?_, fun a b hab => by rw [k3 a b (by omega), ← hA, e_up_o (by omega)]⟩
        · have es : nI (cnL n ld) - nI i = nI (cnL n ld - i) := s_sub (by omega)
          have d1 : nI w / nI (cnL n ld - i) = nI (w / (cnL n ld - i)) := s_div (by omega) (by omega) (by omega)
          have d2 : nI x / nI (w / (cnL n ld - i)) = nI (x / (w / (cnL n ld - i))) := s_div (by omega) (by omega) (by omega)
          have d3 : x_rem (nI x) (nI (w / (cnL n ld - i))) = nI (x % (w / (cnL n ld - i))) := s_rem (by omega) (by omega) (by omega)
          have v1 : ∀ v : Option e_Me, x_dv (nI (cnL n ld - i)) v = v := fun v => x_dv_n (by omega) (by omega) v
          have v2 : ∀ v : Option e_Me, x_dv (nI (w / (cnL n ld - i))) v = v := fun v => x_dv_n (by omega) (by omega) v
          simp (disch := omega) only [md_layOrder_l11, h9, s_le, c1, if_false, es, v1, d1, x_lt_e, v2, d2, d3, l46, md_layOrder_b89, or1, x_rd_n, h10 p hp6, x_wr_n, nI_1]
          rw [hA]
          exact k1
        · by_cases e : q = 0
          · subst e
            rw [Nat.add_zero, k3 _ _ (by omega), ← hA, e_up_e]
            rfl
          · have := k2 (q - 1) (by rw [List.length_cons] at hq; omega)
            rw [show i + 1 + (q - 1) = i + q by omega] at this
            rw [this]
            obtain ⟨q', rfl⟩ : ∃ q', q = q' + 1 := ⟨q - 1, by omega⟩
            rfl
/-- what the reference keeps as the best -/
def bstM (M : e_Me) (n t : Nat) (ld : Nat → Nat) (B : List Nat) : Prop := M 182 29 = nI (csT n t ld (lsF B) (cnL n ld)) ∧ M 182 30 = nI (stT n t ld (lsF B) (cnL n ld)) ∧ ∀ i, i < cnL n ld → M 196 i = nI (loA ld n (lsF B i))
/-- what stays while it tries -/
def stM (M : e_Me) (n t : Nat) (ld : Nat → Nat) : Prop := M 182 0 = nI n ∧ M 182 1 = nI t ∧ gM M n ld ∧ ∀ c, c < n → M 185 c = nI (ld c)
theorem stM_same {M M' : e_Me} (h : ∀ a b, ¬ ((a = 182 ∧ (27 ≤ b ∧ b ≤ 30)) ∨ a = 195 ∨ a = 196) → M' a b = M a b) (g : stM M n t ld) : stM M' n t ld := by
  obtain ⟨g1, g2, ⟨g3, g4, g5⟩, g6⟩ := g
  exact ⟨by rw [h _ _ (by omega), g1], by rw [h _ _ (by omega), g2], ⟨by rw [h _ _ (by omega), g3], fun i hi => by rw [h _ _ (by omega), g4 i hi], fun q hq => by rw [h _ _ (by omega), g5 q hq]⟩, fun c hc => by rw [h _ _ (by omega), g6 c hc]⟩
/-- an ORDER laid and tried -/
theorem layM {M : e_Me} {L : List Nat} {j : Nat} (hk : okn n) (ht : t < n) (h9 : ∀ c, c < 30 → ld c ≤ 900) (hk6 : cnL n ld ≤ 6) (hok : okL (cnL n ld) j L = true) (hj : j ≤ 720) (hs : stM M n t ld) : ∃ M1 M', md_layOrder (nI j) (nI (facN (cnL n ld))) M = some M1 ∧ md_tryOrder M1 = some M' ∧ M' 182 27 = nI (csT n t ld (lsF L) (cnL n ld)) ∧ M' 182 28 = nI (stT n t ld (lsF L) (cnL n ld)) ∧ (∀ i, i < cnL n ld → M' 195 i = nI (loA ld n (lsF L i))) ∧ ∀ a b, ¬ ((a = 182 ∧ (b = 27 ∨ b = 28)) ∨ a = 195) → M' a b = M a b := by
  obtain ⟨o1, o2, o3⟩ := okL_use hok
  have hf := fac_b hk6
  obtain ⟨A, a1, a2, a3⟩ := l11M (ld := ld) (n := n) hk6 7 j (facN (cnL n ld)) 0 0 e_F M L o3 (by omega) (Nat.zero_le _) (fun q hq => o2 q (by omega)) (by omega) hj (by omega) (by have := e_Fge; omega) hs.2.2.1.1 hs.2.2.1.2.1
  rw [nI_0] at a1
  have a2' : ∀ i, i < cnL n ld → A 195 i = nI (loA ld n (lsF L i)) := fun i hi => by
    have := a2 i (by omega)
    rw [Nat.zero_add] at this
    exact this
  have hsA : stM A n t ld := stM_same (fun a b hab => a3 a b (by omega)) hs
  obtain ⟨B, b1, b2, b3, b4⟩ := tryM hk ht h9 hk6 o2 hsA.1 hsA.2.1 hsA.2.2.1 a2' hsA.2.2.2
  exact ⟨A, B, a1, b1, b2, b3, fun i hi => by rw [b4 _ _ (by omega), a2' i hi], fun a b hab => by rw [b4 a b (by omega), a3 a b (by omega)]⟩
/-- kept as the best -/
theorem keepM {M : e_Me} {L : List Nat} {k34 : Int32 → e_Me → Option e_Me} {a1 : Int32} {j : Nat} (hk6 : cnL n ld ≤ 6) (hs : stM M n t ld) (h27 : M 182 27 = nI (csT n t ld (lsF L) (cnL n ld))) (h28 : M 182 28 = nI (stT n t ld (lsF L) (cnL n ld))) (h195 : ∀ i, i < cnL n ld → M 195 i = nI (loA ld n (lsF L i))) :
    ∃ M', md_findBest_b90 k34 a1 (nI j) M = k34 (nI (j + 1)) M' ∧ bstM M' n t ld L ∧ ∀ a b, ¬ ((a = 182 ∧ (b = 29 ∨ b = 30)) ∨ a = 196) → M' a b = M a b := by
  generalize hA : e_up (e_up M 182 29 (M 182 27)) 182 30 (M 182 28) = A
  have fA : ∀ a b, ¬ (a = 182 ∧ (b = 29 ∨ b = 30)) → A a b = M a b := fun a b hab => by rw [← hA, e_up_o (by omega), e_up_o (by omega)]
  have key : ∀ (d i F : Nat) (M1 : e_Me), i + d = cnL n ld → d < F → (∀ a b, ¬ (a = 196) → M1 a b = A a b) → (∀ q, q < i → M1 196 q = nI (loA ld n (lsF L q))) →
      ∃ M', md_findBest_l108 k34 a1 (nI j) F (nI i) M1 = k34 (nI (j + 1)) M' ∧ (∀ q, q < cnL n ld → M' 196 q = nI (loA ld n (lsF L q))) ∧ ∀ a b, ¬ (a = 196) → M' a b = A a b := by
    intro d
    induction d with
    | zero =>
      intro i F M1 e1 e2 h1 h2
      obtain ⟨F, rfl⟩ : ∃ F', F = F' + 1 := ⟨F - 1, by omega⟩
      have c1 : cnL n ld ≤ i := by omega
      have e : i = cnL n ld := by omega
      refine ⟨M1, ?_, by rw [← e]; exact h2, h1⟩
      simp (disch := omega) only [md_findBest_l108, h1 182 24 (by omega), fA 182 24 (by omega), hs.2.2.1.1, s_le, c1, if_true, nI_1]
    | succ d ih =>
      intro i F M1 e1 e2 h1 h2
      obtain ⟨F, rfl⟩ : ∃ F', F = F' + 1 := ⟨F - 1, by omega⟩
      have c1 : ¬ cnL n ld ≤ i := by omega
      obtain ⟨M', k1, k2, k3⟩ := ih (i + 1) F (e_up M1 196 i (nI (loA ld n (lsF L i)))) (by omega) (by omega) (fun a b hab => by rw [e_up_o (by omega), h1 a b hab]) (fun q hq => by
        by_cases e : q = i
        · subst e
          rw [e_up_e]
        · rw [e_up_o (by omega), h2 q (by omega)])
      refine ⟨M', ?_, k2, k3⟩
      simp (disch := omega) only [md_findBest_l108, h1 182 24 (by omega), fA 182 24 (by omega), hs.2.2.1.1, s_le, c1, if_false, x_rd_n, h1 195 i (by omega), fA 195 i (by omega), h195 i (by omega), x_wr_n, nI_1]
      exact k1
  obtain ⟨B, b1, b2, b3⟩ := key (cnL n ld) 0 e_F A (by omega) (by have := e_Fge; omega) (fun a b _ => rfl) (fun q hq => by omega)
  rw [nI_0] at b1
  refine ⟨B, ?_, ⟨?_, ?_, b2⟩, fun a b hab => by rw [b3 a b (by omega), fA a b (by omega)]⟩
  · have e28 : e_up M 182 29 (M 182 27) 182 28 = M 182 28 := e_up_o (by omega)
    simp only [md_findBest_b90, x_lt_e, e28]
    rw [hA]
    exact b1
  · rw [b3 _ _ (by omega), ← hA, e_up_o (by omega), e_up_e, h27]
  · rw [b3 _ _ (by omega), ← hA, e_up_e, h28]
theorem allM (hk : okn n) (ht : t < n) (h9 : ∀ c, c < 30 → ld c ≤ 900) (hk6 : cnL n ld ≤ 6) : ∀ (G j F : Nat) (M : e_Me) (L B : List Nat), chkP (cnL n ld) G j L = true → G < F → stM M n t ld → bstM M n t ld B →
    ∃ M', md_findBest_l34 (nI (facN (cnL n ld))) F (nI (j + 1)) M = some M' ∧ bstM M' n t ld (bsN n t ld G L B) ∧ ∀ a b, ¬ ((a = 182 ∧ (27 ≤ b ∧ b ≤ 30)) ∨ a = 195 ∨ a = 196) → M' a b = M a b := by
  have hb := okn_b hk
  have hfac := fac_b hk6
  intro G
  induction G with
  | zero => intro j F M L B h; cases h
  | succ G ih =>
    intro j F M L B hch hF hs hB
    obtain ⟨F, rfl⟩ : ∃ F', F = F' + 1 := ⟨F - 1, by omega⟩
    have hj := chk_fac hch
    rcases (chk_step hch).2 with ⟨z1, z2⟩ | ⟨i, L', z1, z2, z3, z4⟩
    · have eb : bsN n t ld (G + 1) L B = B := by simp only [bsN, z1]
      rw [eb, z2]
      exact ⟨M, by rw [md_findBest_l34, if_pos (Int32.le_refl _)], hB, fun a b _ => rfl⟩
    · have eb : bsN n t ld (G + 1) L B = bsN n t ld G L' (if btr n t ld L' B = true then L' else B) := by simp only [bsN, z1]
      rw [eb]
      have hj2 := chk_fac z4
      obtain ⟨G', rfl⟩ : ∃ G', G = G' + 1 := by
        cases G with
        | zero => cases z4
        | succ G' => exact ⟨G', rfl⟩
      obtain ⟨ok', -⟩ := chk_step z4
      obtain ⟨A, C, a1, c1, c2, c3, c4, c5⟩ := layM hk ht h9 hk6 ok' (by omega) hs
      have hsC : stM C n t ld := stM_same (fun a b hab => c5 a b (by omega)) hs
      have q1 : C 182 29 = nI (csT n t ld (lsF B) (cnL n ld)) := by rw [c5 _ _ (by omega), hB.1]
      have q2 : C 182 30 = nI (stT n t ld (lsF B) (cnL n ld)) := by rw [c5 _ _ (by omega), hB.2.1]
      have b1 := csT_b (t := t) (f := lsF L') hk h9 (cnL n ld)
      have b2 := csT_b (t := t) (f := lsF B) hk h9 (cnL n ld)
      have b3 := stT_b (t := t) (ld := ld) (f := lsF L') (show 0 < n by omega) hb.2 (cnL n ld)
      have b4 := stT_b (t := t) (ld := ld) (f := lsF B) (show 0 < n by omega) hb.2 (cnL n ld)
      have cj : ¬ facN (cnL n ld) ≤ j + 1 := by omega
      have em : (nI (csT n t ld (lsF B) (cnL n ld)) = (-1 : Int32)) = False := by
        rw [nI_iI, ← iI_m1, iI_eq (by omega) (by omega) (by omega) (by omega)]
        exact eq_false (by omega)
      obtain ⟨D, d1, d2, d3⟩ := keepM (k34 := md_findBest_l34 (nI (facN (cnL n ld))) F) (a1 := nI (facN (cnL n ld))) (j := j + 1) hk6 hsC c2 c3 c4
      have hsD : stM D n t ld := stM_same (fun a b hab => d3 a b (by omega)) hsC
      have hBC : bstM C n t ld B := ⟨q1, q2, fun i hi => by rw [c5 _ _ (by omega)]; exact hB.2.2 i hi⟩
      obtain ⟨E1, e1, e2, e3⟩ := ih (j + 1) F D L' L' z4 (by omega) hsD d2
      obtain ⟨E2, f1, f2, f3⟩ := ih (j + 1) F C L' B z4 (by omega) hsC hBC
      by_cases g1 : csT n t ld (lsF L') (cnL n ld) < csT n t ld (lsF B) (cnL n ld)
      · have gb : btr n t ld L' B = true := decide_eq_true (Or.inl g1)
        rw [gb, if_pos rfl]
        refine ⟨E1, ?_, e2, fun a b hab => by rw [e3 a b hab, d3 a b (by omega), c5 a b (by omega)]⟩
        simp (disch := omega) only [md_findBest_l34, s_le, cj, if_false, a1, x_bd_s, c1, q1, em, c2, s_lt, g1, if_true, d1]
        exact e1
      · by_cases g2 : csT n t ld (lsF L') (cnL n ld) = csT n t ld (lsF B) (cnL n ld)
        · by_cases g3 : stT n t ld (lsF L') (cnL n ld) < stT n t ld (lsF B) (cnL n ld)
          · have gb : btr n t ld L' B = true := decide_eq_true (Or.inr ⟨g2, g3⟩)
            rw [gb, if_pos rfl]
            have g4 : ¬ stT n t ld (lsF B) (cnL n ld) ≤ stT n t ld (lsF L') (cnL n ld) := by omega
            refine ⟨E1, ?_, e2, fun a b hab => by rw [e3 a b hab, d3 a b (by omega), c5 a b (by omega)]⟩
            simp (disch := omega) only [md_findBest_l34, s_le, cj, if_false, a1, x_bd_s, c1, q1, em, c2, s_lt, g2, Nat.lt_irrefl, if_true, q2, c3, g4, d1]
            exact e1
          · have gb : btr n t ld L' B = false := decide_eq_false (by omega)
            rw [gb, if_neg (by simp)]
            have g4 : stT n t ld (lsF B) (cnL n ld) ≤ stT n t ld (lsF L') (cnL n ld) := by omega
            refine ⟨E2, ?_, f2, fun a b hab => by rw [f3 a b hab, c5 a b (by omega)]⟩
            simp (disch := omega) only [md_findBest_l34, s_le, cj, if_false, a1, x_bd_s, c1, q1, em, c2, s_lt, g2, Nat.lt_irrefl, if_true, q2, c3, g4, nI_1]
            exact f1
        · have gb : btr n t ld L' B = false := decide_eq_false (by omega)
          rw [gb, if_neg (by simp)]
          refine ⟨E2, ?_, f2, fun a b hab => by rw [f3 a b hab, c5 a b (by omega)]⟩
          simp (disch := omega) only [md_findBest_l34, s_le, cj, if_false, a1, x_bd_s, c1, q1, em, c2, s_lt, g1, s_eq, g2, nI_1]
          exact f1
theorem findBM {M : e_Me} (hk : okn n) (ht : t < n) (h9 : ∀ c, c < 30 → ld c ≤ 900) (hk6 : cnL n ld ≤ 6) (hs : stM M n t ld) : ∃ M', md_findBest M = some M' ∧ bstM M' n t ld (bsN n t ld 721 (List.range (cnL n ld)) (List.range (cnL n ld))) ∧ ∀ a b, ¬ ((a = 182 ∧ (27 ≤ b ∧ b ≤ 30)) ∨ a = 195 ∨ a = 196) → M' a b = M a b := by
  have hfac := fac_b hk6
  have hF := e_Fge
  have fc : md_findBest M = md_findBest_b22 (nI (facN (cnL n ld))) M := by
    have key : ∀ (d a F : Nat), a + d = cnL n ld → d < F → 1 ≤ a → md_findBest_l4 M F (nI (facN a)) (nI (a + 1)) = md_findBest_b22 (nI (facN (cnL n ld))) M := by
      intro d
      induction d with
      | zero =>
        intro a F e1 e2 e3
        obtain ⟨F, rfl⟩ : ∃ F', F = F' + 1 := ⟨F - 1, by omega⟩
        have e : a = cnL n ld := by omega
        have c1 : cnL n ld < a + 1 := by omega
        rw [e] at c1 ⊢
        simp (disch := omega) only [md_findBest_l4, hs.2.2.1.1, s_lt, c1, if_true]
      | succ d ih =>
        intro a F e1 e2 e3
        obtain ⟨F, rfl⟩ : ∃ F', F = F' + 1 := ⟨F - 1, by omega⟩
        have c1 : ¬ cnL n ld < a + 1 := by omega
        have em : nI (facN a) * nI (a + 1) = nI (facN (a + 1)) := by
          rw [pk_mul, Nat.mul_comm]
          rfl
        simp (disch := omega) only [md_findBest_l4, hs.2.2.1.1, s_lt, c1, if_false, x_lt_e, em, nI_1]
        exact ih (a + 1) F (by omega) (by omega) (by omega)
    rcases Nat.eq_zero_or_pos (cnL n ld) with z | z
    · obtain ⟨F, hF⟩ : ∃ F', e_F = F' + 1 := ⟨e_F - 1, by omega⟩
      have e1 : (nI 0 < (2 : Int32)) = True := by decide
      simp only [md_findBest, hF, md_findBest_l4, hs.2.2.1.1, z, e1, if_true]
      rfl
    · exact key (cnL n ld - 1) 1 e_F (by omega) (by omega) (by omega)
  generalize hA : e_up (e_up M 182 29 (-1)) 182 30 0 = A
  have fA : ∀ a b, ¬ (a = 182 ∧ (b = 29 ∨ b = 30)) → A a b = M a b := fun a b hab => by rw [← hA, e_up_o (by omega), e_up_o (by omega)]
  have hsA : stM A n t ld := stM_same (fun a b hab => fA a b (by omega)) hs
  have hch := chk_ok (cnL n ld) hk6
  obtain ⟨B, C, b1, c1, c2, c3, c4, c5⟩ := layM hk ht h9 hk6 (chk_step hch).1 (by omega) hsA
  have hsC : stM C n t ld := stM_same (fun a b hab => c5 a b (by omega)) hsA
  obtain ⟨F, hF⟩ : ∃ F', e_F = F' + 1 := ⟨e_F - 1, by omega⟩
  obtain ⟨D, d1, d2, d3⟩ := keepM (k34 := md_findBest_l34 (nI (facN (cnL n ld))) F) (a1 := nI (facN (cnL n ld))) (j := 0) hk6 hsC c2 c3 c4
  have hsD : stM D n t ld := stM_same (fun a b hab => d3 a b (by omega)) hsC
  obtain ⟨E, e1, e2, e3⟩ := allM hk ht h9 hk6 721 0 F D (List.range (cnL n ld)) (List.range (cnL n ld)) hch (by omega) hsD d2
  refine ⟨E, ?_, e2, fun a b hab => by rw [e3 a b hab, d3 a b (by omega), c5 a b (by omega), fA a b (by omega)]⟩
  have c29 : C 182 29 = -1 := by rw [c5 _ _ (by omega), ← hA, e_up_o (by omega), e_up_e]
  have em1 : ((-1 : Int32) = -1) = True := eq_true rfl
  have cj : ¬ facN (cnL n ld) ≤ 0 := by omega
  rw [nI_0] at b1 d1
  rw [fc]
  simp only [md_findBest_b22, x_lt_e]
  rw [hA, hF]
  simp (disch := omega) only [md_findBest_l34, s_le0, show (facN (cnL n ld) = 0) = False from eq_false (by omega), if_false, b1, x_bd_s, c1, c29, em1, if_true, d1]
  exact e1
end
/-! order, ordered -/
section
variable {M : e_Me}
theorem em_inv {M2 : e_Me} {k' : Nat} (h : Inv M) (hf : ∀ i j, kp i j → ¬ (i = 87 ∧ j = 10) → ¬ (i = 182 ∧ j = 21) → M2 i j = M i j) (h1 : M2 87 10 = nI k') (h2 : M2 182 21 = nI k') (h3 : k' ≤ 30) : Inv M2 := by
  obtain ⟨n, t, ld, g1, ⟨w, s0, d, g2⟩, ⟨b, x, c, p, g3⟩, ⟨k, s, q, g4⟩, ⟨k2, r, v, m, g5⟩, ⟨lo, hi, g6⟩, ⟨k3, g7⟩, np, pe, we, wi, wh, se, pa, l, ln, sc, cb, g8, g9, g10⟩ := h
  have hP : ∀ i j, kP i j → M2 i j = M i j := fun i j q => hf i j (by unfold kp; simp [q]) (by unfold kP at q; omega) (by unfold kP at q; omega)
  obtain ⟨o1, o2, o3, o4, o5, o6⟩ := g7
  exact ⟨n, t, ld, bW_same (fun i j q => hf i j (by unfold kp; simp [q]) (by unfold kW at q; omega) (by unfold kW at q; omega)) g1, ⟨w, s0, d, bG_same (fun i j q => hf i j (by unfold kp; simp [q]) (by unfold kG at q; omega) (by unfold kG at q; omega)) g2⟩, ⟨b, x, c, p, bU_same (fun i j q => hf i j (by unfold kp; simp [q]) (by unfold kU at q; omega) (by unfold kU at q; omega)) g3⟩, ⟨k, s, q, bN_same (fun i j q => hf i j (by unfold kp; simp [q]) (by unfold kN at q; omega) (by unfold kN at q; omega)) g4⟩, ⟨k2, r, v, m, bR_same (fun i j q => hf i j (by unfold kp; simp [q]) (by unfold kR at q; omega) (by unfold kR at q; omega)) g5⟩, ⟨lo, hi, bH_same (fun i j q => hf i j (by unfold kp; simp [q]) (by unfold kH at q; omega) (by unfold kH at q; omega)) g6⟩, ⟨k', h1, h2, h3, fun t ht => by rw [hf 95 t (by unfold kp kO; simp) (by omega) (by omega), o4 t ht], by rw [hf 160 0 (by unfold kp kO; simp) (by omega) (by omega), o5], by rw [hf 161 0 (by unfold kp kO; simp) (by omega) (by omega), o6]⟩, np, pe, we, wi, wh, se, pa, l, ln, sc, cb, cP_same (fun i j a1 a2 => hP i j (by unfold kP; omega)) g8, mP_same (fun i j a => hP i j (by unfold kP; omega)) g9, g10⟩
/-- the reference's part of both -/
theorem findLM {n t : Nat} {ld : Nat → Nat} {M1 : e_Me} (hn : n ≤ 30) (h9 : ∀ c, c < 30 → ld c ≤ 900) (h0 : M1 182 0 = nI n) (h1 : M1 182 1 = nI t) (hl : ∀ c, c < 30 → M1 185 c = nI (ld c)) {k9 : Nat} (h21 : M1 182 21 = nI k9) : ∃ A, md_findLoaded M1 = some A ∧ stM A n t ld ∧ A 182 21 = nI k9 ∧ ∀ a b, ¬ (a = 193 ∨ a = 194 ∨ (a = 182 ∧ b = 24)) → A a b = M1 a b := by
  obtain ⟨A, a1, a2, a3⟩ := findM hn (fun c hc => h9 c (by omega)) h0 (fun c hc => hl c (by omega))
  exact ⟨A, a1, ⟨by rw [a3 _ _ (by omega), h0], by rw [a3 _ _ (by omega), h1], a2, fun c hc => by rw [a3 _ _ (by omega), hl c (by omega)]⟩, by rw [a3 _ _ (by omega), h21], a3⟩
theorem l_order (h : Inv M) (x : Int32) : ∃ r M1 M2, ew_order x M = some (r, M1) ∧ md_order x M1 = some (r, M2) ∧ Inv M2 := by
  obtain ⟨n, t, ld, ⟨hc, hn, ht, hl⟩, hG, hU, hN, hR, hH, ⟨k9, hO⟩, hrest⟩ := id h
  have hb := okn_b hc.1
  have h9 := hc.2.2.2.2.2.2.2
  have hcn := cnL_le n ld
  have o2 := hO.2.1
  have o3 := hO.2.2.1
  have e60 : nI 2 - 1 = (1 : Int32) := rfl
  rcases pk_ix x (n := 2) (by omega) with g | g | ⟨m, hm, rfl⟩
  · have i1 := in_no (M := M) (n := 2) (by omega) (Or.inl g)
    rw [e60] at i1
    refine ⟨-102, M, M, ?_, by simp only [md_order, i1, x_bd_s, if_true], h⟩
    simp only [ew_order]
    rw [if_pos g]
  · have i1 := in_no (M := M) (n := 2) (by omega) (Or.inr g)
    rw [e60] at i1
    refine ⟨-102, M, M, ?_, by simp only [md_order, i1, x_bd_s, if_true], h⟩
    obtain ⟨z, rfl, z1, z2⟩ := iI_of x
    rw [nI_iI, iI_le (by omega) (by omega) z1 z2] at g
    have f1 : ¬ iI z < 0 := by
      rw [iI_lt0 z1 z2]
      omega
    have f2 : ¬ iI z ≤ (1 : Int32) := by
      rw [show (1 : Int32) = iI 1 from rfl, iI_le z1 z2 (by omega) (by omega)]
      omega
    simp only [ew_order]
    rw [if_neg f1, if_neg f2]
  · have i1 : ∀ M3 : e_Me, md_in (nI m).toInt64 (0 : Int32).toInt64 (1 : Int32).toInt64 M3 = some 1 := fun M3 => by
      have i0 := in_yes (M := M3) hm (show 2 < 2147483648 by omega)
      rw [e60] at i0
      exact i0
    have f2 : m ≤ 1 := by omega
    rcases findC hc hO with ⟨x1, M1, x2, x3⟩ | ⟨x0, x1, M1, x2, x3, ⟨fo, x4⟩, x5, x6⟩
    · have f : ∀ i j, kp i j → M1 i j = M i j := fun i j hk => x3 i j (by
        unfold emF
        unfold kp kW kG kU kN kR kH kO kP at hk
        omega)
      have f1 : ∀ i j, 182 ≤ i → M1 i j = M i j := fun i j hk => x3 i j (by unfold emF; omega)
      obtain ⟨A, a1, a2, a3, a4⟩ := findLM (M1 := M1) hb.2 h9 (by rw [f1 _ _ (by omega), hn]) (by rw [f1 _ _ (by omega), ht]) (fun c hc => by rw [f1 _ _ (by omega), hl c hc]) (by rw [f1 _ _ (by omega), o2])
      refine ⟨-103, M1, A, ?_, ?_, Inv_same (fun i j hk => by rw [a4 i j (by unfold kp kW kG kU kN kR kH kO kP at hk; omega), f i j hk]) h⟩
      · simp (disch := omega) only [ew_order, s_lt0, if_false, show (1 : Int32) = nI 1 from rfl, s_le, f2, if_true, x2, x_bi_s]
      · simp only [md_order, i1, x_bd_s, s_10, if_false, a1, a2.2.2.1.1, show (6 : Int32) = nI 6 from rfl, show (30 : Int32) = nI 30 from rfl, a3]
        by_cases q : 6 < cnL n ld
        · simp (disch := omega) only [s_lt, q, if_true]
        · have q2 : k9 = 30 := by omega
          simp (disch := omega) only [s_lt, q, if_false, s_eq, q2, if_true]
    · have f : ∀ i j, kp i j → ¬ (i = 87 ∧ j = 10) → M1 i j = M i j := fun i j hk h87 => x6 i j (by
        unfold emF
        unfold kp kW kG kU kN kR kH kO kP at hk
        omega)
      have f1 : ∀ i j, 182 ≤ i → M1 i j = M i j := fun i j hk => x6 i j (by unfold emF; omega)
      obtain ⟨A, a1, a2, a3, a4⟩ := findLM (M1 := M1) hb.2 h9 (by rw [f1 _ _ (by omega), hn]) (by rw [f1 _ _ (by omega), ht]) (fun c hc => by rw [f1 _ _ (by omega), hl c hc]) (by rw [f1 _ _ (by omega), o2])
      generalize hB : e_up A 182 21 (nI (k9 + 1)) = B
      have fB : ∀ i j, ¬ (i = 182 ∧ j = 21) → B i j = A i j := fun i j hij => by rw [← hB, e_up_o (by omega)]
      have hsB : stM B n t ld := by
        obtain ⟨g1, g2, ⟨g3, g4, g5⟩, g6⟩ := a2
        exact ⟨by rw [fB _ _ (by omega), g1], by rw [fB _ _ (by omega), g2], ⟨by rw [fB _ _ (by omega), g3], fun i hi => by rw [fB _ _ (by omega), g4 i hi], fun q hq => by rw [fB _ _ (by omega), g5 q hq]⟩, fun c hc => by rw [fB _ _ (by omega), g6 c hc]⟩
      have q : ¬ 6 < cnL n ld := by omega
      have q2 : ¬ k9 = 30 := by omega
      have inv : ∀ M2 : e_Me, (∀ a b, ¬ ((a = 182 ∧ (27 ≤ b ∧ b ≤ 30)) ∨ a = 195 ∨ a = 196) → M2 a b = B a b) → Inv M2 := fun M2 h2 => em_inv (k' := k9 + 1) h (fun i j hk z1 z2 => by
        rw [h2 i j (by unfold kp kW kG kU kN kR kH kO kP at hk; omega), fB i j z2, a4 i j (by unfold kp kW kG kU kN kR kH kO kP at hk; omega), f i j hk z1]) (by rw [h2 _ _ (by omega), fB _ _ (by omega), a4 _ _ (by omega), x5]) (by rw [h2 _ _ (by omega), ← hB, e_up_e]) (by omega)
      have e24 : B 182 24 = nI (cnL n ld) := hsB.2.2.1.1
      by_cases z : cnL n ld = 0
      · refine ⟨-1, M1, B, ?_, ?_, inv B (fun a b _ => rfl)⟩
        · have e92 : M1 92 1 = 0 := by rw [x3.1, z]; rfl
          simp (disch := omega) only [ew_order, s_lt0, if_false, show (1 : Int32) = nI 1 from rfl, s_le, f2, if_true, x2, x_bi_s, s_eq0, show ((1 : Nat) = 0) = False by decide, em_cabinsOfBest, ro_count_ok cap_em.2.2, e92, x_bd_s]
        · simp (disch := omega) only [md_order, i1, x_bd_s, s_10, if_false, a1, a2.2.2.1.1, show (6 : Int32) = nI 6 from rfl, show (30 : Int32) = nI 30 from rfl, a3, s_lt, q, s_eq, q2, nI_1, x_lt_e]
          rw [hB]
          simp (disch := omega) only [e24, s_eq0, z, if_true]
      · obtain ⟨C, c1, c2, c3⟩ := findBM hc.1 hc.2.1 h9 x1 hsB
        have e92 : M1 92 1 = nI (cnL n ld) := x3.1
        by_cases zm : m = 0
        · refine ⟨M1 87 8, M1, C, ?_, ?_, inv C c3⟩
          · simp (disch := omega) only [ew_order, s_lt0, if_false, show (1 : Int32) = nI 1 from rfl, s_le, f2, if_true, x2, x_bi_s, s_eq0, show ((1 : Nat) = 0) = False by decide, em_cabinsOfBest, ro_count_ok cap_em.2.2, e92, x_bd_s, z, zm, em_costOfBest, Nat.zero_le]
          · simp (disch := omega) only [md_order, i1, x_bd_s, s_10, if_false, a1, a2.2.2.1.1, show (6 : Int32) = nI 6 from rfl, show (30 : Int32) = nI 30 from rfl, a3, s_lt, q, s_eq, q2, nI_1, x_lt_e]
            rw [hB]
            simp (disch := omega) only [e24, s_eq0, z, if_false, c1, x_bd_s, zm, if_true, c2.1, x3.2.2.1]
        · refine ⟨M1 87 9, M1, C, ?_, ?_, inv C c3⟩
          · simp (disch := omega) only [ew_order, s_lt0, if_false, show (1 : Int32) = nI 1 from rfl, s_le, f2, if_true, x2, x_bi_s, s_eq0, show ((1 : Nat) = 0) = False by decide, em_cabinsOfBest, ro_count_ok cap_em.2.2, e92, x_bd_s, z, zm, em_stepsOfBest]
          · simp (disch := omega) only [md_order, i1, x_bd_s, s_10, if_false, a1, a2.2.2.1.1, show (6 : Int32) = nI 6 from rfl, show (30 : Int32) = nI 30 from rfl, a3, s_lt, q, s_eq, q2, nI_1, x_lt_e]
            rw [hB]
            simp (disch := omega) only [e24, s_eq0, z, if_false, c1, x_bd_s, zm, c2.2.1, x3.2.2.2]
theorem l_ordered (h : Inv M) (x : Int32) : ∃ r M1 M2, ew_ordered x M = some (r, M1) ∧ md_ordered x M1 = some (r, M2) ∧ Inv M2 := by
  obtain ⟨n, t, ld, ⟨hc, hn, ht, hl⟩, hG, hU, hN, hR, hH, ⟨k9, hO⟩, hrest⟩ := id h
  have hb := okn_b hc.1
  have h9 := hc.2.2.2.2.2.2.2
  have hcn := cnL_le n ld
  have o2 := hO.2.1
  have o3 := hO.2.2.1
  rcases findC hc hO with ⟨x1, M1, x2, x3⟩ | ⟨x0, x1, M1, x2, x3, ⟨fo, x4⟩, x5, x6⟩
  · have f : ∀ i j, kp i j → M1 i j = M i j := fun i j hk => x3 i j (by
      unfold emF
      unfold kp kW kG kU kN kR kH kO kP at hk
      omega)
    have f1 : ∀ i j, 182 ≤ i → M1 i j = M i j := fun i j hk => x3 i j (by unfold emF; omega)
    obtain ⟨A, a1, a2, a3, a4⟩ := findLM (M1 := M1) hb.2 h9 (by rw [f1 _ _ (by omega), hn]) (by rw [f1 _ _ (by omega), ht]) (fun c hc => by rw [f1 _ _ (by omega), hl c hc]) (by rw [f1 _ _ (by omega), o2])
    refine ⟨-103, M1, A, ?_, ?_, Inv_same (fun i j hk => by rw [a4 i j (by unfold kp kW kG kU kN kR kH kO kP at hk; omega), f i j hk]) h⟩
    · simp only [ew_ordered, x2, x_bi_s, if_true]
    · simp only [md_ordered, a1, x_bd_s, a2.2.2.1.1, show (6 : Int32) = nI 6 from rfl, show (30 : Int32) = nI 30 from rfl, a3]
      by_cases q : 6 < cnL n ld
      · simp (disch := omega) only [s_lt, q, if_true]
      · have q2 : k9 = 30 := by omega
        simp (disch := omega) only [s_lt, q, if_false, s_eq, q2, if_true]
  · have f : ∀ i j, kp i j → ¬ (i = 87 ∧ j = 10) → M1 i j = M i j := fun i j hk h87 => x6 i j (by
      unfold emF
      unfold kp kW kG kU kN kR kH kO kP at hk
      omega)
    have f1 : ∀ i j, 182 ≤ i → M1 i j = M i j := fun i j hk => x6 i j (by unfold emF; omega)
    obtain ⟨A, a1, a2, a3, a4⟩ := findLM (M1 := M1) hb.2 h9 (by rw [f1 _ _ (by omega), hn]) (by rw [f1 _ _ (by omega), ht]) (fun c hc => by rw [f1 _ _ (by omega), hl c hc]) (by rw [f1 _ _ (by omega), o2])
    generalize hB : e_up A 182 21 (nI (k9 + 1)) = B
    have fB : ∀ i j, ¬ (i = 182 ∧ j = 21) → B i j = A i j := fun i j hij => by rw [← hB, e_up_o (by omega)]
    have hsB : stM B n t ld := by
      obtain ⟨g1, g2, ⟨g3, g4, g5⟩, g6⟩ := a2
      exact ⟨by rw [fB _ _ (by omega), g1], by rw [fB _ _ (by omega), g2], ⟨by rw [fB _ _ (by omega), g3], fun i hi => by rw [fB _ _ (by omega), g4 i hi], fun q hq => by rw [fB _ _ (by omega), g5 q hq]⟩, fun c hc => by rw [fB _ _ (by omega), g6 c hc]⟩
    have q : ¬ 6 < cnL n ld := by omega
    have q2 : ¬ k9 = 30 := by omega
    have inv : ∀ M2 : e_Me, (∀ a b, ¬ ((a = 182 ∧ (27 ≤ b ∧ b ≤ 30)) ∨ a = 195 ∨ a = 196) → M2 a b = B a b) → Inv M2 := fun M2 h2 => em_inv (k' := k9 + 1) h (fun i j hk z1 z2 => by
      rw [h2 i j (by unfold kp kW kG kU kN kR kH kO kP at hk; omega), fB i j z2, a4 i j (by unfold kp kW kG kU kN kR kH kO kP at hk; omega), f i j hk z1]) (by rw [h2 _ _ (by omega), fB _ _ (by omega), a4 _ _ (by omega), x5]) (by rw [h2 _ _ (by omega), ← hB, e_up_e]) (by omega)
    have e24 : B 182 24 = nI (cnL n ld) := hsB.2.2.1.1
    have hk2 : cnL n ld < 2147483648 := by omega
    have no : (x < 0 ∨ nI (cnL n ld) ≤ x) → ∃ r M1 M2, ew_ordered x M = some (r, M1) ∧ md_ordered x M1 = some (r, M2) ∧ Inv M2 := fun g => by
      have r1 := ro_at_no cap_em.2.2 x3.1 g
      have r2 := ro_at_no (M := M1) (x := -1) cap_em.1 x4.1 (Or.inl (by decide))
      have i1 := in_no (M := B) hk2 g
      refine ⟨-1, M1, B, ?_, ?_, inv B (fun a b _ => rfl)⟩
      · simp only [ew_ordered, x2, x_bi_s, s_10, if_false, em_cabinOfBest, r1, x_bd_s, r2]
      · simp (disch := omega) only [md_ordered, x_bd_s, if_false, a1, a2.2.2.1.1, show (6 : Int32) = nI 6 from rfl, show (30 : Int32) = nI 30 from rfl, a3, s_lt, q, s_eq, q2, nI_1, x_lt_e]
        rw [hB]
        simp only [e24, i1, x_bd_s, if_true]
    rcases pk_ix x (n := cnL n ld) (by omega) with g | g | ⟨i, hi, rfl⟩
    · exact no (Or.inl g)
    · exact no (Or.inr g)
    · obtain ⟨C, c1, c2, c3⟩ := findBM hc.1 hc.2.1 h9 x1 hsB
      generalize bsN n t ld 721 (List.range (cnL n ld)) (List.range (cnL n ld)) = best at x3 c2
      obtain ⟨b1, b2⟩ := x3.2.1 i hi
      have r1 := ro_at_ok (M := M1) cap_em.2.2 x3.1 x1 (show 6 ≤ 1000 by omega) hi
      rw [show 92 + 1 = 93 from rfl, b1] at r1
      have r2 := ro_at_ok (M := M1) cap_em.1 x4.1 x1 (show 6 ≤ 1000 by omega) b2
      rw [show 88 + 1 = 89 from rfl, (x4.2.2.1 _ b2).1] at r2
      have i1 := in_yes (M := B) hi hk2
      refine ⟨nI (loA ld n (lsF best i)), M1, C, ?_, ?_, inv C c3⟩
      · simp only [ew_ordered, x2, x_bi_s, s_10, if_false, em_cabinOfBest, r1, x_bd_s, r2]
      · simp (disch := omega) only [md_ordered, x_bd_s, if_false, a1, a2.2.2.1.1, show (6 : Int32) = nI 6 from rfl, show (30 : Int32) = nI 30 from rfl, a3, s_lt, q, s_eq, q2, nI_1, x_lt_e]
        rw [hB]
        simp (disch := omega) only [e24, i1, x_bd_s, s_10, if_false, c1, x_rd_n, c2.2.2 i hi]
end
