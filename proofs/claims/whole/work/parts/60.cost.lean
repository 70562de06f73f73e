/-! cost: an ORDER by its figures -/
def pcN (r : Nat) : Nat := (if r.testBit 0 = true then 1 else 0) + (if r.testBit 1 = true then 1 else 0) + (if r.testBit 2 = true then 1 else 0) + (if r.testBit 3 = true then 1 else 0) + (if r.testBit 4 = true then 1 else 0) + (if r.testBit 5 = true then 1 else 0)
theorem pc_clr : ∀ q, q < 6 → ∀ r, r < 64 → (r.testBit q = true → pcN (clr r q) + 1 = pcN r) ∧ (r.testBit q = false → clr r q = r) := by decide +kernel
theorem pc_0 : ∀ r, r < 64 → pcN r = 0 → r = 0 := by decide +kernel
theorem pc_all : ∀ k, k < 7 → pcN (2 ^ k - 1) = k := by decide +kernel
theorem clr_lt {r q : Nat} (h : r < 64) : clr r q < 64 := by
  have := clr_le r q
  omega
/-- which places the figures name: the class; the reference -/
def tkF (n : Nat) (ld : Nat → Nat) : Nat → Nat → Nat → (Nat → Nat) → Option ((Nat → Nat) × Nat × Nat)
  | 0, V, r, f => some (f, r, V)
  | i + 1, V, r, f => if V % 30 < n ∧ ld (V % 30) ≠ 0 then tkF n ld i (V / 30) (clr r (cnL (V % 30) ld)) (upn f i (cnL (V % 30) ld)) else none
def tmF (n : Nat) (ld : Nat → Nat) : Nat → Nat → Nat → (Nat → Nat) → Option ((Nat → Nat) × Nat)
  | 0, V, _, f => some (f, V)
  | i + 1, V, r, f => if (V % 30 < n ∧ ld (V % 30) ≠ 0) ∧ r.testBit (cnL (V % 30) ld) = true then tmF n ld i (V / 30) (clr r (cnL (V % 30) ld)) (upn f i (cnL (V % 30) ld)) else none
section
variable {n : Nat} {ld : Nat → Nat}
theorem tk_pc (hk6 : cnL n ld ≤ 6) : ∀ (i V r : Nat) (f f' : Nat → Nat) (r' V' : Nat), r < 64 → tkF n ld i V r f = some (f', r', V') → pcN r ≤ pcN r' + i ∧ r' < 64
  | 0, V, r, f, f', r', V', hr, h => by
    cases h
    exact ⟨Nat.le_refl _, hr⟩
  | i + 1, V, r, f, f', r', V', hr, h => by
    rw [tkF] at h
    split at h
    · rename_i g
      have hlt := cnL_lt g.1 g.2
      obtain ⟨h1, h2⟩ := tk_pc hk6 i _ _ _ _ _ _ (clr_lt hr) h
      refine ⟨?_, h2⟩
      obtain ⟨p1, p2⟩ := pc_clr (cnL (V % 30) ld) (by omega) r hr
      cases hb : r.testBit (cnL (V % 30) ld) with
      | true =>
        have := p1 hb
        omega
      | false =>
        rw [p2 hb] at h1
        omega
    · cases h
theorem tk_tm (hk6 : cnL n ld ≤ 6) : ∀ (i V r : Nat) (f : Nat → Nat), r < 64 → pcN r = i → match tmF n ld i V r f with
    | some (f', V') => tkF n ld i V r f = some (f', 0, V')
    | none => tkF n ld i V r f = none ∨ ∃ f' r' V', tkF n ld i V r f = some (f', r', V') ∧ r' ≠ 0 ∧ r' < 64
  | 0, V, r, f, hr, hp => by
    have := pc_0 r hr hp
    subst this
    rfl
  | i + 1, V, r, f, hr, hp => by
    rw [tmF, tkF]
    by_cases g : V % 30 < n ∧ ld (V % 30) ≠ 0
    · have hlt := cnL_lt g.1 g.2
      obtain ⟨p1, p2⟩ := pc_clr (cnL (V % 30) ld) (by omega) r hr
      rw [if_pos g]
      cases hb : r.testBit (cnL (V % 30) ld) with
      | true =>
        rw [if_pos ⟨g, rfl⟩]
        have := p1 hb
        exact tk_tm hk6 i _ _ _ (clr_lt hr) (by omega)
      | false =>
        rw [if_neg (by simp)]
        simp only
        rw [p2 hb]
        cases ht : tkF n ld i (V / 30) r (upn f i (cnL (V % 30) ld)) with
        | none => exact Or.inl rfl
        | some q =>
          obtain ⟨f', r', V'⟩ := q
          have h1 := tk_pc hk6 i _ _ _ _ _ _ hr ht
          refine Or.inr ⟨f', r', V', rfl, fun z => ?_, h1.2⟩
          subst z
          have : pcN 0 = 0 := by decide
          omega
    · rw [if_neg g, if_neg (fun h => g h.1)]
      exact Or.inl rfl
theorem tm_b : ∀ (i V r : Nat) (f f' : Nat → Nat) (V' : Nat), tmF n ld i V r f = some (f', V') → (∀ p, i ≤ p → f' p = f p) ∧ (∀ p, p < i → f' p < cnL n ld) ∧ V' ≤ V
  | 0, V, r, f, f', V', h => by
    cases h
    exact ⟨fun p _ => rfl, fun p hp => by omega, Nat.le_refl _⟩
  | i + 1, V, r, f, f', V', h => by
    rw [tmF] at h
    split at h
    · rename_i g
      obtain ⟨h1, h2, h3⟩ := tm_b i _ _ _ _ _ h
      refine ⟨fun p hp => by rw [h1 p (by omega), upn_o (by omega)], fun p hp => ?_, Nat.le_trans h3 (Nat.div_le_self _ _)⟩
      by_cases e : p = i
      · subst e
        rw [h1 p (Nat.le_refl _), upn_e]
        exact cnL_lt g.1.1 g.1.2
      · exact h2 p (by omega)
    · cases h
theorem loA_at {d : Nat} (hd : d < n) (h : ld d ≠ 0) : loA ld n (cnL d ld) = d := by
  obtain ⟨h1, h2, h3⟩ := loA_ok (cnL_lt hd h)
  exact cnL_inj h2 h h3
/-- the class -/
theorem clC (hn : n ≤ 30) (hk6 : cnL n ld ≤ 6) : ∀ (i F V r : Nat) (f : Nat → Nat) (M : e_Me), i ≤ cnL n ld → i < F → V < 2147483648 → r < 64 → gC M n ld f → match tkF n ld i V r f with
    | none => ∃ M', em_takeFigures_l25 F (nI r) (nI V) (iI ((i : Int) - 1)) M = some (0, M') ∧ ∀ a b, a ≠ 91 → M' a b = M a b
    | some (f', r', V') => ∃ M', em_takeFigures_l25 F (nI r) (nI V) (iI ((i : Int) - 1)) M = em_takeFigures_b90 (nI r') (nI V') M' ∧ gC M' n ld f' ∧ ∀ a b, a ≠ 91 → M' a b = M a b := by
  intro i
  induction i with
  | zero =>
    intro F V r f M h1 h2 h3 h4 h5
    obtain ⟨F, rfl⟩ : ∃ F', F = F' + 1 := ⟨F - 1, by omega⟩
    have e : (iI ((0 : Nat) - 1 : Int) < 0) = True := by decide
    refine ⟨M, ?_, h5, fun a b _ => rfl⟩
    simp only [em_takeFigures_l25, e, if_true]
  | succ i ih =>
    intro F V r f M h1 h2 h3 h4 h5
    obtain ⟨F, rfl⟩ : ∃ F', F = F' + 1 := ⟨F - 1, by omega⟩
    have hdv : V / 30 ≤ V := Nat.div_le_self _ _
    have e1 : iI (((i + 1 : Nat) : Int) - 1) = nI i := by
      rw [nI_iI]
      congr 1
      omega
    have er : x_rem (nI V) (30 : Int32) = nI (V % 30) := s_rem (d := 30) h3 (by omega) (by omega)
    have ed : nI V / (30 : Int32) = nI (V / 30) := s_div (d := 30) h3 (by omega) (by omega)
    have hd30 : V % 30 < 30 := Nat.mod_lt _ (by omega)
    have e2 : nI i + (-1 : Int32) = iI ((i : Int) - 1) := by
      rw [nI_iI, ← iI_m1, iI_add]
      congr 1
    rw [e1, tkF]
    by_cases g : V % 30 < n ∧ ld (V % 30) ≠ 0
    · rw [if_pos g]
      have hlt := cnL_lt g.1 g.2
      have hat := loA_at g.1 g.2
      have pl := ro_placeOf_yes (M := M) (x := nI (V % 30)) cap_em.1 h5.1 hk6 (show 6 ≤ 1000 by omega) hlt (by rw [show 88 + 1 = 89 from rfl, (h5.2.2.1 _ hlt).1, hat]) (fun j hj e => by
        have hj2 := loA_ok (ld := ld) (c := n) (i := j) (by omega)
        rw [show 88 + 1 = 89 from rfl, (h5.2.2.1 j (by omega)).1, s_eq (by omega) (by omega)] at e
        rw [e] at hj2
        omega)
      have pli : (nI (cnL (V % 30) ld) = (-1 : Int32)) = False := by
        rw [nI_iI, ← iI_m1, iI_eq (by omega) (by omega) (by omega) (by omega)]
        exact eq_false (by omega)
      have st := ro_set_ok (M := M) (x := nI (cnL (V % 30) ld)) cap_em.2.1 h5.2.1 hk6 (show 6 ≤ 1000 by omega) (show i < cnL n ld by omega)
      generalize hA : e_up M (90 + 1) i (nI (cnL (V % 30) ld)) = A at st
      have fA : ∀ a b, a ≠ 91 → A a b = M a b := fun a b hab => by rw [← hA, e_up_o (by omega)]
      have hgA : gC A n ld (upn f i (cnL (V % 30) ld)) := ⟨by rw [fA _ _ (by omega), h5.1], by rw [fA _ _ (by omega), h5.2.1], fun q hq => ⟨by rw [fA _ _ (by omega)]; exact (h5.2.2.1 q hq).1, by
        rw [← hA, show 91 = 90 + 1 from rfl]
        by_cases e : q = i
        · subst e
          rw [e_up_e, upn_e]
        · rw [e_up_o (by omega), upn_o e]
          exact (h5.2.2.1 q hq).2⟩, fun ρ hρ τ hτ => by
        have hp := (pow_b (cnL n ld) (by omega)).1
        rw [fA _ _ (by omega), h5.2.2.2 ρ hρ τ hτ]⟩
      have ih2 := ih F (V / 30) (clr r (cnL (V % 30) ld)) (upn f i (cnL (V % 30) ld)) A (by omega) (by omega) (by omega) (clr_lt h4) hgA
      have e0 : em_takeFigures_l25 (F + 1) (nI r) (nI V) (nI i) M = em_takeFigures_l25 F (nI (clr r (cnL (V % 30) ld))) (nI (V / 30)) (iI ((i : Int) - 1)) A := by
        simp (disch := omega) only [em_takeFigures_l25, s_lt0, if_false, s_0le, if_true, er, pl, x_bd_s, em_takeFigures_b49, pli, st, clr_i _ (show cnL (V % 30) ld < 6 by omega) r h4, x_lt_e, ed, e2]
      rw [e0]
      split
      · rename_i hm
        rw [hm] at ih2
        obtain ⟨M', k1, k2⟩ := ih2
        exact ⟨M', k1, fun a b hab => by rw [k2 a b hab, fA a b hab]⟩
      · rename_i hm
        rw [hm] at ih2
        obtain ⟨M', k1, k2, k3⟩ := ih2
        exact ⟨M', k1, k2, fun a b hab => by rw [k3 a b hab, fA a b hab]⟩
    · rw [if_neg g]
      have pl := ro_placeOf_no (M := M) (x := nI (V % 30)) cap_em.1 h5.1 hk6 (show 6 ≤ 1000 by omega) (fun j hj e => by
        have hj2 := loA_ok (ld := ld) (c := n) (i := j) hj
        rw [show 88 + 1 = 89 from rfl, (h5.2.2.1 j hj).1, s_eq (by omega) (by omega)] at e
        rw [e] at hj2
        exact g ⟨hj2.1, hj2.2.1⟩)
      have em1 : ((-1 : Int32) = -1) = True := eq_true rfl
      refine ⟨M, ?_, fun a b _ => rfl⟩
      simp (disch := omega) only [em_takeFigures_l25, s_lt0, if_false, s_0le, if_true, er, pl, x_bd_s, em_takeFigures_b49, em1]
/-- that a figure is not yet there -/
def tbI (S : Int32) (d : Nat) : Prop := ((S >>> (nI d &&& 31)) &&& (1 : Int32)) = 0
theorem tb_1 : ∀ x, x < 30 → ∀ d, d < 30 → (((((1 : Int32) <<< (nI x &&& 31)) >>> (nI d &&& 31)) &&& (1 : Int32)) = 0) = ¬ d = x := by decide +kernel
theorem tb_0 : ∀ d, d < 30 → tbI 0 d := by
  unfold tbI
  decide +kernel
theorem tb_or {S : Int32} {x d : Nat} (hx : x < 30) (hd : d < 30) : tbI (S ||| ((1 : Int32) <<< (nI x &&& 31))) d ↔ tbI S d ∧ ¬ d = x := by
  unfold tbI
  have e : ∀ a b : Int32, (a ||| b) &&& 1 = (a &&& 1) ||| (b &&& 1) := fun a b => by
    simp [← Int32.toBitVec_inj, BitVec.and_or_distrib_right]
  rw [Int32.shiftRight_or, e, Int32.or_eq_zero_iff, tb_1 x hx d hd]
/-- the reference -/
theorem clM (hn : n ≤ 30) (h9 : ∀ c, c < 30 → ld c ≤ 900) (hk6 : cnL n ld ≤ 6) : ∀ (i F V r : Nat) (S : Int32) (f : Nat → Nat) (M : e_Me), i ≤ cnL n ld → i < F → V < 2147483648 → r < 64 → M 182 0 = nI n → (∀ q, q < n → M 193 q = nI (ld q)) → (∀ d, d < n → ld d ≠ 0 → (tbI S d ↔ r.testBit (cnL d ld) = true)) → (∀ p, i ≤ p → p < cnL n ld → M 195 p = nI (loA ld n (f p))) →
    match tmF n ld i V r f with
    | none => ∃ M', md_cost_l39 F (nI V) S 1 (iI ((i : Int) - 1)) M = some (-102, M') ∧ ∀ a b, a ≠ 195 → M' a b = M a b
    | some (f', V') => ∃ M', md_cost_l39 F (nI V) S 1 (iI ((i : Int) - 1)) M = md_cost_b133 (nI V') 1 M' ∧ (∀ p, p < cnL n ld → M' 195 p = nI (loA ld n (f' p))) ∧ ∀ a b, a ≠ 195 → M' a b = M a b := by
  intro i
  induction i with
  | zero =>
    intro F V r S f M h1 h2 h3 h4 h5 h6 h7 h8
    obtain ⟨F, rfl⟩ : ∃ F', F = F' + 1 := ⟨F - 1, by omega⟩
    have e : (iI ((0 : Nat) - 1 : Int) < 0) = True := by decide
    refine ⟨M, ?_, fun p hp => h8 p (Nat.zero_le _) hp, fun a b _ => rfl⟩
    simp only [md_cost_l39, e, if_true]
  | succ i ih =>
    intro F V r S f M h1 h2 h3 h4 h5 h6 h7 h8
    obtain ⟨F, rfl⟩ : ∃ F', F = F' + 1 := ⟨F - 1, by omega⟩
    obtain ⟨F, rfl⟩ : ∃ F', F = F' + 1 := ⟨F - 1, by omega⟩
    have hdv : V / 30 ≤ V := Nat.div_le_self _ _
    have e1 : iI (((i + 1 : Nat) : Int) - 1) = nI i := by
      rw [nI_iI]
      congr 1
      omega
    have er : x_rem (nI V) (30 : Int32) = nI (V % 30) := s_rem (d := 30) h3 (by omega) (by omega)
    have ed : nI V / (30 : Int32) = nI (V / 30) := s_div (d := 30) h3 (by omega) (by omega)
    have hd30 : V % 30 < 30 := Nat.mod_lt _ (by omega)
    have e2 : nI i + (-1 : Int32) = iI ((i : Int) - 1) := by
      rw [nI_iI, ← iI_m1, iI_add]
      congr 1
    generalize hA : e_up M 195 i (nI (V % 30)) = A
    have fA : ∀ a b, a ≠ 195 → A a b = M a b := fun a b hab => by rw [← hA, e_up_o (by omega)]
    have A195 : A 195 i = nI (V % 30) := by rw [← hA, e_up_e]
    have A0 : A 182 0 = nI n := by rw [fA _ _ (by omega), h5]
    -- a figure that is none
    have bad : ∀ (y : Int32), md_cost_l39 (F + 1) y (S ||| ((1 : Int32) <<< (nI (V % 30) &&& 31))) 0 (iI ((i : Int) - 1)) A = some (-102, A) := fun y => by
      simp only [md_cost_l39, md_cost_b133, if_true]
      split <;> rfl
    have e0 : ∀ w : Option (Int32 × e_Me), (if n ≤ V % 30 then md_cost_b113 (md_cost_l39 (F + 1)) (nI (V / 30)) S (nI i) 0 A else w) = md_cost_l39 (F + 1 + 1) (nI V) S 1 (nI i) M → md_cost_l39 (F + 1 + 1) (nI V) S 1 (nI i) M = md_cost_l39 (F + 1 + 1) (nI V) S 1 (nI i) M := fun _ _ => rfl
    have b113 : ∀ s : Int32, md_cost_b113 (md_cost_l39 (F + 1)) (nI (V / 30)) S (nI i) s A = md_cost_l39 (F + 1) (nI (V / 30)) (S ||| ((1 : Int32) <<< (nI (V % 30) &&& 31))) s (iI ((i : Int) - 1)) A := fun s => by
      simp (disch := omega) only [md_cost_b113, x_rd_n, A195, x_lt_e, e2]
    have q1 : ((1 : Int32) = 0) = False := by decide
    rw [e1, tmF]
    by_cases g1 : V % 30 < n
    · have c1 : ¬ n ≤ V % 30 := by omega
      have hl9 := h9 (V % 30) hd30
      have A193 : A 193 (V % 30) = nI (ld (V % 30)) := by rw [fA _ _ (by omega), h6 _ g1]
      by_cases g2 : ld (V % 30) = 0
      · rw [if_neg (fun h => h.1.2 g2)]
        refine ⟨A, ?_, fun a b hab => fA a b hab⟩
        rw [md_cost_l39]
        simp (disch := omega) only [s_lt0, if_false, q1, er, x_wr_n, x_lt_e, ed]
        rw [hA]
        simp (disch := omega) only [x_rd_n, A195, A0, s_le, c1, if_false, A193, s_le0, g2, if_true, b113, bad]
      · have hrel := h7 _ g1 g2
        unfold tbI at hrel
        cases hb : r.testBit (cnL (V % 30) ld) with
        | false =>
          rw [if_neg (fun h => by simp at h)]
          have hz : (((S >>> (nI (V % 30) &&& 31)) &&& (1 : Int32)) = 0) = False := eq_false (fun h => by
            have := hrel.mp h
            rw [hb] at this
            cases this)
          refine ⟨A, ?_, fun a b hab => fA a b hab⟩
          rw [md_cost_l39]
          simp (disch := omega) only [s_lt0, if_false, q1, er, x_wr_n, x_lt_e, ed]
          rw [hA]
          simp (disch := omega) only [x_rd_n, A195, A0, s_le, c1, if_false, A193, s_le0, g2, hz, b113, bad]
        | true =>
          rw [if_pos ⟨⟨g1, g2⟩, rfl⟩]
          have hz : (((S >>> (nI (V % 30) &&& 31)) &&& (1 : Int32)) = 0) = True := eq_true (hrel.mpr hb)
          have hlt := cnL_lt g1 g2
          have ih2 := ih (F + 1) (V / 30) (clr r (cnL (V % 30) ld)) (S ||| ((1 : Int32) <<< (nI (V % 30) &&& 31))) (upn f i (cnL (V % 30) ld)) A (by omega) (by omega) (by omega) (clr_lt h4) A0 (fun q hq => by rw [fA _ _ (by omega), h6 q hq]) (fun d hd hd0 => by
            have hld := cnL_lt hd hd0
            rw [tb_or hd30 (by omega), h7 d hd hd0, clr_b _ (by omega) r h4 _ (by omega)]
            constructor
            · rintro ⟨k1, k2⟩
              have : ¬ cnL d ld = cnL (V % 30) ld := fun e => k2 (cnL_inj hd0 g2 e)
              simp [k1, this]
            · intro k1
              simp only [Bool.and_eq_true, Bool.not_eq_true', decide_eq_false_iff_not] at k1
              exact ⟨k1.1, fun e => k1.2 (by rw [e])⟩) (fun p hp hp2 => by
            by_cases e : p = i
            · subst e
              rw [A195, upn_e, loA_at g1 g2]
            · rw [← hA, e_up_o (by omega), upn_o e, h8 p (by omega) hp2])
          have e0 : md_cost_l39 (F + 1 + 1) (nI V) S 1 (nI i) M = md_cost_l39 (F + 1) (nI (V / 30)) (S ||| ((1 : Int32) <<< (nI (V % 30) &&& 31))) 1 (iI ((i : Int) - 1)) A := by
            rw [md_cost_l39]
            simp (disch := omega) only [s_lt0, if_false, q1, er, x_wr_n, x_lt_e, ed]
            rw [hA]
            simp (disch := omega) only [x_rd_n, A195, A0, s_le, c1, if_false, A193, s_le0, g2, hz, if_true, b113]
          rw [e0]
          split
          · rename_i hm
            rw [hm] at ih2
            obtain ⟨M', k1, k2⟩ := ih2
            exact ⟨M', k1, fun a b hab => by rw [k2 a b hab, fA a b hab]⟩
          · rename_i hm
            rw [hm] at ih2
            obtain ⟨M', k1, k2, k3⟩ := ih2
            exact ⟨M', k1, k2, fun a b hab => by rw [k3 a b hab, fA a b hab]⟩
    · rw [if_neg (fun h => g1 h.1.1)]
      have c1 : n ≤ V % 30 := by omega
      refine ⟨A, ?_, fun a b hab => fA a b hab⟩
      rw [md_cost_l39]
      simp (disch := omega) only [s_lt0, if_false, q1, er, x_wr_n, x_lt_e, ed]
      rw [hA]
      simp (disch := omega) only [x_rd_n, A195, A0, s_le, c1, if_true, b113, bad]
end
section
variable {M : e_Me}
theorem l_cost (h : Inv M) (x : Int32) : ∃ r M1 M2, ew_cost x M = some (r, M1) ∧ md_cost x M1 = some (r, M2) ∧ Inv M2 := by
  obtain ⟨n, t, ld, ⟨hc, hn, ht, hl⟩, hG, hU, hN, hR, hH, ⟨k9, hO⟩, hrest⟩ := id h
  have hb := okn_b hc.1
  have h9 := hc.2.2.2.2.2.2.2
  have hcn := cnL_le n ld
  obtain ⟨o1, o2, o3, o4, o5, o6⟩ := hO
  have hcs := fun f => csT_b (n := n) (t := t) (ld := ld) (f := f) hc.1 h9 (cnL n ld)
  have fin : ∀ M1 M2 : e_Me, (∀ a b, ¬ emF a b → M1 a b = M a b) → (∀ a b, ¬ (a = 193 ∨ a = 194 ∨ a = 195 ∨ (a = 182 ∧ (b = 24 ∨ b = 27 ∨ b = 28))) → M2 a b = M1 a b) → Inv M2 := fun M1 M2 f1 f2 => Inv_same (fun i j hk => by
    rw [f2 i j (by unfold kp kW kG kU kN kR kH kO kP at hk; omega), f1 i j (by
      unfold emF
      unfold kp kW kG kU kN kR kH kO kP at hk
      omega)]) h
  have find : ∀ M1 : e_Me, (∀ a b, ¬ emF a b → M1 a b = M a b) → ∃ A, md_findLoaded M1 = some A ∧ stM A n t ld ∧ ∀ a b, ¬ (a = 193 ∨ a = 194 ∨ (a = 182 ∧ b = 24)) → A a b = M1 a b := fun M1 f1 => by
    have f1' : ∀ i j, 182 ≤ i → M1 i j = M i j := fun i j hk => f1 i j (by unfold emF; omega)
    obtain ⟨A, a1, a2, a3, a4⟩ := findLM (M1 := M1) hb.2 h9 (by rw [f1' _ _ (by omega), hn]) (by rw [f1' _ _ (by omega), ht]) (fun c hc => by rw [f1' _ _ (by omega), hl c hc]) (by rw [f1' _ _ (by omega), o2])
    exact ⟨A, a1, a2, a4⟩
  rcases gatherC hc o4 with ⟨x1, M1, x2, x3⟩ | ⟨x1, A, x2, x3, x4⟩
  · obtain ⟨B, b1, b2, b3⟩ := find M1 (fun a b hab => x3 a b (by unfold emF at hab; omega))
    refine ⟨-103, M1, B, by simp only [ew_cost, x2, x_bi_s, if_true], ?_, fin M1 B (fun a b hab => x3 a b (by unfold emF at hab; omega)) (fun a b hab => b3 a b (by omega))⟩
    have q : ¬ cnL n ld ≤ 6 := by omega
    simp (disch := omega) only [md_cost, b1, x_bd_s, b2.2.2.1.1, show (6 : Int32) = nI 6 from rfl, s_le, q, if_false]
  · have fA : ∀ a b, ¬ emF a b → A a b = M a b := fun a b hab => x4 a b (by unfold emF at hab; omega)
    have hp := pow_b (cnL n ld) (by omega)
    have es : nI (2 ^ cnL n ld) - 1 = nI (2 ^ cnL n ld - 1) := s_sub (b := 1) hp.2
    have ek : nI (cnL n ld) - 1 = iI ((cnL n ld : Int) - 1) := nI_m1 _
    have tf : em_takeFigures x A = em_takeFigures_l25 e_F (nI (2 ^ cnL n ld - 1)) x (iI ((cnL n ld : Int) - 1)) A := by
      simp only [em_takeFigures, ro_count_ok cap_em.1, x3.1, x_bd_s, pow_i (cnL n ld) (by omega), es, x_lt_e, ro_count_ok cap_em.2.1, x3.2.1, ek]
    rcases Int32.lt_or_le x 0 with g | g
    · -- below 0
      obtain ⟨B, b1, b2, b3⟩ := find A fA
      refine ⟨-102, A, B, ?_, ?_, fin A B fA (fun a b hab => b3 a b (by omega))⟩
      · have e1 : em_takeFigures x A = some (0, A) := by
          rw [tf]
          obtain ⟨F, hF⟩ : ∃ F', e_F = F' + 1 := ⟨e_F - 1, by have := e_Fge; omega⟩
          rw [hF, em_takeFigures_l25]
          have g2 : ¬ 0 ≤ x := Int32.not_le.mpr g
          have g3 : ¬ x = 0 := fun e => by
            rw [e] at g
            exact absurd g (by decide)
          have em1 : ((-1 : Int32) = -1) = True := eq_true rfl
          by_cases z : cnL n ld = 0
          · have e0 : (iI ((cnL n ld : Int) - 1) < 0) = True := by
              rw [z]
              decide
            simp only [e0, if_true, em_takeFigures_b90, g3, if_false]
          · have e0 : (iI ((cnL n ld : Int) - 1) < 0) = False := by
              rw [iI_lt0 (by omega) (by omega)]
              exact eq_false (by omega)
            simp only [e0, if_false, g2, em_takeFigures_b49, em1, if_true]
        simp only [ew_cost, x2, x_bi_s, s_10, if_false, e1, if_true]
      · obtain ⟨F, hF⟩ : ∃ F', e_F = F' + 1 := ⟨e_F - 1, by have := e_Fge; omega⟩
        have q : cnL n ld ≤ 6 := x1
        simp (disch := omega) only [md_cost, b1, x_bd_s, b2.2.2.1.1, show (6 : Int32) = nI 6 from rfl, s_le, q, if_true, g, md_cost_b29, x_lt_e, hF, md_cost_l39, md_cost_b133]
        split <;> rfl
    · obtain ⟨V, hV, rfl⟩ : ∃ V, V < 2147483648 ∧ x = nI V := by
        obtain ⟨z, rfl, z1, z2⟩ := iI_of x
        rw [iI_0le z1 z2] at g
        exact ⟨z.toNat, by omega, nI_of_iI g⟩
      have c1 := clC (ld := ld) (n := n) hb.2 x1 (cnL n ld) e_F V (2 ^ cnL n ld - 1) (fun i => i) A (Nat.le_refl _) (by have := e_Fge; omega) hV (by omega) x3
      have hrel := tk_tm (ld := ld) (n := n) x1 (cnL n ld) V (2 ^ cnL n ld - 1) (fun i => i) (by omega) (pc_all _ (by omega))
      -- the reference, over whatever the class left
      have ref : ∀ M1 : e_Me, (∀ a b, ¬ emF a b → M1 a b = M a b) → match tmF n ld (cnL n ld) V (2 ^ cnL n ld - 1) (fun i => i) with
          | none => ∃ M2, md_cost (nI V) M1 = some (-102, M2) ∧ Inv M2
          | some (f', V') => if V' = 0 then ∃ M2, md_cost (nI V) M1 = some (nI (csT n t ld f' (cnL n ld)), M2) ∧ Inv M2 else ∃ M2, md_cost (nI V) M1 = some (-102, M2) ∧ Inv M2 := fun M1 f1 => by
        obtain ⟨B, b1, b2, b3⟩ := find M1 f1
        have c2 := clM (ld := ld) (n := n) hb.2 h9 x1 (cnL n ld) e_F V (2 ^ cnL n ld - 1) 0 (fun i => i) B (Nat.le_refl _) (by have := e_Fge; omega) hV (by omega) b2.1 b2.2.2.1.2.2 (fun d hd hd0 => ⟨fun _ => all_b _ (by omega) _ (cnL_lt hd hd0), fun _ => tb_0 d (by omega)⟩) (fun p h1 h2 => by omega)
        have m0 : md_cost (nI V) M1 = md_cost_l39 e_F (nI V) 0 1 (iI ((cnL n ld : Int) - 1)) B := by
          have q : cnL n ld ≤ 6 := x1
          simp (disch := omega) only [md_cost, b1, x_bd_s, b2.2.2.1.1, show (6 : Int32) = nI 6 from rfl, s_le, q, if_true, s_lt0, if_false, md_cost_b29, x_lt_e, ek]
        rw [m0]
        split
        · rename_i hm
          rw [hm] at c2
          obtain ⟨C, k1, k2⟩ := c2
          exact ⟨C, k1, fin M1 C f1 (fun a b hab => by rw [k2 a b (by omega), b3 a b (by omega)])⟩
        · rename_i f' V' hm
          rw [hm] at c2
          obtain ⟨C, k1, k2, k3⟩ := c2
          obtain ⟨t1, t2, t3⟩ := tm_b _ _ _ _ _ _ hm
          have q1 : ((1 : Int32) = 0) = False := by decide
          split
          · rename_i z
            have hsC : stM C n t ld := stM_same (fun a b hab => k3 a b (by omega)) b2
            obtain ⟨D, d1, d2, d3, d4⟩ := tryM hc.1 hc.2.1 h9 x1 t2 hsC.1 hsC.2.1 hsC.2.2.1 k2 hsC.2.2.2
            refine ⟨D, ?_, fin M1 D f1 (fun a b hab => by rw [d4 a b (by omega), k3 a b (by omega), b3 a b (by omega)])⟩
            rw [k1, z]
            simp only [md_cost_b133, q1, if_false, nI_0, if_true, d1, x_bd_s, d2]
          · rename_i z
            refine ⟨C, ?_, fin M1 C f1 (fun a b hab => by rw [k3 a b (by omega), b3 a b (by omega)])⟩
            rw [k1]
            simp (disch := omega) only [md_cost_b133, q1, if_false, s_eq0, z]
      have bad : ∀ A' : e_Me, em_takeFigures (nI V) A = some (0, A') → ew_cost (nI V) M = some (-102, A') := fun A' e => by
        simp only [ew_cost, x2, x_bi_s, s_10, if_false, e, if_true]
      cases hm : tmF n ld (cnL n ld) V (2 ^ cnL n ld - 1) (fun i => i) with
      | none =>
        rw [hm] at hrel
        rcases hrel with z | ⟨f', r', V', z, z2, z3⟩
        · rw [z] at c1
          obtain ⟨A', k1, k2⟩ := c1
          have f1 : ∀ a b, ¬ emF a b → A' a b = M a b := fun a b hab => by rw [k2 a b (by unfold emF at hab; omega), fA a b hab]
          have r1 := ref A' f1
          rw [hm] at r1
          obtain ⟨M2, y1, y2⟩ := r1
          exact ⟨-102, A', M2, bad A' (by rw [tf, k1]), y1, y2⟩
        · rw [z] at c1
          obtain ⟨A', k1, k2, k3⟩ := c1
          have f1 : ∀ a b, ¬ emF a b → A' a b = M a b := fun a b hab => by rw [k3 a b (by unfold emF at hab; omega), fA a b hab]
          have r1 := ref A' f1
          rw [hm] at r1
          obtain ⟨M2, y1, y2⟩ := r1
          refine ⟨-102, A', M2, bad A' ?_, y1, y2⟩
          rw [tf, k1]
          simp (disch := omega) only [em_takeFigures_b90, s_eq0 (show r' < 2147483648 by omega), z2, if_false]
          split <;> rfl
      | some q =>
        obtain ⟨f', V'⟩ := q
        rw [hm] at hrel
        simp only at hrel
        rw [hrel] at c1
        obtain ⟨A', k1, k2, k3⟩ := c1
        obtain ⟨t1, t2, t3⟩ := tm_b _ _ _ _ _ _ hm
        have f1 : ∀ a b, ¬ emF a b → A' a b = M a b := fun a b hab => by rw [k3 a b (by unfold emF at hab; omega), fA a b hab]
        by_cases z : V' = 0
        · subst z
          have hcA : cW A' n t ld := cW_frame hc (funext fun j => f1 3 j (by unfold emF; omega)) (funext fun j => f1 4 j (by unfold emF; omega)) (funext fun j => f1 5 j (by unfold emF; omega)) (funext fun j => f1 6 j (by unfold emF; omega))
          obtain ⟨C, m1, m2, m3⟩ := measF (t := t) (f := f') (i := 0) x1 t2 (Nat.zero_le _) hcA k2 (fun _ => by rw [f1 _ _ (by unfold emF; omega), f1 _ _ (by unfold emF; omega)]; exact ⟨o5, o6⟩) (fun h => by omega)
          rw [nI_0] at m1
          have f2 : ∀ a b, ¬ emF a b → C a b = M a b := fun a b hab => by
            have hab' := hab
            unfold emF at hab'
            rw [m3 a b (by omega) (by omega), f1 a b hab]
          have hgC : gC C n ld f' := gC_same x1 (fun a b y1 y2 => m3 a b (by omega) (by omega)) k2
          have r1 := ref C f2
          rw [hm] at r1
          simp only [if_true] at r1
          obtain ⟨M2, y1, y2⟩ := r1
          refine ⟨_, C, M2, ?_, y1, y2⟩
          have e1 : em_takeFigures (nI V) A = some (1, A') := by
            rw [tf, k1]
            simp only [em_takeFigures_b90, nI_0, if_true]
          simp only [ew_cost, x2, x_bi_s, s_10, if_false, e1, em_costAsItStands, m1, x_bd_s, (wholeC x1 hgC m2).1]
        · have r1 := ref A' f1
          rw [hm] at r1
          simp only [z, if_false] at r1
          obtain ⟨M2, y1, y2⟩ := r1
          refine ⟨-102, A', M2, bad A' ?_, y1, y2⟩
          rw [tf, k1]
          simp (disch := omega) only [em_takeFigures_b90, s_eq0 (show V' < 2147483648 by omega), z, if_false]
end
