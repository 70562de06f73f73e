/-! ORDERS one behind the other -/
def swp (f : Nat → Nat) (i j : Nat) : Nat → Nat := upn (upn f i (f j)) j (f i)
def scI (f : Nat → Nat) : Nat → Option Nat
  | 0 => none
  | i + 1 => if f (i + 1) < f i then scI f i else some i
def scJ (f : Nat → Nat) (i : Nat) : Nat → Nat
  | 0 => 0
  | j + 1 => if j + 1 ≤ i then j + 1 else if f i ≤ f (j + 1) then j + 1 else scJ f i j
def rvF : Nat → (Nat → Nat) → Nat → Nat → (Nat → Nat)
  | 0, f, _, _ => f
  | F + 1, f, a, b => if b ≤ a then f else rvF F (swp f a b) (a + 1) (b - 1)
/-- the first place that changes, and the ORDER behind -/
def nxt (k : Nat) (f : Nat → Nat) : Option (Nat × (Nat → Nat)) := match scI f (k - 1) with
  | none => none
  | some i => some (i, rvF 7 (swp f i (scJ f i (k - 1))) (i + 1) (k - 1))
def lsF (L : List Nat) (i : Nat) : Nat := L.getD i 0
def nxL (k : Nat) (L : List Nat) : Option (Nat × List Nat) := match nxt k (lsF L) with
  | none => none
  | some (i, f) => some (i, (List.range k).map f)
theorem lsF_map {k i : Nat} {f : Nat → Nat} (h : i < k) : lsF ((List.range k).map f) i = f i := by
  unfold lsF
  rw [List.getD_eq_getElem?_getD, List.getElem?_map, List.getElem?_range h]
  rfl
/-- by its number -/
def pkF (r : Nat) : Nat → Nat → Nat → Nat
  | 0, _, x => x
  | F + 1, q, x => if 0 < q ∨ r.testBit x = true then pkF r F (if r.testBit x = true then q else q - 1) (x + 1) else x
def layF (k : Nat) : Nat → Nat → Nat → Nat → Nat → List Nat
  | 0, _, _, _, _ => []
  | F + 1, x, w, r, i => if k ≤ i then [] else if w / (k - i) = 0 then [] else pkF r 7 (x / (w / (k - i))) 0 :: layF k F (x % (w / (k - i))) (w / (k - i)) (r ||| 2 ^ pkF r 7 (x / (w / (k - i))) 0) (i + 1)
def facN : Nat → Nat
  | 0 => 1
  | k + 1 => (k + 1) * facN k
def okL (k j : Nat) (L : List Nat) : Bool := decide (L.length = k) && L.all (fun p => decide (p < k)) && decide (layF k 7 j (facN k) 0 0 = L)
def chkP (k : Nat) : Nat → Nat → List Nat → Bool
  | 0, _, _ => false
  | F + 1, j, L => okL k j L && (match nxL k L with
    | none => decide (j + 1 = facN k)
    | some (i, L') => decide (L.take i = L'.take i) && decide (i < k) && chkP k F (j + 1) L')
theorem chk_ok : ∀ k, k ≤ 6 → chkP k 721 0 (List.range k) = true := by
  intro k hk
  obtain rfl | rfl | rfl | rfl | rfl | rfl | rfl : k = 0 ∨ k = 1 ∨ k = 2 ∨ k = 3 ∨ k = 4 ∨ k = 5 ∨ k = 6 := by omega
  all_goals decide +kernel
theorem okL_use {k j : Nat} {L : List Nat} (h : okL k j L = true) : L.length = k ∧ (∀ i, i < k → lsF L i < k) ∧ layF k 7 j (facN k) 0 0 = L := by
  simp only [okL, Bool.and_eq_true, decide_eq_true_eq, List.all_eq_true] at h
  obtain ⟨⟨h1, h2⟩, h3⟩ := h
  refine ⟨h1, fun i hi => ?_, h3⟩
  unfold lsF
  rw [List.getD_eq_getElem?_getD, List.getElem?_eq_getElem (by omega)]
  exact h2 _ (List.getElem_mem _)
theorem chk_step {k F j : Nat} {L : List Nat} (h : chkP k (F + 1) j L = true) : okL k j L = true ∧ ((nxL k L = none ∧ j + 1 = facN k) ∨ ∃ i L', nxL k L = some (i, L') ∧ (∀ q, q < i → lsF L q = lsF L' q) ∧ i < k ∧ chkP k F (j + 1) L' = true) := by
  simp only [chkP, Bool.and_eq_true] at h
  refine ⟨h.1, ?_⟩
  have h2 := h.2
  cases hn : nxL k L with
  | none =>
    rw [hn] at h2
    exact Or.inl ⟨rfl, of_decide_eq_true h2⟩
  | some p =>
    obtain ⟨i, L'⟩ := p
    rw [hn] at h2
    simp only [Bool.and_eq_true, decide_eq_true_eq] at h2
    refine Or.inr ⟨i, L', rfl, fun q hq => ?_, h2.1.2, h2.2⟩
    have e := congrArg (fun l => l.getD q 0) h2.1.1
    simp only [List.getD_eq_getElem?_getD, List.getElem?_take, hq, if_true] at e
    unfold lsF
    rw [List.getD_eq_getElem?_getD, List.getD_eq_getElem?_getD]
    exact e
theorem fac_b {k : Nat} (h : k ≤ 6) : 1 ≤ facN k ∧ facN k ≤ 720 := by
  obtain rfl | rfl | rfl | rfl | rfl | rfl | rfl : k = 0 ∨ k = 1 ∨ k = 2 ∨ k = 3 ∨ k = 4 ∨ k = 5 ∨ k = 6 := by omega
  all_goals decide
/-! bits -/
def clr (r q : Nat) : Nat := if r.testBit q = true then r - 2 ^ q else r
theorem clr_i : ∀ q, q < 6 → ∀ r, r < 64 → (nI r &&& (((1 : Int32) <<< (nI q &&& 31)) ^^^ (-1 : Int32))) = nI (clr r q) := by decide +kernel
theorem clr_b : ∀ q, q < 6 → ∀ r, r < 64 → ∀ j, j < 6 → (clr r q).testBit j = (r.testBit j && !decide (j = q)) := by decide +kernel
theorem bit_i : ∀ q, q < 7 → ∀ r, r < 64 → (((nI r >>> (nI q &&& 31)) &&& (1 : Int32)) = 1) = (r.testBit q = true) := by decide +kernel
theorem or_i : ∀ q, q < 6 → ∀ r, r < 64 → (nI r ||| ((1 : Int32) <<< (nI q &&& 31))) = nI (r ||| 2 ^ q) ∧ r ||| 2 ^ q < 64 := by decide +kernel
theorem pow_i : ∀ q, q < 7 → ((1 : Int32) <<< (nI q &&& 31)) = nI (2 ^ q) := by decide +kernel
theorem pow_b : ∀ q, q < 7 → 2 ^ q ≤ 64 ∧ 1 ≤ 2 ^ q := by decide
theorem add_b : ∀ k, k < 6 → ∀ r, r < 2 ^ k → ∀ j, j < 6 → (r + 2 ^ k).testBit j = (r.testBit j || decide (j = k)) := by decide +kernel
theorem all_b : ∀ k, k < 7 → ∀ j, j < k → (2 ^ k - 1).testBit j = true := by decide +kernel
theorem zero_b : ∀ k, k < 6 → ∀ r, r < 2 ^ k → r.testBit k = false := by decide +kernel
theorem clr_le (r q : Nat) : clr r q ≤ r := by
  unfold clr
  split
  · exact Nat.sub_le _ _
  · exact Nat.le_refl _
/-! the CABINS with a LOAD, the least number first -/
def loA (ld : Nat → Nat) : Nat → (Nat → Nat)
  | 0 => fun _ => 0
  | c + 1 => if ld c = 0 then loA ld c else upn (loA ld c) (cnL c ld) c
theorem cnL_s (c : Nat) (ld : Nat → Nat) : cnL (c + 1) ld = cnL c ld + if ld c = 0 then 0 else 1 := rfl
theorem cnL_mono {ld : Nat → Nat} {a : Nat} : ∀ {b : Nat}, a ≤ b → cnL a ld ≤ cnL b ld
  | 0, h => by
    obtain rfl : a = 0 := by omega
    exact Nat.le_refl _
  | b + 1, h => by
    by_cases e : a = b + 1
    · rw [e]
      exact Nat.le_refl _
    · have := cnL_mono (ld := ld) (a := a) (b := b) (by omega)
      rw [cnL_s]
      omega
theorem loA_ok {ld : Nat → Nat} : ∀ {c i : Nat}, i < cnL c ld → loA ld c i < c ∧ ld (loA ld c i) ≠ 0 ∧ cnL (loA ld c i) ld = i
  | 0, i, h => absurd h (Nat.not_lt_zero _)
  | c + 1, i, h => by
    rw [cnL_s] at h
    rw [loA]
    by_cases e : ld c = 0
    · rw [if_pos e] at h ⊢
      have := loA_ok (ld := ld) (c := c) (i := i) (by omega)
      exact ⟨by omega, this.2⟩
    · rw [if_neg e] at h ⊢
      by_cases e2 : i = cnL c ld
      · rw [e2, upn_e]
        exact ⟨by omega, e, rfl⟩
      · rw [upn_o e2]
        have := loA_ok (ld := ld) (c := c) (i := i) (by omega)
        exact ⟨by omega, this.2⟩
theorem cnL_inj {ld : Nat → Nat} {a b : Nat} (ha : ld a ≠ 0) (hb : ld b ≠ 0) (h : cnL a ld = cnL b ld) : a = b := by
  rcases Nat.lt_trichotomy a b with g | g | g
  · have h1 := cnL_mono (ld := ld) (a := a + 1) (b := b) (by omega)
    rw [cnL_s, if_neg ha] at h1
    omega
  · exact g
  · have h1 := cnL_mono (ld := ld) (a := b + 1) (b := a) (by omega)
    rw [cnL_s, if_neg hb] at h1
    omega
theorem cnL_lt {ld : Nat → Nat} {n c : Nat} (hc : c < n) (h : ld c ≠ 0) : cnL c ld < cnL n ld := by
  have h1 := cnL_mono (ld := ld) (a := c + 1) (b := n) (by omega)
  rw [cnL_s, if_neg h] at h1
  omega
/-- the LOADS that are left, by bits -/
def ldR (ld : Nat → Nat) (r c : Nat) : Nat := if ld c ≠ 0 ∧ r.testBit (cnL c ld) = true then ld c else 0
theorem ldR_le (ld : Nat → Nat) (r c : Nat) : ldR ld r c ≤ ld c := by
  unfold ldR
  split
  · exact Nat.le_refl _
  · exact Nat.zero_le _
theorem ldR_0 (ld : Nat → Nat) (c : Nat) : ldR ld 0 c = 0 := by
  unfold ldR
  rw [if_neg (by simp)]
theorem ldR_all {ld : Nat → Nat} {n c : Nat} (h6 : cnL n ld ≤ 6) (hc : c < n) : ldR ld (2 ^ cnL n ld - 1) c = ld c := by
  unfold ldR
  by_cases e : ld c = 0
  · rw [if_neg (by simp [e]), e]
  · rw [if_pos ⟨e, all_b _ (by omega) _ (cnL_lt hc e)⟩]
theorem ldR_add {ld : Nat → Nat} {n k r c d : Nat} (h6 : cnL n ld ≤ 6) (hd : d < n) (hk : k < 6) (hr : r < 2 ^ k) (hc : ld c ≠ 0) (hck : cnL c ld = k) : ldR ld (r + 2 ^ k) d = ldR ld r d + if d = c then ld c else 0 := by
  unfold ldR
  by_cases e0 : ld d = 0
  · have : d ≠ c := fun e => hc (e ▸ e0)
    rw [if_neg (by simp [e0]), if_neg (by simp [e0]), if_neg this]
  · have hlt := cnL_lt (n := n) hd e0
    rw [add_b k hk r hr _ (by omega)]
    by_cases e : d = c
    · subst e
      rw [hck, zero_b k hk r hr, if_pos rfl, if_pos ⟨e0, by simp⟩, if_neg (by simp)]
      omega
    · have hne : cnL d ld ≠ k := fun q => e (cnL_inj e0 hc (by rw [q, hck]))
      rw [if_neg e, decide_eq_false hne, Bool.or_false, Nat.add_zero]
theorem ldR_clr {ld : Nat → Nat} {n r q d : Nat} (h6 : cnL n ld ≤ 6) (hd : d < n) (hr : r < 64) (hq : q < cnL n ld) : ldR ld (clr r q) d = if d = loA ld n q then 0 else ldR ld r d := by
  obtain ⟨h1, h2, h3⟩ := loA_ok hq
  unfold ldR
  by_cases e0 : ld d = 0
  · rw [if_neg (fun h => h.1 e0), if_neg (show ¬ (ld d ≠ 0 ∧ r.testBit (cnL d ld) = true) from fun h => h.1 e0)]
    split <;> rfl
  · have hlt := cnL_lt (n := n) hd e0
    rw [clr_b q (by omega) r hr _ (by omega)]
    by_cases e : d = loA ld n q
    · rw [if_pos e, e, h3, decide_eq_true rfl, if_neg (by simp)]
    · have hne : cnL d ld ≠ q := fun z => e (cnL_inj e0 h2 (by rw [z, h3]))
      rw [if_neg e, decide_eq_false hne]
      simp
