/-! runs as functions: what a run of the small machine answers, an instruction a row -/
def x_X (G : e_G) (y k n : Nat) {β : Type} (ρ : β → Option Value × e_Me) (pc : Nat) (L : List (Option Value)) (st : List Value) (M : e_Me) (v : Option β) : Prop :=
  k ≤ e_mc y → n ≤ e_ms y → ∀ b, v = some b → ∀ Q : Option Value → e_Me → Prop, Q (ρ b).1 (ρ b).2 → e_EX G y pc L st e_SH M k n (e_qq y Q)
/-- a method's answer, as a function -/
def x_C (G : e_G) (z : Nat) (as : List Value) (M : e_Me) {β : Type} (ρ : β → Option Value × e_Me) (v : Option β) : Prop :=
  ∀ b, v = some b → ∀ Q : Option Value → e_Me → Prop, Q (ρ b).1 (ρ b).2 → e_C G z as M Q
abbrev x_ri (M : e_Me) : Int32 → Option Value × e_Me := fun x => (some (.int x), M)
abbrev x_rim : Int32 × e_Me → Option Value × e_Me := fun p => (some (.int p.1), p.2)
abbrev x_rv : e_Me → Option Value × e_Me := fun M => (none, M)
abbrev x_rl (M : e_Me) : Int64 → Option Value × e_Me := fun x => (some (.long x), M)
abbrev x_rr (M : e_Me) : Nat → Option Value × e_Me := fun x => (some (.ref x), M)
def x_lt {α β : Type} (x : α) (f : α → Option β) : Option β := f x
def x_bd {α β : Type} (o : Option α) (f : α → Option β) : Option β := match o with
  | some x => f x
  | none => none
def x_bi {α β : Type} (o : Option (α × e_Me)) (f : α → e_Me → Option β) : Option β := x_bd o (fun p => f p.1 p.2)
def x_rd {β : Type} (g : Nat → Int32) (N : Nat) (x : Int32) (f : Int32 → Option β) : Option β := if x < 0 then none else if N ≤ x.toNatClampNeg then none else f (g x.toNatClampNeg)
def x_wr {β : Type} (M : e_Me) (i N : Nat) (x w : Int32) (f : e_Me → Option β) : Option β := if x < 0 then none else if N ≤ x.toNatClampNeg then none else f (e_up M i x.toNatClampNeg w)
def x_ra {β : Type} (N : Nat) (x : Int32) (f : Nat → Option β) : Option β := if x < 0 then none else if N ≤ x.toNatClampNeg then none else f x.toNatClampNeg
def x_gb {β : Type} (x : Int32) (v : Option β) : Option β := if x = 0 ∨ x = 1 then v else none
def x_dv {β : Type} (q : Int32) (v : Option β) : Option β := if q = 0 then none else v
def x_rem (p q : Int32) : Int32 := p - p / q * q
def e_F : Nat := 100000
/-- rows and arrays of ints by their cells -/
def e_cap (r : Nat) : Option Nat := match e_SH[r]? with
  | some (.inr (7, [some (.ref q), none])) => if q = r + 1 then (match e_SH[r + 1]? with
    | some (.inl (0, cap, none)) => some cap
    | _ => none) else none
  | _ => none
def e_arl (r : Nat) : Option Nat := match e_SH[r]? with
  | some (.inl (0, cap, none)) => some cap
  | _ => none
theorem e_cap_obj {r cap : Nat} (h : e_cap r = some cap) : e_SH[r]? = some (.inr (7, [some (.ref (r + 1)), none])) := by
  unfold e_cap at h
  split at h
  · rename_i q hq
    split at h
    · rename_i e
      subst e
      exact hq
    · cases h
  · cases h
theorem e_cap_arr {r cap : Nat} (h : e_cap r = some cap) : e_SH[r + 1]? = some (.inl (0, cap, none)) := by
  unfold e_cap at h
  split at h
  · split at h
    · split at h
      · rename_i hc
        cases h
        exact hc
      · cases h
    · cases h
  · cases h
theorem e_arl_arr {r cap : Nat} (h : e_arl r = some cap) : e_SH[r]? = some (.inl (0, cap, none)) := by
  unfold e_arl at h
  split at h
  · rename_i hc
    cases h
    exact hc
  · cases h
section
variable {G : e_G} {y k n : Nat} {β : Type} {ρ : β → Option Value × e_Me} {pc : Nat} {L L' : List (Option Value)} {st st0 : List Value} {M : e_Me} {w w1 w2 : Option β} {a b c : Nat} {v : Int32}
theorem xr_step {op : Nat} {Q : e_Q} {S : e_Sh} (hf : e_fetch y pc = some (op, a, b, c, v)) (h : e_step G y pc (fun z as S M R => e_CA G z as S M R) (fun pc L st S M k n => e_EX G y pc L st S M k n Q) Q op a b c v L st S M k n) : e_EX G y pc L st S M k n Q := by
  refine e_wp_ok (inl := fun _ => false) (sp := fun _ _ => false) 1 _ _ _ _ _ _ _ _ _ ?_
  rw [e_wp_s hf]
  exact h
theorem xr_none : x_X G y k n ρ pc L st M none := fun _ _ b h => by cases h
theorem xr_0 (hf : e_fetch y pc = some (0, a, b, c, v)) (h : x_X G y k n ρ (pc + a) L (.int v :: st) M w) : x_X G y k n ρ pc L st M w := fun hk hn b hb Q hQ => xr_step hf (h hk hn b hb Q hQ)
theorem xr_1 {x : Int32} (hf : e_fetch y pc = some (1, a, b, c, v)) (hl : L[a]? = some (some (.int x))) (h : x_X G y k n ρ (pc + b) L (.int x :: st) M w) : x_X G y k n ρ pc L st M w := fun hk hn b hb Q hQ => xr_step hf (by rw [es_1, hl]; exact h hk hn b hb Q hQ)
theorem xr_2 {x : Nat} (hf : e_fetch y pc = some (2, a, b, c, v)) (hl : L[a]? = some (some (.ref x))) (h : x_X G y k n ρ (pc + b) L (.ref x :: st) M w) : x_X G y k n ρ pc L st M w := fun hk hn b hb Q hQ => xr_step hf (by rw [es_2, hl]; exact h hk hn b hb Q hQ)
theorem xr_3 {x : Int64} (hf : e_fetch y pc = some (3, a, b, c, v)) (hl : L[a]? = some (some (.long x))) (h : x_X G y k n ρ (pc + b) L (.long x :: st) M w) : x_X G y k n ρ pc L st M w := fun hk hn b hb Q hQ => xr_step hf (by rw [es_3, hl]; exact h hk hn b hb Q hQ)
theorem xr_4 {x : Int32} (L' : List (Option Value)) (hf : e_fetch y pc = some (4, a, b, c, v)) (hn : e_nl L a = true) (hL : L.set a (some (.int x)) = L') (h : x_X G y k n ρ (pc + b) L' st M w) : x_X G y k n ρ pc L (.int x :: st) M w := fun hk hn' b hb Q hQ => xr_step hf ⟨hn, by rw [hL]; exact h hk hn' b hb Q hQ⟩
theorem xr_4l {x : Int32} {f : Int32 → Option β} (L' : Int32 → List (Option Value)) (hf : e_fetch y pc = some (4, a, b, c, v)) (hn : e_nl L a = true) (hL : ∀ z, L.set a (some (.int z)) = L' z) (h : ∀ z, x_X G y k n ρ (pc + b) (L' z) st M (f z)) : x_X G y k n ρ pc L (.int x :: st) M (x_lt x f) := xr_4 (L' x) hf hn (hL x) (h x)
theorem xr_5 {x : Nat} (L' : List (Option Value)) (hf : e_fetch y pc = some (5, a, b, c, v)) (hn : e_nl L a = true) (hL : L.set a (some (.ref x)) = L') (h : x_X G y k n ρ (pc + b) L' st M w) : x_X G y k n ρ pc L (.ref x :: st) M w := fun hk hn' b hb Q hQ => xr_step hf ⟨hn, by rw [hL]; exact h hk hn' b hb Q hQ⟩
theorem xr_6l {x : Int64} {f : Int64 → Option β} (L' : Int64 → List (Option Value)) (hf : e_fetch y pc = some (6, a, b, c, v)) (hn : e_nl L a = true) (hL : ∀ z, (L.set a (some (.long z))).set (a + 1) none = L' z) (h : ∀ z, x_X G y k n ρ (pc + b) (L' z) st M (f z)) : x_X G y k n ρ pc L (.long x :: st) M (x_lt x f) := fun hk hn' b hb Q hQ => xr_step hf ⟨hn, by rw [hL]; exact h x hk hn' b hb Q hQ⟩
theorem xr_7 {x : Int32} (L' : List (Option Value)) (hf : e_fetch y pc = some (7, a, b, c, v)) (hl : L[a]? = some (some (.int x))) (hn : e_nl L a = true) (hL : L.set a (some (.int (x + v))) = L') (h : x_X G y k n ρ (pc + 3) L' st M w) : x_X G y k n ρ pc L st M w := fun hk hn' b hb Q hQ => xr_step hf (by rw [es_7, hl]; exact ⟨hn, by rw [hL]; exact h hk hn' b hb Q hQ⟩)
section
variable {p q : Int32}
theorem xr_8 (hf : e_fetch y pc = some (8, a, b, c, v)) (h : x_X G y k n ρ (pc + 1) L (.int (p + q) :: st) M w) : x_X G y k n ρ pc L (.int q :: .int p :: st) M w := fun hk hn b hb Q hQ => xr_step hf (h hk hn b hb Q hQ)
theorem xr_9 (hf : e_fetch y pc = some (9, a, b, c, v)) (h : x_X G y k n ρ (pc + 1) L (.int (p - q) :: st) M w) : x_X G y k n ρ pc L (.int q :: .int p :: st) M w := fun hk hn b hb Q hQ => xr_step hf (h hk hn b hb Q hQ)
theorem xr_10 (hf : e_fetch y pc = some (10, a, b, c, v)) (h : x_X G y k n ρ (pc + 1) L (.int (p * q) :: st) M w) : x_X G y k n ρ pc L (.int q :: .int p :: st) M w := fun hk hn b hb Q hQ => xr_step hf (h hk hn b hb Q hQ)
theorem xr_11 (hf : e_fetch y pc = some (11, a, b, c, v)) (h : x_X G y k n ρ (pc + 1) L (.int (-p) :: st) M w) : x_X G y k n ρ pc L (.int p :: st) M w := fun hk hn b hb Q hQ => xr_step hf (h hk hn b hb Q hQ)
theorem xr_12c (hf : e_fetch y pc = some (12, a, b, c, v)) (hq : ¬ q = 0) (h : x_X G y k n ρ (pc + 1) L (.int (p / q) :: st) M w) : x_X G y k n ρ pc L (.int q :: .int p :: st) M w := fun hk hn b hb Q hQ => xr_step hf ⟨hq, h hk hn b hb Q hQ⟩
theorem xr_13c (hf : e_fetch y pc = some (13, a, b, c, v)) (hq : ¬ q = 0) (h : x_X G y k n ρ (pc + 1) L (.int (x_rem p q) :: st) M w) : x_X G y k n ρ pc L (.int q :: .int p :: st) M w := fun hk hn b hb Q hQ => xr_step hf ⟨hq, h hk hn b hb Q hQ⟩
theorem xr_12 (hf : e_fetch y pc = some (12, a, b, c, v)) (h : x_X G y k n ρ (pc + 1) L (.int (p / q) :: st) M w) : x_X G y k n ρ pc L (.int q :: .int p :: st) M (x_dv q w) := by
  unfold x_dv
  split
  · exact xr_none
  · rename_i hq
    exact xr_12c hf hq h
theorem xr_13 (hf : e_fetch y pc = some (13, a, b, c, v)) (h : x_X G y k n ρ (pc + 1) L (.int (x_rem p q) :: st) M w) : x_X G y k n ρ pc L (.int q :: .int p :: st) M (x_dv q w) := by
  unfold x_dv
  split
  · exact xr_none
  · rename_i hq
    exact xr_13c hf hq h
theorem xr_14 (hf : e_fetch y pc = some (14, a, b, c, v)) (h : x_X G y k n ρ (pc + 1) L (.int (p <<< (q &&& 31)) :: st) M w) : x_X G y k n ρ pc L (.int q :: .int p :: st) M w := fun hk hn b hb Q hQ => xr_step hf (h hk hn b hb Q hQ)
theorem xr_15 (hf : e_fetch y pc = some (15, a, b, c, v)) (h : x_X G y k n ρ (pc + 1) L (.int (p >>> (q &&& 31)) :: st) M w) : x_X G y k n ρ pc L (.int q :: .int p :: st) M w := fun hk hn b hb Q hQ => xr_step hf (h hk hn b hb Q hQ)
theorem xr_16 (hf : e_fetch y pc = some (16, a, b, c, v)) (h : x_X G y k n ρ (pc + 1) L (.int (p &&& q) :: st) M w) : x_X G y k n ρ pc L (.int q :: .int p :: st) M w := fun hk hn b hb Q hQ => xr_step hf (h hk hn b hb Q hQ)
theorem xr_17 (hf : e_fetch y pc = some (17, a, b, c, v)) (h : x_X G y k n ρ (pc + 1) L (.int (p ||| q) :: st) M w) : x_X G y k n ρ pc L (.int q :: .int p :: st) M w := fun hk hn b hb Q hQ => xr_step hf (h hk hn b hb Q hQ)
theorem xr_18 (hf : e_fetch y pc = some (18, a, b, c, v)) (h : x_X G y k n ρ (pc + 1) L (.int (p ^^^ q) :: st) M w) : x_X G y k n ρ pc L (.int q :: .int p :: st) M w := fun hk hn b hb Q hQ => xr_step hf (h hk hn b hb Q hQ)
theorem xr_19 (hf : e_fetch y pc = some (19, a, b, c, v)) (h : x_X G y k n ρ (pc + 1) L (.long p.toInt64 :: st) M w) : x_X G y k n ρ pc L (.int p :: st) M w := fun hk hn b hb Q hQ => xr_step hf (h hk hn b hb Q hQ)
end
section
variable {p q : Int64}
theorem xr_20 (hf : e_fetch y pc = some (20, a, b, c, v)) (h : x_X G y k n ρ (pc + 1) L (.long (p + q) :: st) M w) : x_X G y k n ρ pc L (.long q :: .long p :: st) M w := fun hk hn b hb Q hQ => xr_step hf (h hk hn b hb Q hQ)
theorem xr_21 (hf : e_fetch y pc = some (21, a, b, c, v)) (h : x_X G y k n ρ (pc + 1) L (.long (p * q) :: st) M w) : x_X G y k n ρ pc L (.long q :: .long p :: st) M w := fun hk hn b hb Q hQ => xr_step hf (h hk hn b hb Q hQ)
theorem xr_22 (hf : e_fetch y pc = some (22, a, b, c, v)) (h : x_X G y k n ρ (pc + 1) L (.int (lg_cmp p q) :: st) M w) : x_X G y k n ρ pc L (.long q :: .long p :: st) M w := fun hk hn b hb Q hQ => xr_step hf (h hk hn b hb Q hQ)
end
theorem xr_23 (hf : e_fetch y pc = some (23, a, b, c, v)) (h : x_X G y k n ρ (pc + a) L (.long v.toInt64 :: st) M w) : x_X G y k n ρ pc L st M w := fun hk hn b hb Q hQ => xr_step hf (h hk hn b hb Q hQ)
theorem xr_24i {p : Int32} (hf : e_fetch y pc = some (24, a, b, c, v)) (h : x_X G y k n ρ (pc + 1) L (.int p :: .int p :: st) M w) : x_X G y k n ρ pc L (.int p :: st) M w := fun hk hn b hb Q hQ => xr_step hf ⟨rfl, h hk hn b hb Q hQ⟩
theorem xr_24r {p : Nat} (hf : e_fetch y pc = some (24, a, b, c, v)) (h : x_X G y k n ρ (pc + 1) L (.ref p :: .ref p :: st) M w) : x_X G y k n ρ pc L (.ref p :: st) M w := fun hk hn b hb Q hQ => xr_step hf ⟨rfl, h hk hn b hb Q hQ⟩
theorem xr_25 {p : Int32} {q : Nat} (hf : e_fetch y pc = some (25, a, b, c, v)) (h : x_X G y k n ρ (pc + 1) L (.int p :: .ref q :: .int p :: .ref q :: st) M w) : x_X G y k n ρ pc L (.int p :: .ref q :: st) M w := fun hk hn b hb Q hQ => xr_step hf ⟨rfl, rfl, h hk hn b hb Q hQ⟩
theorem xr_26i {p : Int32} (hf : e_fetch y pc = some (26, a, b, c, v)) (h : x_X G y k n ρ (pc + 1) L st M w) : x_X G y k n ρ pc L (.int p :: st) M w := fun hk hn b hb Q hQ => xr_step hf ⟨rfl, h hk hn b hb Q hQ⟩
theorem xr_27 (hf : e_fetch y pc = some (27, a, b, c, v)) (h : x_X G y k n ρ a L st M w) : x_X G y k n ρ pc L st M w := fun hk hn b hb Q hQ => xr_step hf (h hk hn b hb Q hQ)
section
variable {x z : Int32}
theorem xr_28_0 (hf : e_fetch y pc = some (28, 0, b, c, v)) (h1 : x_X G y k n ρ b L st M w1) (h2 : x_X G y k n ρ (pc + 3) L st M w2) : x_X G y k n ρ pc L (.int x :: st) M (if x = 0 then w1 else w2) := by
  intro hk hn bb hb Q hQ
  refine xr_step hf ?_
  show (if x = 0 then e_EX G y b L st e_SH M k n (e_qq y Q) else e_EX G y (pc + 3) L st e_SH M k n (e_qq y Q))
  split
  · rename_i g
    rw [if_pos g] at hb
    exact h1 hk hn _ hb Q hQ
  · rename_i g
    rw [if_neg g] at hb
    exact h2 hk hn _ hb Q hQ
theorem xr_28_1 (hf : e_fetch y pc = some (28, 1, b, c, v)) (h1 : x_X G y k n ρ b L st M w1) (h2 : x_X G y k n ρ (pc + 3) L st M w2) : x_X G y k n ρ pc L (.int x :: st) M (if x = 0 then w2 else w1) := by
  intro hk hn bb hb Q hQ
  refine xr_step hf ?_
  show (if x = 0 then e_EX G y (pc + 3) L st e_SH M k n (e_qq y Q) else e_EX G y b L st e_SH M k n (e_qq y Q))
  split
  · rename_i g
    rw [if_pos g] at hb
    exact h2 hk hn _ hb Q hQ
  · rename_i g
    rw [if_neg g] at hb
    exact h1 hk hn _ hb Q hQ
theorem xr_28_2 (hf : e_fetch y pc = some (28, 2, b, c, v)) (h1 : x_X G y k n ρ b L st M w1) (h2 : x_X G y k n ρ (pc + 3) L st M w2) : x_X G y k n ρ pc L (.int x :: st) M (if x < 0 then w1 else w2) := by
  intro hk hn bb hb Q hQ
  refine xr_step hf ?_
  show (if x < 0 then e_EX G y b L st e_SH M k n (e_qq y Q) else e_EX G y (pc + 3) L st e_SH M k n (e_qq y Q))
  split
  · rename_i g
    rw [if_pos g] at hb
    exact h1 hk hn _ hb Q hQ
  · rename_i g
    rw [if_neg g] at hb
    exact h2 hk hn _ hb Q hQ
theorem xr_28_3 (hf : e_fetch y pc = some (28, 3, b, c, v)) (h1 : x_X G y k n ρ b L st M w1) (h2 : x_X G y k n ρ (pc + 3) L st M w2) : x_X G y k n ρ pc L (.int x :: st) M (if 0 ≤ x then w1 else w2) := by
  intro hk hn bb hb Q hQ
  refine xr_step hf ?_
  show (if 0 ≤ x then e_EX G y b L st e_SH M k n (e_qq y Q) else e_EX G y (pc + 3) L st e_SH M k n (e_qq y Q))
  split
  · rename_i g
    rw [if_pos g] at hb
    exact h1 hk hn _ hb Q hQ
  · rename_i g
    rw [if_neg g] at hb
    exact h2 hk hn _ hb Q hQ
theorem xr_28_4 (hf : e_fetch y pc = some (28, 4, b, c, v)) (h1 : x_X G y k n ρ b L st M w1) (h2 : x_X G y k n ρ (pc + 3) L st M w2) : x_X G y k n ρ pc L (.int x :: st) M (if 0 < x then w1 else w2) := by
  intro hk hn bb hb Q hQ
  refine xr_step hf ?_
  show (if 0 < x then e_EX G y b L st e_SH M k n (e_qq y Q) else e_EX G y (pc + 3) L st e_SH M k n (e_qq y Q))
  split
  · rename_i g
    rw [if_pos g] at hb
    exact h1 hk hn _ hb Q hQ
  · rename_i g
    rw [if_neg g] at hb
    exact h2 hk hn _ hb Q hQ
theorem xr_28_5 (hf : e_fetch y pc = some (28, 5, b, c, v)) (h1 : x_X G y k n ρ b L st M w1) (h2 : x_X G y k n ρ (pc + 3) L st M w2) : x_X G y k n ρ pc L (.int x :: st) M (if x ≤ 0 then w1 else w2) := by
  intro hk hn bb hb Q hQ
  refine xr_step hf ?_
  show (if x ≤ 0 then e_EX G y b L st e_SH M k n (e_qq y Q) else e_EX G y (pc + 3) L st e_SH M k n (e_qq y Q))
  split
  · rename_i g
    rw [if_pos g] at hb
    exact h1 hk hn _ hb Q hQ
  · rename_i g
    rw [if_neg g] at hb
    exact h2 hk hn _ hb Q hQ
theorem xr_29_0 (hf : e_fetch y pc = some (29, 0, b, c, v)) (h1 : x_X G y k n ρ b L st M w1) (h2 : x_X G y k n ρ (pc + 3) L st M w2) : x_X G y k n ρ pc L (.int z :: .int x :: st) M (if x = z then w1 else w2) := by
  intro hk hn bb hb Q hQ
  refine xr_step hf ?_
  show (if x = z then e_EX G y b L st e_SH M k n (e_qq y Q) else e_EX G y (pc + 3) L st e_SH M k n (e_qq y Q))
  split
  · rename_i g
    rw [if_pos g] at hb
    exact h1 hk hn _ hb Q hQ
  · rename_i g
    rw [if_neg g] at hb
    exact h2 hk hn _ hb Q hQ
theorem xr_29_1 (hf : e_fetch y pc = some (29, 1, b, c, v)) (h1 : x_X G y k n ρ b L st M w1) (h2 : x_X G y k n ρ (pc + 3) L st M w2) : x_X G y k n ρ pc L (.int z :: .int x :: st) M (if x = z then w2 else w1) := by
  intro hk hn bb hb Q hQ
  refine xr_step hf ?_
  show (if x = z then e_EX G y (pc + 3) L st e_SH M k n (e_qq y Q) else e_EX G y b L st e_SH M k n (e_qq y Q))
  split
  · rename_i g
    rw [if_pos g] at hb
    exact h2 hk hn _ hb Q hQ
  · rename_i g
    rw [if_neg g] at hb
    exact h1 hk hn _ hb Q hQ
theorem xr_29_2 (hf : e_fetch y pc = some (29, 2, b, c, v)) (h1 : x_X G y k n ρ b L st M w1) (h2 : x_X G y k n ρ (pc + 3) L st M w2) : x_X G y k n ρ pc L (.int z :: .int x :: st) M (if x < z then w1 else w2) := by
  intro hk hn bb hb Q hQ
  refine xr_step hf ?_
  show (if x < z then e_EX G y b L st e_SH M k n (e_qq y Q) else e_EX G y (pc + 3) L st e_SH M k n (e_qq y Q))
  split
  · rename_i g
    rw [if_pos g] at hb
    exact h1 hk hn _ hb Q hQ
  · rename_i g
    rw [if_neg g] at hb
    exact h2 hk hn _ hb Q hQ
theorem xr_29_3 (hf : e_fetch y pc = some (29, 3, b, c, v)) (h1 : x_X G y k n ρ b L st M w1) (h2 : x_X G y k n ρ (pc + 3) L st M w2) : x_X G y k n ρ pc L (.int z :: .int x :: st) M (if z ≤ x then w1 else w2) := by
  intro hk hn bb hb Q hQ
  refine xr_step hf ?_
  show (if z ≤ x then e_EX G y b L st e_SH M k n (e_qq y Q) else e_EX G y (pc + 3) L st e_SH M k n (e_qq y Q))
  split
  · rename_i g
    rw [if_pos g] at hb
    exact h1 hk hn _ hb Q hQ
  · rename_i g
    rw [if_neg g] at hb
    exact h2 hk hn _ hb Q hQ
theorem xr_29_4 (hf : e_fetch y pc = some (29, 4, b, c, v)) (h1 : x_X G y k n ρ b L st M w1) (h2 : x_X G y k n ρ (pc + 3) L st M w2) : x_X G y k n ρ pc L (.int z :: .int x :: st) M (if z < x then w1 else w2) := by
  intro hk hn bb hb Q hQ
  refine xr_step hf ?_
  show (if z < x then e_EX G y b L st e_SH M k n (e_qq y Q) else e_EX G y (pc + 3) L st e_SH M k n (e_qq y Q))
  split
  · rename_i g
    rw [if_pos g] at hb
    exact h1 hk hn _ hb Q hQ
  · rename_i g
    rw [if_neg g] at hb
    exact h2 hk hn _ hb Q hQ
theorem xr_29_5 (hf : e_fetch y pc = some (29, 5, b, c, v)) (h1 : x_X G y k n ρ b L st M w1) (h2 : x_X G y k n ρ (pc + 3) L st M w2) : x_X G y k n ρ pc L (.int z :: .int x :: st) M (if x ≤ z then w1 else w2) := by
  intro hk hn bb hb Q hQ
  refine xr_step hf ?_
  show (if x ≤ z then e_EX G y b L st e_SH M k n (e_qq y Q) else e_EX G y (pc + 3) L st e_SH M k n (e_qq y Q))
  split
  · rename_i g
    rw [if_pos g] at hb
    exact h1 hk hn _ hb Q hQ
  · rename_i g
    rw [if_neg g] at hb
    exact h2 hk hn _ hb Q hQ
end
section
variable {i : Nat} {sl : List (Option Value)}
theorem xr_30i (hf : e_fetch y pc = some (30, a, b, c, v)) (hs : e_SH[i]? = some (.inr (b, sl))) (hc : sl[c]? = some none) (h : x_X G y k n ρ (pc + 3) L (.int (M i c) :: st) M w) : x_X G y k n ρ pc L (.ref i :: st) M w := fun hk hn b hb Q hQ => xr_step hf (by rw [es_30, hs]; simp only [hc]; exact ⟨trivial, h hk hn b hb Q hQ⟩)
theorem xr_30r {j : Nat} (hf : e_fetch y pc = some (30, a, b, c, v)) (hs : e_SH[i]? = some (.inr (b, sl))) (hc : sl[c]? = some (some (.ref j))) (h : x_X G y k n ρ (pc + 3) L (.ref j :: st) M w) : x_X G y k n ρ pc L (.ref i :: st) M w := fun hk hn b hb Q hQ => xr_step hf (by rw [es_30, hs]; simp only [hc]; exact ⟨trivial, h hk hn b hb Q hQ⟩)
theorem xr_31 {x : Int32} {f : e_Me → Option β} (hf : e_fetch y pc = some (31, a, b, c, 0)) (hs : e_SH[i]? = some (.inr (b, sl))) (hc : sl[c]? = some none) (h : ∀ M', x_X G y k n ρ (pc + 3) L st M' (f M')) : x_X G y k n ρ pc L (.int x :: .ref i :: st) M (x_lt (e_up M i c x) f) := fun hk hn b hb Q hQ => xr_step hf (by rw [es_31, hs]; exact ⟨rfl, hc, Or.inl rfl, h _ hk hn b hb Q hQ⟩)
theorem xr_31b {x : Int32} {f : e_Me → Option β} (hf : e_fetch y pc = some (31, a, b, c, 1)) (hs : e_SH[i]? = some (.inr (b, sl))) (hc : sl[c]? = some none) (h : ∀ M', x_X G y k n ρ (pc + 3) L st M' (f M')) : x_X G y k n ρ pc L (.int x :: .ref i :: st) M (x_gb x (x_lt (e_up M i c x) f)) := by
  unfold x_gb
  split
  · rename_i g
    exact fun hk hn b hb Q hQ => xr_step hf (by rw [es_31, hs]; exact ⟨rfl, hc, Or.inr ⟨rfl, g⟩, h _ hk hn b hb Q hQ⟩)
  · exact xr_none
theorem x_in {N : Nat} {x : Int32} (h1 : ¬ x < 0) (h2 : ¬ N ≤ x.toNatClampNeg) : vp_in x N := fun h => h.elim h1 h2
theorem xr_32 {N : Nat} {x : Int32} {f : Int32 → Option β} (hf : e_fetch y pc = some (32, a, b, c, v)) (hs : e_SH[i]? = some (.inl (0, N, none))) (h : ∀ z, x_X G y k n ρ (pc + 1) L (.int z :: st) M (f z)) : x_X G y k n ρ pc L (.int x :: .ref i :: st) M (x_rd (M i) N x f) := by
  unfold x_rd
  split
  · exact xr_none
  · rename_i g1
    split
    · exact xr_none
    · rename_i g2
      exact fun hk hn b hb Q hQ => xr_step hf (by rw [es_32, hs]; exact ⟨rfl, x_in g1 g2, h _ hk hn b hb Q hQ⟩)
theorem xr_32r {N : Nat} {x : Int32} {g : Nat → Int32} {f : Int32 → Option β} (hf : e_fetch y pc = some (32, a, b, c, v)) (hs : e_SH[i]? = none) (hr : e_ro G i = some (N, g)) (h : ∀ z, x_X G y k n ρ (pc + 1) L (.int z :: st) M (f z)) : x_X G y k n ρ pc L (.int x :: .ref i :: st) M (x_rd g N x f) := by
  unfold x_rd
  split
  · exact xr_none
  · rename_i g1
    split
    · exact xr_none
    · rename_i g2
      exact fun hk hn b hb Q hQ => xr_step hf (by rw [es_32, hs]; simp only [hr]; exact ⟨x_in g1 g2, h _ hk hn b hb Q hQ⟩)
theorem xr_33 {N : Nat} {x u : Int32} {f : e_Me → Option β} (hf : e_fetch y pc = some (33, a, b, c, v)) (hs : e_SH[i]? = some (.inl (0, N, none))) (h : ∀ M', x_X G y k n ρ (pc + 1) L st M' (f M')) : x_X G y k n ρ pc L (.int u :: .int x :: .ref i :: st) M (x_wr M i N x u f) := by
  unfold x_wr
  split
  · exact xr_none
  · rename_i g1
    split
    · exact xr_none
    · rename_i g2
      exact fun hk hn b hb Q hQ => xr_step hf (by rw [es_33, hs]; exact ⟨rfl, x_in g1 g2, h _ hk hn b hb Q hQ⟩)
theorem xr_34 {N : Nat} {x : Int32} {f : Int32 → Option β} (hf : e_fetch y pc = some (34, a, b, c, v)) (hs : e_SH[i]? = some (.inl (1, N, none))) (h : ∀ z, x_X G y k n ρ (pc + 1) L (.int z :: st) M (f z)) : x_X G y k n ρ pc L (.int x :: .ref i :: st) M (x_rd (M i) N x f) := by
  unfold x_rd
  split
  · exact xr_none
  · rename_i g1
    split
    · exact xr_none
    · rename_i g2
      exact fun hk hn b hb Q hQ => xr_step hf (by rw [es_34, hs]; exact ⟨rfl, x_in g1 g2, h _ hk hn b hb Q hQ⟩)
theorem xr_35 {N : Nat} {x u : Int32} {f : e_Me → Option β} (hf : e_fetch y pc = some (35, a, b, c, v)) (hs : e_SH[i]? = some (.inl (1, N, none))) (h : ∀ M', x_X G y k n ρ (pc + 1) L st M' (f M')) : x_X G y k n ρ pc L (.int u :: .int x :: .ref i :: st) M (x_wr M i N x (u &&& 1) f) := by
  unfold x_wr
  split
  · exact xr_none
  · rename_i g1
    split
    · exact xr_none
    · rename_i g2
      exact fun hk hn b hb Q hQ => xr_step hf (by rw [es_35, hs]; exact ⟨rfl, x_in g1 g2, h _ hk hn b hb Q hQ⟩)
theorem xr_36 {t N : Nat} {x : Int32} {g : Nat → Option Nat} {r : Nat → Nat} {f : Nat → Option β} (hf : e_fetch y pc = some (36, a, b, c, v)) (hs : e_SH[i]? = some (.inl (t, N, some g))) (ht : t = 2 ∨ t = 3) (hg : ∀ j, j < N → g j = some (r j)) (h : ∀ j, x_X G y k n ρ (pc + 1) L (.ref (r j) :: st) M (f j)) : x_X G y k n ρ pc L (.int x :: .ref i :: st) M (x_ra N x f) := by
  unfold x_ra
  split
  · exact xr_none
  · rename_i g1
    split
    · exact xr_none
    · rename_i g2
      exact fun hk hn b hb Q hQ => xr_step hf (by rw [es_36, hs]; simp only [hg _ (Nat.not_le.mp g2)]; exact ⟨ht, x_in g1 g2, h _ hk hn b hb Q hQ⟩)
theorem xr_38 {t N : Nat} {o : Option (Nat → Option Nat)} (hf : e_fetch y pc = some (38, a, b, c, v)) (hs : e_SH[i]? = some (.inl (t, N, o))) (ht : t < 4) (h : x_X G y k n ρ (pc + 1) L (.int (nI N) :: st) M w) : x_X G y k n ρ pc L (.ref i :: st) M w := fun hk hn b hb Q hQ => xr_step hf (by rw [es_38, hs]; exact ⟨ht, h hk hn b hb Q hQ⟩)
theorem xr_38r {N : Nat} {g : Nat → Int32} (hf : e_fetch y pc = some (38, a, b, c, v)) (hs : e_SH[i]? = none) (hr : e_ro G i = some (N, g)) (h : x_X G y k n ρ (pc + 1) L (.int (nI N) :: st) M w) : x_X G y k n ρ pc L (.ref i :: st) M w := fun hk hn b hb Q hQ => xr_step hf (by rw [es_38, hs]; simp only [hr]; exact h hk hn b hb Q hQ)
theorem xr_39 (hf : e_fetch y pc = some (39, a, b, c, v)) (h : x_X G y k n ρ (pc + 3) L (.ref b :: st) M w) : x_X G y k n ρ pc L st M w := fun hk hn b hb Q hQ => xr_step hf (h hk hn b hb Q hQ)
theorem xr_45 {N j : Nat} {x : Int32} {f : e_Me → Option β} (hf : e_fetch y pc = some (45, a, b, c, v)) (hs : e_SH[i]? = some (.inl (0, N, none))) (hj : e_SH[j]? = some (.inl (0, N, none))) (hx : ¬ x < 0) (hx2 : x.toNatClampNeg ≤ N) (hcat : e_cat st ≤ 8) (h : ∀ M', x_X G y k n ρ (pc + 3) L st M' (f M')) : x_X G y k n ρ pc L (.int x :: .int 0 :: .ref j :: .int 0 :: .ref i :: st) M (x_lt (e_row M j (fun b => if b < x.toNatClampNeg then M i b else M j b)) f) := fun hk hn b hb Q hQ => xr_step hf (by
  show (match e_SH[i]? with
      | some (.inl (t, N, none)) => (0 : Int32) = 0 ∧ (0 : Int32) = 0 ∧ t = 0 ∧ e_SH[j]? = some (.inl (0, N, none)) ∧ ¬ x < 0 ∧ x.toNatClampNeg ≤ N ∧ e_cat st ≤ 8 ∧ _
      | _ => False)
  rw [hs]
  exact ⟨rfl, rfl, rfl, hj, hx, hx2, hcat, h _ hk hn b hb Q hQ⟩)
end
theorem xr_cap {r : Nat} {f : Nat → Option β} (h : ∀ cap, e_cap r = some cap → x_X G y k n ρ pc L st M (f cap)) : x_X G y k n ρ pc L st M (x_bd (e_cap r) f) := by
  cases hc : e_cap r with
  | none => exact xr_none
  | some cap => exact h cap hc
theorem xr_arl {r : Nat} {f : Nat → Option β} (h : ∀ cap, e_arl r = some cap → x_X G y k n ρ pc L st M (f cap)) : x_X G y k n ρ pc L st M (x_bd (e_arl r) f) := by
  cases hc : e_arl r with
  | none => exact xr_none
  | some cap => exact h cap hc
theorem xr_rs {z ci : Nat} {as : List Value} (h : e_kd z = 1) : e_rcv z ci e_SH as := by simp [e_rcv, h]
theorem xr_rv {z ci i : Nat} {as : List Value} {sl : List (Option Value)} (h : e_kd z = 0) (hs : e_SH[i]? = some (.inr (ci, sl))) : e_rcv z ci e_SH (.ref i :: as) := by simp [e_rcv, h, hs]
theorem xr_ro {z ci i : Nat} {as : List Value} (h : e_kd z = 2) : e_rcv z ci e_SH (.ref i :: as) := by simp [e_rcv, h]
section
variable {z : Nat} {as : List Value}
theorem xr_call {γ : Type} {ρz : γ → Option Value × e_Me} {vz : Option γ} {f : γ → Option β} (hf : e_fetch y pc = some (44, a, z, c, v)) (hcl : c ≤ st0.length) (ht : (st0.take c).reverse = as) (hd : st0.drop c = st) (hr : e_rcv z (a % 16) e_SH as) (hcat : e_cat st ≤ 8) (hmc : e_mc z = 0) (hms : e_ms z = 0) (hz : x_C G z as M ρz vz) (h : ∀ g, x_X G y k n ρ (pc + 3) L ((ρz g).1.toList ++ st) (ρz g).2 (f g)) : x_X G y k n ρ pc L st0 M (x_bd vz f) := by
  cases vz with
  | none => exact xr_none
  | some g =>
    intro hk hn b hb Q hQ
    refine xr_step hf ?_
    rw [es_44, ht, hd, hmc, hms]
    exact ⟨hcl, hr, hcat, hk, hn, e_C_use (hz g rfl _ (h g hk hn b hb Q hQ))⟩
theorem xr_ci {vz : Option Int32} {f : Int32 → Option β} (hf : e_fetch y pc = some (44, a, z, c, v)) (hcl : c ≤ st0.length) (ht : (st0.take c).reverse = as) (hd : st0.drop c = st) (hr : e_rcv z (a % 16) e_SH as) (hcat : e_cat st ≤ 8) (hmc : e_mc z = 0) (hms : e_ms z = 0) (hz : x_C G z as M (x_ri M) vz) (h : ∀ x, x_X G y k n ρ (pc + 3) L (.int x :: st) M (f x)) : x_X G y k n ρ pc L st0 M (x_bd vz f) := xr_call hf hcl ht hd hr hcat hmc hms hz h
theorem xr_cl {vz : Option Int64} {f : Int64 → Option β} (hf : e_fetch y pc = some (44, a, z, c, v)) (hcl : c ≤ st0.length) (ht : (st0.take c).reverse = as) (hd : st0.drop c = st) (hr : e_rcv z (a % 16) e_SH as) (hcat : e_cat st ≤ 8) (hmc : e_mc z = 0) (hms : e_ms z = 0) (hz : x_C G z as M (x_rl M) vz) (h : ∀ x, x_X G y k n ρ (pc + 3) L (.long x :: st) M (f x)) : x_X G y k n ρ pc L st0 M (x_bd vz f) := xr_call hf hcl ht hd hr hcat hmc hms hz h
theorem xr_cr {vz : Option Nat} {f : Nat → Option β} (hf : e_fetch y pc = some (44, a, z, c, v)) (hcl : c ≤ st0.length) (ht : (st0.take c).reverse = as) (hd : st0.drop c = st) (hr : e_rcv z (a % 16) e_SH as) (hcat : e_cat st ≤ 8) (hmc : e_mc z = 0) (hms : e_ms z = 0) (hz : x_C G z as M (x_rr M) vz) (h : ∀ x, x_X G y k n ρ (pc + 3) L (.ref x :: st) M (f x)) : x_X G y k n ρ pc L st0 M (x_bd vz f) := xr_call hf hcl ht hd hr hcat hmc hms hz h
theorem xr_cv {vz : Option e_Me} {f : e_Me → Option β} (hf : e_fetch y pc = some (44, a, z, c, v)) (hcl : c ≤ st0.length) (ht : (st0.take c).reverse = as) (hd : st0.drop c = st) (hr : e_rcv z (a % 16) e_SH as) (hcat : e_cat st ≤ 8) (hmc : e_mc z = 0) (hms : e_ms z = 0) (hz : x_C G z as M x_rv vz) (h : ∀ M', x_X G y k n ρ (pc + 3) L st M' (f M')) : x_X G y k n ρ pc L st0 M (x_bd vz f) := xr_call hf hcl ht hd hr hcat hmc hms hz h
theorem xr_cim {vz : Option (Int32 × e_Me)} {f : Int32 → e_Me → Option β} (hf : e_fetch y pc = some (44, a, z, c, v)) (hcl : c ≤ st0.length) (ht : (st0.take c).reverse = as) (hd : st0.drop c = st) (hr : e_rcv z (a % 16) e_SH as) (hcat : e_cat st ≤ 8) (hmc : e_mc z = 0) (hms : e_ms z = 0) (hz : x_C G z as M x_rim vz) (h : ∀ x M', x_X G y k n ρ (pc + 3) L (.int x :: st) M' (f x M')) : x_X G y k n ρ pc L st0 M (x_bi vz f) := xr_call hf hcl ht hd hr hcat hmc hms hz (fun g => h g.1 g.2)
end
/-- a switch -/
def x_S (G : e_G) (y k n : Nat) {β : Type} (ρ : β → Option Value × e_Me) (l : List (Int32 × Nat)) (d : Nat) (x : Int32) (L : List (Option Value)) (st : List Value) (M : e_Me) (v : Option β) : Prop :=
  k ≤ e_mc y → n ≤ e_ms y → ∀ b, v = some b → ∀ Q : Option Value → e_Me → Prop, Q (ρ b).1 (ρ b).2 → e_swk x (fun t => e_EX G y t L st e_SH M k n (e_qq y Q)) d l
theorem xr_s0 {d : Nat} {x : Int32} (h : x_X G y k n ρ d L st M w) : x_S G y k n ρ [] d x L st M w := h
theorem xr_s1 {d t : Nat} {x u : Int32} {l : List (Int32 × Nat)} (h1 : x_X G y k n ρ t L st M w1) (h2 : x_S G y k n ρ l d x L st M w2) : x_S G y k n ρ ((u, t) :: l) d x L st M (if x = u then w1 else w2) := by
  intro hk hn b hb Q hQ
  simp only [e_swk]
  split
  · rename_i g
    rw [if_pos g] at hb
    exact h1 hk hn b hb Q hQ
  · rename_i g
    rw [if_neg g] at hb
    exact h2 hk hn b hb Q hQ
theorem xr_47 {l : List (Int32 × Nat)} {d : Nat} {x : Int32} (hf : e_fetch y pc = some (47, a, b, c, v)) (hs : e_sw[a]? = some (l, d)) (h : x_S G y k n ρ l d x L st M w) : x_X G y k n ρ pc L (.int x :: st) M w := fun hk hn b hb Q hQ => xr_step hf (by
  show (match e_sw[a]? with
      | some q => e_swk x _ q.2 q.1
      | none => False)
  rw [hs]
  exact h hk hn b hb Q hQ)
theorem xr_48 {l : List (Int32 × Nat)} {d : Nat} {x : Int32} (hf : e_fetch y pc = some (48, a, b, c, v)) (hs : e_sw[a]? = some (l, d)) (h : x_S G y k n ρ l d x L st M w) : x_X G y k n ρ pc L (.int x :: st) M w := fun hk hn b hb Q hQ => xr_step hf (by
  show (match e_sw[a]? with
      | some q => e_swk x _ q.2 q.1
      | none => False)
  rw [hs]
  exact h hk hn b hb Q hQ)
theorem xr_end {x : β} {r : Option Value} (h : ρ x = (r, M)) {Q : Option Value → e_Me → Prop} {bb : β} (hb : some x = some bb) (hk : k ≤ e_mc y) (hn : n ≤ e_ms y) (hQ : Q (ρ bb).1 (ρ bb).2) : e_qq y Q r e_SH M k n := by
  cases hb
  rw [h] at hQ
  exact ⟨hk, hn, rfl, hQ⟩
theorem xr_50 (hf : e_fetch y pc = some (50, a, b, c, v)) : x_X G y k n x_rv pc L [] M (some M) := fun hk hn _ hb _ hQ => xr_step hf (xr_end (ρ := x_rv) rfl hb hk hn hQ)
section
variable {x : Int32}
theorem xr_51 (hf : e_fetch y pc = some (51, a, b, c, v)) : x_X G y k n (x_ri M) pc L [.int x] M (some x) := fun hk hn _ hb _ hQ => xr_step hf (xr_end (ρ := x_ri M) rfl hb hk hn hQ)
theorem xr_51m (hf : e_fetch y pc = some (51, a, b, c, v)) : x_X G y k n x_rim pc L [.int x] M (some (x, M)) := fun hk hn _ hb _ hQ => xr_step hf (xr_end (ρ := x_rim) rfl hb hk hn hQ)
theorem xr_52c (hf : e_fetch y pc = some (52, a, b, c, v)) (hx : x = 0 ∨ x = 1) : x_X G y k n (x_ri M) pc L [.int x] M (some x) := fun hk hn _ hb _ hQ => xr_step hf ⟨hx, xr_end (ρ := x_ri M) rfl hb hk hn hQ⟩
theorem xr_52mc (hf : e_fetch y pc = some (52, a, b, c, v)) (hx : x = 0 ∨ x = 1) : x_X G y k n x_rim pc L [.int x] M (some (x, M)) := fun hk hn _ hb _ hQ => xr_step hf ⟨hx, xr_end (ρ := x_rim) rfl hb hk hn hQ⟩
theorem xr_52 (hf : e_fetch y pc = some (52, a, b, c, v)) : x_X G y k n (x_ri M) pc L [.int x] M (x_gb x (some x)) := by
  unfold x_gb
  split
  · rename_i g
    exact xr_52c hf g
  · exact xr_none
theorem xr_52m (hf : e_fetch y pc = some (52, a, b, c, v)) : x_X G y k n x_rim pc L [.int x] M (x_gb x (some (x, M))) := by
  unfold x_gb
  split
  · rename_i g
    exact xr_52mc hf g
  · exact xr_none
end
theorem xr_53 {x : Int64} (hf : e_fetch y pc = some (53, a, b, c, v)) : x_X G y k n (x_rl M) pc L [.long x] M (some x) := fun hk hn _ hb _ hQ => xr_step hf (xr_end (ρ := x_rl M) rfl hb hk hn hQ)
theorem xr_54 {x : Nat} (hf : e_fetch y pc = some (54, a, b, c, v)) : x_X G y k n (x_rr M) pc L [.ref x] M (some x) := fun hk hn _ hb _ hQ => xr_step hf (xr_end (ρ := x_rr M) rfl hb hk hn hQ)
/-- fewer locals known -/
def e_wk : List (Option Value) → List Bool → List (Option Value)
  | [], _ => []
  | a :: l, [] => a :: l
  | a :: l, b :: bs => (if b then a else none) :: e_wk l bs
theorem e_wk_at : ∀ (L : List (Option Value)) (bs : List Bool) (i : Nat) (u : Value), (e_wk L bs)[i]? = some (some u) → L[i]? = some (some u) := by
  intro L
  induction L with
  | nil => intro bs i u h; exact h
  | cons p L ih =>
    intro bs i u h
    match bs with
    | [] => exact h
    | q :: bs =>
      simp only [e_wk] at h
      match i with
      | 0 =>
        cases q
        · simp at h
        · simpa using h
      | i + 1 => exact ih bs i u (by simpa using h)
theorem xr_wk (bs : List Bool) (hL : e_wk L bs = L') (h : x_X G y k n ρ pc L' st M w) : x_X G y k n ρ pc L st M w := by
  subst hL
  intro hk hn b hb Q hQ p e s m args below meth c Z H locs ls hC hE hH hS hl
  exact h hk hn b hb Q hQ p e s m args below meth c Z H locs ls hC hE hH hS ⟨hl.1, hl.2.1, fun i u hi => hl.2.2 i u (e_wk_at L bs i u hi)⟩
theorem x_C_of {z : Nat} {as : List Value} (ml : Nat) (L : List (Option Value)) (hy : z < 268) (hml : e_mlx z = ml) (hl : (e_fl2 as).length ≤ ml) (hL : e_fl2 as ++ List.replicate (ml - (e_fl2 as).length) none = L) (h : x_X G z 0 0 ρ 0 L [] M w) : x_C G z as M ρ w := by
  subst hml
  subst hL
  exact fun b hb Q hQ => e_CA_of hy hl (h (Nat.zero_le _) (Nat.zero_le _) b hb Q hQ)
end
