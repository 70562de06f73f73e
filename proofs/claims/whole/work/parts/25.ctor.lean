/-! a run of the constructors, by counting: cells as data, a step that computes, its soundness -/
abbrev e_DE : Type := (Nat × Nat × Option (List (Option Nat))) ⊕ (Nat × List (Option Value))
abbrev e_DS : Type := List e_DE
def e_tc : e_DE → e_SE
  | .inl (t, N, none) => .inl (t, N, none)
  | .inl (t, N, some l) => .inl (t, N, some (fun b => (l[b]?).join))
  | .inr p => .inr p
def e_tS (D : e_DS) : e_Sh := D.map e_tc
theorem e_tS_at {D : e_DS} {i : Nat} {q : e_DE} (h : D[i]? = some q) : (e_tS D)[i]? = some (e_tc q) := by
  simp [e_tS, h]
theorem e_tS_len (D : e_DS) : (e_tS D).length = D.length := by simp [e_tS]
theorem e_tS_app (D : e_DS) (q : e_DE) : e_tS (D ++ [q]) = e_tS D ++ [e_tc q] := by simp [e_tS]
theorem e_tS_set (D : e_DS) (i : Nat) (q : e_DE) : e_tS (D.set i q) = (e_tS D).set i (e_tc q) := by simp [e_tS, List.map_set]
def e_dro (i : Nat) : Option (Nat × (Nat → Int32)) := match i with
  | 1001 => some (16, e_tab [0, 10, 21, 31, 41, 50, 59, 67, 74, 81, 87, 91, 95, 98, 99, 100])
  | _ => none
def e_dmn (D : e_DS) (N K : Nat) : e_DS := D ++ (.inl (3, N, some ((List.range N).map (fun j => some (D.length + 1 + j)))) :: List.replicate N (.inl (0, K, none)))
def e_irb (x : Int32) (N : Nat) : Bool := !(decide (x < 0)) && !(decide (N ≤ x.toNatClampNeg))
theorem e_irb_in {x : Int32} {N : Nat} (h : e_irb x N = true) : vp_in x N := by
  simp [e_irb] at h
  intro q
  rcases q with q | q
  · exact Int32.not_lt.mpr h.1 q
  · omega
def e_cnb (c : Nat) (x y : Int32) : Bool := match c with
  | 0 => decide (x = y)
  | 1 => !decide (x = y)
  | 2 => decide (x < y)
  | 3 => decide (y ≤ x)
  | 4 => decide (y < x)
  | _ => decide (x ≤ y)
theorem e_cnb_ife {c : Nat} {x y : Int32} {A B : Prop} (h1 : e_cnb c x y = true → A) (h2 : e_cnb c x y = false → B) : e_ife c x y A B := by
  match c, h1, h2 with
  | 0, h1, h2 =>
    show (if x = y then A else B)
    split
    · exact h1 (decide_eq_true (by assumption))
    · exact h2 (decide_eq_false (by assumption))
  | 1, h1, h2 =>
    show (if x = y then B else A)
    split
    · exact h2 (by simp only [e_cnb]; simp; assumption)
    · exact h1 (by simp only [e_cnb]; simp; assumption)
  | 2, h1, h2 =>
    show (if x < y then A else B)
    split
    · exact h1 (decide_eq_true (by assumption))
    · exact h2 (decide_eq_false (by assumption))
  | 3, h1, h2 =>
    show (if y ≤ x then A else B)
    split
    · exact h1 (decide_eq_true (by assumption))
    · exact h2 (decide_eq_false (by assumption))
  | 4, h1, h2 =>
    show (if y < x then A else B)
    split
    · exact h1 (decide_eq_true (by assumption))
    · exact h2 (decide_eq_false (by assumption))
  | c + 5, h1, h2 =>
    show (if x ≤ y then A else B)
    split
    · exact h1 (decide_eq_true (by assumption))
    · exact h2 (decide_eq_false (by assumption))
def e_swb (x : Int32) (d : Nat) : List (Int32 × Nat) → Nat
  | [] => d
  | (a, t) :: l => if x = a then t else e_swb x d l
theorem e_swb_k {x : Int32} {d : Nat} {K : Nat → Prop} : ∀ {l : List (Int32 × Nat)}, K (e_swb x d l) → e_swk x K d l := by
  intro l
  induction l with
  | nil => intro h; exact h
  | cons q l ih =>
    obtain ⟨a, t⟩ := q
    intro h
    simp only [e_swb] at h
    simp only [e_swk]
    split
    · rename_i g
      rw [if_pos g] at h
      exact h
    · rename_i g
      rw [if_neg g] at h
      exact ih h
def e_rcb (z ci : Nat) (D : e_DS) (as : List Value) : Bool := match e_kd z with
  | 1 => true
  | 0 => match as with
    | .ref i :: _ => match D[i]? with
      | some (.inr (d, _)) => d == ci
      | _ => false
    | _ => false
  | _ => match as with
    | .ref _ :: _ => true
    | _ => false
theorem e_rcb_rcv {z ci : Nat} {D : e_DS} {as : List Value} (h : e_rcb z ci D as = true) : e_rcv z ci (e_tS D) as := by
  unfold e_rcb at h
  unfold e_rcv
  generalize e_kd z = kk at h
  match kk, h with
  | 1, _ => trivial
  | 0, h =>
    match as, h with
    | .ref i :: as, h =>
      simp only at h ⊢
      split at h
      · rename_i hd
        rw [e_tS_at hd]
        exact eq_of_beq h
      · cases h
  | kk + 2, h =>
    match as, h with
    | .ref i :: as, _ => trivial
def e_rx {α : Type} (K : Nat → List (Option Value) → List Value → e_DS → e_Me → Nat → Nat → Option α) (C : Nat → List Value → e_DS → e_Me → Option (Option Value × e_DS × e_Me)) (Z : Option Value → e_DS → e_Me → Nat → Nat → Option α) (y pc op a b c : Nat) (v : Int32) (L : List (Option Value)) (st : List Value) (D : e_DS) (M : e_Me) (k n : Nat) : Option α := match op with
  | 0 => K (pc + a) L (.int v :: st) D M k n
  | 1 => match L[a]? with
    | some (some (.int x)) => K (pc + b) L (.int x :: st) D M k n
    | _ => none
  | 2 => match L[a]? with
    | some (some (.ref x)) => K (pc + b) L (.ref x :: st) D M k n
    | _ => none
  | 4 => match st with
    | .int x :: st => if e_nl L a = true then K (pc + b) (L.set a (some (.int x))) st D M k n else none
    | _ => none
  | 5 => match st with
    | .ref x :: st => if e_nl L a = true then K (pc + b) (L.set a (some (.ref x))) st D M k n else none
    | _ => none
  | 7 => match L[a]? with
    | some (some (.int x)) => if e_nl L a = true then K (pc + 3) (L.set a (some (.int (x + v)))) st D M k n else none
    | _ => none
  | 9 => match st with
    | .int q :: .int p :: st => K (pc + 1) L (.int (p - q) :: st) D M k n
    | _ => none
  | 10 => match st with
    | .int q :: .int p :: st => K (pc + 1) L (.int (p * q) :: st) D M k n
    | _ => none
  | 11 => match st with
    | .int p :: st => K (pc + 1) L (.int (-p) :: st) D M k n
    | _ => none
  | 24 => match st with
    | .int p :: st => K (pc + 1) L (.int p :: .int p :: st) D M k n
    | .ref p :: st => K (pc + 1) L (.ref p :: .ref p :: st) D M k n
    | _ => none
  | 26 => match st with
    | .int _ :: st => K (pc + 1) L st D M k n
    | _ => none
  | 27 => K a L st D M k n
  | 28 => match st with
    | .int x :: st => match e_cnb a x 0 with
      | true => K b L st D M k n
      | false => K (pc + 3) L st D M k n
    | _ => none
  | 29 => match st with
    | .int q :: .int p :: st => match e_cnb a p q with
      | true => K b L st D M k n
      | false => K (pc + 3) L st D M k n
    | _ => none
  | 30 => match st with
    | .ref i :: st => match D[i]? with
      | some (.inr (ci, sl)) => match sl[c]? with
        | some o => if ci = b then K (pc + 3) L (e_fv (M i) c o :: st) D M k n else none
        | none => none
      | _ => none
    | _ => none
  | 31 => match st with
    | .int x :: .ref i :: st => match D[i]? with
      | some (.inr (ci, sl)) => if ci = b ∧ sl[c]? = some none ∧ (v = 0 ∨ v = 1 ∧ (x = 0 ∨ x = 1)) then K (pc + 3) L st D (e_up M i c x) k n else none
      | _ => none
    | .ref w :: .ref i :: st => match D[i]? with
      | some (.inr (ci, sl)) => if ci = b ∧ c < sl.length ∧ v = 2 then K (pc + 3) L st (D.set i (.inr (ci, sl.set c (some (.ref w))))) M k n else none
      | _ => none
    | _ => none
  | 32 => match st with
    | .int x :: .ref i :: st => match D[i]? with
      | none => match e_dro i with
        | some q => if e_irb x q.1 = true then K (pc + 1) L (.int (q.2 x.toNatClampNeg) :: st) D M k n else none
        | none => none
      | _ => none
    | _ => none
  | 33 => match st with
    | .int w :: .int x :: .ref i :: st => match D[i]? with
      | some (.inl (t, N, none)) => if t = 0 ∧ e_irb x N = true then K (pc + 1) L st D (e_up M i x.toNatClampNeg w) k n else none
      | _ => none
    | _ => none
  | 37 => match st with
    | .ref w :: .int x :: .ref i :: st => match D[i]? with
      | some (.inl (t, N, some l)) => match D[w]? with
        | some (.inr (ci, _)) => if ci = 7 ∧ t = 2 ∧ e_irb x N = true ∧ x.toNatClampNeg < l.length then K (pc + 1) L st (D.set i (.inl (2, N, some (l.set x.toNatClampNeg (some w))))) M k n else none
        | _ => none
      | _ => none
    | _ => none
  | 38 => match st with
    | .ref i :: st => match D[i]? with
      | some (.inl (t, N, _)) => if t < 4 then K (pc + 1) L (.int (Int32.ofNat N) :: st) D M k n else none
      | none => match e_dro i with
        | some q => K (pc + 1) L (.int (Int32.ofNat q.1) :: st) D M k n
        | none => none
      | _ => none
    | _ => none
  | 39 => K (pc + 3) L (.ref b :: st) D M k n
  | 40 => match st with
    | .int x :: st => if ¬ x < 0 ∧ x.toNatClampNeg ≤ 100000 ∧ D.length < 1000 ∧ k + 1 ≤ e_mc y ∧ n + x.toNatClampNeg ≤ e_ms y then K (pc + 2) L (.ref D.length :: st) (D ++ [.inl (a, x.toNatClampNeg, none)]) (e_row M D.length (fun _ => 0)) (k + 1) (n + x.toNatClampNeg) else none
    | _ => none
  | 41 => match st with
    | .int x :: st => if ¬ x < 0 ∧ x.toNatClampNeg ≤ 100000 ∧ D.length < 1000 ∧ k + 1 ≤ e_mc y ∧ n + x.toNatClampNeg ≤ e_ms y then K (pc + 3) L (.ref D.length :: st) (D ++ [.inl (2, x.toNatClampNeg, some (List.replicate x.toNatClampNeg none))]) M (k + 1) (n + x.toNatClampNeg) else none
    | _ => none
  | 42 => match st with
    | .int z :: .int x :: st => if ¬ x < 0 ∧ ¬ z < 0 ∧ x.toNatClampNeg ≤ 100 ∧ z.toNatClampNeg ≤ 100 ∧ D.length + 1 + x.toNatClampNeg ≤ 1000 ∧ k + (1 + x.toNatClampNeg) ≤ e_mc y ∧ n + (x.toNatClampNeg + x.toNatClampNeg * z.toNatClampNeg) ≤ e_ms y then
        K (pc + 4) L (.ref D.length :: st) (e_dmn D x.toNatClampNeg z.toNatClampNeg) (e_mz M D.length x.toNatClampNeg) (k + 1 + x.toNatClampNeg) (n + x.toNatClampNeg + x.toNatClampNeg * z.toNatClampNeg) else none
    | _ => none
  | 43 => match vwCl[b]? with
    | some q => if D.length < 1000 ∧ k + 1 ≤ e_mc y ∧ n + q.2.2 ≤ e_ms y then K (pc + 3) L (.ref D.length :: st) (D ++ [.inr (b, e_sl0 b q.2.2)]) (e_row M D.length (fun _ => 0)) (k + 1) (n + q.2.2) else none
    | none => none
  | 44 => if c ≤ st.length ∧ e_rcb b (a % 16) D (st.take c).reverse = true ∧ e_cat (st.drop c) ≤ 8 ∧ k + e_mc b ≤ e_mc y ∧ n + e_ms b ≤ e_ms y then
      match C b (st.take c).reverse D M with
      | some (r, D', M') => K (pc + 3) L (r.toList ++ st.drop c) D' M' (k + e_mc b) (n + e_ms b)
      | none => none
    else none
  | 46 => match st with
    | .ref _ :: st => if e_cat st ≤ 8 then K (pc + 3) L st D M k n else none
    | _ => none
  | 48 => match st with
    | .int x :: st => match e_sw[a]? with
      | some q => K (e_swb x q.2 q.1) L st D M k n
      | none => none
    | _ => none
  | 50 => match st with
    | [] => Z none D M k n
    | _ => none
  | 51 => match st with
    | [.int x] => Z (some (.int x)) D M k n
    | _ => none
  | _ => none
section
variable {G : e_G} {α : Type} {K : Nat → List (Option Value) → List Value → e_DS → e_Me → Nat → Nat → Option α} {C : Nat → List Value → e_DS → e_Me → Option (Option Value × e_DS × e_Me)} {Z : Option Value → e_DS → e_Me → Nat → Nat → Option α} {y pc op a b c : Nat} {v : Int32} {L : List (Option Value)} {st : List Value} {D : e_DS} {M : e_Me} {k n : Nat} {res : α} {Kp : e_K} {Cp : Nat → List Value → e_Sh → e_Me → e_R → Prop} {Qp : e_Q}
theorem e_dro_ro {i : Nat} {q : Nat × (Nat → Int32)} (h : e_dro i = some q) : e_ro G i = some q ∧ 1000 < i := by
  unfold e_dro at h
  split at h
  · cases h
    exact ⟨rfl, by decide⟩
  · cases h
theorem e_rx31 {w i ci : Nat} {sl : List (Option Value)} (hd : D[i]? = some (.inr (ci, sl))) (g : ci = b ∧ c < sl.length ∧ v = 2) (h : Kp (pc + 3) L st (e_tS (D.set i (.inr (ci, sl.set c (some (.ref w)))))) M k n) : e_step G y pc Cp Kp Qp 31 a b c v L (.ref w :: .ref i :: st) (e_tS D) M k n := by
  show (match (e_tS D)[i]? with
    | some (.inr (ci, sl)) => ci = b ∧ c < sl.length ∧ v = 2 ∧ Kp (pc + 3) L st ((e_tS D).set i (.inr (ci, sl.set c (some (.ref w))))) M k n
    | _ => False)
  rw [e_tS_at hd]
  rw [e_tS_set] at h
  exact ⟨g.1, g.2.1, g.2.2, h⟩
theorem e_rx32 {i : Nat} {x : Int32} {q : Nat × (Nat → Int32)} (hd : D[i]? = none) (hq : e_dro i = some q) (g : e_irb x q.1 = true) (h : Kp (pc + 1) L (.int (q.2 x.toNatClampNeg) :: st) (e_tS D) M k n) : e_step G y pc Cp Kp Qp 32 a b c v L (.int x :: .ref i :: st) (e_tS D) M k n := by
  have hn : (e_tS D)[i]? = none := List.getElem?_eq_none (by rw [e_tS_len]; exact List.getElem?_eq_none_iff.mp hd)
  rw [es_32, hn]
  simp only [(e_dro_ro (G := G) hq).1]
  exact ⟨e_irb_in g, h⟩
theorem e_rx38 {i : Nat} {q : Nat × (Nat → Int32)} (hd : D[i]? = none) (hq : e_dro i = some q) (h : Kp (pc + 1) L (.int (Int32.ofNat q.1) :: st) (e_tS D) M k n) : e_step G y pc Cp Kp Qp 38 a b c v L (.ref i :: st) (e_tS D) M k n := by
  have hn : (e_tS D)[i]? = none := List.getElem?_eq_none (by rw [e_tS_len]; exact List.getElem?_eq_none_iff.mp hd)
  rw [es_38, hn]
  simp only [(e_dro_ro (G := G) hq).1]
  exact h
theorem e_rx37 {w i ci t N : Nat} {x : Int32} {l : List (Option Nat)} {sl : List (Option Value)} (hd : D[i]? = some (.inl (t, N, some l))) (hw : D[w]? = some (.inr (ci, sl))) (g : ci = 7 ∧ t = 2 ∧ e_irb x N = true ∧ x.toNatClampNeg < l.length) (h : Kp (pc + 1) L st (e_tS (D.set i (.inl (2, N, some (l.set x.toNatClampNeg (some w)))))) M k n) : e_step G y pc Cp Kp Qp 37 a b c v L (.ref w :: .int x :: .ref i :: st) (e_tS D) M k n := by
  show (match (e_tS D)[i]? with
    | some (.inl (t, N, some f)) => match (e_tS D)[w]? with
      | some (.inr (ci, _)) => ci = 7 ∧ t = 2 ∧ vp_in x N ∧ Kp (pc + 1) L st ((e_tS D).set i (.inl (2, N, some (fun b => if b = x.toNatClampNeg then some w else f b)))) M k n
      | _ => False
    | _ => False)
  rw [e_tS_at hd, e_tS_at hw]
  refine ⟨g.1, g.2.1, e_irb_in g.2.2.1, ?_⟩
  rw [e_tS_set] at h
  have e : (fun b => if b = x.toNatClampNeg then some w else (l[b]?).join) = (fun b => ((l.set x.toNatClampNeg (some w))[b]?).join) := by
    funext q
    rw [List.getElem?_set]
    by_cases hq : x.toNatClampNeg = q
    · subst hq
      simp [g.2.2.2]
    · rw [if_neg (fun h : q = x.toNatClampNeg => hq h.symm), if_neg hq]
  show Kp (pc + 1) L st ((e_tS D).set i (.inl (2, N, some (fun b => if b = x.toNatClampNeg then some w else (l[b]?).join)))) M k n
  rw [e]
  exact h
theorem e_rxs (hK : ∀ pc L st D M k n, K pc L st D M k n = some res → Kp pc L st (e_tS D) M k n) (hC : ∀ z as D M r D' M', C z as D M = some (r, D', M') → ∀ R : e_R, R r (e_tS D') M' → Cp z as (e_tS D) M R) (hZ : ∀ r D M k n, Z r D M k n = some res → Qp r (e_tS D) M k n)
    (h : e_rx K C Z y pc op a b c v L st D M k n = some res) : e_step G y pc Cp Kp Qp op a b c v L st (e_tS D) M k n := by
  unfold e_rx at h
  split at h
  · exact hK _ _ _ _ _ _ _ h
  · split at h
    · rename_i x hx
      rw [es_1, hx]
      exact hK _ _ _ _ _ _ _ h
    · cases h
  · split at h
    · rename_i x hx
      rw [es_2, hx]
      exact hK _ _ _ _ _ _ _ h
    · cases h
  · split at h
    · split at h
      · rename_i g
        exact ⟨g, hK _ _ _ _ _ _ _ h⟩
      · cases h
    · cases h
  · split at h
    · split at h
      · rename_i g
        exact ⟨g, hK _ _ _ _ _ _ _ h⟩
      · cases h
    · cases h
  · split at h
    · rename_i x hx
      split at h
      · rename_i g
        rw [es_7, hx]
        exact ⟨g, hK _ _ _ _ _ _ _ h⟩
      · cases h
    · cases h
  · split at h
    · exact hK _ _ _ _ _ _ _ h
    · cases h
  · split at h
    · exact hK _ _ _ _ _ _ _ h
    · cases h
  · split at h
    · exact hK _ _ _ _ _ _ _ h
    · cases h
  · split at h
    · exact ⟨rfl, hK _ _ _ _ _ _ _ h⟩
    · exact ⟨rfl, hK _ _ _ _ _ _ _ h⟩
    · cases h
  · split at h
    · exact ⟨rfl, hK _ _ _ _ _ _ _ h⟩
    · cases h
  · exact hK _ _ _ _ _ _ _ h
  · split at h
    · rename_i x st'
      refine e_cnb_ife (fun g => ?_) (fun g => ?_)
      · rw [g] at h
        exact hK _ _ _ _ _ _ _ h
      · rw [g] at h
        exact hK _ _ _ _ _ _ _ h
    · cases h
  · split at h
    · rename_i x st'
      refine e_cnb_ife (fun g => ?_) (fun g => ?_)
      · rw [g] at h
        exact hK _ _ _ _ _ _ _ h
      · rw [g] at h
        exact hK _ _ _ _ _ _ _ h
    · cases h
  · split at h
    · split at h
      · rename_i hd
        split at h
        · rename_i ho
          split at h
          · rename_i g
            rw [es_30, e_tS_at hd]
            simp only [e_tc, ho]
            exact ⟨g, hK _ _ _ _ _ _ _ h⟩
          · cases h
        · cases h
      · cases h
    · cases h
  · split at h
    · split at h
      · rename_i hd
        split at h
        · rename_i g
          rw [es_31, e_tS_at hd]
          exact ⟨g.1, g.2.1, g.2.2, hK _ _ _ _ _ _ _ h⟩
        · cases h
      · cases h
    · split at h
      · rename_i hd
        split at h
        · rename_i g
          exact e_rx31 hd g (hK _ _ _ _ _ _ _ h)
        · cases h
      · cases h
    · cases h
  · split at h
    · split at h
      · rename_i hd
        split at h
        · rename_i q hq
          split at h
          · rename_i g
            exact e_rx32 hd hq g (hK _ _ _ _ _ _ _ h)
          · cases h
        · cases h
      · cases h
    · cases h
  · split at h
    · split at h
      · rename_i hd
        split at h
        · rename_i g
          rw [es_33, e_tS_at hd]
          exact ⟨g.1, e_irb_in g.2, hK _ _ _ _ _ _ _ h⟩
        · cases h
      · cases h
    · cases h
  · split at h
    · split at h
      · rename_i hd
        split at h
        · rename_i hw
          split at h
          · rename_i g
            exact e_rx37 hd hw g (hK _ _ _ _ _ _ _ h)
          · cases h
        · cases h
      · cases h
    · cases h
  · split at h
    · split at h
      · rename_i hd
        split at h
        · rename_i g
          rename_i o
          rw [es_38, e_tS_at hd]
          cases o <;> exact ⟨g, hK _ _ _ _ _ _ _ h⟩
        · cases h
      · rename_i hd
        split at h
        · rename_i q hq
          exact e_rx38 hd hq (hK _ _ _ _ _ _ _ h)
        · cases h
      · cases h
    · cases h
  · exact hK _ _ _ _ _ _ _ h
  · split at h
    · split at h
      · rename_i x st' g
        have K1 := hK _ _ _ _ _ _ _ h
        rw [e_tS_app] at K1
        rw [← e_tS_len D] at g K1
        exact ⟨g.1, g.2.1, g.2.2.1, g.2.2.2.1, g.2.2.2.2, K1⟩
      · cases h
    · cases h
  · split at h
    · split at h
      · rename_i x st' g
        have K1 := hK _ _ _ _ _ _ _ h
        rw [e_tS_app] at K1
        have e : e_tc (.inl (2, x.toNatClampNeg, some (List.replicate x.toNatClampNeg none))) = .inl (2, x.toNatClampNeg, some (fun _ => none)) := by
          simp only [e_tc]
          congr 4
          funext q
          rw [List.getElem?_replicate]
          split <;> rfl
        rw [e] at K1
        rw [← e_tS_len D] at g K1
        exact ⟨g.1, g.2.1, g.2.2.1, g.2.2.2.1, g.2.2.2.2, K1⟩
      · cases h
    · cases h
  · split at h
    · split at h
      · rename_i z x st' g
        have K1 := hK _ _ _ _ _ _ _ h
        have e : e_tS (e_dmn D x.toNatClampNeg z.toNatClampNeg) = e_mn (e_tS D) x.toNatClampNeg z.toNatClampNeg := by
          simp only [e_dmn, e_mn, e_tS, List.map_append, List.map_cons, List.map_replicate, List.length_map, e_tc]
          congr 6
          funext q
          by_cases hq : q < x.toNatClampNeg
          · simp [hq]
          · simp [hq]
        rw [e] at K1
        rw [← e_tS_len D] at g K1
        exact ⟨g.1, g.2.1, g.2.2.1, g.2.2.2.1, g.2.2.2.2.1, g.2.2.2.2.2.1, g.2.2.2.2.2.2, K1⟩
      · cases h
    · cases h
  · split at h
    · rename_i q hq
      split at h
      · rename_i g
        have K1 := hK _ _ _ _ _ _ _ h
        rw [e_tS_app] at K1
        rw [← e_tS_len D] at g K1
        show (match vwCl[b]? with
          | some q => (e_tS D).length < 1000 ∧ k + 1 ≤ e_mc y ∧ n + q.2.2 ≤ e_ms y ∧ Kp (pc + 3) L (.ref (e_tS D).length :: st) (e_tS D ++ [.inr (b, e_sl0 b q.2.2)]) (e_row M (e_tS D).length (fun _ => 0)) (k + 1) (n + q.2.2)
          | none => False)
        rw [hq]
        exact ⟨g.1, g.2.1, g.2.2, K1⟩
      · cases h
    · cases h
  · split at h
    · rename_i g
      split at h
      · rename_i r D' M' hr
        rw [es_44]
        exact ⟨g.1, e_rcb_rcv g.2.1, g.2.2.1, g.2.2.2.1, g.2.2.2.2, hC _ _ _ _ _ _ _ hr _ (hK _ _ _ _ _ _ _ h)⟩
      · cases h
    · cases h
  · split at h
    · split at h
      · rename_i g
        exact ⟨g, hK _ _ _ _ _ _ _ h⟩
      · cases h
    · cases h
  · split at h
    · split at h
      · rename_i q hq
        show (match e_sw[a]? with
          | some q => e_swk _ _ q.2 q.1
          | none => False)
        rw [hq]
        exact e_swb_k (hK _ _ _ _ _ _ _ h)
      · cases h
    · cases h
  · split at h
    · exact hZ _ _ _ _ _ h
    · cases h
  · split at h
    · exact hZ _ _ _ _ _ h
    · cases h
  · cases h
end
/-- a run, by counting -/
def e_ru : Nat → Nat → Nat → List (Option Value) → List Value → e_DS → e_Me → Nat → Nat → Option (Option Value × e_DS × e_Me × Nat × Nat)
  | 0, _, _, _, _, _, _, _, _ => none
  | f + 1, y, pc, L, st, D, M, k, n => match e_fetch y pc with
    | some P => e_rx (fun pc L st D M k n => e_ru f y pc L st D M k n) (fun z as D M => if z < 268 ∧ (e_fl2 as).length ≤ e_mlx z then (match e_ru f z 0 (e_fl2 as ++ List.replicate (e_mlx z - (e_fl2 as).length) none) [] D M 0 0 with
        | some (r, D', M', k', n') => if k' ≤ e_mc z ∧ n' ≤ e_ms z then some (r, D', M') else none
        | none => none) else none) (fun r D M k n => some (r, D, M, k, n)) y pc P.1 P.2.1 P.2.2.1 P.2.2.2.1 P.2.2.2.2 L st D M k n
    | none => none
theorem e_ru_ok {G : e_G} : ∀ (f y pc : Nat) (L : List (Option Value)) (st : List Value) (D : e_DS) (M : e_Me) (k n : Nat) (r : Option Value) (D' : e_DS) (M' : e_Me) (k' n' : Nat), e_ru f y pc L st D M k n = some (r, D', M', k', n') → ∀ Q : e_Q, Q r (e_tS D') M' k' n' → e_EX G y pc L st (e_tS D) M k n Q := by
  intro f
  induction f with
  | zero => intro y pc L st D M k n r D' M' k' n' h; cases h
  | succ f ih =>
    intro y pc L st D M k n r D' M' k' n' h Q hQ
    simp only [e_ru] at h
    split at h
    · rename_i P hP
      refine xr_step hP (e_rxs (fun pc L st D M k n h => ih _ _ _ _ _ _ _ _ _ _ _ _ _ h Q hQ) (fun z as D M r D' M' h R hR => ?_) (fun r D M k n h => ?_) h)
      · split at h
        · rename_i g
          split at h
          · rename_i hr
            split at h
            · rename_i g2
              cases h
              exact e_CA_of g.1 g.2 (ih _ _ _ _ _ _ _ _ _ _ _ _ _ hr _ ⟨g2.1, g2.2, hR⟩)
            · cases h
          · cases h
        · cases h
      · cases h
        exact hQ
    · cases h
/-- the law's own head, until its loop -/
def e_rw : Nat → Nat → List (Option Value) → List Value → e_DS → e_Me → Nat → Nat → Option (List (Option Value) × List Value × e_DS × e_Me × Nat × Nat)
  | 0, _, _, _, _, _, _, _ => none
  | f + 1, pc, L, st, D, M, k, n => if pc = 18 then some (L, st, D, M, k, n) else match e_fetch 268 pc with
    | some P => e_rx (fun pc L st D M k n => e_rw f pc L st D M k n) (fun z as D M => if z < 268 ∧ (e_fl2 as).length ≤ e_mlx z then (match e_ru 4000 z 0 (e_fl2 as ++ List.replicate (e_mlx z - (e_fl2 as).length) none) [] D M 0 0 with
        | some (r, D', M', k', n') => if k' ≤ e_mc z ∧ n' ≤ e_ms z then some (r, D', M') else none
        | none => none) else none) (fun _ _ _ _ _ => none) 268 pc P.1 P.2.1 P.2.2.1 P.2.2.2.1 P.2.2.2.2 L st D M k n
    | none => none
theorem e_rw_ok {G : e_G} {Q : e_Q} : ∀ (f pc : Nat) (L : List (Option Value)) (st : List Value) (D : e_DS) (M : e_Me) (k n : Nat) (L' : List (Option Value)) (st' : List Value) (D' : e_DS) (M' : e_Me) (k' n' : Nat), e_rw f pc L st D M k n = some (L', st', D', M', k', n') → e_EX G 268 18 L' st' (e_tS D') M' k' n' Q → e_EX G 268 pc L st (e_tS D) M k n Q := by
  intro f
  induction f with
  | zero => intro pc L st D M k n L' st' D' M' k' n' h; cases h
  | succ f ih =>
    intro pc L st D M k n L' st' D' M' k' n' h hQ
    simp only [e_rw] at h
    split at h
    · rename_i g
      cases h
      subst g
      exact hQ
    · split at h
      · rename_i P hP
        refine xr_step hP (e_rxs (fun pc L st D M k n h => ih _ _ _ _ _ _ _ _ _ _ _ _ _ h hQ) (fun z as D M r D' M' h R hR => ?_) (fun r D M k n h => ?_) h)
        · split at h
          · rename_i g
            split at h
            · rename_i hr
              split at h
              · rename_i g2
                cases h
                exact e_CA_of g.1 g.2 (e_ru_ok _ _ _ _ _ _ _ _ _ _ _ _ _ _ hr _ ⟨g2.1, g2.2, hR⟩)
              · cases h
            · cases h
          · cases h
        · cases h
      · cases h
