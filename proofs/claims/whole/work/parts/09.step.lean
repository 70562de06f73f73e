/-! a step of the small machine, and a run, as propositions that compute -/
abbrev e_K : Type := Nat → List (Option Value) → List Value → e_Sh → e_Me → Nat → Nat → Prop
def e_ife (c : Nat) (x y : Int32) (A B : Prop) : Prop := match c with
  | 0 => if x = y then A else B
  | 1 => if x = y then B else A
  | 2 => if x < y then A else B
  | 3 => if y ≤ x then A else B
  | 4 => if y < x then A else B
  | _ => if x ≤ y then A else B
def e_swk (x : Int32) (K : Nat → Prop) (d : Nat) : List (Int32 × Nat) → Prop
  | [] => K d
  | (a, t) :: l => if x = a then K t else e_swk x K d l
def e_cat (st : List Value) : Nat := (st.map fun v => v.category).sum
def e_rcv (z ci : Nat) (S : e_Sh) (as : List Value) : Prop := match e_kd z with
  | 1 => True
  | 0 => match as with
    | .ref i :: _ => match S[i]? with
      | some (.inr (d, _)) => d = ci
      | _ => False
    | _ => False
  | _ => match as with
    | .ref _ :: _ => True
    | _ => False
def e_step (G : e_G) (y pc : Nat) (C : Nat → List Value → e_Sh → e_Me → e_R → Prop) (K : e_K) (Q : e_Q) (op a b c : Nat) (v : Int32) (L : List (Option Value)) (st : List Value) (S : e_Sh) (M : e_Me) (k n : Nat) : Prop :=
  match op with
  | 0 => K (pc + a) L (.int v :: st) S M k n
  | 1 => match L[a]? with
    | some (some (.int x)) => K (pc + b) L (.int x :: st) S M k n
    | _ => False
  | 2 => match L[a]? with
    | some (some (.ref x)) => K (pc + b) L (.ref x :: st) S M k n
    | _ => False
  | 3 => match L[a]? with
    | some (some (.long x)) => K (pc + b) L (.long x :: st) S M k n
    | _ => False
  | 4 => match st with
    | .int x :: st => e_nl L a = true ∧ K (pc + b) (L.set a (some (.int x))) st S M k n
    | _ => False
  | 5 => match st with
    | .ref x :: st => e_nl L a = true ∧ K (pc + b) (L.set a (some (.ref x))) st S M k n
    | _ => False
  | 6 => match st with
    | .long x :: st => e_nl L a = true ∧ K (pc + b) ((L.set a (some (.long x))).set (a + 1) none) st S M k n
    | _ => False
  | 7 => match L[a]? with
    | some (some (.int x)) => e_nl L a = true ∧ K (pc + 3) (L.set a (some (.int (x + v)))) st S M k n
    | _ => False
  | 8 => match st with
    | .int q :: .int p :: st => K (pc + 1) L (.int (p + q) :: st) S M k n
    | _ => False
  | 9 => match st with
    | .int q :: .int p :: st => K (pc + 1) L (.int (p - q) :: st) S M k n
    | _ => False
  | 10 => match st with
    | .int q :: .int p :: st => K (pc + 1) L (.int (p * q) :: st) S M k n
    | _ => False
  | 11 => match st with
    | .int p :: st => K (pc + 1) L (.int (-p) :: st) S M k n
    | _ => False
  | 12 => match st with
    | .int q :: .int p :: st => ¬ q = 0 ∧ K (pc + 1) L (.int (p / q) :: st) S M k n
    | _ => False
  | 13 => match st with
    | .int q :: .int p :: st => ¬ q = 0 ∧ K (pc + 1) L (.int (p - p / q * q) :: st) S M k n
    | _ => False
  | 14 => match st with
    | .int q :: .int p :: st => K (pc + 1) L (.int (p <<< (q &&& 31)) :: st) S M k n
    | _ => False
  | 15 => match st with
    | .int q :: .int p :: st => K (pc + 1) L (.int (p >>> (q &&& 31)) :: st) S M k n
    | _ => False
  | 16 => match st with
    | .int q :: .int p :: st => K (pc + 1) L (.int (p &&& q) :: st) S M k n
    | _ => False
  | 17 => match st with
    | .int q :: .int p :: st => K (pc + 1) L (.int (p ||| q) :: st) S M k n
    | _ => False
  | 18 => match st with
    | .int q :: .int p :: st => K (pc + 1) L (.int (p ^^^ q) :: st) S M k n
    | _ => False
  | 19 => match st with
    | .int p :: st => K (pc + 1) L (.long p.toInt64 :: st) S M k n
    | _ => False
  | 20 => match st with
    | .long q :: .long p :: st => K (pc + 1) L (.long (p + q) :: st) S M k n
    | _ => False
  | 21 => match st with
    | .long q :: .long p :: st => K (pc + 1) L (.long (p * q) :: st) S M k n
    | _ => False
  | 22 => match st with
    | .long q :: .long p :: st => K (pc + 1) L (.int (lg_cmp p q) :: st) S M k n
    | _ => False
  | 23 => K (pc + a) L (.long v.toInt64 :: st) S M k n
  | 24 => match st with
    | p :: st => p.category = 1 ∧ K (pc + 1) L (p :: p :: st) S M k n
    | _ => False
  | 25 => match st with
    | p :: q :: st => p.category = 1 ∧ q.category = 1 ∧ K (pc + 1) L (p :: q :: p :: q :: st) S M k n
    | _ => False
  | 26 => match st with
    | p :: st => p.category = 1 ∧ K (pc + 1) L st S M k n
    | _ => False
  | 27 => K a L st S M k n
  | 28 => match st with
    | .int x :: st => e_ife a x 0 (K b L st S M k n) (K (pc + 3) L st S M k n)
    | _ => False
  | 29 => match st with
    | .int q :: .int p :: st => e_ife a p q (K b L st S M k n) (K (pc + 3) L st S M k n)
    | _ => False
  | 30 => match st with
    | .ref i :: st => match S[i]? with
      | some (.inr (ci, sl)) => match sl[c]? with
        | some o => ci = b ∧ K (pc + 3) L (e_fv (M i) c o :: st) S M k n
        | none => False
      | _ => False
    | _ => False
  | 31 => match st with
    | .int x :: .ref i :: st => match S[i]? with
      | some (.inr (ci, sl)) => ci = b ∧ sl[c]? = some none ∧ (v = 0 ∨ v = 1 ∧ (x = 0 ∨ x = 1)) ∧ K (pc + 3) L st S (e_up M i c x) k n
      | _ => False
    | .ref w :: .ref i :: st => match S[i]? with
      | some (.inr (ci, sl)) => ci = b ∧ c < sl.length ∧ v = 2 ∧ K (pc + 3) L st (S.set i (.inr (ci, sl.set c (some (.ref w))))) M k n
      | _ => False
    | _ => False
  | 32 => match st with
    | .int x :: .ref i :: st => match S[i]? with
      | some (.inl (t, N, none)) => t = 0 ∧ vp_in x N ∧ K (pc + 1) L (.int (M i x.toNatClampNeg) :: st) S M k n
      | none => match e_ro G i with
        | some q => vp_in x q.1 ∧ K (pc + 1) L (.int (q.2 x.toNatClampNeg) :: st) S M k n
        | none => False
      | _ => False
    | _ => False
  | 33 => match st with
    | .int w :: .int x :: .ref i :: st => match S[i]? with
      | some (.inl (t, N, none)) => t = 0 ∧ vp_in x N ∧ K (pc + 1) L st S (e_up M i x.toNatClampNeg w) k n
      | _ => False
    | _ => False
  | 34 => match st with
    | .int x :: .ref i :: st => match S[i]? with
      | some (.inl (t, N, none)) => t = 1 ∧ vp_in x N ∧ K (pc + 1) L (.int (M i x.toNatClampNeg) :: st) S M k n
      | _ => False
    | _ => False
  | 35 => match st with
    | .int w :: .int x :: .ref i :: st => match S[i]? with
      | some (.inl (t, N, none)) => t = 1 ∧ vp_in x N ∧ K (pc + 1) L st S (e_up M i x.toNatClampNeg (w &&& 1)) k n
      | _ => False
    | _ => False
  | 36 => match st with
    | .int x :: .ref i :: st => match S[i]? with
      | some (.inl (t, N, some f)) => match f x.toNatClampNeg with
        | some w => (t = 2 ∨ t = 3) ∧ vp_in x N ∧ K (pc + 1) L (.ref w :: st) S M k n
        | none => False
      | _ => False
    | _ => False
  | 37 => match st with
    | .ref w :: .int x :: .ref i :: st => match S[i]? with
      | some (.inl (t, N, some f)) => match S[w]? with
        | some (.inr (ci, _)) => ci = 7 ∧ t = 2 ∧ vp_in x N ∧ K (pc + 1) L st (S.set i (.inl (2, N, some (fun b => if b = x.toNatClampNeg then some w else f b)))) M k n
        | _ => False
      | _ => False
    | _ => False
  | 38 => match st with
    | .ref i :: st => match S[i]? with
      | some (.inl (t, N, _)) => t < 4 ∧ K (pc + 1) L (.int (Int32.ofNat N) :: st) S M k n
      | none => match e_ro G i with
        | some q => K (pc + 1) L (.int (Int32.ofNat q.1) :: st) S M k n
        | none => False
      | _ => False
    | _ => False
  | 39 => K (pc + 3) L (.ref b :: st) S M k n
  | 40 => match st with
    | .int x :: st => ¬ x < 0 ∧ x.toNatClampNeg ≤ 100000 ∧ S.length < 1000 ∧ k + 1 ≤ e_mc y ∧ n + x.toNatClampNeg ≤ e_ms y ∧ K (pc + 2) L (.ref S.length :: st) (S ++ [.inl (a, x.toNatClampNeg, none)]) (e_row M S.length (fun _ => 0)) (k + 1) (n + x.toNatClampNeg)
    | _ => False
  | 41 => match st with
    | .int x :: st => ¬ x < 0 ∧ x.toNatClampNeg ≤ 100000 ∧ S.length < 1000 ∧ k + 1 ≤ e_mc y ∧ n + x.toNatClampNeg ≤ e_ms y ∧ K (pc + 3) L (.ref S.length :: st) (S ++ [.inl (2, x.toNatClampNeg, some (fun _ => none))]) M (k + 1) (n + x.toNatClampNeg)
    | _ => False
  | 42 => match st with
    | .int z :: .int x :: st => ¬ x < 0 ∧ ¬ z < 0 ∧ x.toNatClampNeg ≤ 100 ∧ z.toNatClampNeg ≤ 100 ∧ S.length + 1 + x.toNatClampNeg ≤ 1000 ∧ k + (1 + x.toNatClampNeg) ≤ e_mc y ∧ n + (x.toNatClampNeg + x.toNatClampNeg * z.toNatClampNeg) ≤ e_ms y ∧
        K (pc + 4) L (.ref S.length :: st) (e_mn S x.toNatClampNeg z.toNatClampNeg) (e_mz M S.length x.toNatClampNeg) (k + 1 + x.toNatClampNeg) (n + x.toNatClampNeg + x.toNatClampNeg * z.toNatClampNeg)
    | _ => False
  | 43 => match vwCl[b]? with
    | some q => S.length < 1000 ∧ k + 1 ≤ e_mc y ∧ n + q.2.2 ≤ e_ms y ∧ K (pc + 3) L (.ref S.length :: st) (S ++ [.inr (b, e_sl0 b q.2.2)]) (e_row M S.length (fun _ => 0)) (k + 1) (n + q.2.2)
    | none => False
  | 44 => c ≤ st.length ∧ e_rcv b (a % 16) S (st.take c).reverse ∧ e_cat (st.drop c) ≤ 8 ∧ k + e_mc b ≤ e_mc y ∧ n + e_ms b ≤ e_ms y ∧ C b (st.take c).reverse S M (fun r S' M' => K (pc + 3) L (r.toList ++ st.drop c) S' M' (k + e_mc b) (n + e_ms b))
  | 45 => match st with
    | .int x :: .int d :: .ref j :: .int s :: .ref i :: st => match S[i]? with
      | some (.inl (t, N, none)) => d = 0 ∧ s = 0 ∧ t = 0 ∧ S[j]? = some (.inl (0, N, none)) ∧ ¬ x < 0 ∧ x.toNatClampNeg ≤ N ∧ e_cat st ≤ 8 ∧ K (pc + 3) L st S (e_row M j (fun b => if b < x.toNatClampNeg then M i b else M j b)) k n
      | _ => False
    | _ => False
  | 46 => match st with
    | .ref _ :: st => e_cat st ≤ 8 ∧ K (pc + 3) L st S M k n
    | _ => False
  | 47 => match st with
    | .int x :: st => match e_sw[a]? with
      | some q => e_swk x (fun t => K t L st S M k n) q.2 q.1
      | none => False
    | _ => False
  | 48 => match st with
    | .int x :: st => match e_sw[a]? with
      | some q => e_swk x (fun t => K t L st S M k n) q.2 q.1
      | none => False
    | _ => False
  | 50 => match st with
    | [] => Q none S M k n
    | _ => False
  | 51 => match st with
    | [.int x] => Q (some (.int x)) S M k n
    | _ => False
  | 52 => match st with
    | [.int x] => (x = 0 ∨ x = 1) ∧ Q (some (.int x)) S M k n
    | _ => False
  | 53 => match st with
    | [.long x] => Q (some (.long x)) S M k n
    | _ => False
  | 54 => match st with
    | [.ref x] => Q (some (.ref x)) S M k n
    | _ => False
  | _ => False
def e_fetch (y pc : Nat) : Option e_PI := (e_pgs.getD y []).lookup pc
def e_wp (G : e_G) (inl : Nat → Bool) (sp : Nat → Nat → Bool) : Nat → Nat → Nat → List (Option Value) → List Value → e_Sh → e_Me → Nat → Nat → e_Q → Prop
  | 0, y, pc, L, st, S, M, k, n, Q => e_EX G y pc L st S M k n Q
  | f + 1, y, pc, L, st, S, M, k, n, Q => match e_fetch y pc with
    | some P => e_step G y pc (fun z as S M R => if inl z = true then z < 268 ∧ (e_fl2 as).length ≤ e_mlx z ∧ e_wp G inl sp f z 0 (e_fl2 as ++ List.replicate (e_mlx z - (e_fl2 as).length) none) [] S M 0 0 (fun r S' M' k n => k ≤ e_mc z ∧ n ≤ e_ms z ∧ R r S' M') else e_CA G z as S M R)
        (fun pc' L st S M k n => if sp y pc' = true then e_EX G y pc' L st S M k n Q else e_wp G inl sp f y pc' L st S M k n Q) Q P.1 P.2.1 P.2.2.1 P.2.2.2.1 P.2.2.2.2 L st S M k n
    | none => False
