/-! each step of the small machine where its state has the right form -/
section ESS
variable {G : e_G} {y pc : Nat} {L : List (Option Value)} {st : List Value} {S : e_Sh} {M : e_Me} {k n : Nat} {Q : e_Q} {C : Nat → List Value → e_Sh → e_Me → e_R → Prop} {K : e_K} {a b c : Nat} {v : Int32}
theorem es_0 : e_step G y pc C K Q 0 a b c v L st S M k n = (K (pc + a) L (.int v :: st) S M k n) := rfl
theorem es_1 : e_step G y pc C K Q 1 a b c v L st S M k n = (match L[a]? with
    | some (some (.int x)) => K (pc + b) L (.int x :: st) S M k n
    | _ => False) := rfl
theorem es_2 : e_step G y pc C K Q 2 a b c v L st S M k n = (match L[a]? with
    | some (some (.ref x)) => K (pc + b) L (.ref x :: st) S M k n
    | _ => False) := rfl
theorem es_3 : e_step G y pc C K Q 3 a b c v L st S M k n = (match L[a]? with
    | some (some (.long x)) => K (pc + b) L (.long x :: st) S M k n
    | _ => False) := rfl
theorem es_4 (x : Int32) : e_step G y pc C K Q 4 a b c v L (.int x :: st) S M k n = (e_nl L a = true ∧ K (pc + b) (L.set a (some (.int x))) st S M k n) := rfl
theorem es_5 (x : Nat) : e_step G y pc C K Q 5 a b c v L (.ref x :: st) S M k n = (e_nl L a = true ∧ K (pc + b) (L.set a (some (.ref x))) st S M k n) := rfl
theorem es_6 (x : Int64) : e_step G y pc C K Q 6 a b c v L (.long x :: st) S M k n = (e_nl L a = true ∧ K (pc + b) ((L.set a (some (.long x))).set (a + 1) none) st S M k n) := rfl
theorem es_7 : e_step G y pc C K Q 7 a b c v L st S M k n = (match L[a]? with
    | some (some (.int x)) => e_nl L a = true ∧ K (pc + 3) (L.set a (some (.int (x + v)))) st S M k n
    | _ => False) := rfl
theorem es_8 (p q : Int32) : e_step G y pc C K Q 8 a b c v L (.int q :: .int p :: st) S M k n = (K (pc + 1) L (.int (p + q) :: st) S M k n) := rfl
theorem es_9 (p q : Int32) : e_step G y pc C K Q 9 a b c v L (.int q :: .int p :: st) S M k n = (K (pc + 1) L (.int (p - q) :: st) S M k n) := rfl
theorem es_10 (p q : Int32) : e_step G y pc C K Q 10 a b c v L (.int q :: .int p :: st) S M k n = (K (pc + 1) L (.int (p * q) :: st) S M k n) := rfl
theorem es_14 (p q : Int32) : e_step G y pc C K Q 14 a b c v L (.int q :: .int p :: st) S M k n = (K (pc + 1) L (.int (p <<< (q &&& 31)) :: st) S M k n) := rfl
theorem es_15 (p q : Int32) : e_step G y pc C K Q 15 a b c v L (.int q :: .int p :: st) S M k n = (K (pc + 1) L (.int (p >>> (q &&& 31)) :: st) S M k n) := rfl
theorem es_16 (p q : Int32) : e_step G y pc C K Q 16 a b c v L (.int q :: .int p :: st) S M k n = (K (pc + 1) L (.int (p &&& q) :: st) S M k n) := rfl
theorem es_17 (p q : Int32) : e_step G y pc C K Q 17 a b c v L (.int q :: .int p :: st) S M k n = (K (pc + 1) L (.int (p ||| q) :: st) S M k n) := rfl
theorem es_18 (p q : Int32) : e_step G y pc C K Q 18 a b c v L (.int q :: .int p :: st) S M k n = (K (pc + 1) L (.int (p ^^^ q) :: st) S M k n) := rfl
theorem es_11 (p : Int32) : e_step G y pc C K Q 11 a b c v L (.int p :: st) S M k n = (K (pc + 1) L (.int (-p) :: st) S M k n) := rfl
theorem es_12 (p q : Int32) : e_step G y pc C K Q 12 a b c v L (.int q :: .int p :: st) S M k n = (¬ q = 0 ∧ K (pc + 1) L (.int (p / q) :: st) S M k n) := rfl
theorem es_13 (p q : Int32) : e_step G y pc C K Q 13 a b c v L (.int q :: .int p :: st) S M k n = (¬ q = 0 ∧ K (pc + 1) L (.int (p - p / q * q) :: st) S M k n) := rfl
theorem es_19 (p : Int32) : e_step G y pc C K Q 19 a b c v L (.int p :: st) S M k n = (K (pc + 1) L (.long p.toInt64 :: st) S M k n) := rfl
theorem es_20 (p q : Int64) : e_step G y pc C K Q 20 a b c v L (.long q :: .long p :: st) S M k n = (K (pc + 1) L (.long (p + q) :: st) S M k n) := rfl
theorem es_21 (p q : Int64) : e_step G y pc C K Q 21 a b c v L (.long q :: .long p :: st) S M k n = (K (pc + 1) L (.long (p * q) :: st) S M k n) := rfl
theorem es_22 (p q : Int64) : e_step G y pc C K Q 22 a b c v L (.long q :: .long p :: st) S M k n = (K (pc + 1) L (.int (lg_cmp p q) :: st) S M k n) := rfl
theorem es_23 : e_step G y pc C K Q 23 a b c v L st S M k n = (K (pc + a) L (.long v.toInt64 :: st) S M k n) := rfl
theorem es_24i (p : Int32) : e_step G y pc C K Q 24 a b c v L (.int p :: st) S M k n = ((1 : Nat) = 1 ∧ K (pc + 1) L (.int p :: .int p :: st) S M k n) := rfl
theorem es_24r (p : Nat) : e_step G y pc C K Q 24 a b c v L (.ref p :: st) S M k n = ((1 : Nat) = 1 ∧ K (pc + 1) L (.ref p :: .ref p :: st) S M k n) := rfl
theorem es_25 (p : Int32) (q : Nat) : e_step G y pc C K Q 25 a b c v L (.int p :: .ref q :: st) S M k n = ((1 : Nat) = 1 ∧ (1 : Nat) = 1 ∧ K (pc + 1) L (.int p :: .ref q :: .int p :: .ref q :: st) S M k n) := rfl
theorem es_26i (p : Int32) : e_step G y pc C K Q 26 a b c v L (.int p :: st) S M k n = ((1 : Nat) = 1 ∧ K (pc + 1) L st S M k n) := rfl
theorem es_26r (p : Nat) : e_step G y pc C K Q 26 a b c v L (.ref p :: st) S M k n = ((1 : Nat) = 1 ∧ K (pc + 1) L st S M k n) := rfl
theorem es_27 : e_step G y pc C K Q 27 a b c v L st S M k n = (K a L st S M k n) := rfl
theorem es_28 (x : Int32) : e_step G y pc C K Q 28 a b c v L (.int x :: st) S M k n = (e_ife a x 0 (K b L st S M k n) (K (pc + 3) L st S M k n)) := rfl
theorem es_29 (p q : Int32) : e_step G y pc C K Q 29 a b c v L (.int q :: .int p :: st) S M k n = (e_ife a p q (K b L st S M k n) (K (pc + 3) L st S M k n)) := rfl
theorem es_30 (i : Nat) : e_step G y pc C K Q 30 a b c v L (.ref i :: st) S M k n = (match S[i]? with
      | some (.inr (ci, sl)) => match sl[c]? with
        | some o => ci = b ∧ K (pc + 3) L (e_fv (M i) c o :: st) S M k n
        | none => False
      | _ => False) := rfl
theorem es_31 (x : Int32) (i : Nat) : e_step G y pc C K Q 31 a b c v L (.int x :: .ref i :: st) S M k n = (match S[i]? with
      | some (.inr (ci, sl)) => ci = b ∧ sl[c]? = some none ∧ (v = 0 ∨ v = 1 ∧ (x = 0 ∨ x = 1)) ∧ K (pc + 3) L st S (e_up M i c x) k n
      | _ => False) := rfl
theorem es_32 (x : Int32) (i : Nat) : e_step G y pc C K Q 32 a b c v L (.int x :: .ref i :: st) S M k n = (match S[i]? with
      | some (.inl (t, N, none)) => t = 0 ∧ vp_in x N ∧ K (pc + 1) L (.int (M i x.toNatClampNeg) :: st) S M k n
      | none => match e_ro G i with
        | some q => vp_in x q.1 ∧ K (pc + 1) L (.int (q.2 x.toNatClampNeg) :: st) S M k n
        | none => False
      | _ => False) := rfl
theorem es_33 (w x : Int32) (i : Nat) : e_step G y pc C K Q 33 a b c v L (.int w :: .int x :: .ref i :: st) S M k n = (match S[i]? with
      | some (.inl (t, N, none)) => t = 0 ∧ vp_in x N ∧ K (pc + 1) L st S (e_up M i x.toNatClampNeg w) k n
      | _ => False) := rfl
theorem es_34 (x : Int32) (i : Nat) : e_step G y pc C K Q 34 a b c v L (.int x :: .ref i :: st) S M k n = (match S[i]? with
      | some (.inl (t, N, none)) => t = 1 ∧ vp_in x N ∧ K (pc + 1) L (.int (M i x.toNatClampNeg) :: st) S M k n
      | _ => False) := rfl
theorem es_35 (w x : Int32) (i : Nat) : e_step G y pc C K Q 35 a b c v L (.int w :: .int x :: .ref i :: st) S M k n = (match S[i]? with
      | some (.inl (t, N, none)) => t = 1 ∧ vp_in x N ∧ K (pc + 1) L st S (e_up M i x.toNatClampNeg (w &&& 1)) k n
      | _ => False) := rfl
theorem es_36 (x : Int32) (i : Nat) : e_step G y pc C K Q 36 a b c v L (.int x :: .ref i :: st) S M k n = (match S[i]? with
      | some (.inl (t, N, some f)) => match f x.toNatClampNeg with
        | some w => (t = 2 ∨ t = 3) ∧ vp_in x N ∧ K (pc + 1) L (.ref w :: st) S M k n
        | none => False
      | _ => False) := rfl
theorem es_38 (i : Nat) : e_step G y pc C K Q 38 a b c v L (.ref i :: st) S M k n = (match S[i]? with
      | some (.inl (t, N, _)) => t < 4 ∧ K (pc + 1) L (.int (Int32.ofNat N) :: st) S M k n
      | none => match e_ro G i with
        | some q => K (pc + 1) L (.int (Int32.ofNat q.1) :: st) S M k n
        | none => False
      | _ => False) := rfl
theorem es_39 : e_step G y pc C K Q 39 a b c v L st S M k n = (K (pc + 3) L (.ref b :: st) S M k n) := rfl
theorem es_44 : e_step G y pc C K Q 44 a b c v L st S M k n = (c ≤ st.length ∧ e_rcv b (a % 16) S (st.take c).reverse ∧ e_cat (st.drop c) ≤ 8 ∧ k + e_mc b ≤ e_mc y ∧ n + e_ms b ≤ e_ms y ∧ C b (st.take c).reverse S M (fun r S' M' => K (pc + 3) L (r.toList ++ st.drop c) S' M' (k + e_mc b) (n + e_ms b))) := rfl
theorem es_50  : e_step G y pc C K Q 50 a b c v L [] S M k n = (Q none S M k n) := rfl
theorem es_51 (x : Int32) : e_step G y pc C K Q 51 a b c v L [.int x] S M k n = (Q (some (.int x)) S M k n) := rfl
theorem es_52 (x : Int32) : e_step G y pc C K Q 52 a b c v L [.int x] S M k n = ((x = 0 ∨ x = 1) ∧ Q (some (.int x)) S M k n) := rfl
theorem es_53 (x : Int64) : e_step G y pc C K Q 53 a b c v L [.long x] S M k n = (Q (some (.long x)) S M k n) := rfl
theorem es_54 (x : Nat) : e_step G y pc C K Q 54 a b c v L [.ref x] S M k n = (Q (some (.ref x)) S M k n) := rfl
end ESS
def e_kk (G : e_G) (inl : Nat → Bool) (sp : Nat → Nat → Bool) (f y : Nat) (Q : e_Q) : e_K := fun pc' L st S M k n => if sp y pc' = true then e_EX G y pc' L st S M k n Q else e_wp G inl sp f y pc' L st S M k n Q
def e_kc (G : e_G) (inl : Nat → Bool) (sp : Nat → Nat → Bool) (f : Nat) : Nat → List Value → e_Sh → e_Me → e_R → Prop := fun z as S M R => if inl z = true then z < 268 ∧ (e_fl2 as).length ≤ e_mlx z ∧ e_wp G inl sp f z 0 (e_fl2 as ++ List.replicate (e_mlx z - (e_fl2 as).length) none) [] S M 0 0 (fun r S' M' k n => k ≤ e_mc z ∧ n ≤ e_ms z ∧ R r S' M') else e_CA G z as S M R
theorem e_kk_a {G : e_G} {inl : Nat → Bool} {sp : Nat → Nat → Bool} {f y : Nat} {Q : e_Q} {pc : Nat} {L : List (Option Value)} {st : List Value} {S : e_Sh} {M : e_Me} {k n : Nat} : e_kk G inl sp f y Q pc L st S M k n = (if sp y pc = true then e_EX G y pc L st S M k n Q else e_wp G inl sp f y pc L st S M k n Q) := rfl
theorem e_kc_a {G : e_G} {inl : Nat → Bool} {sp : Nat → Nat → Bool} {f z : Nat} {as : List Value} {S : e_Sh} {M : e_Me} {R : e_R} : e_kc G inl sp f z as S M R = (if inl z = true then z < 268 ∧ (e_fl2 as).length ≤ e_mlx z ∧ e_wp G inl sp f z 0 (e_fl2 as ++ List.replicate (e_mlx z - (e_fl2 as).length) none) [] S M 0 0 (fun r S' M' k n => k ≤ e_mc z ∧ n ≤ e_ms z ∧ R r S' M') else e_CA G z as S M R) := rfl
theorem e_wp_s {y pc op a b c : Nat} {v : Int32} (h : e_fetch y pc = some (op, a, b, c, v)) {G : e_G} {inl : Nat → Bool} {sp : Nat → Nat → Bool} {f : Nat} {L : List (Option Value)} {st : List Value} {S : e_Sh} {M : e_Me} {k n : Nat} {Q : e_Q} : e_wp G inl sp (f + 1) y pc L st S M k n Q = e_step G y pc (e_kc G inl sp f) (e_kk G inl sp f y Q) Q op a b c v L st S M k n := by
  simp only [e_wp, h]
  rfl
def e_C (G : e_G) (y : Nat) (as : List Value) (M : e_Me) (Q : Option Value → e_Me → Prop) : Prop := e_CA G y as e_SH M (fun r S' M' => S' = e_SH ∧ Q r M')
def e_qq (y : Nat) (Q : Option Value → e_Me → Prop) : e_Q := fun r S M k n => k ≤ e_mc y ∧ n ≤ e_ms y ∧ S = e_SH ∧ Q r M
theorem e_call {G : e_G} {y : Nat} {as : List Value} {M : e_Me} {Q : Option Value → e_Me → Prop} (f : Nat) (inl : Nat → Bool) (sp : Nat → Nat → Bool) (hy : y < 268) (ml : Nat) (hml : e_mlx y = ml) (hl : (e_fl2 as).length ≤ ml)
    (h : e_wp G inl sp f y 0 (e_fl2 as ++ List.replicate (ml - (e_fl2 as).length) none) [] e_SH M 0 0 (e_qq y Q)) : e_C G y as M Q := by
  subst hml
  exact e_CA_of hy hl (e_wp_ok _ _ _ _ _ _ _ _ _ _ h)
theorem e_C_use {G : e_G} {y : Nat} {as : List Value} {M : e_Me} {R : e_R} (h : e_C G y as M (fun r M' => R r e_SH M')) : e_CA G y as e_SH M R := e_CA_mono h (fun r S' M' q => by obtain ⟨rfl, q⟩ := q; exact q)
theorem e_C_mono {G : e_G} {y : Nat} {as : List Value} {M : e_Me} {Q Q' : Option Value → e_Me → Prop} (h : e_C G y as M Q) (hq : ∀ r M', Q r M' → Q' r M') : e_C G y as M Q' := e_CA_mono h (fun r S' M' q => ⟨q.1, hq _ _ q.2⟩)
