/-! one row an instruction of the small machine: from the state behind it to the state ahead of it -/
section ER
variable {G : e_G} {y pc : Nat} {L : List (Option Value)} {st : List Value} {S : e_Sh} {M : e_Me} {k n : Nat} {Q : e_Q}
theorem e_x_const {ins : Instr} {len c : Nat} {v : Int32} (d : decode (e_cd y) pc = .ok (ins, len))
    (h : (ins = .iconst c ∧ len = 1 ∧ Int32.ofInt c = v) ∨ (∃ z, ins = .iconst z ∧ len = 1 ∧ Int32.ofInt z = v) ∨ (∃ z, ins = .bipush z ∧ len = 2 ∧ (Int8.ofInt z).toInt32 = v) ∨ (∃ z, ins = .sipush z ∧ len = 3 ∧ (Int16.ofInt z).toInt32 = v) ∨ (∃ z, ins = .ldc z ∧ len = 2 ∧ Cond.constant (e_own y) z v ∈ e_big))
    (kk : e_EX G y (pc + len) L (.int v :: st) S M k n Q) : e_EX G y pc L st S M k n Q := by
  intro p e s m args below meth c Z H locs ls hC hE hH hS hL
  have K := kk p e s m args below meth c Z H locs ls hC hE hH hS hL
  rcases h with ⟨rfl, rfl, h⟩ | ⟨z, rfl, rfl, h⟩ | ⟨z, rfl, rfl, h⟩ | ⟨z, rfl, rfl, h⟩ | ⟨z, rfl, rfl, h⟩
  · exact lv_iconst hC.1 hC.2.1 d h K
  · exact lv_iconst hC.1 hC.2.1 d h K
  · exact lv_bipush hC.1 hC.2.1 d h K
  · exact lv_sipush hC.1 hC.2.1 d h K
  · exact lv_ldc hC.1 hC.2.1 hC.2.2.2.2.2.1 (hC.2.2.2.2.1 _ h) d K
theorem e_x_lconst {ins : Instr} {len : Nat} {v : Int64} (d : decode (e_cd y) pc = .ok (ins, len))
    (h : (∃ z : Fin 2, ins = .lconst z ∧ len = 1 ∧ Int64.ofNat (z : Nat) = v) ∨ (∃ z, ins = .ldc2_w z ∧ len = 3 ∧ Cond.constantLong (e_own y) z v ∈ e_big))
    (kk : e_EX G y (pc + len) L (.long v :: st) S M k n Q) : e_EX G y pc L st S M k n Q := by
  intro p e s m args below meth c Z H locs ls hC hE hH hS hL
  have K := kk p e s m args below meth c Z H locs ls hC hE hH hS hL
  rcases h with ⟨z, rfl, rfl, h⟩ | ⟨z, rfl, rfl, h⟩
  · exact lv_lconst hC.1 hC.2.1 d h K
  · exact lv_ldc2 hC.1 hC.2.1 hC.2.2.2.2.2.1 (hC.2.2.2.2.1 _ h) d K
theorem e_x_iload {ins : Instr} {len i : Nat} {x : Int32} (d : decode (e_cd y) pc = .ok (ins, len)) (h : (∃ z : Fin 4, ins = .iload_n z ∧ len = 1 ∧ (z : Nat) = i) ∨ (ins = .iload i ∧ len = 2)) (hv : L[i]? = some (some (.int x)))
    (kk : e_EX G y (pc + len) L (.int x :: st) S M k n Q) : e_EX G y pc L st S M k n Q := by
  intro p e s m args below meth c Z H locs ls hC hE hH hS hL
  have K := kk p e s m args below meth c Z H locs ls hC hE hH hS hL
  have hl := hL.2.2 i _ hv
  rcases h with ⟨z, rfl, rfl, h⟩ | ⟨rfl, rfl⟩
  · exact lv_iload_n hC.1 hC.2.1 d h hl K
  · exact lv_iload hC.1 hC.2.1 d hl K
theorem e_x_lload {ins : Instr} {len i : Nat} {x : Int64} (d : decode (e_cd y) pc = .ok (ins, len)) (h : (∃ z : Fin 4, ins = .lload_n z ∧ len = 1 ∧ (z : Nat) = i) ∨ (ins = .lload i ∧ len = 2)) (hv : L[i]? = some (some (.long x)))
    (kk : e_EX G y (pc + len) L (.long x :: st) S M k n Q) : e_EX G y pc L st S M k n Q := by
  intro p e s m args below meth c Z H locs ls hC hE hH hS hL
  have K := kk p e s m args below meth c Z H locs ls hC hE hH hS hL
  have hl := hL.2.2 i _ hv
  rcases h with ⟨z, rfl, rfl, h⟩ | ⟨rfl, rfl⟩
  · exact lv_lload_n hC.1 hC.2.1 d h hl K
  · exact lv_lload hC.1 hC.2.1 d hl K
theorem e_x_aload {ins : Instr} {len i x : Nat} (d : decode (e_cd y) pc = .ok (ins, len)) (h : (∃ z : Fin 4, ins = .aload_n z ∧ len = 1 ∧ (z : Nat) = i) ∨ (ins = .aload i ∧ len = 2)) (hv : L[i]? = some (some (.ref x)))
    (kk : e_EX G y (pc + len) L (.ref x :: st) S M k n Q) : e_EX G y pc L st S M k n Q := by
  intro p e s m args below meth c Z H locs ls hC hE hH hS hL
  have K := kk p e s m args below meth c Z H locs ls hC hE hH hS hL
  have hl := hL.2.2 i _ hv
  rcases h with ⟨z, rfl, rfl, h⟩ | ⟨rfl, rfl⟩
  · exact lv_aload_n hC.1 hC.2.1 d h hl K
  · exact lv_aload hC.1 hC.2.1 d hl K
/-- no long begins just ahead of place i -/
def e_nl (L : List (Option Value)) (i : Nat) : Bool := match i with
  | 0 => true
  | j + 1 => match L[j]? with
    | some (some (.long _)) => false
    | some (some (.double _)) => false
    | _ => true
def e_lv (G : e_G) (L : List (Option Value)) : List (Nat × Value) := (List.range L.length).filterMap (fun i => match L[i]? with | some (some v) => some (i, e_tr (e_ad G) v) | _ => none)
theorem e_lv_mem {i : Nat} {v : Value} (h : L[i]? = some (some v)) : (i, e_tr (e_ad G) v) ∈ e_lv G L := by
  refine List.mem_filterMap.mpr ⟨i, List.mem_range.mpr (List.getElem?_eq_some_iff.mp h).1, ?_⟩
  rw [h]
theorem e_lv_has {ls : Array Slot} {nL : Nat} (h : e_lr G ls nL L) : lv_has ls nL (e_lv G L) := by
  refine ⟨h.1, h.2.1, fun q hq => ?_⟩
  obtain ⟨i, -, hi⟩ := List.mem_filterMap.mp hq
  revert hi
  split
  · rename_i v hv
    intro hi
    cases hi
    exact h.2.2 i v hv
  · intro hi
    cases hi
theorem e_cat2 {v : Value} (h : (e_tr (e_ad G) v).category = 2) : (∃ x, v = .long x) ∨ ∃ x, v = .double x := by
  cases v <;> simp_all [e_tr, Value.category]
theorem e_lr_st1 {ls : Array Slot} {nL i : Nat} {v w : Value} (hL : e_lr G ls nL L) (hw : w = e_tr (e_ad G) v) (hn : e_nl L i = true) {ls' : Array Slot}
    (h : lv_has ls' nL ((i, w) :: (e_lv G L).filter (fun q => !(q.1 == i) && !(q.1 + 1 == i && q.2.category == 2)))) : e_lr G ls' nL (L.set i (some v)) := by
  refine ⟨h.1, h.2.1, fun j u hj => ?_⟩
  rw [List.getElem?_set] at hj
  by_cases e : i = j
  · subst e
    by_cases hl : i < L.length
    · simp [hl] at hj
      subst hj
      exact h.2.2 (i, _) (by rw [hw]; exact List.mem_cons_self)
    · simp [hl] at hj
  · simp only [e, if_false] at hj
    refine h.2.2 (j, e_tr (e_ad G) u) (List.mem_cons_of_mem _ (List.mem_filter.mpr ⟨e_lv_mem hj, ?_⟩))
    simp only [Bool.and_eq_true, Bool.not_eq_true', beq_eq_false_iff_ne, ne_eq, Bool.and_eq_false_iff]
    refine ⟨fun q => e q.symm, ?_⟩
    by_cases e2 : j + 1 = i
    · right
      intro hc
      subst e2
      simp only [e_nl, hj] at hn
      rcases e_cat2 hc with ⟨x, rfl⟩ | ⟨x, rfl⟩ <;> simp at hn
    · exact Or.inl e2
theorem e_x_istore {ins : Instr} {len i : Nat} {x : Int32} (d : decode (e_cd y) pc = .ok (ins, len)) (h : (∃ z : Fin 4, ins = .istore_n z ∧ len = 1 ∧ (z : Nat) = i) ∨ (ins = .istore i ∧ len = 2)) (hi : i < e_mlx y) (hn : e_nl L i = true)
    (kk : e_EX G y (pc + len) (L.set i (some (.int x))) st S M k n Q) : e_EX G y pc L (.int x :: st) S M k n Q := by
  intro p e s m args below meth c Z H locs ls hC hE hH hS hL
  have hv := e_lv_has hL
  have K := fun (ls' : Array Slot) h' => kk p e s m args below meth c Z H locs ls' hC hE hH hS (e_lr_st1 (v := .int x) hL rfl hn h')
  rcases h with ⟨z, rfl, rfl, h⟩ | ⟨rfl, rfl⟩
  · exact lv_istore_n hC.1 hC.2.1 d h hv hi rfl K
  · exact lv_istore hC.1 hC.2.1 d hv hi rfl K
theorem e_x_astore {ins : Instr} {len i x : Nat} (d : decode (e_cd y) pc = .ok (ins, len)) (h : (∃ z : Fin 4, ins = .astore_n z ∧ len = 1 ∧ (z : Nat) = i) ∨ (ins = .astore i ∧ len = 2)) (hi : i < e_mlx y) (hn : e_nl L i = true)
    (kk : e_EX G y (pc + len) (L.set i (some (.ref x))) st S M k n Q) : e_EX G y pc L (.ref x :: st) S M k n Q := by
  intro p e s m args below meth c Z H locs ls hC hE hH hS hL
  have hv := e_lv_has hL
  have K := fun (ls' : Array Slot) h' => kk p e s m args below meth c Z H locs ls' hC hE hH hS (e_lr_st1 (v := .ref x) hL rfl hn h')
  rcases h with ⟨z, rfl, rfl, h⟩ | ⟨rfl, rfl⟩
  · exact lv_astore_n hC.1 hC.2.1 d h hv hi rfl K
  · exact lv_astore hC.1 hC.2.1 d hv hi rfl K
theorem e_x_iinc {i : Nat} {z : Int} {x v : Int32} (d : decode (e_cd y) pc = .ok (.iinc i z, 3)) (hz : Int32.ofInt z = v) (hx : L[i]? = some (some (.int x))) (hi : i < e_mlx y) (hn : e_nl L i = true)
    (kk : e_EX G y (pc + 3) (L.set i (some (.int (x + v)))) st S M k n Q) : e_EX G y pc L st S M k n Q := by
  intro p e s m args below meth c Z H locs ls hC hE hH hS hL
  have hv := e_lv_has hL
  obtain ⟨q, hq⟩ := List.getElem?_of_mem (e_lv_mem (G := G) hx)
  have K := fun (ls' : Array Slot) h' => kk p e s m args below meth c Z H locs ls' hC hE hH hS (e_lr_st1 (v := .int (x + v)) hL rfl hn h')
  subst hz
  exact lv_iinc hC.1 hC.2.1 d hv hq rfl hi rfl K
theorem e_x_lstore {ins : Instr} {len i : Nat} {x : Int64} (d : decode (e_cd y) pc = .ok (ins, len)) (h : (∃ z : Fin 4, ins = .lstore_n z ∧ len = 1 ∧ (z : Nat) = i) ∨ (ins = .lstore i ∧ len = 2)) (hi : i + 1 < e_mlx y) (hn : e_nl L i = true)
    (kk : e_EX G y (pc + len) ((L.set i (some (.long x))).set (i + 1) none) st S M k n Q) : e_EX G y pc L (.long x :: st) S M k n Q := by
  intro p e s m args below meth c Z H locs ls hC hE hH hS hL
  have hv := e_lv_has hL
  have key : ∀ ls' : Array Slot, lv_has ls' (e_mlx y) ((i, Value.long x) :: (e_lv G L).filter (fun q => !(q.1 == i) && (!(q.1 == i + 1) && !(q.1 + 1 == i && q.2.category == 2)))) → e_lr G ls' (e_mlx y) ((L.set i (some (.long x))).set (i + 1) none) := by
    intro ls' h
    refine ⟨h.1, h.2.1, fun j u hj => ?_⟩
    rw [List.getElem?_set] at hj
    by_cases e1 : i + 1 = j
    · subst e1
      split at hj
      · split at hj <;> simp at hj
      · simp_all
    · simp only [e1, if_false] at hj
      rw [List.getElem?_set] at hj
      by_cases e : i = j
      · subst e
        by_cases hl : i < L.length
        · simp [hl] at hj
          subst hj
          exact h.2.2 (i, _) List.mem_cons_self
        · simp [hl] at hj
      · simp only [e, if_false] at hj
        refine h.2.2 (j, e_tr (e_ad G) u) (List.mem_cons_of_mem _ (List.mem_filter.mpr ⟨e_lv_mem hj, ?_⟩))
        simp only [Bool.and_eq_true, Bool.not_eq_true', beq_eq_false_iff_ne, ne_eq, Bool.and_eq_false_iff]
        refine ⟨fun q => e q.symm, fun q => e1 q.symm, ?_⟩
        by_cases e2 : j + 1 = i
        · right
          intro hc
          subst e2
          simp only [e_nl, hj] at hn
          rcases e_cat2 hc with ⟨x, rfl⟩ | ⟨x, rfl⟩ <;> simp at hn
        · exact Or.inl e2
  have K := fun (ls' : Array Slot) h' => kk p e s m args below meth c Z H locs ls' hC hE hH hS (key ls' h')
  rcases h with ⟨z, rfl, rfl, h⟩ | ⟨rfl, rfl⟩
  · exact lv_lstore_n hC.1 hC.2.1 d h hv hi rfl K
  · exact lv_lstore hC.1 hC.2.1 d hv hi rfl K
-- arithmetic
def e_ar (op : Nat) (x y : Int32) : Int32 := match op with
  | 8 => x + y
  | 9 => x - y
  | 10 => x * y
  | 14 => x <<< (y &&& 31)
  | 15 => x >>> (y &&& 31)
  | 16 => x &&& y
  | 17 => x ||| y
  | _ => x ^^^ y
theorem e_x_add {a b : Int32} (d : decode (e_cd y) pc = .ok (.iadd, 1)) (kk : e_EX G y (pc + 1) L (.int (a + b) :: st) S M k n Q) : e_EX G y pc L (.int b :: .int a :: st) S M k n Q :=
  fun p e s m args below meth c Z H locs ls hC hE hH hS hL => lv_iadd hC.1 hC.2.1 d (kk p e s m args below meth c Z H locs ls hC hE hH hS hL)
theorem e_x_sub {a b : Int32} (d : decode (e_cd y) pc = .ok (.isub, 1)) (kk : e_EX G y (pc + 1) L (.int (a - b) :: st) S M k n Q) : e_EX G y pc L (.int b :: .int a :: st) S M k n Q :=
  fun p e s m args below meth c Z H locs ls hC hE hH hS hL => lv_isub hC.1 hC.2.1 d (kk p e s m args below meth c Z H locs ls hC hE hH hS hL)
theorem e_x_mul {a b : Int32} (d : decode (e_cd y) pc = .ok (.imul, 1)) (kk : e_EX G y (pc + 1) L (.int (a * b) :: st) S M k n Q) : e_EX G y pc L (.int b :: .int a :: st) S M k n Q :=
  fun p e s m args below meth c Z H locs ls hC hE hH hS hL => lv_imul hC.1 hC.2.1 d (kk p e s m args below meth c Z H locs ls hC hE hH hS hL)
theorem e_x_neg {a : Int32} (d : decode (e_cd y) pc = .ok (.ineg, 1)) (kk : e_EX G y (pc + 1) L (.int (-a) :: st) S M k n Q) : e_EX G y pc L (.int a :: st) S M k n Q :=
  fun p e s m args below meth c Z H locs ls hC hE hH hS hL => lv_ineg hC.1 hC.2.1 d (kk p e s m args below meth c Z H locs ls hC hE hH hS hL)
theorem e_x_div {a b : Int32} (d : decode (e_cd y) pc = .ok (.idiv, 1)) (hb : ¬ b = 0) (kk : e_EX G y (pc + 1) L (.int (a / b) :: st) S M k n Q) : e_EX G y pc L (.int b :: .int a :: st) S M k n Q :=
  fun p e s m args below meth c Z H locs ls hC hE hH hS hL => lv_idiv hC.1 hC.2.1 d hb (kk p e s m args below meth c Z H locs ls hC hE hH hS hL)
theorem e_x_rem {a b : Int32} (d : decode (e_cd y) pc = .ok (.irem, 1)) (hb : ¬ b = 0) (kk : e_EX G y (pc + 1) L (.int (a - a / b * b) :: st) S M k n Q) : e_EX G y pc L (.int b :: .int a :: st) S M k n Q :=
  fun p e s m args below meth c Z H locs ls hC hE hH hS hL => lv_irem hC.1 hC.2.1 d hb (kk p e s m args below meth c Z H locs ls hC hE hH hS hL)
theorem e_x_shl {a b : Int32} (d : decode (e_cd y) pc = .ok (.ishl, 1)) (kk : e_EX G y (pc + 1) L (.int (a <<< (b &&& 31)) :: st) S M k n Q) : e_EX G y pc L (.int b :: .int a :: st) S M k n Q :=
  fun p e s m args below meth c Z H locs ls hC hE hH hS hL => lv_ishl hC.1 hC.2.1 d (kk p e s m args below meth c Z H locs ls hC hE hH hS hL)
theorem e_x_shr {a b : Int32} (d : decode (e_cd y) pc = .ok (.ishr, 1)) (kk : e_EX G y (pc + 1) L (.int (a >>> (b &&& 31)) :: st) S M k n Q) : e_EX G y pc L (.int b :: .int a :: st) S M k n Q :=
  fun p e s m args below meth c Z H locs ls hC hE hH hS hL => lv_ishr hC.1 hC.2.1 d (kk p e s m args below meth c Z H locs ls hC hE hH hS hL)
theorem e_x_and {a b : Int32} (d : decode (e_cd y) pc = .ok (.iand, 1)) (kk : e_EX G y (pc + 1) L (.int (a &&& b) :: st) S M k n Q) : e_EX G y pc L (.int b :: .int a :: st) S M k n Q :=
  fun p e s m args below meth c Z H locs ls hC hE hH hS hL => lv_iand hC.1 hC.2.1 d (kk p e s m args below meth c Z H locs ls hC hE hH hS hL)
theorem e_x_or {a b : Int32} (d : decode (e_cd y) pc = .ok (.ior, 1)) (kk : e_EX G y (pc + 1) L (.int (a ||| b) :: st) S M k n Q) : e_EX G y pc L (.int b :: .int a :: st) S M k n Q :=
  fun p e s m args below meth c Z H locs ls hC hE hH hS hL => lv_ior hC.1 hC.2.1 d (kk p e s m args below meth c Z H locs ls hC hE hH hS hL)
theorem e_x_xor {a b : Int32} (d : decode (e_cd y) pc = .ok (.ixor, 1)) (kk : e_EX G y (pc + 1) L (.int (a ^^^ b) :: st) S M k n Q) : e_EX G y pc L (.int b :: .int a :: st) S M k n Q :=
  fun p e s m args below meth c Z H locs ls hC hE hH hS hL => lv_ixor hC.1 hC.2.1 d (kk p e s m args below meth c Z H locs ls hC hE hH hS hL)
theorem e_x_i2l {a : Int32} (d : decode (e_cd y) pc = .ok (.i2l, 1)) (kk : e_EX G y (pc + 1) L (.long a.toInt64 :: st) S M k n Q) : e_EX G y pc L (.int a :: st) S M k n Q :=
  fun p e s m args below meth c Z H locs ls hC hE hH hS hL => lv_i2l hC.1 hC.2.1 d rfl (kk p e s m args below meth c Z H locs ls hC hE hH hS hL)
theorem e_x_ladd {a b : Int64} (d : decode (e_cd y) pc = .ok (.ladd, 1)) (kk : e_EX G y (pc + 1) L (.long (a + b) :: st) S M k n Q) : e_EX G y pc L (.long b :: .long a :: st) S M k n Q :=
  fun p e s m args below meth c Z H locs ls hC hE hH hS hL => lv_ladd hC.1 hC.2.1 d (kk p e s m args below meth c Z H locs ls hC hE hH hS hL)
theorem e_x_lmul {a b : Int64} (d : decode (e_cd y) pc = .ok (.lmul, 1)) (kk : e_EX G y (pc + 1) L (.long (a * b) :: st) S M k n Q) : e_EX G y pc L (.long b :: .long a :: st) S M k n Q :=
  fun p e s m args below meth c Z H locs ls hC hE hH hS hL => lv_lmul hC.1 hC.2.1 d (kk p e s m args below meth c Z H locs ls hC hE hH hS hL)
theorem e_tr_cat (ad : Nat → Nat) (v : Value) : (e_tr ad v).category = v.category := by cases v <;> rfl
theorem e_x_dup {a : Value} (d : decode (e_cd y) pc = .ok (.dup, 1)) (ha : a.category = 1) (kk : e_EX G y (pc + 1) L (a :: a :: st) S M k n Q) : e_EX G y pc L (a :: st) S M k n Q :=
  fun p e s m args below meth c Z H locs ls hC hE hH hS hL => lv_dup hC.1 hC.2.1 d (by rw [e_tr_cat]; exact ha) (kk p e s m args below meth c Z H locs ls hC hE hH hS hL)
theorem e_x_dup2 {a b : Value} (d : decode (e_cd y) pc = .ok (.dup2, 1)) (ha : a.category = 1) (hb : b.category = 1) (kk : e_EX G y (pc + 1) L (a :: b :: a :: b :: st) S M k n Q) : e_EX G y pc L (a :: b :: st) S M k n Q :=
  fun p e s m args below meth c Z H locs ls hC hE hH hS hL => lv_dup2_11 hC.1 hC.2.1 d (by rw [e_tr_cat]; exact ha) (by rw [e_tr_cat]; exact hb) (kk p e s m args below meth c Z H locs ls hC hE hH hS hL)
theorem e_x_pop {a : Value} (d : decode (e_cd y) pc = .ok (.pop, 1)) (ha : a.category = 1) (kk : e_EX G y (pc + 1) L st S M k n Q) : e_EX G y pc L (a :: st) S M k n Q :=
  fun p e s m args below meth c Z H locs ls hC hE hH hS hL => lv_pop hC.1 hC.2.1 d (by rw [e_tr_cat]; exact ha) (kk p e s m args below meth c Z H locs ls hC hE hH hS hL)
theorem e_x_goto {off : Int} {tgt : Nat} (d : decode (e_cd y) pc = .ok (.goto off, 3)) (ht : (pc : Int) + off = (tgt : Int)) (kk : e_EX G y tgt L st S M k n Q) : e_EX G y pc L st S M k n Q :=
  fun p e s m args below meth c Z H locs ls hC hE hH hS hL => lv_goto hC.1 hC.2.1 d ht (kk p e s m args below meth c Z H locs ls hC hE hH hS hL)
/-- a compare of two ints -/
def e_cmp (c : Nat) (x y : Int32) : Prop := match c with
  | 0 => x = y
  | 1 => x ≠ y
  | 2 => x < y
  | 3 => y ≤ x
  | 4 => y < x
  | _ => x ≤ y
def e_cc (c : Nat) : ClassFile.Cond := match c with
  | 0 => .eq
  | 1 => .ne
  | 2 => .lt
  | 3 => .ge
  | 4 => .gt
  | _ => .le
theorem e_x_if {q : Nat} {x : Int32} {off : Int} {tgt : Nat} (d : decode (e_cd y) pc = .ok (.ifCond (e_cc q) off, 3)) (ht : (pc : Int) + off = (tgt : Int))
    (kt : e_cmp q x 0 → e_EX G y tgt L st S M k n Q) (kf : ¬ e_cmp q x 0 → e_EX G y (pc + 3) L st S M k n Q) : e_EX G y pc L (.int x :: st) S M k n Q := by
  intro p e s m args below meth c Z H locs ls hC hE hH hS hL
  have KT := fun h => kt h p e s m args below meth c Z H locs ls hC hE hH hS hL
  have KF := fun h => kf h p e s m args below meth c Z H locs ls hC hE hH hS hL
  match q, d, KT, KF with
  | 0, d, KT, KF => exact lv_if_eq hC.1 hC.2.1 d ht KT KF
  | 1, d, KT, KF => exact lv_if_ne hC.1 hC.2.1 d ht KT (fun h => KF (fun g => g h))
  | 2, d, KT, KF => exact lv_if_lt hC.1 hC.2.1 d ht KT KF
  | 3, d, KT, KF => exact lv_if_ge hC.1 hC.2.1 d ht KT KF
  | 4, d, KT, KF => exact lv_if_gt hC.1 hC.2.1 d ht KT KF
  | q + 5, d, KT, KF => exact lv_if_le hC.1 hC.2.1 d ht KT KF
theorem e_x_icmp {q : Nat} {x z : Int32} {off : Int} {tgt : Nat} (d : decode (e_cd y) pc = .ok (.if_icmp (e_cc q) off, 3)) (ht : (pc : Int) + off = (tgt : Int))
    (kt : e_cmp q x z → e_EX G y tgt L st S M k n Q) (kf : ¬ e_cmp q x z → e_EX G y (pc + 3) L st S M k n Q) : e_EX G y pc L (.int z :: .int x :: st) S M k n Q := by
  intro p e s m args below meth c Z H locs ls hC hE hH hS hL
  have KT := fun h => kt h p e s m args below meth c Z H locs ls hC hE hH hS hL
  have KF := fun h => kf h p e s m args below meth c Z H locs ls hC hE hH hS hL
  match q, d, KT, KF with
  | 0, d, KT, KF => exact lv_icmp_eq hC.1 hC.2.1 d ht KT KF
  | 1, d, KT, KF => exact lv_icmp_ne hC.1 hC.2.1 d ht KT (fun h => KF (fun g => g h))
  | 2, d, KT, KF => exact lv_icmp_lt hC.1 hC.2.1 d ht KT KF
  | 3, d, KT, KF => exact lv_icmp_ge hC.1 hC.2.1 d ht KT KF
  | 4, d, KT, KF => exact lv_icmp_gt hC.1 hC.2.1 d ht KT KF
  | q + 5, d, KT, KF => exact lv_icmp_le hC.1 hC.2.1 d ht KT KF
end ER
