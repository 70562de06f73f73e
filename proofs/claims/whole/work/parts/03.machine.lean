/-! THE SMALL MACHINE: the class's and the reference's cells under numbers that never change; ints in one store; a method's run as a proposition. -/
def e_big : List Cond := lw_tbl.filter goodWord
theorem e_big_in {w : Cond} (h : w ∈ e_big) : w ∈ lw_tbl := (List.mem_filter.mp h).1
def e_at (j : Nat) (w : Cond) : Bool := decide (lw_tbl[j]? = some w) && goodWord w
theorem e_at_in {j : Nat} {w : Cond} (h : e_at j w = true) : w ∈ e_big := by
  simp only [e_at, Bool.and_eq_true, decide_eq_true_eq] at h
  exact List.mem_filter.mpr ⟨List.mem_of_getElem? h.1, h.2⟩
def e_inb (w : Cond) : Bool := decide (w ∈ lw_tbl) && goodWord w
theorem e_inb_in {w : Cond} (h : e_inb w = true) : w ∈ e_big := by
  simp only [e_inb, Bool.and_eq_true, decide_eq_true_eq] at h
  exact List.mem_filter.mpr h
-- methods by number
def e_m0 : e_MR := (yL_law, cL_law, 4, some .boolean, 10, 354, 600000, 7302250, 1, 1, 0, 0, 0, 0)
def e_m (y : Nat) : e_MR := e_mt.getD y e_m0
def e_nm (y : Nat) : MethodName := (e_m y).1
def e_cd (y : Nat) : ByteArray := (e_m y).2.1
def e_mlx (y : Nat) : Nat := (e_m y).2.2.1
def e_rt (y : Nat) : Option FieldType := (e_m y).2.2.2.1
def e_mc (y : Nat) : Nat := (e_m y).2.2.2.2.2.2.1
def e_ms (y : Nat) : Nat := (e_m y).2.2.2.2.2.2.2.1
def e_rm (y : Nat) : Room := { frames := (e_m y).2.2.2.2.1, cells := e_mc y, slots := e_ms y, locals := (e_m y).2.2.2.2.2.1 }
def e_np (y : Nat) : Nat := (e_m y).2.2.2.2.2.2.2.2.1
def e_kd (y : Nat) : Nat := (e_m y).2.2.2.2.2.2.2.2.2.1
def e_wl (y : Nat) : List Cond := Cond.code (e_nm y) (e_cd y) (e_mlx y) (e_rt y) :: e_big
def e_own (y : Nat) : String := (e_nm y).cls
-- the world
abbrev e_G : Type := Launch × va_G × (Nat → ClassId) × (Nat → Nat) × Nat × Nat × (Nat → Int32)
def e_l (G : e_G) : Launch := G.1
def e_D (G : e_G) : va_G := G.2.1
def e_cy (G : e_G) : Nat → ClassId := G.2.2.1
def e_ad (G : e_G) : Nat → Nat := G.2.2.2.1
def e_bs (G : e_G) : Nat := G.2.2.2.2.1
def e_sn (G : e_G) : Nat := G.2.2.2.2.2.1
def e_sx (G : e_G) : Nat → Int32 := G.2.2.2.2.2.2
def e_A (G : e_G) : Nat → Prop := fun q => e_bs G ≤ q
/-- a cell's shape: an array (kind, length; none: of ints, kept in the store; some: of references), or an object (class; a slot: some: a reference, none: an int, kept in the store) -/
abbrev e_SE : Type := (Nat × Nat × Option (Nat → Option Nat)) ⊕ (Nat × List (Option Value))
abbrev e_Sh : Type := List e_SE
abbrev e_Me : Type := Nat → Nat → Int32
abbrev e_R : Type := Option Value → e_Sh → e_Me → Prop
abbrev e_Q : Type := Option Value → e_Sh → e_Me → Nat → Nat → Prop
def e_up (M : e_Me) (i j : Nat) (x : Int32) : e_Me := fun a b => if a = i then (if b = j then x else M a b) else M a b
def e_row (M : e_Me) (i : Nat) (f : Nat → Int32) : e_Me := fun a => if a = i then f else M a
def e_tr (ad : Nat → Nat) : Value → Value
  | .ref i => .ref (ad i)
  | v => v
def e_sv (ad : Nat → Nat) (f : Nat → Int32) (j : Nat) (o : Option Value) : Value := match o with
  | some v => e_tr ad v
  | none => .int (f j)
def e_li (G : e_G) (f : Nat → Int32) : e_SE → va_E
  | .inl (k, n, none) => .inl (e_cy G k, n, .inl f)
  | .inl (k, n, some g) => .inl (e_cy G k, n, .inr (.inr (.inr (.inr (fun j => (g j).map (e_ad G))))))
  | .inr (ci, sl) => .inr (ci, sl.mapIdx (e_sv (e_ad G) f))
def e_ws (G : e_G) (S : e_Sh) (M : e_Me) : va_W := S.mapIdx (fun i e => (e_ad G i, e_li G (M i) e))
def e_tys (G : e_G) : List (ClassId × FieldType) := [(e_cy G 0, .int), (e_cy G 1, .boolean), (e_cy G 2, .object "EvenWheel$Row"), (e_cy G 3, .array .int)]
def e_HR (G : e_G) (S : e_Sh) (M : e_Me) (H : Heap) : Prop := H.size = e_bs G + S.length ∧ S.length ≤ 1000 ∧ va_P (e_D G) vwCl (e_ws G S M) H
-- what nobody writes: the script (1000), the class's three tables (1001 ..)
def e_tab (l : List Int32) (j : Nat) : Int32 := l.getD j 0
def e_ro (G : e_G) (i : Nat) : Option (Nat × (Nat → Int32)) := match i with
  | 1000 => some (e_sn G, e_sx G)
  | 1001 => some (16, e_tab [0, 10, 21, 31, 41, 50, 59, 67, 74, 81, 87, 91, 95, 98, 99, 100])
  | 1002 => some (4, e_tab [0, 100, 0, 1])
  | 1003 => some (4, e_tab [1000000, 10000, 500, 20])
  | _ => none
def e_st (i : Nat) : Option (String × String) := match i with
  | 1001 => some ("EvenWheel$Wheel", "ARMS")
  | 1002 => some ("EvenWheel$Rules", "LEAST")
  | 1003 => some ("EvenWheel$Rules", "MOST")
  | _ => none
def e_nest : List Cond := [.methodLinkNest "EvenWheel$Riders" 21 ⟨"EvenWheel$Parties", "<init>", "()V"⟩ "EvenWheel", .methodLinkNest "EvenWheel$Rules" 28 ⟨"EvenWheel", "mix", "(JJ)J"⟩ "EvenWheel", .methodLinkNest "EvenWheel$Parties" 66 ⟨"EvenWheel", "mix", "(JJ)J"⟩ "EvenWheel", .methodLinkNest "EvenWheel$Row" 48 ⟨"EvenWheel", "mix", "(JJ)J"⟩ "EvenWheel", .methodLinkNest "EvenWheel$Notes" 74 ⟨"EvenWheel", "mix", "(JJ)J"⟩ "EvenWheel", .methodLinkNest "EvenWheel$Readings" 132 ⟨"EvenWheel", "mix", "(JJ)J"⟩ "EvenWheel"]
def e_AOA (U : State) : Prop := (Cond.arrayOver (.array .int)).before #[] U = true
theorem e_AOA_use {A : Array Value} {U : State} (h : e_AOA U) : (Cond.arrayOver (.array .int)).before A U = true := h
theorem e_AOA_moved {u U : State} (hvm : u.vm.Alike U.vm) (h : e_AOA u) : e_AOA U := Stand.arrayOver_alikeB hvm h
def e_Vm (G : e_G) (U : State) : Prop :=
  (∀ i, i < 1000 → e_ad G i = e_bs G + i) ∧ va_K (e_D G) vwCl (e_tys G) U ∧ (∀ w ∈ e_nest, va_Nw w U) ∧
  (∀ i q, e_st i = some q → va_Z q.1 q.2 "[I" (.ref (e_ad G i)) (e_A G) U U.heap) ∧
  (∀ i q, e_ro G i = some q → va_T .int (e_ad G i) q.1 (fun j => .int (q.2 j)) (e_A G) U U.heap) ∧ e_bs G ≤ U.heap.size ∧ va_AO "EvenWheel$Row" U ∧ e_AOA U
def e_lr (G : e_G) (ls : Array Slot) (nL : Nat) (L : List (Option Value)) : Prop := ls.size = nL ∧ lv_wf ls ∧ ∀ (i : Nat) (v : Value), L[i]? = some (some v) → ls[i]? = some (.val (e_tr (e_ad G) v))
def e_Cx (G : e_G) (y : Nat) (p : Program) (s : State) (m : MethodId) (args : Array Value) (meth : Method) (c : Code) : Prop :=
  p.tables.exec = Jvm.exec ∧ c.code = e_cd y ∧ meth.sig.returnType = e_rt y ∧ c.maxLocals = e_mlx y ∧ (∀ w ∈ e_big, w.before args s = true) ∧ s.vm.findClass (e_own y) = some m.cls ∧ meth.locks = false ∧ e_Vm G s ∧ ((e_nm y).name = "<init>" → meth.name = "<init>")
def e_ret (rt : Option FieldType) (i : Instr) (r : Option Value) : Prop := match i, r with
  | .return_, none => rt = none
  | .ireturn, some (.int v) => ∃ ty, rt = some ty ∧ narrow ty (.int v) = .int v
  | .lreturn, some (.long _) => rt = some .long
  | .areturn, some (.ref _) => ∃ C, rt = some (.object C)
  | _, _ => False
def e_Ext (G : e_G) (y : Nat) (p : Program) (e : Env) (s : State) (m : MethodId) (args : Array Value) (below : List Frame) (meth : Method) (c : Code) (Z : State → Prop) (Q : e_Q) : Prop :=
  ∀ (r : Option Value) (S : e_Sh) (M : e_Me) (k n : Nat) (H : Heap) (locs : List Loc) (pc : Nat) (ls : Array Slot) (i : Instr), Q r S M k n → e_HR G S M H → va_S (e_A G) s.heap H locs → decode (e_cd y) pc = .ok (i, 1) → e_ret (e_rt y) i r → W p (e_l G) e (e_rm y) s m args below meth c H locs k n Z (F0 m pc ls (r.toList.map (e_tr (e_ad G))))
def e_EX (G : e_G) (y pc : Nat) (L : List (Option Value)) (st : List Value) (S : e_Sh) (M : e_Me) (k n : Nat) (Q : e_Q) : Prop :=
  ∀ (p : Program) (e : Env) (s : State) (m : MethodId) (args : Array Value) (below : List Frame) (meth : Method) (c : Code) (Z : State → Prop) (H : Heap) (locs : List Loc) (ls : Array Slot),
    e_Cx G y p s m args meth c → e_Ext G y p e s m args below meth c Z Q → e_HR G S M H → va_S (e_A G) s.heap H locs → e_lr G ls (e_mlx y) L → W p (e_l G) e (e_rm y) s m args below meth c H locs k n Z (F0 m pc ls (st.map (e_tr (e_ad G))))
def e_Qc (G : e_G) (Q : e_R) : Array Value → State → Outcome → State → Prop := fun _ st o t => (∃ (r : Option Value) (S : e_Sh) (M : e_Me), o = .returned (r.map (e_tr (e_ad G))) ∧ Q r S M ∧ e_HR G S M t.heap) ∧ va_F (e_A G) st t
def e_CA (G : e_G) (z : Nat) (as : List Value) (S : e_Sh) (M : e_Me) (Q : e_R) : Prop :=
  Met (e_l G) (e_nm z) (e_wl z) (e_rm z) (va_Pc (as.map (e_tr (e_ad G))) (fun U => e_HR G S M U.heap ∧ e_Vm G U)) (e_Qc G Q) (e_mc z) (e_ms z) (e_A G)
-- plain facts of the world
theorem e_ws_get {G : e_G} {S : e_Sh} {M : e_Me} {i : Nat} {e : e_SE} (h : S[i]? = some e) : (e_ws G S M)[i]? = some (e_ad G i, e_li G (M i) e) := by
  simp [e_ws, List.getElem?_mapIdx, h]
theorem e_ws_D {G : e_G} {S : e_Sh} {M : e_Me} (hS : S.length ≤ 1000) (ha : ∀ i, i < 1000 → e_ad G i = e_bs G + i) : va_D (e_A G) (e_ws G S M) := by
  have hg : ∀ (i : Nat) (p : Nat × va_E), (e_ws G S M)[i]? = some p → i < S.length ∧ p.1 = e_ad G i := by
    intro i p h
    simp only [e_ws, List.getElem?_mapIdx, Option.map_eq_some_iff] at h
    obtain ⟨e, h1, rfl⟩ := h
    exact ⟨(List.getElem?_eq_some_iff.mp h1).1, rfl⟩
  refine ⟨fun i j p q hi hj h => ?_, fun k q hk => ?_⟩
  · obtain ⟨a1, a2⟩ := hg i p hi
    obtain ⟨b1, b2⟩ := hg j q hj
    rw [a2, b2, ha i (by omega), ha j (by omega)] at h
    omega
  · obtain ⟨a1, a2⟩ := hg k q hk
    show e_bs G ≤ q.1
    rw [a2, ha k (by omega)]
    omega
theorem e_up_at (M : e_Me) (i j : Nat) (x : Int32) : e_up M i j x i = upd (M i) j x := by
  funext b
  simp [e_up, upd]
theorem e_up_ne {M : e_Me} {i j : Nat} {x : Int32} {a : Nat} (h : a ≠ i) : e_up M i j x a = M a := by
  funext b
  simp [e_up, h]
theorem e_row_at (M : e_Me) (i : Nat) (f : Nat → Int32) : e_row M i f i = f := by simp [e_row]
theorem e_row_ne {M : e_Me} {i : Nat} {f : Nat → Int32} {a : Nat} (h : a ≠ i) : e_row M i f a = M a := by simp [e_row, h]
theorem e_ws_set {G : e_G} {S S' : e_Sh} {M M' : e_Me} {i : Nat} {e' : e_SE} (hi : i < S.length) (hS : S' = S.set i e') (hM : ∀ a, a ≠ i → M' a = M a) : e_ws G S' M' = (e_ws G S M).set i (e_ad G i, e_li G (M' i) e') := by
  subst hS
  apply List.ext_getElem?
  intro j
  simp only [e_ws, List.getElem?_mapIdx, List.getElem?_set, List.length_mapIdx]
  by_cases h : i = j
  · subst h
    simp [hi]
  · simp only [h, if_false]
    rw [hM j (fun q => h q.symm)]
theorem e_ws_push {G : e_G} {S : e_Sh} {M M' : e_Me} {e' : e_SE} (hM : ∀ a, a < S.length → M' a = M a) : e_ws G (S ++ [e']) M' = e_ws G S M ++ [(e_ad G S.length, e_li G (M' S.length) e')] := by
  simp only [e_ws, List.mapIdx_append, List.mapIdx_cons, List.mapIdx_nil, Nat.zero_add]
  congr 1
  apply List.ext_getElem?
  intro j
  simp only [List.getElem?_mapIdx]
  cases h : S[j]? with
  | none => rfl
  | some e =>
    have := (List.getElem?_eq_some_iff.mp h).1
    simp [hM j this]
theorem e_Vm_of {G : e_G} {s U : State} (hW : s.WarmedH U.vm) (hz : s.heap.size ≤ U.heap.size) (hk : ∀ q : Nat, q < s.heap.size → ¬ e_A G q → U.heap[q]? = s.heap[q]?) (h : e_Vm G s) : e_Vm G U := by
  obtain ⟨h1, h2, h3, h4, h5, h6, h7⟩ := h
  have hal := hW.alike
  refine ⟨h1, va_K.moved hal h2, fun w hw => ?_, fun i q hq => ((h4 i q hq).moved hal).kept hk, fun i q hq => ((h5 i q hq).moved hal).kept hk, Nat.le_trans h6 hz, va_AO.moved hal h7.1, e_AOA_moved hal h7.2⟩
  have h := h3 w hw
  simp only [e_nest, List.mem_cons, List.not_mem_nil, or_false] at hw
  rcases hw with rfl | rfl | rfl | rfl | rfl | rfl <;> exact va_Nw.warmM hW h
