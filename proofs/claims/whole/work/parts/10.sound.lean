/-! what the program's table says of the bytecode, and that a run of the small machine is a run of the machine -/
def e_i4 (i : Instr) (len a : Nat) (mk : Fin 4 → Instr) (mk2 : Nat → Instr) : Bool := (decide (len = 1) && (List.finRange 4).any (fun z => decide (i = mk z ∧ (z : Nat) = a))) || decide (i = mk2 a ∧ len = 2)
theorem e_i4_of {i : Instr} {len a : Nat} {mk : Fin 4 → Instr} {mk2 : Nat → Instr} (h : e_i4 i len a mk mk2 = true) : (∃ z : Fin 4, i = mk z ∧ len = 1 ∧ (z : Nat) = a) ∨ (i = mk2 a ∧ len = 2) := by
  simp only [e_i4, Bool.or_eq_true, Bool.and_eq_true, decide_eq_true_eq, List.any_eq_true] at h
  rcases h with ⟨h1, z, -, h2, h3⟩ | h
  · exact Or.inl ⟨z, h2, h1, h3⟩
  · exact Or.inr h
def e_oc (y : Nat) : Nat := e_ocs.getD y 99
def e_cnm (c : Nat) : String := e_cn.getD c ""
def e_flB (r : Nat × Nat × Nat × Nat × Nat) : Bool := match r with
  | (oc, ix, d, j, pl) => decide (d = 99) || match vwCl[d]? with
    | some q => decide (j < q.2.2) && e_at pl (Cond.fieldLink (e_cnm oc) ix (q.2.1 j).1 (q.2.1 j).2.1 (q.2.1 j).2.2.1)
    | none => false
theorem e_bulk {α : Type} {l : List α} {p : α → Bool} {a b i : Nat} {x : α} (h : ((l.drop a).take b).all p = true) (h1 : a ≤ i) (h2 : i < a + b) (hx : l[i]? = some x) : p x = true := by
  refine List.all_eq_true.mp h x (List.mem_of_getElem? (i := i - a) ?_)
  rw [List.getElem?_take_of_lt (by omega), List.getElem?_drop, show a + (i - a) = i by omega, hx]
theorem e_flB_0 : ((e_fl.drop 0).take 20).all e_flB = true := by decide +kernel
theorem e_flB_1 : ((e_fl.drop 20).take 20).all e_flB = true := by decide +kernel
theorem e_flB_2 : ((e_fl.drop 40).take 20).all e_flB = true := by decide +kernel
theorem e_flB_3 : ((e_fl.drop 60).take 20).all e_flB = true := by decide +kernel
theorem e_flB_4 : ((e_fl.drop 80).take 20).all e_flB = true := by decide +kernel
theorem e_flB_5 : ((e_fl.drop 100).take 9).all e_flB = true := by decide +kernel
theorem e_flB_all {a : Nat} {r : Nat × Nat × Nat × Nat × Nat} (h : e_fl[a]? = some r) : e_flB r = true := by
  have hl : a < 109 := by
    have h1 := (List.getElem?_eq_some_iff.mp h).1
    have h2 : e_fl.length = 109 := by decide +kernel
    omega
  rcases Nat.lt_or_ge a 20 with h0 | h0
  · exact e_bulk e_flB_0 (by omega) (by omega) h
  rcases Nat.lt_or_ge a 40 with h20 | h20
  · exact e_bulk e_flB_1 (by omega) (by omega) h
  rcases Nat.lt_or_ge a 60 with h40 | h40
  · exact e_bulk e_flB_2 (by omega) (by omega) h
  rcases Nat.lt_or_ge a 80 with h60 | h60
  · exact e_bulk e_flB_3 (by omega) (by omega) h
  rcases Nat.lt_or_ge a 100 with h80 | h80
  · exact e_bulk e_flB_4 (by omega) (by omega) h
  rcases Nat.lt_or_ge a 109 with h100 | h100
  · exact e_bulk e_flB_5 (by omega) (by omega) h
  omega
def e_mlB (r : Nat × Nat × Nat × Nat × Nat) : Bool := match r with
  | (oc, ix, z, kd, pl) => if kd ≤ 2 then e_at pl (Cond.methodLink (e_cnm oc) ix (e_nm z)) else if kd ≤ 4 then decide (Cond.methodLinkNest (e_cnm oc) ix (e_nm z) "EvenWheel" ∈ e_nest) else true
theorem e_mlB_0 : ((e_ml.drop 0).take 20).all e_mlB = true := by decide +kernel
theorem e_mlB_1 : ((e_ml.drop 20).take 20).all e_mlB = true := by decide +kernel
theorem e_mlB_2 : ((e_ml.drop 40).take 20).all e_mlB = true := by decide +kernel
theorem e_mlB_3 : ((e_ml.drop 60).take 20).all e_mlB = true := by decide +kernel
theorem e_mlB_4 : ((e_ml.drop 80).take 20).all e_mlB = true := by decide +kernel
theorem e_mlB_5 : ((e_ml.drop 100).take 20).all e_mlB = true := by decide +kernel
theorem e_mlB_6 : ((e_ml.drop 120).take 20).all e_mlB = true := by decide +kernel
theorem e_mlB_7 : ((e_ml.drop 140).take 20).all e_mlB = true := by decide +kernel
theorem e_mlB_8 : ((e_ml.drop 160).take 20).all e_mlB = true := by decide +kernel
theorem e_mlB_9 : ((e_ml.drop 180).take 20).all e_mlB = true := by decide +kernel
theorem e_mlB_10 : ((e_ml.drop 200).take 20).all e_mlB = true := by decide +kernel
theorem e_mlB_11 : ((e_ml.drop 220).take 20).all e_mlB = true := by decide +kernel
theorem e_mlB_12 : ((e_ml.drop 240).take 20).all e_mlB = true := by decide +kernel
theorem e_mlB_13 : ((e_ml.drop 260).take 20).all e_mlB = true := by decide +kernel
theorem e_mlB_14 : ((e_ml.drop 280).take 20).all e_mlB = true := by decide +kernel
theorem e_mlB_15 : ((e_ml.drop 300).take 20).all e_mlB = true := by decide +kernel
theorem e_mlB_16 : ((e_ml.drop 320).take 20).all e_mlB = true := by decide +kernel
theorem e_mlB_17 : ((e_ml.drop 340).take 20).all e_mlB = true := by decide +kernel
theorem e_mlB_18 : ((e_ml.drop 360).take 20).all e_mlB = true := by decide +kernel
theorem e_mlB_19 : ((e_ml.drop 380).take 1).all e_mlB = true := by decide +kernel
theorem e_mlB_all {a : Nat} {r : Nat × Nat × Nat × Nat × Nat} (h : e_ml[a]? = some r) : e_mlB r = true := by
  have hl : a < 381 := by
    have h1 := (List.getElem?_eq_some_iff.mp h).1
    have h2 : e_ml.length = 381 := by decide +kernel
    omega
  rcases Nat.lt_or_ge a 20 with h0 | h0
  · exact e_bulk e_mlB_0 (by omega) (by omega) h
  rcases Nat.lt_or_ge a 40 with h20 | h20
  · exact e_bulk e_mlB_1 (by omega) (by omega) h
  rcases Nat.lt_or_ge a 60 with h40 | h40
  · exact e_bulk e_mlB_2 (by omega) (by omega) h
  rcases Nat.lt_or_ge a 80 with h60 | h60
  · exact e_bulk e_mlB_3 (by omega) (by omega) h
  rcases Nat.lt_or_ge a 100 with h80 | h80
  · exact e_bulk e_mlB_4 (by omega) (by omega) h
  rcases Nat.lt_or_ge a 120 with h100 | h100
  · exact e_bulk e_mlB_5 (by omega) (by omega) h
  rcases Nat.lt_or_ge a 140 with h120 | h120
  · exact e_bulk e_mlB_6 (by omega) (by omega) h
  rcases Nat.lt_or_ge a 160 with h140 | h140
  · exact e_bulk e_mlB_7 (by omega) (by omega) h
  rcases Nat.lt_or_ge a 180 with h160 | h160
  · exact e_bulk e_mlB_8 (by omega) (by omega) h
  rcases Nat.lt_or_ge a 200 with h180 | h180
  · exact e_bulk e_mlB_9 (by omega) (by omega) h
  rcases Nat.lt_or_ge a 220 with h200 | h200
  · exact e_bulk e_mlB_10 (by omega) (by omega) h
  rcases Nat.lt_or_ge a 240 with h220 | h220
  · exact e_bulk e_mlB_11 (by omega) (by omega) h
  rcases Nat.lt_or_ge a 260 with h240 | h240
  · exact e_bulk e_mlB_12 (by omega) (by omega) h
  rcases Nat.lt_or_ge a 280 with h260 | h260
  · exact e_bulk e_mlB_13 (by omega) (by omega) h
  rcases Nat.lt_or_ge a 300 with h280 | h280
  · exact e_bulk e_mlB_14 (by omega) (by omega) h
  rcases Nat.lt_or_ge a 320 with h300 | h300
  · exact e_bulk e_mlB_15 (by omega) (by omega) h
  rcases Nat.lt_or_ge a 340 with h320 | h320
  · exact e_bulk e_mlB_16 (by omega) (by omega) h
  rcases Nat.lt_or_ge a 360 with h340 | h340
  · exact e_bulk e_mlB_17 (by omega) (by omega) h
  rcases Nat.lt_or_ge a 380 with h360 | h360
  · exact e_bulk e_mlB_18 (by omega) (by omega) h
  rcases Nat.lt_or_ge a 381 with h380 | h380
  · exact e_bulk e_mlB_19 (by omega) (by omega) h
  omega
def e_ocB (y : Nat) : Bool := decide (e_own y = e_cnm (e_oc y))
theorem e_ocB_all : (List.range 269).all e_ocB = true := by decide +kernel
theorem e_own_oc {y : Nat} (h : y < 269) : e_own y = e_cnm (e_oc y) := of_decide_eq_true (List.all_eq_true.mp e_ocB_all y (List.mem_range.mpr h))
def e_fll (y a ci k : Nat) (idx : Nat) : Bool := match e_fl[a]? with
  | some (oc, ix, d, j, _) => decide (oc = e_oc y) && decide (ix = idx) && decide (d = ci) && decide (j = k) && decide (d < 99) && decide (y < 269)
  | none => false
theorem e_fll_of {y a ci k idx : Nat} (h : e_fll y a ci k idx = true) : ∃ q, vwCl[ci]? = some q ∧ k < q.2.2 ∧ Cond.fieldLink (e_own y) idx (q.2.1 k).1 (q.2.1 k).2.1 (q.2.1 k).2.2.1 ∈ e_big := by
  unfold e_fll at h
  split at h
  · rename_i oc ix d j pl h1
    simp only [Bool.and_eq_true, decide_eq_true_eq] at h
    obtain ⟨⟨⟨⟨⟨rfl, rfl⟩, rfl⟩, rfl⟩, h5⟩, h6⟩ := h
    have hb := e_flB_all h1
    simp only [e_flB, Bool.or_eq_true, decide_eq_true_eq] at hb
    rcases hb with hb | hb
    · omega
    · split at hb
      · rename_i q hq
        simp only [Bool.and_eq_true, decide_eq_true_eq] at hb
        refine ⟨q, hq, hb.1, ?_⟩
        have := e_at_in hb.2
        rwa [← e_own_oc h6] at this
      · cases hb
  · cases h
def e_isr : FieldType → Bool
  | .object _ => true
  | .array _ => true
  | _ => false
theorem e_isr_of {t : FieldType} (h : e_isr t = true) : (∃ C, t = .object C) ∨ ∃ u, t = .array u := by
  cases t <;> first | (simp [e_isr] at h; done) | exact Or.inl ⟨_, rfl⟩ | exact Or.inr ⟨_, rfl⟩
/-- a field written: v is 0: an int, 1: a boolean, 2: a reference, once, in a constructor -/
def e_plk (y a ci k : Nat) (v : Int32) (idx : Nat) : Bool := e_fll y a ci k idx && match vwCl[ci]? with
  | some q => (decide (v = 0) && decide (e_tyx ci k = .int) && decide ((q.2.1 k).2.2.2 = false)) || (decide (v = 1) && decide (e_tyx ci k = .boolean) && decide ((q.2.1 k).2.2.2 = false)) ||
      (decide (v = 2) && e_isr (e_tyx ci k) && decide ((q.2.1 k).2.2.2 = true) && decide ((q.2.1 k).1 = e_own y) && decide ((e_nm y).name = "<init>"))
  | none => false
def e_mlk (y a z : Nat) (i : Instr) : Bool := match e_ml[a / 16]? with
  | some (oc, ix, z', kd, _) => decide (oc = e_oc y) && decide (z' = z) && decide (z < 268) && decide (y < 269) && e_fit y z && (match kd with
    | 0 => decide (i = .invokevirtual ix) && decide (e_kd z = 0) && decide (a % 16 = e_oc z) && decide (a % 16 < 12)
    | 1 => decide (i = .invokestatic ix) && decide (e_kd z = 1)
    | 2 => decide (i = .invokespecial ix) && decide (e_kd z = 2)
    | 3 => decide (i = .invokestatic ix) && decide (e_kd z = 1)
    | 4 => decide (i = .invokespecial ix) && decide (e_kd z = 2)
    | _ => false)
  | none => false
theorem e_vw_cn {c : Nat} (h : c < 12) : ∃ q, vwCl[c]? = some q ∧ q.1 = e_cnm c := by
  match c, h with
  | 0, _ => exact ⟨_, rfl, rfl⟩
  | 1, _ => exact ⟨_, rfl, rfl⟩
  | 2, _ => exact ⟨_, rfl, rfl⟩
  | 3, _ => exact ⟨_, rfl, rfl⟩
  | 4, _ => exact ⟨_, rfl, rfl⟩
  | 5, _ => exact ⟨_, rfl, rfl⟩
  | 6, _ => exact ⟨_, rfl, rfl⟩
  | 7, _ => exact ⟨_, rfl, rfl⟩
  | 8, _ => exact ⟨_, rfl, rfl⟩
  | 9, _ => exact ⟨_, rfl, rfl⟩
  | 10, _ => exact ⟨_, rfl, rfl⟩
  | 11, _ => exact ⟨_, rfl, rfl⟩
def e_swok (pc : Nat) (l : List (Int32 × Nat)) (d : Nat) (i : Instr) : Bool := match i with
  | .tableswitch df lo hi offs => decide ((pc : Int) + df = (d : Int)) && decide (l.length = offs.size) && decide ((hi - lo + 1).toNat = offs.size) && decide (-1000 ≤ lo ∧ hi ≤ 1000 ∧ lo ≤ hi) && (List.range l.length).all (fun j => match l[j]?, offs[j]? with
    | some (x, t), some o => decide (x.toInt = lo + (j : Int)) && decide ((pc : Int) + o = (t : Int))
    | _, _ => false)
  | .lookupswitch df ps => decide ((pc : Int) + df = (d : Int)) && (ps.toList.zip (ps.toList.drop 1)).all (fun (a, next) => a.1 < next.1) && decide (l.length = ps.toList.length) && (List.range l.length).all (fun j => match l[j]?, ps.toList[j]? with
    | some (x, t), some (u, o) => decide (x.toInt = u) && decide ((pc : Int) + o = (t : Int))
    | _, _ => false)
  | _ => false
def e_okB (y pc op a b c : Nat) (v : Int32) (i : Instr) (len : Nat) : Bool :=
  match op with
  | 0 => decide (len = a) && (match i with
    | .iconst z => decide (len = 1) && decide (Int32.ofInt z = v)
    | .bipush z => decide (len = 2) && decide ((Int8.ofInt z).toInt32 = v)
    | .sipush z => decide (len = 3) && decide ((Int16.ofInt z).toInt32 = v)
    | .ldc z => decide (len = 2) && (match e_kw[b - 1]? with
      | some (_, ix, pl) => decide (ix = z) && e_at pl (Cond.constant (e_own y) z v)
      | none => false)
    | _ => false)
  | 1 => decide (len = b) && e_i4 i len a .iload_n .iload
  | 2 => decide (len = b) && e_i4 i len a .aload_n .aload
  | 3 => decide (len = b) && e_i4 i len a .lload_n .lload
  | 4 => decide (len = b) && e_i4 i len a .istore_n .istore && decide (a < e_mlx y)
  | 5 => decide (len = b) && e_i4 i len a .astore_n .astore && decide (a < e_mlx y)
  | 6 => decide (len = b) && e_i4 i len a .lstore_n .lstore && decide (a + 1 < e_mlx y)
  | 7 => decide (len = 3) && decide (a < e_mlx y) && (match i with
    | .iinc q z => decide (q = a) && decide (Int32.ofInt z = v)
    | _ => false)
  | 23 => decide (len = a) && (match i with
    | .lconst z => decide (len = 1) && decide (Int64.ofNat (z : Nat) = v.toInt64)
    | .ldc2_w z => decide (len = 3) && (match e_kw[b - 1]? with
      | some (_, ix, pl) => decide (ix = z) && e_at pl (Cond.constantLong (e_own y) z v.toInt64)
      | none => false)
    | _ => false)
  | 27 => decide (len = 3) && (match i with
    | .goto o => decide ((pc : Int) + o = (a : Int))
    | _ => false)
  | 28 => decide (len = 3) && (match i with
    | .ifCond q o => decide (q = e_cc a) && decide ((pc : Int) + o = (b : Int))
    | _ => false)
  | 29 => decide (len = 3) && (match i with
    | .if_icmp q o => decide (q = e_cc a) && decide ((pc : Int) + o = (b : Int))
    | _ => false)
  | 30 => decide (len = 3) && (match i with
    | .getfield ix => e_fll y a b c ix
    | _ => false)
  | 31 => decide (len = 3) && (match i with
    | .putfield ix => e_plk y a b c v ix
    | _ => false)
  | 39 => decide (len = 3) && (match i, e_st b, e_fl[a]? with
    | .getstatic ix, some q, some (_, _, _, _, pl) => e_at pl (Cond.fieldLink (e_own y) ix q.1 q.2 "[I")
    | _, _, _ => false)
  | 40 => decide (len = 2) && ((decide (a = 0) && decide (i = .newarray .int) && e_at 85 (Cond.arrayClass .int)) || (decide (a = 1) && decide (i = .newarray .boolean) && e_at 1325 (Cond.arrayClass .boolean)))
  | 41 => decide (i = .anewarray a) && decide (len = 3) && e_at b (Cond.classLink (e_own y) a "EvenWheel$Row")
  | 42 => decide (i = .multianewarray a 2) && decide (len = 4) && e_at b (Cond.classLink (e_own y) a "[[I") && e_at 85 (Cond.arrayClass .int)
  | 43 => decide (len = 3) && (match e_nw[a]?, vwCl[b]? with
    | some (_, ix, _, p1, p2, p3), some q => decide (i = .new ix) && e_at p1 (Cond.classLink (e_own y) ix q.1) && e_at p2 (Cond.instantiable q.1 q.2.2) && e_at p3 (Cond.initialized q.1) && (List.range q.2.2).all (fun j => e_tok (e_tyx b j))
    | _, _ => false)
  | 44 => decide (len = 3) && e_mlk y a b i && decide (c = e_np b + if e_kd b = 1 then 0 else 1)
  | 45 => decide (len = 3) && (match e_ml[a]? with
    | some (_, ix, _, _, pl) => decide (i = .invokestatic ix) && e_at pl (Cond.methodLink (e_own y) ix arraycopyName)
    | none => false) && e_at 1086 (Cond.native arraycopyName) && e_at 1085 (Cond.static arraycopyName) && e_at 65 (Cond.initialized "java/lang/System") && decide (1 ≤ (e_rm y).frames) && decide (60 ≤ (e_rm y).locals)
  | 46 => decide (len = 3) && (match e_ml[a]? with
    | some (_, ix, _, _, pl) => decide (i = .invokespecial ix) && e_at pl (Cond.methodLink (e_own y) ix Lib.objectInit)
    | none => false) && e_at 72 (Cond.instanceMethod Lib.objectInit) && e_at 73 (Cond.code Lib.objectInit ⟨#[0xb1]⟩ 1 none) && decide (1 ≤ (e_rm y).frames) && decide (20 ≤ (e_rm y).locals)
  | 47 => (match e_sw[a]? with
    | some q => e_swok pc q.1 q.2 i
    | none => false)
  | 48 => (match e_sw[a]? with
    | some q => e_swok pc q.1 q.2 i
    | none => false)
  | 50 => decide (i = .return_) && decide (len = 1) && decide (e_rt y = none)
  | 51 => decide (i = .ireturn) && decide (len = 1) && decide (e_rt y = some .int)
  | 52 => decide (i = .ireturn) && decide (len = 1) && decide (e_rt y = some .boolean)
  | 53 => decide (i = .lreturn) && decide (len = 1) && decide (e_rt y = some .long)
  | 54 => decide (i = .areturn) && decide (len = 1) && (match e_rt y with
    | some (.object _) => true
    | _ => false)
  | 8 => decide (i = .iadd) && decide (len = 1)
  | 9 => decide (i = .isub) && decide (len = 1)
  | 10 => decide (i = .imul) && decide (len = 1)
  | 11 => decide (i = .ineg) && decide (len = 1)
  | 12 => decide (i = .idiv) && decide (len = 1)
  | 13 => decide (i = .irem) && decide (len = 1)
  | 14 => decide (i = .ishl) && decide (len = 1)
  | 15 => decide (i = .ishr) && decide (len = 1)
  | 16 => decide (i = .iand) && decide (len = 1)
  | 17 => decide (i = .ior) && decide (len = 1)
  | 18 => decide (i = .ixor) && decide (len = 1)
  | 19 => decide (i = .i2l) && decide (len = 1)
  | 20 => decide (i = .ladd) && decide (len = 1)
  | 21 => decide (i = .lmul) && decide (len = 1)
  | 22 => decide (i = .lcmp) && decide (len = 1)
  | 24 => decide (i = .dup) && decide (len = 1)
  | 25 => decide (i = .dup2) && decide (len = 1)
  | 26 => decide (i = .pop) && decide (len = 1)
  | 32 => decide (i = .iaload) && decide (len = 1)
  | 33 => decide (i = .iastore) && decide (len = 1)
  | 34 => decide (i = .baload) && decide (len = 1)
  | 35 => decide (i = .bastore) && decide (len = 1)
  | 36 => decide (i = .aaload) && decide (len = 1)
  | 37 => decide (i = .aastore) && decide (len = 1)
  | 38 => decide (i = .arraylength) && decide (len = 1)
  | _ => false
section ES
variable {G : e_G} {y pc : Nat} {L : List (Option Value)} {st : List Value} {S : e_Sh} {M : e_Me} {k n : Nat} {Q : e_Q} {C : Nat → List Value → e_Sh → e_Me → e_R → Prop} {K : e_K} {a b c : Nat} {v : Int32} {i : Instr} {len : Nat}
abbrev e_HK (G : e_G) (y : Nat) (K : e_K) (Q : e_Q) : Prop := ∀ (pc : Nat) (L : List (Option Value)) (st : List Value) (S : e_Sh) (M : e_Me) (k n : Nat), K pc L st S M k n → e_EX G y pc L st S M k n Q
abbrev e_HC (G : e_G) (C : Nat → List Value → e_Sh → e_Me → e_R → Prop) : Prop := ∀ (z : Nat) (as : List Value) (S : e_Sh) (M : e_Me) (R R' : e_R), (∀ r S' M', R r S' M' → R' r S' M') → C z as S M R → e_CA G z as S M R'
abbrev e_So (G : e_G) (y pc : Nat) (C : Nat → List Value → e_Sh → e_Me → e_R → Prop) (K : e_K) (Q : e_Q) (op a b c : Nat) (v : Int32) (i : Instr) (len : Nat) (L : List (Option Value)) (st : List Value) (S : e_Sh) (M : e_Me) (k n : Nat) : Prop :=
  decode (e_cd y) pc = .ok (i, len) → e_okB y pc op a b c v i len = true → e_HK G y K Q → e_HC G C → e_step G y pc C K Q op a b c v L st S M k n → e_EX G y pc L st S M k n Q
theorem e_s0 : e_So G y pc C K Q 0 a b c v i len L st S M k n := by
  intro d ok hK _ h
  simp only [e_okB, Bool.and_eq_true, decide_eq_true_eq] at ok
  obtain ⟨rfl, ok⟩ := ok
  refine e_x_const (c := 0) d ?_ (hK _ _ _ _ _ _ _ h)
  split at ok <;> (try simp only [Bool.and_eq_true, decide_eq_true_eq] at ok)
  · exact Or.inr (Or.inl ⟨_, rfl, ok⟩)
  · exact Or.inr (Or.inr (Or.inl ⟨_, rfl, ok⟩))
  · exact Or.inr (Or.inr (Or.inr (Or.inl ⟨_, rfl, ok⟩)))
  · obtain ⟨ok1, ok2⟩ := ok
    split at ok2
    · simp only [Bool.and_eq_true, decide_eq_true_eq] at ok2
      exact Or.inr (Or.inr (Or.inr (Or.inr ⟨_, rfl, ok1, e_at_in ok2.2⟩)))
    · cases ok2
  · cases ok
theorem e_s1 : e_So G y pc C K Q 1 a b c v i len L st S M k n := by
  intro d ok hK _ h
  simp only [e_okB, Bool.and_eq_true, decide_eq_true_eq] at ok
  obtain ⟨rfl, ok⟩ := ok
  simp only [e_step] at h
  split at h
  · rename_i x hx
    exact e_x_iload d (e_i4_of ok) hx (hK _ _ _ _ _ _ _ h)
  · exact h.elim
theorem e_s2 : e_So G y pc C K Q 2 a b c v i len L st S M k n := by
  intro d ok hK _ h
  simp only [e_okB, Bool.and_eq_true, decide_eq_true_eq] at ok
  obtain ⟨rfl, ok⟩ := ok
  simp only [e_step] at h
  split at h
  · rename_i x hx
    exact e_x_aload d (e_i4_of ok) hx (hK _ _ _ _ _ _ _ h)
  · exact h.elim
theorem e_s3 : e_So G y pc C K Q 3 a b c v i len L st S M k n := by
  intro d ok hK _ h
  simp only [e_okB, Bool.and_eq_true, decide_eq_true_eq] at ok
  obtain ⟨rfl, ok⟩ := ok
  simp only [e_step] at h
  split at h
  · rename_i x hx
    exact e_x_lload d (e_i4_of ok) hx (hK _ _ _ _ _ _ _ h)
  · exact h.elim
theorem e_s4 : e_So G y pc C K Q 4 a b c v i len L st S M k n := by
  intro d ok hK _ h
  simp only [e_okB, Bool.and_eq_true, decide_eq_true_eq] at ok
  obtain ⟨⟨rfl, ok⟩, ok2⟩ := ok
  simp only [e_step] at h
  split at h
  · exact e_x_istore d (e_i4_of ok) ok2 h.1 (hK _ _ _ _ _ _ _ h.2)
  · exact h.elim
theorem e_s5 : e_So G y pc C K Q 5 a b c v i len L st S M k n := by
  intro d ok hK _ h
  simp only [e_okB, Bool.and_eq_true, decide_eq_true_eq] at ok
  obtain ⟨⟨rfl, ok⟩, ok2⟩ := ok
  simp only [e_step] at h
  split at h
  · exact e_x_astore d (e_i4_of ok) ok2 h.1 (hK _ _ _ _ _ _ _ h.2)
  · exact h.elim
theorem e_s6 : e_So G y pc C K Q 6 a b c v i len L st S M k n := by
  intro d ok hK _ h
  simp only [e_okB, Bool.and_eq_true, decide_eq_true_eq] at ok
  obtain ⟨⟨rfl, ok⟩, ok2⟩ := ok
  simp only [e_step] at h
  split at h
  · exact e_x_lstore d (e_i4_of ok) ok2 h.1 (hK _ _ _ _ _ _ _ h.2)
  · exact h.elim
theorem e_s7 : e_So G y pc C K Q 7 a b c v i len L st S M k n := by
  intro d ok hK _ h
  simp only [e_okB, Bool.and_eq_true, decide_eq_true_eq] at ok
  obtain ⟨⟨rfl, ok1⟩, ok⟩ := ok
  split at ok
  · simp only [Bool.and_eq_true, decide_eq_true_eq] at ok
    obtain ⟨rfl, ok2⟩ := ok
    simp only [e_step] at h
    split at h
    · rename_i x hx
      exact e_x_iinc d ok2 hx ok1 h.1 (hK _ _ _ _ _ _ _ h.2)
    · exact h.elim
  · cases ok
theorem e_s8 : e_So G y pc C K Q 8 a b c v i len L st S M k n := by
  intro d ok hK _ h
  simp only [e_okB, Bool.and_eq_true, decide_eq_true_eq] at ok
  obtain ⟨rfl, rfl⟩ := ok
  simp only [e_step] at h
  split at h
  · exact e_x_add d (hK _ _ _ _ _ _ _ h)
  · exact h.elim
theorem e_s9 : e_So G y pc C K Q 9 a b c v i len L st S M k n := by
  intro d ok hK _ h
  simp only [e_okB, Bool.and_eq_true, decide_eq_true_eq] at ok
  obtain ⟨rfl, rfl⟩ := ok
  simp only [e_step] at h
  split at h
  · exact e_x_sub d (hK _ _ _ _ _ _ _ h)
  · exact h.elim
theorem e_s10 : e_So G y pc C K Q 10 a b c v i len L st S M k n := by
  intro d ok hK _ h
  simp only [e_okB, Bool.and_eq_true, decide_eq_true_eq] at ok
  obtain ⟨rfl, rfl⟩ := ok
  simp only [e_step] at h
  split at h
  · exact e_x_mul d (hK _ _ _ _ _ _ _ h)
  · exact h.elim
theorem e_s14 : e_So G y pc C K Q 14 a b c v i len L st S M k n := by
  intro d ok hK _ h
  simp only [e_okB, Bool.and_eq_true, decide_eq_true_eq] at ok
  obtain ⟨rfl, rfl⟩ := ok
  simp only [e_step] at h
  split at h
  · exact e_x_shl d (hK _ _ _ _ _ _ _ h)
  · exact h.elim
theorem e_s15 : e_So G y pc C K Q 15 a b c v i len L st S M k n := by
  intro d ok hK _ h
  simp only [e_okB, Bool.and_eq_true, decide_eq_true_eq] at ok
  obtain ⟨rfl, rfl⟩ := ok
  simp only [e_step] at h
  split at h
  · exact e_x_shr d (hK _ _ _ _ _ _ _ h)
  · exact h.elim
theorem e_s16 : e_So G y pc C K Q 16 a b c v i len L st S M k n := by
  intro d ok hK _ h
  simp only [e_okB, Bool.and_eq_true, decide_eq_true_eq] at ok
  obtain ⟨rfl, rfl⟩ := ok
  simp only [e_step] at h
  split at h
  · exact e_x_and d (hK _ _ _ _ _ _ _ h)
  · exact h.elim
theorem e_s17 : e_So G y pc C K Q 17 a b c v i len L st S M k n := by
  intro d ok hK _ h
  simp only [e_okB, Bool.and_eq_true, decide_eq_true_eq] at ok
  obtain ⟨rfl, rfl⟩ := ok
  simp only [e_step] at h
  split at h
  · exact e_x_or d (hK _ _ _ _ _ _ _ h)
  · exact h.elim
theorem e_s18 : e_So G y pc C K Q 18 a b c v i len L st S M k n := by
  intro d ok hK _ h
  simp only [e_okB, Bool.and_eq_true, decide_eq_true_eq] at ok
  obtain ⟨rfl, rfl⟩ := ok
  simp only [e_step] at h
  split at h
  · exact e_x_xor d (hK _ _ _ _ _ _ _ h)
  · exact h.elim
theorem e_s20 : e_So G y pc C K Q 20 a b c v i len L st S M k n := by
  intro d ok hK _ h
  simp only [e_okB, Bool.and_eq_true, decide_eq_true_eq] at ok
  obtain ⟨rfl, rfl⟩ := ok
  simp only [e_step] at h
  split at h
  · exact e_x_ladd d (hK _ _ _ _ _ _ _ h)
  · exact h.elim
theorem e_s21 : e_So G y pc C K Q 21 a b c v i len L st S M k n := by
  intro d ok hK _ h
  simp only [e_okB, Bool.and_eq_true, decide_eq_true_eq] at ok
  obtain ⟨rfl, rfl⟩ := ok
  simp only [e_step] at h
  split at h
  · exact e_x_lmul d (hK _ _ _ _ _ _ _ h)
  · exact h.elim
theorem e_s11 : e_So G y pc C K Q 11 a b c v i len L st S M k n := by
  intro d ok hK _ h
  simp only [e_okB, Bool.and_eq_true, decide_eq_true_eq] at ok
  obtain ⟨rfl, rfl⟩ := ok
  simp only [e_step] at h
  split at h
  · exact e_x_neg d (hK _ _ _ _ _ _ _ h)
  · exact h.elim
theorem e_s19 : e_So G y pc C K Q 19 a b c v i len L st S M k n := by
  intro d ok hK _ h
  simp only [e_okB, Bool.and_eq_true, decide_eq_true_eq] at ok
  obtain ⟨rfl, rfl⟩ := ok
  simp only [e_step] at h
  split at h
  · exact e_x_i2l d (hK _ _ _ _ _ _ _ h)
  · exact h.elim
theorem e_s12 : e_So G y pc C K Q 12 a b c v i len L st S M k n := by
  intro d ok hK _ h
  simp only [e_okB, Bool.and_eq_true, decide_eq_true_eq] at ok
  obtain ⟨rfl, rfl⟩ := ok
  simp only [e_step] at h
  split at h
  · exact e_x_div d h.1 (hK _ _ _ _ _ _ _ h.2)
  · exact h.elim
theorem e_s13 : e_So G y pc C K Q 13 a b c v i len L st S M k n := by
  intro d ok hK _ h
  simp only [e_okB, Bool.and_eq_true, decide_eq_true_eq] at ok
  obtain ⟨rfl, rfl⟩ := ok
  simp only [e_step] at h
  split at h
  · exact e_x_rem d h.1 (hK _ _ _ _ _ _ _ h.2)
  · exact h.elim
theorem e_s24 : e_So G y pc C K Q 24 a b c v i len L st S M k n := by
  intro d ok hK _ h
  simp only [e_okB, Bool.and_eq_true, decide_eq_true_eq] at ok
  obtain ⟨rfl, rfl⟩ := ok
  simp only [e_step] at h
  split at h
  · exact e_x_dup d h.1 (hK _ _ _ _ _ _ _ h.2)
  · exact h.elim
theorem e_s26 : e_So G y pc C K Q 26 a b c v i len L st S M k n := by
  intro d ok hK _ h
  simp only [e_okB, Bool.and_eq_true, decide_eq_true_eq] at ok
  obtain ⟨rfl, rfl⟩ := ok
  simp only [e_step] at h
  split at h
  · exact e_x_pop d h.1 (hK _ _ _ _ _ _ _ h.2)
  · exact h.elim
theorem e_s22 : e_So G y pc C K Q 22 a b c v i len L st S M k n := by
  intro d ok hK _ h
  simp only [e_okB, Bool.and_eq_true, decide_eq_true_eq] at ok
  obtain ⟨rfl, rfl⟩ := ok
  simp only [e_step] at h
  split at h
  · intro p e s m args below meth c Z H locs ls hC hE hH hS hL
    exact W.lcmp hC.1 hC.2.1 d (hK _ _ _ _ _ _ _ h p e s m args below meth c Z H locs ls hC hE hH hS hL)
  · exact h.elim
theorem e_s23 : e_So G y pc C K Q 23 a b c v i len L st S M k n := by
  intro d ok hK _ h
  simp only [e_okB, Bool.and_eq_true, decide_eq_true_eq] at ok
  obtain ⟨rfl, ok⟩ := ok
  refine e_x_lconst d ?_ (hK _ _ _ _ _ _ _ h)
  split at ok <;> (try simp only [Bool.and_eq_true, decide_eq_true_eq] at ok)
  · exact Or.inl ⟨_, rfl, ok⟩
  · obtain ⟨ok1, ok2⟩ := ok
    split at ok2
    · simp only [Bool.and_eq_true, decide_eq_true_eq] at ok2
      exact Or.inr ⟨_, rfl, ok1, e_at_in ok2.2⟩
    · cases ok2
  · cases ok
theorem e_s25 : e_So G y pc C K Q 25 a b c v i len L st S M k n := by
  intro d ok hK _ h
  simp only [e_okB, Bool.and_eq_true, decide_eq_true_eq] at ok
  obtain ⟨rfl, rfl⟩ := ok
  simp only [e_step] at h
  split at h
  · exact e_x_dup2 d h.1 h.2.1 (hK _ _ _ _ _ _ _ h.2.2)
  · exact h.elim
theorem e_s27 : e_So G y pc C K Q 27 a b c v i len L st S M k n := by
  intro d ok hK _ h
  simp only [e_okB, Bool.and_eq_true, decide_eq_true_eq] at ok
  obtain ⟨rfl, ok⟩ := ok
  split at ok
  · simp only [decide_eq_true_eq] at ok
    exact e_x_goto d ok (hK _ _ _ _ _ _ _ h)
  · cases ok
theorem e_ife_of {c : Nat} {x y : Int32} {A B : Prop} (h : e_ife c x y A B) : (e_cmp c x y → A) ∧ (¬ e_cmp c x y → B) := by
  unfold e_ife at h
  unfold e_cmp
  split at h
  all_goals
    simp only
    split at h
    · rename_i q
      first
        | exact ⟨fun _ => h, fun g => absurd q g⟩
        | exact ⟨fun g => absurd q g, fun _ => h⟩
    · rename_i q
      first
        | exact ⟨fun g => absurd g q, fun _ => h⟩
        | exact ⟨fun _ => h, fun g => absurd q g⟩
theorem e_s28 : e_So G y pc C K Q 28 a b c v i len L st S M k n := by
  intro d ok hK _ h
  simp only [e_okB, Bool.and_eq_true, decide_eq_true_eq] at ok
  obtain ⟨rfl, ok⟩ := ok
  split at ok
  · simp only [Bool.and_eq_true, decide_eq_true_eq] at ok
    obtain ⟨rfl, ok⟩ := ok
    simp only [e_step] at h
    split at h
    · obtain ⟨h1, h2⟩ := e_ife_of h
      exact e_x_if d ok (fun q => hK _ _ _ _ _ _ _ (h1 q)) (fun q => hK _ _ _ _ _ _ _ (h2 q))
    · exact h.elim
  · cases ok
theorem e_s29 : e_So G y pc C K Q 29 a b c v i len L st S M k n := by
  intro d ok hK _ h
  simp only [e_okB, Bool.and_eq_true, decide_eq_true_eq] at ok
  obtain ⟨rfl, ok⟩ := ok
  split at ok
  · simp only [Bool.and_eq_true, decide_eq_true_eq] at ok
    obtain ⟨rfl, ok⟩ := ok
    simp only [e_step] at h
    split at h
    · obtain ⟨h1, h2⟩ := e_ife_of h
      exact e_x_icmp d ok (fun q => hK _ _ _ _ _ _ _ (h1 q)) (fun q => hK _ _ _ _ _ _ _ (h2 q))
    · exact h.elim
  · cases ok
theorem e_s30 : e_So G y pc C K Q 30 a b c v i len L st S M k n := by
  intro d ok hK _ h
  simp only [e_okB, Bool.and_eq_true, decide_eq_true_eq] at ok
  obtain ⟨rfl, ok⟩ := ok
  split at ok
  · obtain ⟨q, h1, h2, h3⟩ := e_fll_of ok
    simp only [e_step] at h
    split at h
    · split at h
      · rename_i ci sl hi
        split at h
        · rename_i o ho
          obtain ⟨rfl, h⟩ := h
          exact e_x_get d h1 h2 h3 hi ho (hK _ _ _ _ _ _ _ h)
        · exact h.elim
      · exact h.elim
    · exact h.elim
  · cases ok
theorem e_s31 : e_So G y pc C K Q 31 a b c v i len L st S M k n := by
  intro d ok hK _ h
  simp only [e_okB, Bool.and_eq_true, decide_eq_true_eq] at ok
  obtain ⟨rfl, ok⟩ := ok
  split at ok
  · simp only [e_plk, Bool.and_eq_true] at ok
    obtain ⟨ok1, ok⟩ := ok
    obtain ⟨q, h1, h2, h3⟩ := e_fll_of ok1
    rw [h1] at ok
    simp only [Bool.or_eq_true, Bool.and_eq_true, decide_eq_true_eq] at ok
    simp only [e_step] at h
    split at h
    · split at h
      · rename_i ci sl hi
        obtain ⟨rfl, ho, hv, h⟩ := h
        rcases hv with rfl | ⟨rfl, hx⟩
        · rcases ok with (⟨⟨-, g1⟩, g2⟩ | ⟨⟨g, -⟩, -⟩) | ⟨⟨⟨⟨g, -⟩, -⟩, -⟩, -⟩
          · exact e_x_puti d h1 h2 h3 g2 g1 rfl rfl hi ho (hK _ _ _ _ _ _ _ h)
          · exact absurd g (by decide)
          · exact absurd g (by decide)
        · rcases ok with (⟨⟨g, -⟩, -⟩ | ⟨⟨-, g1⟩, g2⟩) | ⟨⟨⟨⟨g, -⟩, -⟩, -⟩, -⟩
          · exact absurd g (by decide)
          · exact e_x_puti d h1 h2 h3 g2 g1 (by rcases hx with rfl | rfl <;> rfl) (by rcases hx with rfl | rfl <;> rfl) hi ho (hK _ _ _ _ _ _ _ h)
          · exact absurd g (by decide)
      · exact h.elim
    · split at h
      · rename_i ci sl hi
        obtain ⟨rfl, ho, rfl, h⟩ := h
        rcases ok with (⟨⟨g, -⟩, -⟩ | ⟨⟨g, -⟩, -⟩) | ⟨⟨⟨⟨-, g1⟩, g2⟩, g3⟩, g4⟩
        · exact absurd g (by decide)
        · exact absurd g (by decide)
        · exact e_x_putr d h1 h2 h3 g2 g3 g4 (e_isr_of g1) hi ho (hK _ _ _ _ _ _ _ h)
      · exact h.elim
    · exact h.elim
  · cases ok
theorem e_s32 : e_So G y pc C K Q 32 a b c v i len L st S M k n := by
  intro d ok hK _ h
  simp only [e_okB, Bool.and_eq_true, decide_eq_true_eq] at ok
  obtain ⟨rfl, rfl⟩ := ok
  simp only [e_step] at h
  split at h
  · split at h
    · rename_i t N hi
      obtain ⟨rfl, hx, h⟩ := h
      exact e_x_iald d hi hx (hK _ _ _ _ _ _ _ h)
    · split at h
      · rename_i q hq
        exact e_x_rald d hq h.1 (hK _ _ _ _ _ _ _ h.2)
      · exact h.elim
    · exact h.elim
  · exact h.elim
theorem e_s38 : e_So G y pc C K Q 38 a b c v i len L st S M k n := by
  intro d ok hK _ h
  simp only [e_okB, Bool.and_eq_true, decide_eq_true_eq] at ok
  obtain ⟨rfl, rfl⟩ := ok
  simp only [e_step] at h
  split at h
  · split at h
    · rename_i t N o hi
      exact e_x_alen d hi h.1 (hK _ _ _ _ _ _ _ h.2)
    · split at h
      · rename_i q hq
        exact e_x_ralen d hq (hK _ _ _ _ _ _ _ h)
      · exact h.elim
    · exact h.elim
  · exact h.elim
theorem e_s33 : e_So G y pc C K Q 33 a b c v i len L st S M k n := by
  intro d ok hK _ h
  simp only [e_okB, Bool.and_eq_true, decide_eq_true_eq] at ok
  obtain ⟨rfl, rfl⟩ := ok
  simp only [e_step] at h
  split at h
  · split at h
    · rename_i t N hi
      obtain ⟨rfl, hx, h⟩ := h
      exact e_x_iast d hi hx (hK _ _ _ _ _ _ _ h)
    · exact h.elim
  · exact h.elim
theorem e_s34 : e_So G y pc C K Q 34 a b c v i len L st S M k n := by
  intro d ok hK _ h
  simp only [e_okB, Bool.and_eq_true, decide_eq_true_eq] at ok
  obtain ⟨rfl, rfl⟩ := ok
  simp only [e_step] at h
  split at h
  · split at h
    · rename_i t N hi
      obtain ⟨rfl, hx, h⟩ := h
      exact e_x_zald d hi hx (hK _ _ _ _ _ _ _ h)
    · exact h.elim
  · exact h.elim
theorem e_s35 : e_So G y pc C K Q 35 a b c v i len L st S M k n := by
  intro d ok hK _ h
  simp only [e_okB, Bool.and_eq_true, decide_eq_true_eq] at ok
  obtain ⟨rfl, rfl⟩ := ok
  simp only [e_step] at h
  split at h
  · split at h
    · rename_i t N hi
      obtain ⟨rfl, hx, h⟩ := h
      exact e_x_zast d hi hx (hK _ _ _ _ _ _ _ h)
    · exact h.elim
  · exact h.elim
theorem e_s36 : e_So G y pc C K Q 36 a b c v i len L st S M k n := by
  intro d ok hK _ h
  simp only [e_okB, Bool.and_eq_true, decide_eq_true_eq] at ok
  obtain ⟨rfl, rfl⟩ := ok
  simp only [e_step] at h
  split at h
  · split at h
    · rename_i t N f hi
      split at h
      · rename_i w hw
        exact e_x_aald d hi h.1 h.2.1 hw (hK _ _ _ _ _ _ _ h.2.2)
      · exact h.elim
    · exact h.elim
  · exact h.elim
theorem e_s37 : e_So G y pc C K Q 37 a b c v i len L st S M k n := by
  intro d ok hK _ h
  simp only [e_okB, Bool.and_eq_true, decide_eq_true_eq] at ok
  obtain ⟨rfl, rfl⟩ := ok
  simp only [e_step] at h
  split at h
  · split at h
    · rename_i t N f hi
      split at h
      · rename_i ci sl hw
        obtain ⟨rfl, rfl, hx, h⟩ := h
        exact e_x_aast (ci := 7) d hi hx hw (hK _ _ _ _ _ _ _ h)
      · exact h.elim
    · exact h.elim
  · exact h.elim
theorem e_s39 : e_So G y pc C K Q 39 a b c v i len L st S M k n := by
  intro d ok hK _ h
  simp only [e_okB, Bool.and_eq_true, decide_eq_true_eq] at ok
  obtain ⟨rfl, ok⟩ := ok
  split at ok
  · rename_i ix q _ _ _ _ pl hq hf
    exact e_x_gets d hq (e_at_in ok) (hK _ _ _ _ _ _ _ h)
  · cases ok
theorem e_s40 : e_So G y pc C K Q 40 a b c v i len L st S M k n := by
  intro d ok hK _ h
  simp only [e_okB, Bool.and_eq_true, Bool.or_eq_true, decide_eq_true_eq] at ok
  obtain ⟨rfl, ok⟩ := ok
  simp only [e_step] at h
  split at h
  · obtain ⟨h1, h2, h3, h4, h5, h⟩ := h
    rcases ok with ⟨⟨rfl, rfl⟩, ok⟩ | ⟨⟨rfl, rfl⟩, ok⟩
    · exact e_x_newa d (Or.inl ⟨rfl, rfl, rfl⟩) (e_at_in ok) h1 rfl h2 h3 h4 h5 (hK _ _ _ _ _ _ _ h)
    · exact e_x_newa d (Or.inr ⟨rfl, rfl, rfl⟩) (e_at_in ok) h1 rfl h2 h3 h4 h5 (hK _ _ _ _ _ _ _ h)
  · exact h.elim
theorem e_s41 : e_So G y pc C K Q 41 a b c v i len L st S M k n := by
  intro d ok hK _ h
  simp only [e_okB, Bool.and_eq_true, decide_eq_true_eq] at ok
  obtain ⟨⟨rfl, rfl⟩, ok⟩ := ok
  simp only [e_step] at h
  split at h
  · obtain ⟨h1, h2, h3, h4, h5, h⟩ := h
    exact e_x_anew d (e_at_in ok) h1 rfl h2 h3 h4 h5 (hK _ _ _ _ _ _ _ h)
  · exact h.elim
theorem e_s42 : e_So G y pc C K Q 42 a b c v i len L st S M k n := by
  intro d ok hK _ h
  simp only [e_okB, Bool.and_eq_true, decide_eq_true_eq] at ok
  obtain ⟨⟨⟨rfl, rfl⟩, ok⟩, ok2⟩ := ok
  simp only [e_step] at h
  split at h
  · obtain ⟨h1, h2, h3, h4, h5, h6, h7, h⟩ := h
    exact e_x_mna d (e_at_in ok) (e_at_in ok2) h1 h2 rfl rfl h3 h4 h5 h6 h7 (hK _ _ _ _ _ _ _ h)
  · exact h.elim
theorem e_s43 : e_So G y pc C K Q 43 a b c v i len L st S M k n := by
  intro d ok hK _ h
  simp only [e_okB, Bool.and_eq_true, decide_eq_true_eq] at ok
  obtain ⟨rfl, ok⟩ := ok
  split at ok
  · rename_i oc ix d2 p1 p2 p3 q hn hq
    simp only [Bool.and_eq_true, decide_eq_true_eq] at ok
    obtain ⟨⟨⟨⟨rfl, o1⟩, o2⟩, o3⟩, o4⟩ := ok
    simp only [e_step, hq] at h
    obtain ⟨h1, h2, h3, h⟩ := h
    exact e_x_new d hq (e_at_in o1) (e_at_in o2) (e_at_in o3) (fun j hj => List.all_eq_true.mp o4 j (List.mem_range.mpr hj)) h1 h2 h3 (hK _ _ _ _ _ _ _ h)
  · cases ok
theorem e_take {st : List Value} {c : Nat} : st = ((st.take c).reverse).reverse ++ st.drop c := by simp
theorem e_s44 : e_So G y pc C K Q 44 a b c v i len L st S M k n := by
  intro d ok hK hCC h
  simp only [e_okB, Bool.and_eq_true, decide_eq_true_eq] at ok
  obtain ⟨⟨rfl, ok⟩, hc⟩ := ok
  simp only [e_step] at h
  obtain ⟨hl, hr, hcat, hm1, hm2, h⟩ := h
  have hlen : ((st.take c).reverse).length = c := by simp; omega
  have KK := hCC _ _ _ _ _ (fun r S' M' => e_EX G y (pc + 3) L (r.toList ++ st.drop c) S' M' (k + e_mc b) (n + e_ms b) Q) (fun r S' M' g => hK _ _ _ _ _ _ _ g) h
  have hst : st = ((st.take c).reverse).reverse ++ st.drop c := e_take
  generalize (st.take c).reverse = as at hlen hr KK hst
  generalize st.drop c = rest at hcat KK hst
  subst hst
  unfold e_mlk at ok
  split at ok
  · rename_i oc ix z' kd pl hml
    simp only [Bool.and_eq_true, decide_eq_true_eq] at ok
    obtain ⟨⟨⟨⟨⟨rfl, rfl⟩, hz⟩, hy⟩, hfit⟩, ok⟩ := ok
    have hb := e_mlB_all hml
    simp only [e_mlB] at hb
    rw [← e_own_oc hy] at hb
    unfold e_rcv at hr
    split at ok
    · simp only [Bool.and_eq_true, decide_eq_true_eq] at ok
      obtain ⟨⟨⟨rfl, hkd⟩, hoc⟩, hlt⟩ := ok
      rw [if_pos (by decide)] at hb
      obtain ⟨q, hq1, hq⟩ := e_vw_cn hlt
      rw [hoc, ← e_own_oc (by omega)] at hq
      rw [hkd] at hr
      simp only at hr
      split at hr
      · rename_i r0 as'
        split at hr
        · rename_i dd sl hi
          subst hr
          rw [if_neg (by rw [hkd]; decide)] at hc
          have hn : as'.length = e_np z' := by simp at hlen; omega
          have := e_x_callV (st := rest) hz d (e_at_in hb) hkd hfit hn hi hq1 hq hcat ⟨hm1, hm2⟩ KK
          simpa using this
        · exact hr.elim
      · exact hr.elim
    · simp only [Bool.and_eq_true, decide_eq_true_eq] at ok
      obtain ⟨rfl, hkd⟩ := ok
      rw [if_pos (by decide)] at hb
      rw [if_pos hkd] at hc
      exact e_x_callS hz d (e_at_in hb) hkd hfit (by omega) hcat ⟨hm1, hm2⟩ KK
    · simp only [Bool.and_eq_true, decide_eq_true_eq] at ok
      obtain ⟨rfl, hkd⟩ := ok
      rw [if_pos (by decide)] at hb
      rw [hkd] at hr
      simp only at hr
      split at hr
      · rename_i r0 as'
        rw [if_neg (by rw [hkd]; decide)] at hc
        have hn : as'.length = e_np z' := by simp at hlen; omega
        have := e_x_callI (st := rest) hz d (e_at_in hb) hkd hfit hn hcat ⟨hm1, hm2⟩ KK
        simpa using this
      · exact hr.elim
    · simp only [Bool.and_eq_true, decide_eq_true_eq] at ok
      obtain ⟨rfl, hkd⟩ := ok
      rw [if_neg (by decide), if_pos (by decide)] at hb
      rw [if_pos hkd] at hc
      exact e_x_callSN hz d (of_decide_eq_true hb) hkd hfit (by omega) hcat ⟨hm1, hm2⟩ KK
    · simp only [Bool.and_eq_true, decide_eq_true_eq] at ok
      obtain ⟨rfl, hkd⟩ := ok
      rw [if_neg (by decide), if_pos (by decide)] at hb
      rw [hkd] at hr
      simp only at hr
      split at hr
      · rename_i r0 as'
        rw [if_neg (by rw [hkd]; decide)] at hc
        have hn : as'.length = e_np z' := by simp at hlen; omega
        have := e_x_callIN (st := rest) hz d (of_decide_eq_true hb) hkd hfit hn hcat ⟨hm1, hm2⟩ KK
        simpa using this
      · exact hr.elim
    · cases ok
  · cases ok
theorem e_s45 : e_So G y pc C K Q 45 a b c v i len L st S M k n := by
  intro d ok hK _ h
  simp only [e_okB, Bool.and_eq_true, decide_eq_true_eq] at ok
  obtain ⟨⟨⟨⟨⟨⟨rfl, ok⟩, o2⟩, o3⟩, o4⟩, o5⟩, o6⟩ := ok
  split at ok
  · simp only [Bool.and_eq_true, decide_eq_true_eq] at ok
    obtain ⟨rfl, o1⟩ := ok
    simp only [e_step] at h
    split at h
    · split at h
      · rename_i t N hi
        obtain ⟨rfl, rfl, rfl, hj, h1, h2, h3, h⟩ := h
        exact e_x_copy d (e_at_in o1) (e_at_in o2) (e_at_in o3) (e_at_in o4) o5 o6 hi hj h1 h2 h3 (hK _ _ _ _ _ _ _ h)
      · exact h.elim
    · exact h.elim
  · cases ok
theorem e_s46 : e_So G y pc C K Q 46 a b c v i len L st S M k n := by
  intro d ok hK _ h
  simp only [e_okB, Bool.and_eq_true, decide_eq_true_eq] at ok
  obtain ⟨⟨⟨⟨⟨rfl, ok⟩, o2⟩, o3⟩, o4⟩, o5⟩ := ok
  split at ok
  · simp only [Bool.and_eq_true, decide_eq_true_eq] at ok
    obtain ⟨rfl, o1⟩ := ok
    simp only [e_step] at h
    split at h
    · exact e_x_oinit d (e_at_in o1) (e_at_in o2) (e_at_in o3) o4 o5 h.1 (hK _ _ _ _ _ _ _ h.2)
    · exact h.elim
  · cases ok
theorem e_swk_of {x : Int32} {K : Nat → Prop} {d : Nat} : ∀ {l : List (Int32 × Nat)}, e_swk x K d l → (∃ (j : Nat) (p : Int32 × Nat), l[j]? = some p ∧ x = p.1 ∧ K p.2) ∨ ((∀ (j : Nat) (p : Int32 × Nat), l[j]? = some p → x ≠ p.1) ∧ K d) := by
  intro l
  induction l with
  | nil => intro h; exact Or.inr ⟨fun j p hp => by simp at hp, h⟩
  | cons q l ih =>
    intro h
    obtain ⟨a, t⟩ := q
    simp only [e_swk] at h
    split at h
    · rename_i hx
      exact Or.inl ⟨0, (a, t), rfl, hx, h⟩
    · rename_i hx
      rcases ih h with ⟨j, p, h1, h2, h3⟩ | ⟨h1, h2⟩
      · exact Or.inl ⟨j + 1, p, by simpa using h1, h2, h3⟩
      · refine Or.inr ⟨fun j p hp => ?_, h2⟩
        match j, hp with
        | 0, hp => simp at hp; subst hp; exact hx
        | j + 1, hp => exact h1 j p (by simpa using hp)
theorem e_swx {l : List (Int32 × Nat)} {d : Nat} {x : Int32} (hd : decode (e_cd y) pc = .ok (i, len)) (ok : e_swok pc l d i = true) (hK : ∀ pc, K pc L st S M k n → e_EX G y pc L st S M k n Q) (h : e_swk x (fun t => K t L st S M k n) d l) : e_EX G y pc L (.int x :: st) S M k n Q := by
  unfold e_swok at ok
  split at ok
  · rename_i df lo hi offs
    simp only [Bool.and_eq_true, decide_eq_true_eq, List.all_eq_true, List.mem_range] at ok
    obtain ⟨⟨⟨⟨o1, o2⟩, o3⟩, o4⟩, o5⟩ := ok
    rcases e_swk_of h with ⟨j, p, h1, h2, h3⟩ | ⟨h1, h2⟩
    · have hj : j < l.length := (List.getElem?_eq_some_iff.mp h1).1
      have hb := o5 j hj
      rw [h1, Array.getElem?_eq_getElem (by omega)] at hb
      simp only [Bool.and_eq_true, decide_eq_true_eq] at hb
      have e : (x.toInt - lo).toNat = j := by rw [h2, hb.1]; omega
      refine e_x_sw hd (Or.inr ⟨by rw [h2, hb.1]; omega, by rw [h2, hb.1]; omega, offs[j]'(by omega), ?_, hb.2⟩) (hK _ h3)
      rw [e, Array.getElem?_eq_getElem (by omega)]
    · refine e_x_sw hd (Or.inl ⟨?_, o1⟩) (hK _ h2)
      rcases Int.lt_or_le x.toInt lo with g | g
      · exact Or.inl g
      · rcases Int.lt_or_le hi x.toInt with g2 | g2
        · exact Or.inr g2
        · exfalso
          have hj : (x.toInt - lo).toNat < l.length := by omega
          have hb := o5 _ hj
          have hl := List.getElem?_eq_getElem hj
          rw [hl, Array.getElem?_eq_getElem (by omega)] at hb
          simp only [Bool.and_eq_true, decide_eq_true_eq] at hb
          refine h1 _ _ hl (Int32.toInt_inj.mp ?_)
          rw [hb.1]
          omega
  · rename_i df ps
    simp only [Bool.and_eq_true, decide_eq_true_eq] at ok
    obtain ⟨⟨⟨o1, o2⟩, o3⟩, o4⟩ := ok
    have key : ∀ (ps : List (Int × Int)) (l : List (Int32 × Nat)), l.length = ps.length → ((List.range l.length).all (fun j => match l[j]?, ps[j]? with
        | some (x, t), some (u, o) => decide (x.toInt = u) && decide ((pc : Int) + o = (t : Int))
        | _, _ => false)) = true → e_swk x (fun t => K t L st S M k n) d l → ∃ t, K t L st S M k n ∧ (pc : Int) + Op.lookupswitch.offset ps df x.toInt = (t : Int) := by
      intro ps
      induction ps with
      | nil =>
        intro l hl _ h
        have : l = [] := List.eq_nil_of_length_eq_zero (by simpa using hl)
        subst this
        exact ⟨d, h, o1⟩
      | cons p ps ih =>
        intro l hl ha h
        match l, hl, ha, h with
        | (z, t) :: l, hl, ha, h =>
          obtain ⟨u, o⟩ := p
          simp only [List.all_eq_true, List.mem_range] at ha
          have h0 := ha 0 (by simp)
          simp only [List.getElem?_cons_zero, Bool.and_eq_true, decide_eq_true_eq] at h0
          have hr : ((List.range l.length).all (fun j => match l[j]?, ps[j]? with
              | some (x, t), some (u, o) => decide (x.toInt = u) && decide ((pc : Int) + o = (t : Int))
              | _, _ => false)) = true := by
            rw [List.all_eq_true]
            intro j hj
            have := ha (j + 1) (by simp at hj ⊢; omega)
            simpa using this
          simp only [e_swk] at h
          rw [Op.lookupswitch.offset_cons]
          split at h
          · rename_i hx
            rw [if_pos (by rw [hx, h0.1])]
            exact ⟨t, h, h0.2⟩
          · rename_i hx
            rw [if_neg (fun q => hx (Int32.toInt_inj.mp (by rw [h0.1]; exact q.symm)))]
            exact ih l (by simpa using hl) hr h
    obtain ⟨t, h1, h2⟩ := key ps.toList l o3 o4 h
    exact e_x_lk hd o2 rfl h2 (hK _ h1)
  · cases ok
theorem e_s47 : e_So G y pc C K Q 47 a b c v i len L st S M k n := by
  intro d ok hK _ h
  simp only [e_okB] at ok
  split at ok
  · rename_i q hq
    simp only [e_step, hq] at h
    split at h
    · exact e_swx d ok (fun pc => hK pc _ _ _ _ _ _) h
    · exact h.elim
  · cases ok
theorem e_s48 : e_So G y pc C K Q 48 a b c v i len L st S M k n := by
  intro d ok hK _ h
  simp only [e_okB] at ok
  split at ok
  · rename_i q hq
    simp only [e_step, hq] at h
    split at h
    · exact e_swx d ok (fun pc => hK pc _ _ _ _ _ _) h
    · exact h.elim
  · cases ok
theorem e_s50 : e_So G y pc C K Q 50 a b c v i len L st S M k n := by
  intro d ok hK _ h
  simp only [e_okB, Bool.and_eq_true, decide_eq_true_eq] at ok
  obtain ⟨⟨rfl, rfl⟩, ok⟩ := ok
  simp only [e_step] at h
  split at h
  · exact e_x_ret (r := none) d ok rfl h
  · exact h.elim
theorem e_s51 : e_So G y pc C K Q 51 a b c v i len L st S M k n := by
  intro d ok hK _ h
  simp only [e_okB, Bool.and_eq_true, decide_eq_true_eq] at ok
  obtain ⟨⟨rfl, rfl⟩, ok⟩ := ok
  simp only [e_step] at h
  split at h
  · exact e_x_ret (r := some (.int _)) d ⟨_, ok, rfl⟩ rfl h
  · exact h.elim
theorem e_s52 : e_So G y pc C K Q 52 a b c v i len L st S M k n := by
  intro d ok hK _ h
  simp only [e_okB, Bool.and_eq_true, decide_eq_true_eq] at ok
  obtain ⟨⟨rfl, rfl⟩, ok⟩ := ok
  simp only [e_step] at h
  split at h
  · obtain ⟨hx, h⟩ := h
    exact e_x_ret (r := some (.int _)) d ⟨_, ok, by rcases hx with rfl | rfl <;> rfl⟩ rfl h
  · exact h.elim
theorem e_s53 : e_So G y pc C K Q 53 a b c v i len L st S M k n := by
  intro d ok hK _ h
  simp only [e_okB, Bool.and_eq_true, decide_eq_true_eq] at ok
  obtain ⟨⟨rfl, rfl⟩, ok⟩ := ok
  simp only [e_step] at h
  split at h
  · exact e_x_ret (r := some (.long _)) d ok rfl h
  · exact h.elim
theorem e_s54 : e_So G y pc C K Q 54 a b c v i len L st S M k n := by
  intro d ok hK _ h
  simp only [e_okB, Bool.and_eq_true, decide_eq_true_eq] at ok
  obtain ⟨⟨rfl, rfl⟩, ok⟩ := ok
  simp only [e_step] at h
  split at ok
  · rename_i C' hC'
    split at h
    · exact e_x_ret (r := some (.ref _)) d ⟨C', hC'⟩ rfl h
    · exact h.elim
  · cases ok
set_option maxHeartbeats 4000000 in
theorem e_okB_lt {y pc op a b c : Nat} {v : Int32} {i : Instr} {len : Nat} (h : e_okB y pc op a b c v i len = true) : op < 55 ∧ op ≠ 49 := by
  unfold e_okB at h
  split at h
  all_goals first | exact ⟨by decide, by decide⟩ | cases h
theorem e_s_all {op : Nat} : e_So G y pc C K Q op a b c v i len L st S M k n := by
  intro d ok hK hC h
  obtain ⟨z1, z2⟩ := e_okB_lt ok
  by_cases h0 : op = 0
  · subst h0; exact e_s0 d ok hK hC h
  by_cases h1 : op = 1
  · subst h1; exact e_s1 d ok hK hC h
  by_cases h2 : op = 2
  · subst h2; exact e_s2 d ok hK hC h
  by_cases h3 : op = 3
  · subst h3; exact e_s3 d ok hK hC h
  by_cases h4 : op = 4
  · subst h4; exact e_s4 d ok hK hC h
  by_cases h5 : op = 5
  · subst h5; exact e_s5 d ok hK hC h
  by_cases h6 : op = 6
  · subst h6; exact e_s6 d ok hK hC h
  by_cases h7 : op = 7
  · subst h7; exact e_s7 d ok hK hC h
  by_cases h8 : op = 8
  · subst h8; exact e_s8 d ok hK hC h
  by_cases h9 : op = 9
  · subst h9; exact e_s9 d ok hK hC h
  by_cases h10 : op = 10
  · subst h10; exact e_s10 d ok hK hC h
  by_cases h11 : op = 11
  · subst h11; exact e_s11 d ok hK hC h
  by_cases h12 : op = 12
  · subst h12; exact e_s12 d ok hK hC h
  by_cases h13 : op = 13
  · subst h13; exact e_s13 d ok hK hC h
  by_cases h14 : op = 14
  · subst h14; exact e_s14 d ok hK hC h
  by_cases h15 : op = 15
  · subst h15; exact e_s15 d ok hK hC h
  by_cases h16 : op = 16
  · subst h16; exact e_s16 d ok hK hC h
  by_cases h17 : op = 17
  · subst h17; exact e_s17 d ok hK hC h
  by_cases h18 : op = 18
  · subst h18; exact e_s18 d ok hK hC h
  by_cases h19 : op = 19
  · subst h19; exact e_s19 d ok hK hC h
  by_cases h20 : op = 20
  · subst h20; exact e_s20 d ok hK hC h
  by_cases h21 : op = 21
  · subst h21; exact e_s21 d ok hK hC h
  by_cases h22 : op = 22
  · subst h22; exact e_s22 d ok hK hC h
  by_cases h23 : op = 23
  · subst h23; exact e_s23 d ok hK hC h
  by_cases h24 : op = 24
  · subst h24; exact e_s24 d ok hK hC h
  by_cases h25 : op = 25
  · subst h25; exact e_s25 d ok hK hC h
  by_cases h26 : op = 26
  · subst h26; exact e_s26 d ok hK hC h
  by_cases h27 : op = 27
  · subst h27; exact e_s27 d ok hK hC h
  by_cases h28 : op = 28
  · subst h28; exact e_s28 d ok hK hC h
  by_cases h29 : op = 29
  · subst h29; exact e_s29 d ok hK hC h
  by_cases h30 : op = 30
  · subst h30; exact e_s30 d ok hK hC h
  by_cases h31 : op = 31
  · subst h31; exact e_s31 d ok hK hC h
  by_cases h32 : op = 32
  · subst h32; exact e_s32 d ok hK hC h
  by_cases h33 : op = 33
  · subst h33; exact e_s33 d ok hK hC h
  by_cases h34 : op = 34
  · subst h34; exact e_s34 d ok hK hC h
  by_cases h35 : op = 35
  · subst h35; exact e_s35 d ok hK hC h
  by_cases h36 : op = 36
  · subst h36; exact e_s36 d ok hK hC h
  by_cases h37 : op = 37
  · subst h37; exact e_s37 d ok hK hC h
  by_cases h38 : op = 38
  · subst h38; exact e_s38 d ok hK hC h
  by_cases h39 : op = 39
  · subst h39; exact e_s39 d ok hK hC h
  by_cases h40 : op = 40
  · subst h40; exact e_s40 d ok hK hC h
  by_cases h41 : op = 41
  · subst h41; exact e_s41 d ok hK hC h
  by_cases h42 : op = 42
  · subst h42; exact e_s42 d ok hK hC h
  by_cases h43 : op = 43
  · subst h43; exact e_s43 d ok hK hC h
  by_cases h44 : op = 44
  · subst h44; exact e_s44 d ok hK hC h
  by_cases h45 : op = 45
  · subst h45; exact e_s45 d ok hK hC h
  by_cases h46 : op = 46
  · subst h46; exact e_s46 d ok hK hC h
  by_cases h47 : op = 47
  · subst h47; exact e_s47 d ok hK hC h
  by_cases h48 : op = 48
  · subst h48; exact e_s48 d ok hK hC h
  by_cases h50 : op = 50
  · subst h50; exact e_s50 d ok hK hC h
  by_cases h51 : op = 51
  · subst h51; exact e_s51 d ok hK hC h
  by_cases h52 : op = 52
  · subst h52; exact e_s52 d ok hK hC h
  by_cases h53 : op = 53
  · subst h53; exact e_s53 d ok hK hC h
  by_cases h54 : op = 54
  · subst h54; exact e_s54 d ok hK hC h
  omega
end ES
