/-! the start: the world of the law, out of what the Statement gives -/
def R_law : String := "EvenWheelLaw"
def lw_P (b : Addr) (xs : List Int32) (args : Array Value) (s : State) : Prop := args = #[.ref b] ∧ s.IntsAt b xs ∧ xs.length ≤ 3072 ∧ (Jvm.Cond.and given_1 narrow_1).before args s = true
def lw_Q (_ : Array Value) (s : State) (o : Outcome) (t : State) : Prop := o = .returned (some (.int 1)) ∧ Framed s o t [] 600000 7302250
def lw_Z (below : List Frame) (a : Array Value) (s : State) : State → Prop := fun t => ∃ o, t.status = .running ∧ Ended t below o ∧ lw_Q a s o t
/-- the law's own end, with 1 on the stack, nothing written that was there before, its room as the claim has it -/
theorem lw_ret {p : Program} {l : Launch} {e : Env} {s : State} {m : MethodId} {below : List Frame} {meth : Method} {c : Code} {b : Nat} (hx : p.tables.exec = Jvm.exec) (hb : c.code = code) (hr : meth.sig.returnType = ret) (hlocks : meth.locks = false) {pc : Nat} {H : Heap} {ls : Array Slot} (hdg : decode code pc = .ok (.ireturn, 1)) : W p l e room_1 s m #[Value.ref b] below meth c H [] 600000 7302250 (lw_Z below #[Value.ref b] s) (F0 m pc ls [.int 1]) := by
  intro T hT X
  obtain ⟨fs, hret, hrun, hended, hW, hframe⟩ := X.leave (v := some (.int 1)) (hlocks := hlocks) (fun h => by rw [hr] at h; cases h)
  have hmeth' : T.vm.method? m = some meth := X.method'
  refine ⟨T.setFrames fs, ?_, .returned (some (.int 1)), hrun, hended, rfl, ⟨_, rfl⟩, hW, hframe⟩
  jvm_step X.here [X.here.top, hx, hb, hdg, hmeth', hr, ret, narrow_b1]
  (try refine ⟨rfl, ?_⟩); (try refine ⟨rfl, ?_⟩)
  first | (intro acts; rw [hret _ acts rfl rfl rfl]) | rw [hret _ _ rfl rfl rfl]
  exact Steps.refl _
/-- what holds at the law's entry: the machine, the code, the tables' words (any of lw_tbl by 'hts w (by decide +kernel)'), the script of L ints xs at the cell b, what the Statement gives of the start (any of its parts by flat_of_before) -/
def lw_At (p : Program) (s : State) (m : MethodId) (meth : Method) (c : Code) (b L : Nat) (xs : Nat → Int32) : Prop :=
  p.tables.exec = Jvm.exec ∧ c.code = code ∧ meth.sig.returnType = ret ∧ c.maxLocals = 4 ∧ s.vm.findClass R_law = some m.cls ∧ (∀ w ∈ lw_tbl, w.before #[Value.ref b] s = true) ∧ va_X b L xs s s.heap ∧ b < s.heap.size ∧ meth.locks = false ∧ (Jvm.Cond.and given_1 narrow_1).before #[Value.ref b] s = true

theorem e_static {s : State} {b : Nat} {C n : String} {N : Nat} {l : List Int32} {A : Nat → Prop} (hN : N < 1000) (hA : ∀ a : Nat, a < s.heap.size → ¬ A a) (hls : (Cond.laysStatic C n "[I").before #[Value.ref b] s = true) (hini : (Cond.initialized C).before #[Value.ref b] s = true)
    (harr : (Cond.arrayOf (.static C n "[I") .int).before #[Value.ref b] s = true) (hlen : (Cond.eq (.length (.static C n "[I")) (.int (Int32.ofNat N))).before #[Value.ref b] s = true) (hel : ∀ j, j < N → (Cond.eq (.elem (.static C n "[I") (.int (Int32.ofNat j))) (.int (e_tab l j))).before #[Value.ref b] s = true) :
    ∃ t : Nat, va_Z C n "[I" (.ref t) A s s.heap ∧ va_T .int t N (fun j => .int (e_tab l j)) A s s.heap := by
  obtain ⟨t, h1, h2⟩ := va_Tof (f := fun j => .int (e_tab l j)) (by omega) harr (va_eqt hlen) (fun j hj => va_eqt (hel j hj)) hA
  exact ⟨t, va_Zref hls hini h1 hA, h2⟩
theorem e_cy_ex {s : State} (h0 : va_AO "EvenWheel$Row" s) (hI : (Cond.arrayClass .int).before #[] s = true) (hZ : (Cond.arrayClass .boolean).before #[] s = true) (h3 : (Cond.arrayOver (.array .int)).before #[] s = true) :
    ∃ cy : Nat → ClassId, ∀ (k : Nat) (q : ClassId × FieldType), ([(cy 0, FieldType.int), (cy 1, .boolean), (cy 2, .object "EvenWheel$Row"), (cy 3, .array .int)] : List (ClassId × FieldType))[k]? = some q → ArrOfT s q.1 q.2 ∧ va_RA s q.1 q.2 := by
  obtain ⟨c0, k0, m0, a0, b0, d0⟩ := Cond.arrayClass_spec hI
  obtain ⟨c1, k1, m1, a1, b1, d1⟩ := Cond.arrayClass_spec hZ
  obtain ⟨m2, c2, k2, a2, -, b2, d2, e2⟩ := Cond.arrayOver_spec h0
  obtain ⟨m3, c3, k3, a3, -, b3, d3, e3⟩ := arrayOverA_spec h3
  refine ⟨fun i => match i with
    | 0 => c0
    | 1 => c1
    | 2 => c2
    | _ => c3, ?_⟩
  intro k q hk
  match k, hk with
  | 0, hk => cases hk; exact ⟨fun n z => ⟨fun j h => (by cases h), k0, b0, m0, d0⟩, a0⟩
  | 1, hk => cases hk; exact ⟨fun n z => ⟨fun j h => (by cases h), k1, b1, m1, d1⟩, a1⟩
  | 2, hk => cases hk; exact ⟨fun n z => ⟨fun j h => (by cases h), k2, b2, m2, d2⟩, k2, m2, b2, d2, a2, e2⟩
  | 3, hk => cases hk; exact ⟨fun n z => ⟨fun j h => (by cases h), k3, b3, m3, d3⟩, e3⟩
  | k + 4, hk => simp at hk
theorem e_K_ex {s : State} {args : Array Value} (hts : ∀ w ∈ lw_tbl, w.before args s = true) : ∃ (dC : Nat → ClassId) (dI : Nat → Nat → Nat), ∀ (k : Nat) (q : vw_C), vwCl[k]? = some q → u_Kn s q.1 q.2.1 q.2.2 (dC k) (dI k) := by
  obtain ⟨c0, i0, h0⟩ := u_known (C := RX0) (T := TX0) (N := 11) (n := 11) hts (fun w h => e_big_in (e_inx0 w h)) (hts (.instantiable RX0 11) (by decide +kernel))
  obtain ⟨c1, i1, h1⟩ := u_known (C := RX1) (T := TX1) (N := 5) (n := 5) hts (fun w h => e_big_in (e_inx1 w h)) (hts (.instantiable RX1 5) (by decide +kernel))
  obtain ⟨c2, i2, h2⟩ := u_known (C := RX2) (T := TX2) (N := 6) (n := 6) hts (fun w h => e_big_in (e_inx2 w h)) (hts (.instantiable RX2 6) (by decide +kernel))
  obtain ⟨c3, i3, h3⟩ := u_known (C := RX3) (T := TX3) (N := 8) (n := 8) hts (fun w h => e_big_in (e_inx3 w h)) (hts (.instantiable RX3 8) (by decide +kernel))
  obtain ⟨c4, i4, h4⟩ := u_known (C := RX4) (T := TX4) (N := 5) (n := 5) hts (fun w h => e_big_in (e_inx4 w h)) (hts (.instantiable RX4 5) (by decide +kernel))
  obtain ⟨c5, i5, h5⟩ := u_known (C := RX5) (T := TX5) (N := 6) (n := 6) hts (fun w h => e_big_in (e_inx5 w h)) (hts (.instantiable RX5 6) (by decide +kernel))
  obtain ⟨c6, i6, h6⟩ := u_known (C := RX6) (T := TX6) (N := 5) (n := 5) hts (fun w h => e_big_in (e_inx6 w h)) (hts (.instantiable RX6 5) (by decide +kernel))
  obtain ⟨c7, i7, h7⟩ := u_known (C := RX7) (T := TX7) (N := 2) (n := 2) hts (fun w h => e_big_in (e_inx7 w h)) (hts (.instantiable RX7 2) (by decide +kernel))
  obtain ⟨c8, i8, h8⟩ := u_known (C := RX8) (T := TX8) (N := 1) (n := 1) hts (fun w h => e_big_in (e_inx8 w h)) (hts (.instantiable RX8 1) (by decide +kernel))
  obtain ⟨c9, i9, h9⟩ := u_known (C := RX9) (T := TX9) (N := 5) (n := 5) hts (fun w h => e_big_in (e_inx9 w h)) (hts (.instantiable RX9 5) (by decide +kernel))
  obtain ⟨c10, i10, h10⟩ := u_known (C := RX10) (T := TX10) (N := 8) (n := 8) hts (fun w h => e_big_in (e_inx10 w h)) (hts (.instantiable RX10 8) (by decide +kernel))
  obtain ⟨c11, i11, h11⟩ := u_known (C := RX11) (T := TX11) (N := 44) (n := 44) hts (fun w h => e_big_in (e_inx11 w h)) (hts (.instantiable RX11 44) (by decide +kernel))
  refine ⟨fun k => match k with
    | 0 => c0
    | 1 => c1
    | 2 => c2
    | 3 => c3
    | 4 => c4
    | 5 => c5
    | 6 => c6
    | 7 => c7
    | 8 => c8
    | 9 => c9
    | 10 => c10
    | _ => c11, fun k => match k with
    | 0 => i0
    | 1 => i1
    | 2 => i2
    | 3 => i3
    | 4 => i4
    | 5 => i5
    | 6 => i6
    | 7 => i7
    | 8 => i8
    | 9 => i9
    | 10 => i10
    | _ => i11, ?_⟩
  intro k q hq
  match k, hq with
  | 0, hq => cases hq; exact h0
  | 1, hq => cases hq; exact h1
  | 2, hq => cases hq; exact h2
  | 3, hq => cases hq; exact h3
  | 4, hq => cases hq; exact h4
  | 5, hq => cases hq; exact h5
  | 6, hq => cases hq; exact h6
  | 7, hq => cases hq; exact h7
  | 8, hq => cases hq; exact h8
  | 9, hq => cases hq; exact h9
  | 10, hq => cases hq; exact h10
  | 11, hq => cases hq; exact h11
  | k + 12, hq => simp at hq
def e_adf (bs b t1 t2 t3 : Nat) (i : Nat) : Nat := if i < 1000 then bs + i else if i = 1000 then b else if i = 1001 then t1 else if i = 1002 then t2 else t3
theorem e_Vm_ex {s : State} {b L : Nat} {xs : Nat → Int32} (l : Launch) (hL : L ≤ 3072) (hts : ∀ w ∈ lw_tbl, w.before #[Value.ref b] s = true) (hX : va_X b L xs s s.heap) (hbl : b < s.heap.size) (hgv : (Jvm.Cond.and given_1 narrow_1).before #[Value.ref b] s = true) :
    ∃ G : e_G, e_l G = l ∧ e_bs G = s.heap.size ∧ e_sn G = L ∧ e_sx G = xs ∧ e_ad G 1000 = b ∧ e_Vm G s := by
  have hs := flat_of_before _ hgv
  have hA : ∀ a : Nat, a < s.heap.size → ¬ (fun q => s.heap.size ≤ q) a := fun a h => Nat.not_le.mpr h
  obtain ⟨dC, dI, hKn⟩ := e_K_ex hts
  have hnk : ∀ w ∈ e_nest, w ∈ lw_tbl := by decide +kernel
  obtain ⟨cy, hcy⟩ := e_cy_ex (s := s) (va_AO.of (hts (.arrayOver (.object "EvenWheel$Row")) (by decide +kernel))) (hts (.arrayClass .int) (by decide +kernel)) (hts (.arrayClass .boolean) (by decide +kernel)) (hts (.arrayOver (.array .int)) (by decide +kernel))
  obtain ⟨t1, z1, a1⟩ := e_static (N := 16) (l := [0, 10, 21, 31, 41, 50, 59, 67, 74, 81, 87, 91, 95, 98, 99, 100]) (C := "EvenWheel$Wheel") (n := "ARMS") (by decide) hA (hts _ (by decide +kernel)) (hts _ (by decide +kernel)) (hs _ (by decide +kernel)) (hs _ (by decide +kernel)) (fun j hj => hs _ ((show ∀ j, j < 16 → Cond.eq (.elem (.static "EvenWheel$Wheel" "ARMS" "[I") (.int (Int32.ofNat j))) (.int (e_tab [0, 10, 21, 31, 41, 50, 59, 67, 74, 81, 87, 91, 95, 98, 99, 100] j)) ∈ flatC (Jvm.Cond.and given_1 narrow_1) by decide +kernel) j hj))
  obtain ⟨t2, z2, a2⟩ := e_static (N := 4) (l := [0, 100, 0, 1]) (C := "EvenWheel$Rules") (n := "LEAST") (by decide) hA (hts _ (by decide +kernel)) (hts _ (by decide +kernel)) (hs _ (by decide +kernel)) (hs _ (by decide +kernel)) (fun j hj => hs _ ((show ∀ j, j < 4 → Cond.eq (.elem (.static "EvenWheel$Rules" "LEAST" "[I") (.int (Int32.ofNat j))) (.int (e_tab [0, 100, 0, 1] j)) ∈ flatC (Jvm.Cond.and given_1 narrow_1) by decide +kernel) j hj))
  obtain ⟨t3, z3, a3⟩ := e_static (N := 4) (l := [1000000, 10000, 500, 20]) (C := "EvenWheel$Rules") (n := "MOST") (by decide) hA (hts _ (by decide +kernel)) (hts _ (by decide +kernel)) (hs _ (by decide +kernel)) (hs _ (by decide +kernel)) (fun j hj => hs _ ((show ∀ j, j < 4 → Cond.eq (.elem (.static "EvenWheel$Rules" "MOST" "[I") (.int (Int32.ofNat j))) (.int (e_tab [1000000, 10000, 500, 20] j)) ∈ flatC (Jvm.Cond.and given_1 narrow_1) by decide +kernel) j hj))
  refine ⟨(l, (dC, dI), cy, e_adf s.heap.size b t1 t2 t3, s.heap.size, L, xs), rfl, rfl, rfl, rfl, rfl, ?_⟩
  refine ⟨fun i hi => if_pos hi, ⟨hKn, hcy⟩, fun w hw => va_Nw.of (by simp only [e_nest, List.mem_cons, List.not_mem_nil, or_false] at hw; rcases hw with rfl | rfl | rfl | rfl | rfl | rfl <;> rfl) (hts w (hnk w hw)), fun i q hq => ?_, fun i q hq => ?_, Nat.le_refl _, va_AO.of (hts (.arrayOver (.object "EvenWheel$Row")) (by decide +kernel)), hts (.arrayOver (.array .int)) (by decide +kernel)⟩
  · unfold e_st at hq
    split at hq <;> cases hq
    · exact z1
    · exact z2
    · exact z3
  · unfold e_ro at hq
    split at hq <;> cases hq
    · obtain ⟨scr, g1, g2, g3, g4, g5⟩ := hX
      exact ⟨scr, g1, g2, g3, by rw [g4]; exact Nat.le_refl _, by rw [g4]; rfl, g5, Nat.not_le.mpr hbl⟩
    · exact a1
    · exact a2
    · exact a3
