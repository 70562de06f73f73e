/-! entries of methods; what is made; copies; switches -/
section EM
variable {G : e_G} {y pc : Nat} {L : List (Option Value)} {st : List Value} {S : e_Sh} {M : e_Me} {k n : Nat} {Q : e_Q}
theorem e_fl2_len (ad : Nat → Nat) (as : List Value) : (lg_sl (as.map (e_tr ad))).length = (e_fl2 as).length := by
  induction as with
  | nil => rfl
  | cons a as ih =>
    simp only [lg_sl, e_fl2, List.map_cons, List.flatMap_cons, List.length_append] at ih ⊢
    rw [ih, e_tr_cat]
    split <;> rfl
theorem e_lr_entry {as : List Value} (h : (e_fl2 as).length ≤ e_mlx y) : e_lr G ((lg_sl (as.map (e_tr (e_ad G))) ++ List.replicate (e_mlx y - (lg_sl (as.map (e_tr (e_ad G)))).length) Slot.unset).toArray) (e_mlx y) (e_fl2 as ++ List.replicate (e_mlx y - (e_fl2 as).length) none) := by
  obtain ⟨h1, h2, h3⟩ := lv_entry (as.map (e_tr (e_ad G))) (n := e_mlx y) (by rw [e_fl2_len]; exact h)
  refine ⟨h1, h2, fun i v hi => ?_⟩
  by_cases hl : i < (e_fl2 as).length
  · rw [List.getElem?_append_left hl] at hi
    have := e_fl2_args (e_ad G) as 0 i v hi
    rw [Nat.zero_add] at this
    exact h3 _ this
  · rw [List.getElem?_append_right (by omega), List.getElem?_replicate] at hi
    split at hi <;> cases hi
theorem e_CA_of {z : Nat} {as : List Value} {Qr : e_R} (hz : z < 268) (hl : (e_fl2 as).length ≤ e_mlx z)
    (h : e_EX G z 0 (e_fl2 as ++ List.replicate (e_mlx z - (e_fl2 as).length) none) [] S M 0 0 (fun r S' M' k n => k ≤ e_mc z ∧ n ≤ e_ms z ∧ Qr r S' M')) : e_CA G z as S M Qr := by
  obtain ⟨f1, f2, f3, f4, f5, f6, f7, f8, f9⟩ := e_mok_f hz
  refine e_ofW (cc := e_cd z) (maxL := e_mlx z) (ret := e_rt z) f6 rfl ?_
  intro p e s m args below meth c s₁ B hml hv
  obtain ⟨rfl, hH, hV⟩ := hv
  have hts := atoms_spec (ws := e_wl z) B.pre
  have hlocks : meth.locks = false := B.notSynchronized
  have hname : meth.name = (e_nm z).name := (name_of_methodNamed B.named B.method).1
  have hC : e_Cx G z p s m (as.map (e_tr (e_ad G))).toArray meth c := ⟨B.exec, B.bytes, B.returns, hml, fun w hw => hts w (List.mem_cons_of_mem _ hw), findClass_of_methodNamed B.named, hlocks, hV, fun h => hname.trans h⟩
  rw [lg_entry_eq]
  refine h p e s m _ below meth c (MQ below (e_Qc G Qr) (as.map (e_tr (e_ad G))).toArray s (e_mc z) (e_ms z) (e_A G)) s.heap [] _ hC ?_ hH va_S.rf (e_lr_entry hl)
  intro r S' M' k n H locs pc ls i hQ hH' hS' d hr
  obtain ⟨q1, q2, hQ⟩ := hQ
  refine W.widen q1 q2 ?_
  have fin : ∀ t : State, t.heap = H → e_Qc G Qr (as.map (e_tr (e_ad G))).toArray s (.returned (r.map (e_tr (e_ad G)))) t := fun t ht => ⟨⟨r, S', M', rfl, hQ, by rw [ht]; exact hH'⟩, hS'.F ht⟩
  unfold e_ret at hr
  split at hr
  · exact W.vret B.exec B.bytes (B.returns.trans hr) (fun t ht _ => fin t ht) hS'.2.2 d hlocks
  · obtain ⟨ty, h1, h2⟩ := hr
    exact W.zret B.exec B.bytes (B.returns.trans h1) h2 (fun t ht _ => fin t ht) hS'.2.2 d hlocks
  · exact W.lret B.exec B.bytes (B.returns.trans hr) (fun t ht _ => fin t ht) hS'.2.2 d hlocks
  · obtain ⟨C, h1⟩ := hr
    exact W.aret B.exec B.bytes (B.returns.trans h1) (Or.inl ⟨C, rfl⟩) (Or.inr ⟨_, rfl⟩) (fun t ht _ => fin t ht) hS'.2.2 d hlocks
  · exact hr.elim
-- what is made
theorem e_HR_push {H H1 : Heap} {M' : e_Me} {e' : e_SE} (hH : e_HR G S M H) (hl : S.length < 1000) (ha : ∀ i, i < 1000 → e_ad G i = e_bs G + i) (hM : ∀ a, a < S.length → M' a = M a) (hz : H1.size = H.size + 1) (ho : ∀ q : Nat, q < H.size → H1[q]? = H[q]?) (hat : va_at (e_D G) vwCl (H.size, e_li G (M' S.length) e') H1) : e_HR G (S ++ [e']) M' H1 := by
  refine ⟨by rw [hz, hH.1, List.length_append]; rfl, by rw [List.length_append]; exact hl, ?_⟩
  rw [e_ws_push hM]
  have hk : ∀ (b : Nat) (x : Nat × va_E), (e_ws G S M)[b]? = some x → H1[x.1]? = H[x.1]? := fun b x hx => ho x.1 ((hH.2.2 b x hx).lt)
  refine (hH.2.2.kept hk).app (fun b x hx => ?_)
  have hb : b < 1 := (List.getElem?_eq_some_iff.mp hx).1
  rw [show b = 0 by omega] at hx
  cases hx
  rw [ha _ hl, ← hH.1]
  exact hat
theorem e_S_push {G : e_G} {s : State} {H H1 : Heap} {locs : List Loc} (hS : va_S (e_A G) s.heap H locs) (hz : H1.size = H.size + 1) (ho : ∀ q : Nat, q < H.size → H1[q]? = H[q]?) : va_S (e_A G) s.heap H1 locs :=
  ⟨Nat.le_trans hS.1 (by omega), fun x h1 h2 => (ho x (Nat.lt_of_lt_of_le h1 hS.1)).trans (hS.2.1 x h1 h2), hS.2.2⟩
def e_tok : FieldType → Bool
  | .int => true
  | .boolean => true
  | .object _ => true
  | .array _ => true
  | _ => false
def e_dv : FieldType → Option Value
  | .int => none
  | .boolean => none
  | _ => some .null
def e_sl0 (ci N : Nat) : List (Option Value) := (List.range N).map (fun j => e_dv (e_tyx ci j))
theorem e_dv_ok {t : FieldType} (h : e_tok t = true) (ad : Nat → Nat) (j : Nat) : defaultValue t = e_sv ad (fun _ => 0) j (e_dv t) := by
  cases t <;> first | rfl | (simp [e_tok] at h)
theorem e_x_new {idx ci : Nat} {q : vw_C} (d : decode (e_cd y) pc = .ok (.new idx, 3)) (hq : vwCl[ci]? = some q) (hcl : Cond.classLink (e_own y) idx q.1 ∈ e_big) (hins : Cond.instantiable q.1 q.2.2 ∈ e_big) (hini : Cond.initialized q.1 ∈ e_big) (htok : ∀ j, j < q.2.2 → e_tok (e_tyx ci j) = true)
    (hl : S.length < 1000) (hk : k + 1 ≤ e_mc y) (hn : n + q.2.2 ≤ e_ms y) (kk : e_EX G y (pc + 3) L (.ref S.length :: st) (S ++ [.inr (ci, e_sl0 ci q.2.2)]) (e_row M S.length (fun _ => 0)) (k + 1) (n + q.2.2) Q) : e_EX G y pc L st S M k n Q := by
  intro p e s m args below meth c Z H locs ls hC hE hH hS hL
  obtain ⟨h1, h2, h3⟩ := e_cls hq
  have hts := hC.2.2.2.2.1
  have hV := hC.2.2.2.2.2.2.2.1
  have hKn := hV.2.1.1 ci _ hq
  refine W.newcK hC.1 hC.2.1 hC.2.2.2.2.2.1 (hts _ hcl) (hts _ hins) (hts _ hini) rfl d hk hn hKn.2.1 rfl fun H1 kC hkC e1 z1 o1 => ?_
  have hfs : ∀ j, j < q.2.2 → defaultValue (e_tyx ci j) = vp_V ((e_sl0 ci q.2.2).mapIdx (e_sv (e_ad G) (fun _ => 0))) j := by
    intro j hj
    have : ((e_sl0 ci q.2.2).mapIdx (e_sv (e_ad G) (fun _ => 0)))[j]? = some (e_sv (e_ad G) (fun _ => 0) j (e_dv (e_tyx ci j))) := by
      rw [List.getElem?_mapIdx]
      simp [e_sl0, hj]
    simp only [vp_V, List.getD_eq_getElem?_getD, this, Option.getD_some]
    exact e_dv_ok (htok j hj) _ j
  have hat : va_at (e_D G) vwCl (H.size, e_li G (e_row M S.length (fun _ => 0) S.length) (.inr (ci, e_sl0 ci q.2.2))) H1 := by
    rw [e_row_at]
    exact ⟨_, hq, (u_born (e_tyx ci) hts h1 hKn hkC e1 h2).to hfs⟩
  have K := kk p e s m args below meth c Z H1 locs ls hC hE (e_HR_push hH hl hV.1 (fun a ha => e_row_ne (by omega)) z1 o1 hat) (e_S_push hS z1 o1) hL
  have ee : (Value.ref H.size) = e_tr (e_ad G) (.ref S.length) := by
    show Value.ref H.size = .ref (e_ad G S.length)
    rw [hV.1 _ hl, hH.1]
  show W p (e_l G) e (e_rm y) s m args below meth c H1 locs (k + 1) (n + q.2.2) Z (F0 m (pc + 3) ls (.ref H.size :: st.map (e_tr (e_ad G))))
  rw [ee]
  exact K
theorem e_x_newa {a N : Nat} {x : Int32} {at' : ArrayType} {ty : FieldType} (d : decode (e_cd y) pc = .ok (.newarray at', 2)) (ha : (a = 0 ∧ at' = .int ∧ ty = .int) ∨ (a = 1 ∧ at' = .boolean ∧ ty = .boolean)) (harr : Cond.arrayClass ty ∈ e_big) (hx : ¬ x < 0) (hN : x.toNatClampNeg = N) (hb : N ≤ 100000)
    (hl : S.length < 1000) (hk : k + 1 ≤ e_mc y) (hn : n + N ≤ e_ms y) (kk : e_EX G y (pc + 2) L (.ref S.length :: st) (S ++ [.inl (a, N, none)]) (e_row M S.length (fun _ => 0)) (k + 1) (n + N) Q) : e_EX G y pc L (.int x :: st) S M k n Q := by
  intro p e s m args below meth c Z H locs ls hC hE hH hS hL
  have hts := hC.2.2.2.2.1
  have hV := hC.2.2.2.2.2.2.2.1
  have ee : (Value.ref H.size) = e_tr (e_ad G) (.ref S.length) := by
    show Value.ref H.size = .ref (e_ad G S.length)
    rw [hV.1 _ hl, hH.1]
  rcases ha with ⟨rfl, rfl, rfl⟩ | ⟨rfl, rfl, rfl⟩
  · refine va_newaK hC.1 hC.2.1 (atype := .int) (hts _ harr) rfl d rfl hx hN (by show N * 4 ≤ _; omega) hk hn rfl fun H1 cA e1 z1 o1 hAr hNm => ?_
    have hc : cA = e_cy G 0 := Option.some.inj (hNm.symm.trans (hV.2.1.2 0 _ rfl).2)
    subst hc
    have hat : va_at (e_D G) vwCl (H.size, e_li G (e_row M S.length (fun _ => 0) S.length) (.inl (0, N, none))) H1 := by
      rw [e_row_at]
      exact e1
    have K := kk p e s m args below meth c Z H1 locs ls hC hE (e_HR_push hH hl hV.1 (fun a ha => e_row_ne (by omega)) z1 o1 hat) (e_S_push hS z1 o1) hL
    show W p (e_l G) e (e_rm y) s m args below meth c H1 locs (k + 1) (n + N) Z (F0 m (pc + 2) ls (.ref H.size :: st.map (e_tr (e_ad G))))
    rw [ee]
    exact K
  · refine va_newaK hC.1 hC.2.1 (atype := .boolean) (hts _ harr) rfl d rfl hx hN (by show N * 1 ≤ _; omega) hk hn rfl fun H1 cA e1 z1 o1 hAr hNm => ?_
    have hc : cA = e_cy G 1 := Option.some.inj (hNm.symm.trans (hV.2.1.2 1 _ rfl).2)
    subst hc
    have hat : va_at (e_D G) vwCl (H.size, e_li G (e_row M S.length (fun _ => 0) S.length) (.inl (1, N, none))) H1 := by
      rw [e_row_at]
      exact e1
    have K := kk p e s m args below meth c Z H1 locs ls hC hE (e_HR_push hH hl hV.1 (fun a ha => e_row_ne (by omega)) z1 o1 hat) (e_S_push hS z1 o1) hL
    show W p (e_l G) e (e_rm y) s m args below meth c H1 locs (k + 1) (n + N) Z (F0 m (pc + 2) ls (.ref H.size :: st.map (e_tr (e_ad G))))
    rw [ee]
    exact K
theorem e_x_anew {idx N : Nat} {x : Int32} (d : decode (e_cd y) pc = .ok (.anewarray idx, 3)) (hcl : Cond.classLink (e_own y) idx "EvenWheel$Row" ∈ e_big) (hx : ¬ x < 0) (hN : x.toNatClampNeg = N) (hb : N ≤ 100000)
    (hl : S.length < 1000) (hk : k + 1 ≤ e_mc y) (hn : n + N ≤ e_ms y) (kk : e_EX G y (pc + 3) L (.ref S.length :: st) (S ++ [.inl (2, N, some (fun _ => none))]) M (k + 1) (n + N) Q) : e_EX G y pc L (.int x :: st) S M k n Q := by
  intro p e s m args below meth c Z H locs ls hC hE hH hS hL
  have hts := hC.2.2.2.2.1
  have hV := hC.2.2.2.2.2.2.2.1
  have ee : (Value.ref H.size) = e_tr (e_ad G) (.ref S.length) := by
    show Value.ref H.size = .ref (e_ad G S.length)
    rw [hV.1 _ hl, hH.1]
  subst hN
  refine W.anew hC.1 hC.2.1 hC.2.2.2.2.2.1 (hts _ hcl) (va_AO.use hV.2.2.2.2.2.2.1) rfl d rfl hx (by omega) hk hn fun cA kA comp f1 f2 f3 f4 => ?_
  generalize hH1 : H.push ({ cls := cA, slots := Array.replicate x.toNatClampNeg .null, vm := .none } : Cell) = H1
  have z1 : H1.size = H.size + 1 := by rw [← hH1, Array.size_push]
  have e1 : H1[H.size]? = some (arrV cA x.toNatClampNeg (fun _ => .null)) := by rw [← hH1, Array.getElem?_push_size, ← arrV_new]
  have o1 : ∀ q : Nat, q < H.size → H1[q]? = H[q]? := fun q hq => by rw [← hH1, Array.getElem?_push, if_neg (Nat.ne_of_lt hq)]
  have hc : cA = e_cy G 2 := by
    obtain ⟨-, kA', comp', -, -, -, h4⟩ := hV.2.1.2 2 _ rfl
    exact Option.some.inj (f1.symm.trans h4)
  subst hc
  have hat : va_at (e_D G) vwCl (H.size, e_li G (M S.length) (.inl (2, x.toNatClampNeg, some (fun _ => none)))) H1 := e1
  have K := kk p e s m args below meth c Z H1 locs ls hC hE (e_HR_push hH hl hV.1 (fun a ha => rfl) z1 o1 hat) (e_S_push hS z1 o1) hL
  show W p (e_l G) e (e_rm y) s m args below meth c H1 locs (k + 1) (n + x.toNatClampNeg) Z (F0 m (pc + 3) ls (.ref H.size :: st.map (e_tr (e_ad G))))
  rw [ee]
  exact K
theorem e_x_aast {i N w ci : Nat} {f : Nat → Option Nat} {sl : List (Option Value)} {x : Int32} (d : decode (e_cd y) pc = .ok (.aastore, 1)) (hi : S[i]? = some (.inl (2, N, some f))) (hx : vp_in x N) (hw : S[w]? = some (.inr (7, sl)))
    (kk : e_EX G y (pc + 1) L st (S.set i (.inl (2, N, some (fun b => if b = x.toNatClampNeg then some w else f b)))) M k n Q) : e_EX G y pc L (.ref w :: .int x :: .ref i :: st) S M k n Q := by
  intro p e s m args below meth c Z H locs ls hC hE hH hS hL
  have hV := hC.2.2.2.2.2.2.2.1
  have hK := hV.2.1
  have hD := e_ws_D (M := M) hH.2.1 hV.1
  have he := e_ws_get (G := G) (M := M) hi
  have hilt := (List.getElem?_eq_some_iff.mp hi).1
  have hlt : x.toNatClampNeg < N := Nat.not_le.mp fun q => hx (Or.inr q)
  have h0 : ¬ x < 0 := fun q => hx (Or.inl q)
  obtain ⟨r', hr', cellV, g1, g2, g3, -⟩ := hH.2.2 w _ (e_ws_get (G := G) (M := M) hw)
  have hcls := (hK.1 7 _ rfl).2
  obtain ⟨kA, comp, k1, k2, k3, -⟩ := (hK.2 2 _ rfl).2
  have hcomp : comp = (e_D G).1 7 := Option.some.inj (k3.symm.trans hcls.1)
  subst hcomp
  obtain ⟨kC, hkC, -⟩ := hcls.2
  refine W.aast hC.1 hC.2.1 (hH.2.2 i _ he) (fun q h => by cases h) (fun h => by cases h) k1 k2 rfl hkC ⟨h0, by show _ < (arrV _ _ _).slots.size; rw [arrV_size]; exact hlt⟩ g1 (fun q h => by rw [g3] at h; cases h) (by rw [g2]; exact hkC) (by rw [g2]; exact va_assign hcls) rfl rfl d fun H1 e1 z oq => ?_
  refine kk p e s m args below meth c Z H1 _ ls hC hE (e_HR_set hH hilt rfl (fun a ha => rfl) z (hH.2.2.set hD he ?_ oq)) (hS.put z oq (hD.2 i _ he)) hL
  show H1[e_ad G i]? = some (vp_cell (e_cy G 2) (N, .inr (.inr (.inr (.inr (fun j => (if j = x.toNatClampNeg then some w else f j).map (e_ad G)))))))
  rw [e1]
  show some ((vp_cell (e_cy G 2) (N, .inr (.inr (.inr (.inr (fun j => (f j).map (e_ad G))))))).setSlot _ _) = _
  rw [vp_cell_q, vp_cell_q, arrV_store]
  congr 2
  funext q
  by_cases hq : q = x.toNatClampNeg
  · subst hq
    simp [updV, va_rf]
  · simp [updV, hq]
theorem e_x_oinit {idx i : Nat} (d : decode (e_cd y) pc = .ok (.invokespecial idx, 3)) (hl : Cond.methodLink (e_own y) idx Lib.objectInit ∈ e_big) (hin : Cond.instanceMethod Lib.objectInit ∈ e_big) (hcd : Cond.code Lib.objectInit ⟨#[0xb1]⟩ 1 none ∈ e_big)
    (hf : 1 ≤ (e_rm y).frames) (hlo : 20 ≤ (e_rm y).locals) (hW : (st.map fun v => v.category).sum ≤ 8) (kk : e_EX G y (pc + 3) L st S M k n Q) : e_EX G y pc L (.ref i :: st) S M k n Q := by
  intro p e s m args below meth c Z H locs ls hC hE hH hS hL
  have hts := hC.2.2.2.2.1
  have := e_hcat (G := G) (st := st) (ls := ls) (m := m) (pcx := pc) (g := []) hW
  refine W.objInit hC.1 hC.2.1 hC.2.2.2.2.2.1 (hts _ hl) (hts _ hin) (hts _ hcd) rfl (by rw [hC.2.2.2.1]; exact hL.1) rfl d hf ?_ (kk p e s m args below meth c Z H locs ls hC hE hH hS hL)
  show 2 * 0 + ((st.map (e_tr (e_ad G))).map fun v => v.category).sum + 12 ≤ _
  have h0 : 2 * 0 + ((st.map (e_tr (e_ad G))).map fun v => v.category).sum ≤ 8 := this
  omega
theorem e_x_sw {dflt lo hi : Int} {offs : Array Int} {len tgt : Nat} {x : Int32} (d : decode (e_cd y) pc = .ok (.tableswitch dflt lo hi offs, len))
    (h : ((x.toInt < lo ∨ hi < x.toInt) ∧ (pc : Int) + dflt = (tgt : Int)) ∨ (¬ x.toInt < lo ∧ ¬ hi < x.toInt ∧ ∃ off, offs[(x.toInt - lo).toNat]? = some off ∧ (pc : Int) + off = (tgt : Int)))
    (kk : e_EX G y tgt L st S M k n Q) : e_EX G y pc L (.int x :: st) S M k n Q := by
  intro p e s m args below meth c Z H locs ls hC hE hH hS hL
  have K := kk p e s m args below meth c Z H locs ls hC hE hH hS hL
  rcases h with ⟨h1, h2⟩ | ⟨h1, h2, off, h3, h4⟩
  · exact lv_tableOut hC.1 hC.2.1 d h1 h2 K
  · exact lv_tableIn hC.1 hC.2.1 d h1 h2 h3 h4 K
theorem e_x_lk {dflt : Int} {ps : Array (Int × Int)} {len tgt : Nat} {x : Int32} {off : Int} (d : decode (e_cd y) pc = .ok (.lookupswitch dflt ps, len)) (hp : (ps.toList.zip (ps.toList.drop 1)).all (fun (a, next) => a.1 < next.1) = true) (ho : Op.lookupswitch.offset ps.toList dflt x.toInt = off) (ht : (pc : Int) + off = (tgt : Int))
    (kk : e_EX G y tgt L st S M k n Q) : e_EX G y pc L (.int x :: st) S M k n Q := by
  intro p e s m args below meth c Z H locs ls hC hE hH hS hL
  exact lv_lookup hC.1 hC.2.1 d hp ho ht (kk p e s m args below meth c Z H locs ls hC hE hH hS hL)
/-- the new array of arrays: its outer row, and its n rows behind it -/
def e_mn (S : e_Sh) (N K : Nat) : e_Sh := S ++ (.inl (3, N, some (fun j => if j < N then some (S.length + 1 + j) else none)) :: List.replicate N (.inl (0, K, none)))
def e_mz (M : e_Me) (b N : Nat) : e_Me := fun a => if b < a ∧ a ≤ b + N then (fun _ => 0) else M a
theorem e_outer (c : ClassId) (N h0 : Nat) : ∀ i : Nat, Jvm.Free.Multi.outerC c N h0 i = arrV c N (fun j => va_rf (if j < i then some (h0 + 1 + j) else none))
  | 0 => by
    show ({ cls := c, slots := Array.replicate N .null, vm := .none } : Cell) = _
    rw [arrV_new]
    refine congrArg (arrV c N) (funext fun j => ?_)
    simp [va_rf]
  | i + 1 => by
    show (Jvm.Free.Multi.outerC c N h0 i).setSlot i (.ref (h0 + 1 + i)) = _
    rw [e_outer c N h0 i, arrV_store]
    refine congrArg (arrV c N) (funext fun j => ?_)
    by_cases e : j = i
    · subst e
      simp [updV, va_rf]
    · by_cases h : j < i
      · simp [updV, e, h, Nat.lt_succ_of_lt h]
      · simp [updV, e, h, show ¬ j < i + 1 by omega]
theorem e_x_mna {idx N K : Nat} {x z : Int32} (d : decode (e_cd y) pc = .ok (.multianewarray idx 2, 4)) (hcl : Cond.classLink (e_own y) idx "[[I" ∈ e_big) (harr : Cond.arrayClass .int ∈ e_big) (hx : ¬ x < 0) (hz : ¬ z < 0) (hN : x.toNatClampNeg = N) (hK : z.toNatClampNeg = K) (hb : N ≤ 100) (hb2 : K ≤ 100)
    (hl : S.length + 1 + N ≤ 1000) (hk : k + (1 + N) ≤ e_mc y) (hn : n + (N + N * K) ≤ e_ms y) (kk : e_EX G y (pc + 4) L (.ref S.length :: st) (e_mn S N K) (e_mz M S.length N) (k + 1 + N) (n + N + N * K) Q) : e_EX G y pc L (.int z :: .int x :: st) S M k n Q := by
  intro p e s m args below meth c Z H locs ls hC hE hH hS hL
  have hts := hC.2.2.2.2.1
  have hV := hC.2.2.2.2.2.2.2.1
  subst hN
  subst hK
  have hsz : e_ad G S.length = H.size := by rw [hV.1 _ (by omega), hH.1]
  have hcl' : (Cond.classLink (e_own y) idx ("[" ++ (FieldType.array .int).toString)).before args s = true := by
    have e : "[" ++ (FieldType.array .int).toString = "[[I" := by decide
    rw [e]
    exact hts _ hcl
  intro T hT Xs
  obtain ⟨vm₁, cA, comp, -, fA, fC, hO, -, X', step⟩ := Xs.multianewarray2F hC.1 hC.2.2.2.2.2.1 hcl' (e_AOA_use hV.2.2.2.2.2.2.2) (hts _ harr) (g := F0 m pc ls ((.int z :: .int x :: st).map (e_tr (e_ad G)))) rfl (by rw [hC.2.1]; exact d) (n := x) (k := z) (rest := st.map (e_tr (e_ad G))) rfl hx hz (by omega) (by show z.toNatClampNeg * 4 ≤ _; omega) (by omega) rfl rfl hk hn
  have ec : comp = e_cy G 0 := Option.some.inj (fC.symm.trans (hV.2.1.2 0 _ rfl).2)
  have eA : cA = e_cy G 3 := Option.some.inj (fA.symm.trans (hV.2.1.2 3 _ rfl).2)
  subst ec
  subst eA
  generalize hF : Jvm.Free.Multi.fill (T.setVm vm₁) (e_cy G 3) (e_cy G 0) x.toNatClampNeg z.toNatClampNeg (defaultValue .int) x.toNatClampNeg = F at X' step
  have hTh : (T.setVm vm₁).heap = H := hT
  obtain ⟨f1, f2, -, -⟩ := Jvm.Free.Multi.fill_facts (T.setVm vm₁) (e_cy G 3) (e_cy G 0) x.toNatClampNeg z.toNatClampNeg (defaultValue .int) x.toNatClampNeg
  rw [hF, hTh] at f1 f2
  have hold : ∀ q : Nat, q < H.size → F.heap[q]? = H[q]? := fun q hq => by
    have := Jvm.Free.Multi.fill_old (T.setVm vm₁) (e_cy G 3) (e_cy G 0) x.toNatClampNeg z.toNatClampNeg (defaultValue .int) (a := q) (by rw [hTh]; exact hq) x.toNatClampNeg
    rw [hF, hTh] at this
    exact this
  have hrow : ∀ j : Nat, j < x.toNatClampNeg → F.heap[H.size + 1 + j]? = some (vp_cell (e_cy G 0) (z.toNatClampNeg, .inl (fun _ => 0))) := fun j hj => by
    have := Jvm.Free.Multi.fill_inner (T.setVm vm₁) (e_cy G 3) (e_cy G 0) x.toNatClampNeg z.toNatClampNeg (defaultValue .int) x.toNatClampNeg j hj
    rw [hF, hTh] at this
    rw [this]
    congr 1
    show ({ cls := e_cy G 0, slots := Array.replicate z.toNatClampNeg (.int 0), vm := .none } : Cell) = _
    rw [arrV_new]
    rfl
  have hlen : (e_mn S x.toNatClampNeg z.toNatClampNeg).length = S.length + 1 + x.toNatClampNeg := by simp [e_mn]; omega
  have hHR : e_HR G (e_mn S x.toNatClampNeg z.toNatClampNeg) (e_mz M S.length x.toNatClampNeg) F.heap := by
    refine ⟨by rw [f1, hlen, hH.1]; omega, by omega, fun i q hq => ?_⟩
    simp only [e_ws, List.getElem?_mapIdx, Option.map_eq_some_iff] at hq
    obtain ⟨cel, hcel, rfl⟩ := hq
    have hi : i < S.length + 1 + x.toNatClampNeg := by
      have := (List.getElem?_eq_some_iff.mp hcel).1
      omega
    rcases Nat.lt_trichotomy i S.length with h | h | h
    · have hM : e_mz M S.length x.toNatClampNeg i = M i := by simp [e_mz]; omega
      rw [hM]
      rw [e_mn, List.getElem?_append_left h] at hcel
      have h1 := hH.2.2 i _ (e_ws_get (M := M) hcel)
      have := va_P.kept (ws := [(e_ad G i, e_li G (M i) cel)]) (H := H) (H1 := F.heap) (fun k9 x9 hx9 => by
        have h0 : k9 < 1 := (List.getElem?_eq_some_iff.mp hx9).1
        rw [show k9 = 0 by omega] at hx9
        cases hx9
        exact h1) (fun k9 x9 hx9 => hold x9.1 (by
        have h0 : k9 < 1 := (List.getElem?_eq_some_iff.mp hx9).1
        rw [show k9 = 0 by omega] at hx9
        cases hx9
        show e_ad G i < H.size
        rw [hV.1 _ (by omega), hH.1]
        omega))
      exact this 0 _ rfl
    · subst h
      rw [e_mn, List.getElem?_append_right (Nat.le_refl _), Nat.sub_self, List.getElem?_cons_zero] at hcel
      cases hcel
      show F.heap[e_ad G S.length]? = some (vp_cell (e_cy G 3) (x.toNatClampNeg, .inr (.inr (.inr (.inr (fun j => (if j < x.toNatClampNeg then some (S.length + 1 + j) else none).map (e_ad G)))))))
      rw [hsz, f2, e_outer, vp_cell_q]
      congr 2
      funext j
      by_cases hj : j < x.toNatClampNeg
      · simp only [hj, if_true, Option.map_some]
        rw [hV.1 _ (by omega), hH.1]
        congr 2
        omega
      · simp [hj]
    · rw [e_mn, List.getElem?_append_right (by omega)] at hcel
      obtain ⟨j, rfl⟩ : ∃ j, i = S.length + 1 + j := ⟨i - S.length - 1, by omega⟩
      rw [show S.length + 1 + j - S.length = j + 1 by omega, List.getElem?_cons_succ, List.getElem?_replicate, if_pos (by omega)] at hcel
      cases hcel
      have hM : e_mz M S.length x.toNatClampNeg (S.length + 1 + j) = fun _ => 0 := by
        simp only [e_mz]
        rw [if_pos (by omega)]
      rw [hM]
      show F.heap[e_ad G (S.length + 1 + j)]? = some (vp_cell (e_cy G 0) (z.toNatClampNeg, .inl (fun _ => 0)))
      rw [hV.1 _ (by omega), show e_bs G + (S.length + 1 + j) = H.size + 1 + j by rw [hH.1]; omega]
      exact hrow j (by omega)
  have hS' : va_S (e_A G) s.heap F.heap locs := ⟨Nat.le_trans hS.1 (by rw [f1]; omega), fun q h1 h2 => (hold q (Nat.lt_of_lt_of_le h1 hS.1)).trans (hS.2.1 q h1 h2), hS.2.2⟩
  obtain ⟨t, a1, b1⟩ := kk p e s m args below meth c Z F.heap _ ls hC hE hHR hS' hL _ rfl X'
  refine ⟨t, step t ?_, b1⟩
  have ee : Value.ref T.heap.size = e_tr (e_ad G) (.ref S.length) := by
    show Value.ref T.heap.size = .ref (e_ad G S.length)
    rw [hsz, hT]
  rw [ee]
  exact a1
theorem e_x_copy {idx i j N : Nat} {x : Int32} (d : decode (e_cd y) pc = .ok (.invokestatic idx, 3)) (hl : Cond.methodLink (e_own y) idx arraycopyName ∈ e_big) (h1 : Cond.native arraycopyName ∈ e_big) (h2 : Cond.static arraycopyName ∈ e_big) (h3 : Cond.initialized "java/lang/System" ∈ e_big)
    (hf : 1 ≤ (e_rm y).frames) (hlo : 60 ≤ (e_rm y).locals) (hi : S[i]? = some (.inl (0, N, none))) (hj : S[j]? = some (.inl (0, N, none))) (hx : ¬ x < 0) (hxN : x.toNatClampNeg ≤ N) (hst : (st.map fun v => v.category).sum ≤ 8)
    (kk : e_EX G y (pc + 3) L st S (e_row M j (fun b => if b < x.toNatClampNeg then M i b else M j b)) k n Q) : e_EX G y pc L (.int x :: .int 0 :: .ref j :: .int 0 :: .ref i :: st) S M k n Q := by
  intro p e s m args below meth c Z H locs ls hC hE hH hS hL
  have hts := hC.2.2.2.2.1
  have hV := hC.2.2.2.2.2.2.2.1
  have hK := hV.2.1
  have hD := e_ws_D (M := M) hH.2.1 hV.1
  have hilt := (List.getElem?_eq_some_iff.mp hj).1
  have nn : ∀ z : Int32, ¬ z < 0 → z.toInt = (z.toNatClampNeg : Int) := by
    intro z hz
    have hz0 : (0 : Int) ≤ z.toInt := by
      have := Int32.not_lt.mp hz
      simpa using Int32.le_iff_toInt_le.mp this
    show z.toInt = ((z.toInt.toNat : Nat) : Int)
    omega
  have z0 : (0 : Int32).toNatClampNeg = 0 := by decide
  intro T hT X
  have hc0 : H[e_ad G i]? = some (vp_cell (e_cy G 0) (N, .inl (M i))) := hH.2.2 i _ (e_ws_get hi)
  have hc1 : H[e_ad G j]? = some (vp_cell (e_cy G 0) (N, .inl (M j))) := hH.2.2 j _ (e_ws_get hj)
  obtain ⟨-, k0, hk0, cm0, hkk0⟩ := (hK.2 0 _ rfl).1 N (fun b => .int (M i b))
  have hcat := e_hcat (G := G) (st := st) (ls := ls) (m := m) (pcx := pc) (g := []) hst
  obtain ⟨vm', X', step⟩ := X.arraycopy hC.1 hC.2.2.2.2.2.1 (hts _ hl) (hts _ h1) (hts _ h2) (hts _ h3) (src := e_ad G i) (dst := e_ad G j) (cs := vp_cell (e_cy G 0) (N, .inl (M i))) (cd := vp_cell (e_cy G 0) (N, .inl (M j))) (srcPos := 0) (destPos := 0) (n := x) (by rw [hT]; exact hc0) (by rw [hT]; exact hc1)
    (fun _ h => by cases h) (fun _ h => by cases h) (fun h => by cases h) (fun h => by cases h) hk0 hk0 hkk0 hkk0 (by simp [refKind]) (by decide) (by decide) hx
    (by rw [nn x hx]; show ¬ ((0 : Int32).toInt + _) > ((arrV (e_cy G 0) N (fun b => .int (M i b))).slots.size : Int); rw [arrV_size]; have : (0 : Int32).toInt = 0 := by decide
        omega)
    (by rw [nn x hx]; show ¬ ((0 : Int32).toInt + _) > ((arrV (e_cy G 0) N (fun b => .int (M j b))).slots.size : Int); rw [arrV_size]; have : (0 : Int32).toInt = 0 := by decide
        omega)
    (fun vm₁ _ b hb => by
      have ee : (vp_cell (e_cy G 0) (N, .inl (M i))).slots.getD ((0 : Int32).toNatClampNeg + b) .null = .int (M i ((0 : Int32).toNatClampNeg + b)) := by
        show (arrV (e_cy G 0) N (fun b => .int (M i b))).slots.getD _ _ = _
        rw [Array.getD_eq_getD_getElem?, arrV_read _ _ (by rw [z0]; omega)]
        rfl
      refine ⟨?_, ?_⟩
      · rw [ee]
        rfl
      · rw [ee]
        exact trivial)
    (g := F0 m pc ls ((.int x :: .int 0 :: .ref j :: .int 0 :: .ref i :: st).map (e_tr (e_ad G)))) rfl (by rw [hC.2.2.2.1]; exact hL.1) (rest := st.map (e_tr (e_ad G))) rfl (by rw [hC.2.1]; exact d) hf (by
      have hw : nativeFrameWords "java/lang/System" "arraycopy" 5 + 11 ≤ 50 := by decide +kernel
      have hc2 : 2 * 0 + ((st.map (e_tr (e_ad G))).map fun v => v.category).sum ≤ 8 := hcat
      show 2 * 0 + _ + _ ≤ _
      omega)
  have e1 : copied (vp_cell (e_cy G 0) (N, .inl (M i))) (vp_cell (e_cy G 0) (N, .inl (M j))) 0 0 x = vp_cell (e_cy G 0) (N, .inl (va_cpy (M i) (M j) (0 : Int32).toNatClampNeg (0 : Int32).toNatClampNeg x.toNatClampNeg)) := va_copied (fun z => .int z) (e_cy G 0) (e_cy G 0) (M i) (M j) (by rw [z0]; omega)
  have e2 : va_cpy (M i) (M j) (0 : Int32).toNatClampNeg (0 : Int32).toNatClampNeg x.toNatClampNeg = fun b => if b < x.toNatClampNeg then M i b else M j b := by
    funext b
    simp [va_cpy, z0]
  rw [e2] at e1
  rw [e1] at X' step
  have hlt : e_ad G j < H.size := (Array.getElem?_eq_some_iff.mp hc1).1
  generalize hcell : vp_cell (e_cy G 0) (N, .inl (fun b => if b < x.toNatClampNeg then M i b else M j b)) = cell at X' step
  have hheap : ((T.setVm vm').setCell (e_ad G j) cell).heap = H.setIfInBounds (e_ad G j) cell := by rw [← hT]; rfl
  have oq : ∀ q : Nat, q ≠ e_ad G j → (H.setIfInBounds (e_ad G j) cell)[q]? = H[q]? := fun q hq => by simp [Array.getElem?_setIfInBounds, Ne.symm hq]
  have hHR : e_HR G S (e_row M j (fun b => if b < x.toNatClampNeg then M i b else M j b)) (H.setIfInBounds (e_ad G j) cell) := by
    refine e_HR_set hH hilt (e_same hj) (fun a ha => e_row_ne ha) (by simp) (hH.2.2.set hD (e_ws_get hj) ?_ oq)
    show (H.setIfInBounds (e_ad G j) cell)[e_ad G j]? = some (vp_cell (e_cy G 0) (N, .inl (e_row M j (fun b => if b < x.toNatClampNeg then M i b else M j b) j)))
    rw [e_row_at, hcell]
    simp [Array.getElem?_setIfInBounds, hlt]
  have hjA : e_A G (e_ad G j) := hD.2 j _ (e_ws_get hj)
  obtain ⟨t, a1, b1⟩ := kk p e s m args below meth c Z (H.setIfInBounds (e_ad G j) cell) _ ls hC hE hHR ⟨by simp; exact hS.1, fun q g1 g2 => by
      rw [oq q (fun e => g2 (by rw [e]; exact hjA))]
      exact hS.2.1 q g1 g2, fun q hq => by
      rcases List.mem_append.mp hq with h | h
      · exact hS.2.2 q h
      · obtain ⟨z, -, hz⟩ := List.mem_map.mp h
        rw [← hz]
        exact hjA⟩ hL _ hheap X'
  exact ⟨t, step t a1, b1⟩
end EM
