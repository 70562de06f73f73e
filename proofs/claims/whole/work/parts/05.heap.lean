/-! rows of the heap: fields, arrays, what is made -/
def e_tyx (ci : Nat) : Nat → FieldType := match ci with
  | 0 => tyX0
  | 1 => tyX1
  | 2 => tyX2
  | 3 => tyX3
  | 4 => tyX4
  | 5 => tyX5
  | 6 => tyX6
  | 7 => tyX7
  | 8 => tyX8
  | 9 => tyX9
  | 10 => tyX10
  | _ => tyX11
theorem e_inx0 : ∀ w ∈ u_ws RX0 TX0 11, w ∈ e_big := fun w h => e_inb_in (List.all_eq_true.mp (show (u_ws RX0 TX0 11).all e_inb = true by decide +kernel) w h)
theorem e_inx1 : ∀ w ∈ u_ws RX1 TX1 5, w ∈ e_big := fun w h => e_inb_in (List.all_eq_true.mp (show (u_ws RX1 TX1 5).all e_inb = true by decide +kernel) w h)
theorem e_inx2 : ∀ w ∈ u_ws RX2 TX2 6, w ∈ e_big := fun w h => e_inb_in (List.all_eq_true.mp (show (u_ws RX2 TX2 6).all e_inb = true by decide +kernel) w h)
theorem e_inx3 : ∀ w ∈ u_ws RX3 TX3 8, w ∈ e_big := fun w h => e_inb_in (List.all_eq_true.mp (show (u_ws RX3 TX3 8).all e_inb = true by decide +kernel) w h)
theorem e_inx4 : ∀ w ∈ u_ws RX4 TX4 5, w ∈ e_big := fun w h => e_inb_in (List.all_eq_true.mp (show (u_ws RX4 TX4 5).all e_inb = true by decide +kernel) w h)
theorem e_inx5 : ∀ w ∈ u_ws RX5 TX5 6, w ∈ e_big := fun w h => e_inb_in (List.all_eq_true.mp (show (u_ws RX5 TX5 6).all e_inb = true by decide +kernel) w h)
theorem e_inx6 : ∀ w ∈ u_ws RX6 TX6 5, w ∈ e_big := fun w h => e_inb_in (List.all_eq_true.mp (show (u_ws RX6 TX6 5).all e_inb = true by decide +kernel) w h)
theorem e_inx7 : ∀ w ∈ u_ws RX7 TX7 2, w ∈ e_big := fun w h => e_inb_in (List.all_eq_true.mp (show (u_ws RX7 TX7 2).all e_inb = true by decide +kernel) w h)
theorem e_inx8 : ∀ w ∈ u_ws RX8 TX8 1, w ∈ e_big := fun w h => e_inb_in (List.all_eq_true.mp (show (u_ws RX8 TX8 1).all e_inb = true by decide +kernel) w h)
theorem e_inx9 : ∀ w ∈ u_ws RX9 TX9 5, w ∈ e_big := fun w h => e_inb_in (List.all_eq_true.mp (show (u_ws RX9 TX9 5).all e_inb = true by decide +kernel) w h)
theorem e_inx10 : ∀ w ∈ u_ws RX10 TX10 8, w ∈ e_big := fun w h => e_inb_in (List.all_eq_true.mp (show (u_ws RX10 TX10 8).all e_inb = true by decide +kernel) w h)
theorem e_inx11 : ∀ w ∈ u_ws RX11 TX11 44, w ∈ e_big := fun w h => e_inb_in (List.all_eq_true.mp (show (u_ws RX11 TX11 44).all e_inb = true by decide +kernel) w h)
theorem e_cls {ci : Nat} {q : vw_C} (h : vwCl[ci]? = some q) : (∀ w ∈ u_ws q.1 q.2.1 q.2.2, w ∈ e_big) ∧ (∀ k, k < q.2.2 → parseFieldDescriptor (q.2.1 k).2.2.1 = some (e_tyx ci k)) ∧ (∀ a, a < q.2.2 → ∀ b, b < q.2.2 → a ≠ b → (q.2.1 a).2.1 ≠ (q.2.1 b).2.1) := by
  match ci, h with
  | 0, h => cases h; exact ⟨e_inx0, tyX0_ok, nmX0⟩
  | 1, h => cases h; exact ⟨e_inx1, tyX1_ok, nmX1⟩
  | 2, h => cases h; exact ⟨e_inx2, tyX2_ok, nmX2⟩
  | 3, h => cases h; exact ⟨e_inx3, tyX3_ok, nmX3⟩
  | 4, h => cases h; exact ⟨e_inx4, tyX4_ok, nmX4⟩
  | 5, h => cases h; exact ⟨e_inx5, tyX5_ok, nmX5⟩
  | 6, h => cases h; exact ⟨e_inx6, tyX6_ok, nmX6⟩
  | 7, h => cases h; exact ⟨e_inx7, tyX7_ok, nmX7⟩
  | 8, h => cases h; exact ⟨e_inx8, tyX8_ok, nmX8⟩
  | 9, h => cases h; exact ⟨e_inx9, tyX9_ok, nmX9⟩
  | 10, h => cases h; exact ⟨e_inx10, tyX10_ok, nmX10⟩
  | 11, h => cases h; exact ⟨e_inx11, tyX11_ok, nmX11⟩
  | n + 12, h => simp at h
def e_fv (f : Nat → Int32) (j : Nat) (o : Option Value) : Value := match o with
  | some v => v
  | none => .int (f j)
section EH
variable {G : e_G} {y pc : Nat} {L : List (Option Value)} {st : List Value} {S : e_Sh} {M : e_Me} {k n : Nat} {Q : e_Q}
theorem e_li_slot {f : Nat → Int32} {sl : List (Option Value)} {j : Nat} {o : Option Value} (h : sl[j]? = some o) : (sl.mapIdx (e_sv (e_ad G) f))[j]? = some (e_tr (e_ad G) (e_fv f j o)) := by
  rw [List.getElem?_mapIdx, h]
  cases o <;> rfl
theorem e_x_get {i ci j idx : Nat} {sl : List (Option Value)} {o : Option Value} {q : vw_C} (d : decode (e_cd y) pc = .ok (.getfield idx, 3)) (hq : vwCl[ci]? = some q) (hj : j < q.2.2) (hl : Cond.fieldLink (e_own y) idx (q.2.1 j).1 (q.2.1 j).2.1 (q.2.1 j).2.2.1 ∈ e_big)
    (hi : S[i]? = some (.inr (ci, sl))) (ho : sl[j]? = some o) (kk : e_EX G y (pc + 3) L (e_fv (M i) j o :: st) S M k n Q) : e_EX G y pc L (.ref i :: st) S M k n Q := by
  intro p e s m args below meth c Z H locs ls hC hE hH hS hL
  have K := kk p e s m args below meth c Z H locs ls hC hE hH hS hL
  obtain ⟨h1, h2, h3⟩ := e_cls hq
  exact va_get hC.1 hC.2.1 hC.2.2.2.2.1 h1 hC.2.2.2.2.2.1 hC.2.2.2.2.2.2.2.1.2.1 hH.2.2 i (e_ws_get hi) hq j hj (hC.2.2.2.2.1 _ hl) (fun _ h => h) (e_li_slot ho) d K
theorem e_li_put {f : Nat → Int32} {sl : List (Option Value)} {j : Nat} {x : Int32} {ci : Nat} (h : sl[j]? = some none) : (Sum.inr (ci, (sl.mapIdx (e_sv (e_ad G) f)).set j (.int x)) : va_E) = e_li G (upd f j x) (.inr (ci, sl)) := by
  have hlt := (List.getElem?_eq_some_iff.mp h).1
  simp only [e_li]
  congr 2
  apply List.ext_getElem?
  intro b
  rw [List.getElem?_set, List.getElem?_mapIdx, List.getElem?_mapIdx, List.length_mapIdx]
  by_cases e : j = b
  · subst e
    rw [if_pos rfl, if_pos hlt, h]
    simp [upd, e_sv]
  · rw [if_neg e]
    cases hb : sl[b]? with
    | none => rfl
    | some o =>
      cases o with
      | none =>
        have e2 : ¬ b = j := fun q => e (Eq.symm q)
        simp [e_sv, upd, e2]
      | some v => rfl
theorem e_li_putr {f : Nat → Int32} {sl : List (Option Value)} {j : Nat} {w : Value} {ci : Nat} (h : j < sl.length) : (Sum.inr (ci, (sl.mapIdx (e_sv (e_ad G) f)).set j (e_tr (e_ad G) w)) : va_E) = e_li G f (.inr (ci, sl.set j (some w))) := by
  simp only [e_li]
  congr 2
  apply List.ext_getElem?
  intro b
  rw [List.getElem?_set, List.getElem?_mapIdx, List.getElem?_mapIdx, List.length_mapIdx, List.getElem?_set]
  by_cases e : j = b
  · subst e
    rw [if_pos rfl, if_pos h, if_pos rfl, if_pos h]
    rfl
  · rw [if_neg e, if_neg e]
theorem e_HR_set {H : Heap} {S' : e_Sh} {M' : e_Me} {H1 : Heap} {i : Nat} {e' : e_SE} (hH : e_HR G S M H) (hi : i < S.length) (hS' : S' = S.set i e') (hM : ∀ a, a ≠ i → M' a = M a) (hz : H1.size = H.size) (hP : va_P (e_D G) vwCl ((e_ws G S M).set i (e_ad G i, e_li G (M' i) e')) H1) : e_HR G S' M' H1 := by
  refine ⟨?_, ?_, ?_⟩
  · rw [hz, hH.1, hS', List.length_set]
  · rw [hS', List.length_set]
    exact hH.2.1
  · rw [e_ws_set hi hS' hM]
    exact hP
theorem e_same {i : Nat} {e : e_SE} (h : S[i]? = some e) : S = S.set i e := by
  apply List.ext_getElem?
  intro b
  rw [List.getElem?_set]
  by_cases q : i = b
  · subst q
    rw [if_pos rfl, if_pos (List.getElem?_eq_some_iff.mp h).1, h]
  · rw [if_neg q]
theorem e_x_puti {i ci j idx : Nat} {sl : List (Option Value)} {x : Int32} {q : vw_C} {ty : FieldType} (d : decode (e_cd y) pc = .ok (.putfield idx, 3)) (hq : vwCl[ci]? = some q) (hj : j < q.2.2) (hl : Cond.fieldLink (e_own y) idx (q.2.1 j).1 (q.2.1 j).2.1 (q.2.1 j).2.2.1 ∈ e_big) (hfin : (q.2.1 j).2.2.2 = false)
    (hty : e_tyx ci j = ty) (hn : narrow ty (.int x) = .int x) (hf : fits ty (.int x) = true)
    (hi : S[i]? = some (.inr (ci, sl))) (ho : sl[j]? = some none) (kk : e_EX G y (pc + 3) L st S (e_up M i j x) k n Q) : e_EX G y pc L (.int x :: .ref i :: st) S M k n Q := by
  intro p e s m args below meth c Z H locs ls hC hE hH hS hL
  obtain ⟨h1, h2, h3⟩ := e_cls hq
  have hts := hC.2.2.2.2.1
  have hK := hC.2.2.2.2.2.2.2.1.2.1
  have hD := e_ws_D (M := M) hH.2.1 hC.2.2.2.2.2.2.2.1.1
  have he : (e_ws G S M)[i]? = some (e_ad G i, .inr (ci, sl.mapIdx (e_sv (e_ad G) (M i)))) := e_ws_get (G := G) (M := M) hi
  have hilt := (List.getElem?_eq_some_iff.mp hi).1
  have hlt : j < (sl.mapIdx (e_sv (e_ad G) (M i))).length := by rw [List.length_mapIdx]; exact (List.getElem?_eq_some_iff.mp ho).1
  have hap := va_apart (own := e_own y) hts h1 (e_tyx ci) h2 h3 hK hq
  obtain ⟨r, g1, cell, q1, q2, q3, q4⟩ := hH.2.2 i _ he
  have hr : r = q := Option.some.inj (g1.symm.trans hq)
  subst hr
  obtain ⟨hSl, hfc, kC, hkC, hkind⟩ := hK.1 ci _ hq
  obtain ⟨cf, kf, fi, f, hfi, hsl⟩ := hSl j hj
  have hlay := hts _ (h1 _ (u_in_lay hj))
  unfold u_lay at hlay
  rw [if_neg (by rw [hfin]; decide)] at hlay
  have hst := (u_facts hfc hkC (u_lays hts h1 hj) hfi).1
  have hd : parseFieldDescriptor (r.2.1 j).2.2.1 = some ty := by rw [h2 j hj, hty]
  have h6 := u_store hfc hkC hkind hlay hfi hd hn hf
  refine W.putK hC.1 hC.2.1 (f := f) ⟨hC.2.2.2.2.2.1, hts _ hl, ⟨_, _, _, hfi⟩, hst⟩ (by rw [q2]; exact h6) q1 q3 (by rw [hsl]; exact k2_hasslot (q4 j hj)) rfl rfl d fun H' e1 e2 e3 => ?_
  rw [hsl] at e1 ⊢
  have hP' := hH.2.2.set (e := .inr (ci, (sl.mapIdx (e_sv (e_ad G) (M i))).set j (.int x))) (H1 := H') hD he ⟨_, hq, t_OB.to (V := updV (vp_V _) j (.int x)) ⟨_, e1, q2, q3, t_set q4 hap hj (.int x)⟩ (fun b _ => vp_updV_set hlt (.int x) b)⟩ e3
  refine kk p e s m args below meth c Z H' _ ls hC hE (e_HR_set hH hilt (e_same hi) (fun a ha => e_up_ne ha) e2 ?_) (hS.put e2 e3 (hD.2 i _ he)) hL
  rw [e_up_at, ← e_li_put ho]
  exact hP'
theorem e_x_putr {i ci j idx : Nat} {sl : List (Option Value)} {w : Nat} {q : vw_C} (d : decode (e_cd y) pc = .ok (.putfield idx, 3)) (hq : vwCl[ci]? = some q) (hj : j < q.2.2) (hl : Cond.fieldLink (e_own y) idx (q.2.1 j).1 (q.2.1 j).2.1 (q.2.1 j).2.2.1 ∈ e_big) (hfin : (q.2.1 j).2.2.2 = true)
    (hdecl : (q.2.1 j).1 = e_own y) (hin : (e_nm y).name = "<init>") (hty : (∃ C, e_tyx ci j = .object C) ∨ ∃ t, e_tyx ci j = .array t)
    (hi : S[i]? = some (.inr (ci, sl))) (ho : j < sl.length) (kk : e_EX G y (pc + 3) L st (S.set i (.inr (ci, sl.set j (some (.ref w))))) M k n Q) : e_EX G y pc L (.ref w :: .ref i :: st) S M k n Q := by
  intro p e s m args below meth c Z H locs ls hC hE hH hS hL
  obtain ⟨h1, h2, h3⟩ := e_cls hq
  have hts := hC.2.2.2.2.1
  have hK := hC.2.2.2.2.2.2.2.1.2.1
  have hD := e_ws_D (M := M) hH.2.1 hC.2.2.2.2.2.2.2.1.1
  have he : (e_ws G S M)[i]? = some (e_ad G i, .inr (ci, sl.mapIdx (e_sv (e_ad G) (M i)))) := e_ws_get (G := G) (M := M) hi
  have hilt := (List.getElem?_eq_some_iff.mp hi).1
  have hlt : j < (sl.mapIdx (e_sv (e_ad G) (M i))).length := by rw [List.length_mapIdx]; exact ho
  have hap := va_apart (own := e_own y) hts h1 (e_tyx ci) h2 h3 hK hq
  obtain ⟨r, g1, cell, q1, q2, q3, q4⟩ := hH.2.2 i _ he
  have hr : r = q := Option.some.inj (g1.symm.trans hq)
  subst hr
  obtain ⟨hSl, hfc, kC, hkC, hkind⟩ := hK.1 ci _ hq
  obtain ⟨cf, kf, fi, f, hfi, hsl⟩ := hSl j hj
  have hlay := hts _ (h1 _ (u_in_lay hj))
  unfold u_lay at hlay
  rw [if_pos hfin] at hlay
  have hst := (u_facts hfc hkC (u_lays hts h1 hj) hfi).1
  have hcf : m.cls = cf := by
    obtain ⟨_, _, c', _, _, _, -, -, hf', -, -, -, hown2, -⟩ := Cond.laysFinal_spec hlay
    have e1 : c' = cf := by have := hfi.symm.trans hf'; simp at this; exact this.1.symm
    rw [hdecl] at hown2
    rw [← e1]; exact Option.some.inj (hC.2.2.2.2.2.1.symm.trans hown2)
  have hnf : narrow (e_tyx ci j) (.ref (e_ad G w)) = .ref (e_ad G w) ∧ fits (e_tyx ci j) (.ref (e_ad G w)) = true := by
    rcases hty with ⟨C, h⟩ | ⟨t, h⟩ <;> rw [h] <;> exact ⟨rfl, rfl⟩
  have h6 := u_fits hfc hkC hkind (Or.inr hlay) hfi (h2 j hj) hnf.1 hnf.2
  refine W.putFinK hC.1 hC.2.1 hC.2.2.2.2.2.1 (hts _ hl) hfi hst hcf (hC.2.2.2.2.2.2.2.2 hin) (by rw [q2]; exact h6) q1 q3 (by rw [hsl]; exact k2_hasslot (q4 j hj)) rfl rfl d fun H' e1 e2 e3 => ?_
  rw [hsl] at e1 ⊢
  have hP' := hH.2.2.set (e := .inr (ci, (sl.mapIdx (e_sv (e_ad G) (M i))).set j (.ref (e_ad G w)))) (H1 := H') hD he ⟨_, hq, t_OB.to (V := updV (vp_V _) j (.ref (e_ad G w))) ⟨_, e1, q2, q3, t_set q4 hap hj (.ref (e_ad G w))⟩ (fun b _ => vp_updV_set hlt (.ref (e_ad G w)) b)⟩ e3
  refine kk p e s m args below meth c Z H' _ ls hC hE (e_HR_set hH hilt rfl (fun a ha => rfl) e2 ?_) (hS.put e2 e3 (hD.2 i _ he)) hL
  rw [← e_li_putr (w := .ref w) ho]
  exact hP'
-- arrays
theorem e_x_iald {i N : Nat} {x : Int32} (d : decode (e_cd y) pc = .ok (.iaload, 1)) (hi : S[i]? = some (.inl (0, N, none))) (hx : vp_in x N) (kk : e_EX G y (pc + 1) L (.int (M i x.toNatClampNeg) :: st) S M k n Q) : e_EX G y pc L (.int x :: .ref i :: st) S M k n Q := by
  intro p e s m args below meth c Z H locs ls hC hE hH hS hL
  exact va_iald hC.1 hC.2.1 hC.2.2.2.2.2.2.2.1.2.1 hH.2.2 i 0 (e_ws_get hi) rfl hx d (kk p e s m args below meth c Z H locs ls hC hE hH hS hL)
theorem e_x_zald {i N : Nat} {x : Int32} (d : decode (e_cd y) pc = .ok (.baload, 1)) (hi : S[i]? = some (.inl (1, N, none))) (hx : vp_in x N) (kk : e_EX G y (pc + 1) L (.int (M i x.toNatClampNeg) :: st) S M k n Q) : e_EX G y pc L (.int x :: .ref i :: st) S M k n Q := by
  intro p e s m args below meth c Z H locs ls hC hE hH hS hL
  exact va_zald hC.1 hC.2.1 hC.2.2.2.2.2.2.2.1.2.1 hH.2.2 i 1 (e_ws_get hi) rfl hx d (kk p e s m args below meth c Z H locs ls hC hE hH hS hL)
theorem e_x_rald {i : Nat} {q : Nat × (Nat → Int32)} {x : Int32} (d : decode (e_cd y) pc = .ok (.iaload, 1)) (hi : e_ro G i = some q) (hx : vp_in x q.1) (kk : e_EX G y (pc + 1) L (.int (q.2 x.toNatClampNeg) :: st) S M k n Q) : e_EX G y pc L (.int x :: .ref i :: st) S M k n Q := by
  intro p e s m args below meth c Z H locs ls hC hE hH hS hL
  obtain ⟨cell, h1, h2, h3, h4, h5, h6, h7⟩ := hC.2.2.2.2.2.2.2.1.2.2.2.2.1 i q hi
  have hlt : x.toNatClampNeg < q.1 := Nat.not_le.mp fun g => hx (Or.inr g)
  exact W.iald hC.1 hC.2.1 (by rw [hS.2.1 _ (Array.getElem?_eq_some_iff.mp h1).1 h7]; exact h1) h2 h3 (fun g => g.elim (fun g => hx (Or.inl g)) (fun g => absurd g (by omega))) (h6 _ hlt) rfl rfl d (kk p e s m args below meth c Z H locs ls hC hE hH hS hL)
theorem e_x_ralen {i : Nat} {q : Nat × (Nat → Int32)} (d : decode (e_cd y) pc = .ok (.arraylength, 1)) (hi : e_ro G i = some q) (kk : e_EX G y (pc + 1) L (.int (Int32.ofNat q.1) :: st) S M k n Q) : e_EX G y pc L (.ref i :: st) S M k n Q := by
  intro p e s m args below meth c Z H locs ls hC hE hH hS hL
  obtain ⟨cell, h1, h2, h3, h4, h5, h6, h7⟩ := hC.2.2.2.2.2.2.2.1.2.2.2.2.1 i q hi
  exact W.alen hC.1 hC.2.1 (by rw [hS.2.1 _ (Array.getElem?_eq_some_iff.mp h1).1 h7]; exact h1) h2 h5 rfl rfl d (kk p e s m args below meth c Z H locs ls hC hE hH hS hL)
theorem e_x_alen {i t N : Nat} {o : Option (Nat → Option Nat)} (d : decode (e_cd y) pc = .ok (.arraylength, 1)) (hi : S[i]? = some (.inl (t, N, o))) (ht : t < 4) (kk : e_EX G y (pc + 1) L (.int (Int32.ofNat N) :: st) S M k n Q) : e_EX G y pc L (.ref i :: st) S M k n Q := by
  intro p e s m args below meth c Z H locs ls hC hE hH hS hL
  have hg := e_ws_get (G := G) (M := M) hi
  have hty : ∃ ty, (e_tys G)[t]? = some (e_cy G t, ty) := by
    match t, ht with
    | 0, _ => exact ⟨_, rfl⟩
    | 1, _ => exact ⟨_, rfl⟩
    | 2, _ => exact ⟨_, rfl⟩
    | 3, _ => exact ⟨_, rfl⟩
  obtain ⟨ty, hty⟩ := hty
  cases o with
  | none => exact va_alen hC.1 hC.2.1 hC.2.2.2.2.2.2.2.1.2.1 hH.2.2 i t hg hty rfl d (kk p e s m args below meth c Z H locs ls hC hE hH hS hL)
  | some f => exact va_alen hC.1 hC.2.1 hC.2.2.2.2.2.2.2.1.2.1 hH.2.2 i t hg hty rfl d (kk p e s m args below meth c Z H locs ls hC hE hH hS hL)
theorem e_rf (ad : Nat → Nat) (w : Nat) (o : Option Nat) (h : o = some w) : va_rf (o.map ad) = e_tr ad (.ref w) := by subst h; rfl
theorem e_x_aald {i t N w : Nat} {f : Nat → Option Nat} {x : Int32} (d : decode (e_cd y) pc = .ok (.aaload, 1)) (hi : S[i]? = some (.inl (t, N, some f))) (ht : t = 2 ∨ t = 3) (hx : vp_in x N) (hw : f x.toNatClampNeg = some w) (kk : e_EX G y (pc + 1) L (.ref w :: st) S M k n Q) : e_EX G y pc L (.int x :: .ref i :: st) S M k n Q := by
  intro p e s m args below meth c Z H locs ls hC hE hH hS hL
  have K := kk p e s m args below meth c Z H locs ls hC hE hH hS hL
  have hK := hC.2.2.2.2.2.2.2.1.2.1
  have hg := hH.2.2 i _ (e_ws_get hi)
  have hlt : x.toNatClampNeg < N := Nat.not_le.mp fun q => hx (Or.inr q)
  rcases ht with rfl | rfl
  · exact W.aald (v := va_rf ((f x.toNatClampNeg).map (e_ad G))) (ty := .object "EvenWheel$Row") hC.1 hC.2.1 hg ((hK.2 2 _ rfl).1 N (fun j => va_rf ((f j).map (e_ad G)))) rfl (fun q => by cases q) (by show ¬ (x < 0 ∨ (arrV _ _ _).slots.size ≤ _); rw [arrV_size]; exact hx) (by show (arrV _ _ _).slots[_]? = _; rw [arrV_read _ _ hlt]) rfl rfl d (by rw [e_rf _ _ _ hw]; exact K)
  · exact W.aald (v := va_rf ((f x.toNatClampNeg).map (e_ad G))) (ty := .array .int) hC.1 hC.2.1 hg ((hK.2 3 _ rfl).1 N (fun j => va_rf ((f j).map (e_ad G)))) rfl (fun q => by cases q) (by show ¬ (x < 0 ∨ (arrV _ _ _).slots.size ≤ _); rw [arrV_size]; exact hx) (by show (arrV _ _ _).slots[_]? = _; rw [arrV_read _ _ hlt]) rfl rfl d (by rw [e_rf _ _ _ hw]; exact K)
theorem e_x_iast {i N : Nat} {x v : Int32} (d : decode (e_cd y) pc = .ok (.iastore, 1)) (hi : S[i]? = some (.inl (0, N, none))) (hx : vp_in x N) (kk : e_EX G y (pc + 1) L st S (e_up M i x.toNatClampNeg v) k n Q) : e_EX G y pc L (.int v :: .int x :: .ref i :: st) S M k n Q := by
  intro p e s m args below meth c Z H locs ls hC hE hH hS hL
  have hK := hC.2.2.2.2.2.2.2.1.2.1
  have hD := e_ws_D (M := M) hH.2.1 hC.2.2.2.2.2.2.2.1.1
  have he := e_ws_get (G := G) (M := M) hi
  have hilt := (List.getElem?_eq_some_iff.mp hi).1
  refine W.iast hC.1 hC.2.1 (hH.2.2 i _ he) ((hK.2 0 _ rfl).1 N (fun j => .int (M i j))) (fun q => by cases q) (by show ¬ (x < 0 ∨ (arrV _ _ _).slots.size ≤ _); rw [arrV_size]; exact hx) rfl rfl d fun H1 e1 z oq => ?_
  refine kk p e s m args below meth c Z H1 _ ls hC hE (e_HR_set hH hilt (e_same hi) (fun a ha => e_up_ne ha) z (hH.2.2.set hD he ?_ oq)) (hS.put z oq (hD.2 i _ he)) hL
  show H1[e_ad G i]? = some (vp_cell (e_cy G 0) (N, .inl (e_up M i x.toNatClampNeg v i)))
  rw [e1, e_up_at]
  show some ((vp_cell (e_cy G 0) (N, .inl (M i))).setSlot _ _) = _
  rw [vp_cell_i, vp_cell_i, arrV_store]
  congr 2
  funext q
  by_cases hq : q = x.toNatClampNeg
  · subst hq
    simp [updV, upd]
  · simp [updV, upd, hq]
theorem e_x_zast {i N : Nat} {x v : Int32} (d : decode (e_cd y) pc = .ok (.bastore, 1)) (hi : S[i]? = some (.inl (1, N, none))) (hx : vp_in x N) (kk : e_EX G y (pc + 1) L st S (e_up M i x.toNatClampNeg (v &&& 1)) k n Q) : e_EX G y pc L (.int v :: .int x :: .ref i :: st) S M k n Q := by
  intro p e s m args below meth c Z H locs ls hC hE hH hS hL
  have hK := hC.2.2.2.2.2.2.2.1.2.1
  have hD := e_ws_D (M := M) hH.2.1 hC.2.2.2.2.2.2.2.1.1
  have he := e_ws_get (G := G) (M := M) hi
  have hilt := (List.getElem?_eq_some_iff.mp hi).1
  refine W.zast hC.1 hC.2.1 (hH.2.2 i _ he) ((hK.2 1 _ rfl).1 N (fun j => .int (M i j))) (fun q => by cases q) (by show ¬ (x < 0 ∨ (arrV _ _ _).slots.size ≤ _); rw [arrV_size]; exact hx) rfl rfl d fun H1 e1 z oq => ?_
  refine kk p e s m args below meth c Z H1 _ ls hC hE (e_HR_set hH hilt (e_same hi) (fun a ha => e_up_ne ha) z (hH.2.2.set hD he ?_ oq)) (hS.put z oq (hD.2 i _ he)) hL
  show H1[e_ad G i]? = some (vp_cell (e_cy G 1) (N, .inl (e_up M i x.toNatClampNeg (v &&& 1) i)))
  rw [e1, e_up_at]
  show some ((vp_cell (e_cy G 1) (N, .inl (M i))).setSlot _ _) = _
  rw [vp_cell_i, vp_cell_i, arrV_store]
  congr 2
  funext q
  by_cases hq : q = x.toNatClampNeg
  · subst hq
    simp [updV, upd, narrow]
  · simp [updV, upd, hq]
theorem e_x_gets {idx i : Nat} {q : String × String} (d : decode (e_cd y) pc = .ok (.getstatic idx, 3)) (hq : e_st i = some q) (hl : Cond.fieldLink (e_own y) idx q.1 q.2 "[I" ∈ e_big) (kk : e_EX G y (pc + 3) L (.ref i :: st) S M k n Q) : e_EX G y pc L st S M k n Q := by
  intro p e s m args below meth c Z H locs ls hC hE hH hS hL
  exact va_gets hC.1 hC.2.1 (hC.2.2.2.2.2.2.2.1.2.2.2.1 i q hq) hS hC.2.2.2.2.2.1 (hC.2.2.2.2.1 _ hl) (fun _ h => h) d (kk p e s m args below meth c Z H locs ls hC hE hH hS hL)
end EH
