/-! what was still open: switches, a copy -/
theorem e_swk_of {x : Int32} {K : Nat → Prop} {d : Nat} : ∀ {l : List (Int32 × Nat)}, e_swk x K d l → (∃ (j : Nat) (p : Int32 × Nat), l[j]? = some p ∧ x = p.1 ∧ K p.2) ∨ ((∀ (j : Nat) (p : Int32 × Nat), l[j]? = some p → x ≠ p.1) ∧ K d) := by
  intro l
  induction l with
  | nil => intro h; exact Or.inr ⟨fun j p hp => by simp at hp, h⟩
  | cons q l ih =>
    intro h
    obtain ⟨a, t⟩ := q
    simp only [e_swk] at h
    split at h
    · rename_i hx
      exact Or.inl ⟨0, (a, t), rfl, hx, h⟩
    · rename_i hx
      rcases ih h with ⟨j, p, h1, h2, h3⟩ | ⟨h1, h2⟩
      · exact Or.inl ⟨j + 1, p, by simpa using h1, h2, h3⟩
      · refine Or.inr ⟨fun j p hp => ?_, h2⟩
        match j, hp with
        | 0, hp => simp at hp; subst hp; exact hx
        | j + 1, hp => exact h1 j p (by simpa using hp)
section EO
variable {G : e_G} {y pc : Nat} {L : List (Option Value)} {st : List Value} {S : e_Sh} {M : e_Me} {k n : Nat} {Q : e_Q} {C : Nat → List Value → e_Sh → e_Me → e_R → Prop} {K : e_K} {a b c : Nat} {v : Int32} {i : Instr} {len : Nat}
theorem e_swx {l : List (Int32 × Nat)} {d : Nat} {x : Int32} (hd : decode (e_cd y) pc = .ok (i, len)) (ok : e_swok pc l d i = true) (hK : ∀ pc, K pc L st S M k n → e_EX G y pc L st S M k n Q) (h : e_swk x (fun t => K t L st S M k n) d l) : e_EX G y pc L (.int x :: st) S M k n Q := by
  unfold e_swok at ok
  split at ok
  · rename_i df lo hi offs
    simp only [Bool.and_eq_true, decide_eq_true_eq, List.all_eq_true, List.mem_range] at ok
    obtain ⟨⟨⟨⟨o1, o2⟩, o3⟩, o4⟩, o5⟩ := ok
    rcases e_swk_of h with ⟨j, p, h1, h2, h3⟩ | ⟨h1, h2⟩
    · have hj : j < l.length := (List.getElem?_eq_some_iff.mp h1).1
      have hb := o5 j hj
      rw [h1, Array.getElem?_eq_getElem (by omega)] at hb
      simp only [Bool.and_eq_true, decide_eq_true_eq] at hb
      have e : (x.toInt - lo).toNat = j := by rw [h2, hb.1]; omega
      refine e_x_sw hd (Or.inr ⟨by rw [h2, hb.1]; omega, by rw [h2, hb.1]; omega, offs[j]'(by omega), ?_, hb.2⟩) (hK _ h3)
      rw [e, Array.getElem?_eq_getElem (by omega)]
    · refine e_x_sw hd (Or.inl ⟨?_, o1⟩) (hK _ h2)
      rcases Int.lt_or_le x.toInt lo with g | g
      · exact Or.inl g
      · rcases Int.lt_or_le hi x.toInt with g2 | g2
        · exact Or.inr g2
        · exfalso
          have hj : (x.toInt - lo).toNat < l.length := by omega
          have hb := o5 _ hj
          have hl := List.getElem?_eq_getElem hj
          rw [hl, Array.getElem?_eq_getElem (by omega)] at hb
          simp only [Bool.and_eq_true, decide_eq_true_eq] at hb
          refine h1 _ _ hl (Int32.toInt_inj.mp ?_)
          rw [hb.1]
          omega
  · rename_i df ps
    simp only [Bool.and_eq_true, decide_eq_true_eq] at ok
    obtain ⟨⟨⟨o1, o2⟩, o3⟩, o4⟩ := ok
    have key : ∀ (ps : List (Int × Int)) (l : List (Int32 × Nat)), l.length = ps.length → ((List.range l.length).all (fun j => match l[j]?, ps[j]? with
        | some (x, t), some (u, o) => decide (x.toInt = u) && decide ((pc : Int) + o = (t : Int))
        | _, _ => false)) = true → e_swk x (fun t => K t L st S M k n) d l → ∃ t, K t L st S M k n ∧ (pc : Int) + Op.lookupswitch.offset ps df x.toInt = (t : Int) := by
      intro ps
      induction ps with
      | nil =>
        intro l hl _ h
        have : l = [] := List.eq_nil_of_length_eq_zero (by simpa using hl)
        subst this
        exact ⟨d, h, o1⟩
      | cons p ps ih =>
        intro l hl ha h
        match l, hl, ha, h with
        | (z, t) :: l, hl, ha, h =>
          obtain ⟨u, o⟩ := p
          simp only [List.all_eq_true, List.mem_range] at ha
          have h0 := ha 0 (by simp)
          simp only [List.getElem?_cons_zero, Bool.and_eq_true, decide_eq_true_eq] at h0
          have hr : ((List.range l.length).all (fun j => match l[j]?, ps[j]? with
              | some (x, t), some (u, o) => decide (x.toInt = u) && decide ((pc : Int) + o = (t : Int))
              | _, _ => false)) = true := by
            rw [List.all_eq_true]
            intro j hj
            have := ha (j + 1) (by simp at hj ⊢; omega)
            simpa using this
          simp only [e_swk] at h
          rw [Op.lookupswitch.offset_cons]
          split at h
          · rename_i hx
            rw [if_pos (by rw [hx, h0.1])]
            exact ⟨t, h, h0.2⟩
          · rename_i hx
            rw [if_neg (fun q => hx (Int32.toInt_inj.mp (by rw [h0.1]; exact q.symm)))]
            exact ih l (by simpa using hl) hr h
    obtain ⟨t, h1, h2⟩ := key ps.toList l o3 o4 h
    exact e_x_lk hd o2 rfl h2 (hK _ h1)
  · cases ok
theorem e_s47x : e_So G y pc C K Q 47 a b c v i len L st S M k n := by
  intro d ok hK _ h
  simp only [e_okB] at ok
  split at ok
  · rename_i q hq
    simp only [e_step, hq] at h
    split at h
    · exact e_swx d ok (fun pc => hK pc _ _ _ _ _ _) h
    · exact h.elim
  · cases ok
theorem e_s48x : e_So G y pc C K Q 48 a b c v i len L st S M k n := by
  intro d ok hK _ h
  simp only [e_okB] at ok
  split at ok
  · rename_i q hq
    simp only [e_step, hq] at h
    split at h
    · exact e_swx d ok (fun pc => hK pc _ _ _ _ _ _) h
    · exact h.elim
  · cases ok
theorem e_x_copyx {idx i j N : Nat} {x : Int32} (d : decode (e_cd y) pc = .ok (.invokestatic idx, 3)) (hl : Cond.methodLink (e_own y) idx arraycopyName ∈ e_big) (h1 : Cond.native arraycopyName ∈ e_big) (h2 : Cond.static arraycopyName ∈ e_big) (h3 : Cond.initialized "java/lang/System" ∈ e_big)
    (hf : 1 ≤ (e_rm y).frames) (hlo : 60 ≤ (e_rm y).locals) (hi : S[i]? = some (.inl (0, N, none))) (hj : S[j]? = some (.inl (0, N, none))) (hx : ¬ x < 0) (hxN : x.toNatClampNeg ≤ N) (hst : (st.map fun v => v.category).sum ≤ 8)
    (kk : e_EX G y (pc + 3) L st S (e_row M j (fun b => if b < x.toNatClampNeg then M i b else M j b)) k n Q) : e_EX G y pc L (.int x :: .int 0 :: .ref j :: .int 0 :: .ref i :: st) S M k n Q := by
  intro p e s m args below meth c Z H locs ls hC hE hH hS hL
  have hts := hC.2.2.2.2.1
  have hV := hC.2.2.2.2.2.2.2.1
  have hK := hV.2.1
  have hD := e_ws_D (M := M) hH.2.1 hV.1
  have hilt := (List.getElem?_eq_some_iff.mp hj).1
  have nn : ∀ z : Int32, ¬ z < 0 → z.toInt = (z.toNatClampNeg : Int) := by
    intro z hz
    have hz0 : (0 : Int) ≤ z.toInt := by
      have := Int32.not_lt.mp hz
      simpa using Int32.le_iff_toInt_le.mp this
    show z.toInt = ((z.toInt.toNat : Nat) : Int)
    omega
  have z0 : (0 : Int32).toNatClampNeg = 0 := by decide
  intro T hT X
  have hc0 : H[e_ad G i]? = some (vp_cell (e_cy G 0) (N, .inl (M i))) := hH.2.2 i _ (e_ws_get hi)
  have hc1 : H[e_ad G j]? = some (vp_cell (e_cy G 0) (N, .inl (M j))) := hH.2.2 j _ (e_ws_get hj)
  obtain ⟨-, k0, hk0, cm0, hkk0⟩ := (hK.2 0 _ rfl).1 N (fun b => .int (M i b))
  have hcat := e_hcat (G := G) (st := st) (ls := ls) (m := m) (pcx := pc) (g := []) hst
  obtain ⟨vm', X', step⟩ := X.arraycopy hC.1 hC.2.2.2.2.2.1 (hts _ hl) (hts _ h1) (hts _ h2) (hts _ h3) (src := e_ad G i) (dst := e_ad G j) (cs := vp_cell (e_cy G 0) (N, .inl (M i))) (cd := vp_cell (e_cy G 0) (N, .inl (M j))) (srcPos := 0) (destPos := 0) (n := x) (by rw [hT]; exact hc0) (by rw [hT]; exact hc1)
    (fun _ h => by cases h) (fun _ h => by cases h) (fun h => by cases h) (fun h => by cases h) hk0 hk0 hkk0 hkk0 (by simp [refKind]) (by decide) (by decide) hx
    (by rw [nn x hx]; show ¬ ((0 : Int32).toInt + _) > ((arrV (e_cy G 0) N (fun b => .int (M i b))).slots.size : Int); rw [arrV_size]; have : (0 : Int32).toInt = 0 := by decide
        omega)
    (by rw [nn x hx]; show ¬ ((0 : Int32).toInt + _) > ((arrV (e_cy G 0) N (fun b => .int (M j b))).slots.size : Int); rw [arrV_size]; have : (0 : Int32).toInt = 0 := by decide
        omega)
    (fun vm₁ _ b hb => by
      have ee : (vp_cell (e_cy G 0) (N, .inl (M i))).slots.getD ((0 : Int32).toNatClampNeg + b) .null = .int (M i ((0 : Int32).toNatClampNeg + b)) := by
        show (arrV (e_cy G 0) N (fun b => .int (M i b))).slots.getD _ _ = _
        rw [Array.getD_eq_getD_getElem?, arrV_read _ _ (by rw [z0]; omega)]
        rfl
      refine ⟨?_, ?_⟩
      · rw [ee]
        rfl
      · rw [ee]
        exact trivial)
    (g := F0 m pc ls ((.int x :: .int 0 :: .ref j :: .int 0 :: .ref i :: st).map (e_tr (e_ad G)))) rfl (by rw [hC.2.2.2.1]; exact hL.1) (rest := st.map (e_tr (e_ad G))) rfl (by rw [hC.2.1]; exact d) hf (by
      have hw : nativeFrameWords "java/lang/System" "arraycopy" 5 + 11 ≤ 50 := by decide +kernel
      have hc2 : 2 * 0 + ((st.map (e_tr (e_ad G))).map fun v => v.category).sum ≤ 8 := hcat
      show 2 * 0 + _ + _ ≤ _
      omega)
  have e1 : copied (vp_cell (e_cy G 0) (N, .inl (M i))) (vp_cell (e_cy G 0) (N, .inl (M j))) 0 0 x = vp_cell (e_cy G 0) (N, .inl (va_cpy (M i) (M j) (0 : Int32).toNatClampNeg (0 : Int32).toNatClampNeg x.toNatClampNeg)) := va_copied (fun z => .int z) (e_cy G 0) (e_cy G 0) (M i) (M j) (by rw [z0]; omega)
  have e2 : va_cpy (M i) (M j) (0 : Int32).toNatClampNeg (0 : Int32).toNatClampNeg x.toNatClampNeg = fun b => if b < x.toNatClampNeg then M i b else M j b := by
    funext b
    simp [va_cpy, z0]
  rw [e2] at e1
  rw [e1] at X' step
  have hlt : e_ad G j < H.size := (Array.getElem?_eq_some_iff.mp hc1).1
  generalize hcell : vp_cell (e_cy G 0) (N, .inl (fun b => if b < x.toNatClampNeg then M i b else M j b)) = cell at X' step
  have hheap : ((T.setVm vm').setCell (e_ad G j) cell).heap = H.setIfInBounds (e_ad G j) cell := by rw [← hT]; rfl
  have oq : ∀ q : Nat, q ≠ e_ad G j → (H.setIfInBounds (e_ad G j) cell)[q]? = H[q]? := fun q hq => by simp [Array.getElem?_setIfInBounds, Ne.symm hq]
  have hHR : e_HR G S (e_row M j (fun b => if b < x.toNatClampNeg then M i b else M j b)) (H.setIfInBounds (e_ad G j) cell) := by
    refine e_HR_set hH hilt (e_same hj) (fun a ha => e_row_ne ha) (by simp) (hH.2.2.set hD (e_ws_get hj) ?_ oq)
    show (H.setIfInBounds (e_ad G j) cell)[e_ad G j]? = some (vp_cell (e_cy G 0) (N, .inl (e_row M j (fun b => if b < x.toNatClampNeg then M i b else M j b) j)))
    rw [e_row_at, hcell]
    simp [Array.getElem?_setIfInBounds, hlt]
  have hjA : e_A G (e_ad G j) := hD.2 j _ (e_ws_get hj)
  obtain ⟨t, a1, b1⟩ := kk p e s m args below meth c Z (H.setIfInBounds (e_ad G j) cell) _ ls hC hE hHR ⟨by simp; exact hS.1, fun q g1 g2 => by
      rw [oq q (fun e => g2 (by rw [e]; exact hjA))]
      exact hS.2.1 q g1 g2, fun q hq => by
      rcases List.mem_append.mp hq with h | h
      · exact hS.2.2 q h
      · obtain ⟨z, -, hz⟩ := List.mem_map.mp h
        rw [← hz]
        exact hjA⟩ hL _ hheap X'
  exact ⟨t, step t a1, b1⟩
end EO
