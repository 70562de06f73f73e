/-! a run of the small machine that ends as wished is a run of the machine that does -/
theorem e_lookup_mem {α : Type} {l : List (Nat × α)} {a : Nat} {b : α} (h : l.lookup a = some b) : (a, b) ∈ l := by
  induction l with
  | nil => cases h
  | cons p l ih =>
    obtain ⟨c, d⟩ := p
    rw [List.lookup_cons] at h
    split at h
    · rename_i hc
      cases h
      rw [eq_of_beq hc]
      exact List.mem_cons_self
    · exact List.mem_cons_of_mem _ (ih h)
theorem e_inl_len : (List.range 269).all (fun y => decide ((e_ins.getD y []).length = (e_pgs.getD y []).length)) = true := by decide +kernel
theorem e_fetch_ok {y pc : Nat} {P : e_PI} (h : e_fetch y pc = some P) : ∃ i len, decode (e_cd y) pc = .ok (i, len) ∧ e_okB y pc P.1 P.2.1 P.2.2.1 P.2.2.2.1 P.2.2.2.2 i len = true := by
  have hm := e_lookup_mem h
  obtain ⟨j, hj⟩ := List.getElem?_of_mem hm
  have hy : y < 269 := by
    rcases Nat.lt_or_ge y 269 with h | h
    · exact h
    · exfalso
      have hl : e_pgs.length = 269 := by decide +kernel
      have : e_pgs.getD y [] = [] := by
        rw [List.getD_eq_getElem?_getD, List.getElem?_eq_none (by omega)]
        rfl
      rw [this] at hm
      cases hm
  have hlen := of_decide_eq_true (List.all_eq_true.mp e_inl_len y (List.mem_range.mpr hy))
  have hjl : j < (e_ins.getD y []).length := by
    have := (List.getElem?_eq_some_iff.mp hj).1
    omega
  have hz : ((e_pgs.getD y []).zip (e_ins.getD y []))[j]? = some ((pc, P), (e_ins.getD y [])[j]) := by
    rw [List.getElem?_zip_eq_some]
    exact ⟨hj, List.getElem?_eq_getElem hjl⟩
  have hb := e_pm_all hy j _ hz
  simp only [e_insB, Bool.and_eq_true, decide_eq_true_eq] at hb
  exact ⟨_, _, hb.1.2, hb.2⟩
theorem e_EX_mono {G : e_G} {y pc : Nat} {L : List (Option Value)} {st : List Value} {S : e_Sh} {M : e_Me} {k n : Nat} {Q Q' : e_Q} (h : e_EX G y pc L st S M k n Q) (hq : ∀ r S M k n, Q r S M k n → Q' r S M k n) : e_EX G y pc L st S M k n Q' :=
  fun p e s m args below meth c Z H locs ls hC hE => h p e s m args below meth c Z H locs ls hC (fun r S M k n H locs pc ls i hQ => hE r S M k n H locs pc ls i (hq _ _ _ _ _ hQ))
theorem e_CA_mono {G : e_G} {z : Nat} {as : List Value} {S : e_Sh} {M : e_Me} {R R' : e_R} (h : e_CA G z as S M R) (hq : ∀ r S M, R r S M → R' r S M) : e_CA G z as S M R' := by
  intro p e ha hc hk s m args below hf happ hP hK
  obtain ⟨n, o, h1, h2, h3, h4⟩ := h p e ha hc hk s m args below hf happ hP hK
  obtain ⟨⟨⟨r, S', M', a1, a2, a3⟩, h5⟩, h6⟩ := h4
  exact ⟨n, o, h1, h2, h3, ⟨⟨⟨r, S', M', a1, hq _ _ _ a2, a3⟩, h5⟩, h6⟩⟩
theorem e_wp_ok {G : e_G} {inl : Nat → Bool} {sp : Nat → Nat → Bool} : ∀ (f y pc : Nat) (L : List (Option Value)) (st : List Value) (S : e_Sh) (M : e_Me) (k n : Nat) (Q : e_Q), e_wp G inl sp f y pc L st S M k n Q → e_EX G y pc L st S M k n Q := by
  intro f
  induction f with
  | zero => intro y pc L st S M k n Q h; exact h
  | succ f ih =>
    intro y pc L st S M k n Q h
    simp only [e_wp] at h
    split at h
    · rename_i P hP
      obtain ⟨i, len, hd, hok⟩ := e_fetch_ok hP
      refine e_s_all hd hok (fun pc L st S M k n h => ?_) (fun z as S M R R' hR h => ?_) h
      · split at h
        · exact h
        · exact ih _ _ _ _ _ _ _ _ _ h
      · split at h
        · obtain ⟨h1, h2, h3⟩ := h
          exact e_CA_of h1 h2 (e_EX_mono (ih _ _ _ _ _ _ _ _ _ h3) (fun r S M k n q => ⟨q.1, q.2.1, hR _ _ _ q.2.2⟩))
        · exact e_CA_mono h hR
    · exact h.elim
