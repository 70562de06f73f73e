/-! the law as a run of the small machine, and the claim -/
theorem whole_start {p : Program} {e : Env} {s : State} {m : MethodId} {below : List Frame} {meth : Method} {c : Code} (l : Launch) (hflags : l.flags = flags0) {b L : Nat} {xs : Nat → Int32} (hL : L ≤ 3072) (C0 : lw_At p s m meth c b L xs) : W p l e room_1 s m #[Value.ref b] below meth c s.heap [] 0 0 (lw_Z below #[Value.ref b] s) (entryFrame m ([Value.ref b] : List Value).toArray 4) := by
  obtain ⟨hx, hb, hr, hml, hown, hts, hX, hbl, hlocks, hgv⟩ := id C0
  obtain ⟨G, g1, g2, g3, g4, g5, hV⟩ := e_Vm_ex l hL hts hX hbl hgv
  have K := e_law_run (G := G) (by rw [g3]; exact hL) p e s m #[Value.ref b] below meth c (lw_Z below #[Value.ref b] s) s.heap []
  rw [lg_entry_eq]
  have hlr : e_lr G ((lg_sl ([Value.ref b] : List Value) ++ List.replicate (4 - (lg_sl ([Value.ref b] : List Value)).length) Slot.unset).toArray) (e_mlx 268) [some (.ref 1000), none, none, none] := by
    obtain ⟨a1, a2, a3⟩ := lv_entry ([Value.ref b] : List Value) (n := 4) (Nat.le_of_ble_eq_true rfl)
    refine ⟨a1.trans rfl, a2, fun i v hi => ?_⟩
    match i, hi with
    | 0, hi =>
      cases hi
      show _ = some (Slot.val (Value.ref (e_ad G 1000)))
      rw [g5]
      exact a3 (0, .ref b) List.mem_cons_self
    | 1, hi => cases hi
    | 2, hi => cases hi
    | 3, hi => cases hi
    | i + 4, hi => simp at hi
  rw [g1] at K
  refine K _ ⟨hx, hb, hr, hml, fun w hw => hts w (e_big_in hw), hown, hlocks, hV, fun h => absurd h (by decide +kernel)⟩ ?_ ⟨by rw [g2]; rfl, Nat.zero_le _, fun k q h => by simp [e_ws] at h⟩ va_S.rf hlr
  intro r S M k n H locs pc ls i hQ hH hS d hret
  obtain ⟨rfl, hk, hn⟩ := hQ
  have hi : i = .ireturn := by
    unfold e_ret at hret
    split at hret
    · rename_i h; cases h
    · rfl
    · rename_i h; cases h
    · rename_i h; cases h
    · exact hret.elim
  subst hi
  rw [g1]
  refine va_forget (fun q hq => by rw [← g2]; exact hS.2.2 q hq) ?_
  refine W.widen hk hn ?_
  exact lw_ret hx hb hr hlocks d
