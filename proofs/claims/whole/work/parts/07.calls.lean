/-! calls, ends, and what is made -/
theorem e_good {w : Cond} (h : w ∈ e_big) : (w.onTables && w.keeps) = true ∨ ∃ ty, w = .arrayClass ty := good_of_word (List.mem_filter.mp h).2
theorem e_goodin {ws : List Cond} (h : ∀ w ∈ ws, w ∈ e_big) : GoodIn e_big ws := fun w hw => ⟨h w hw, e_good (h w hw)⟩
theorem e_wl_in {z : Nat} (h : z < 268) : ∀ w ∈ e_wl z, w ∈ e_big := by
  intro w hw
  rcases List.mem_cons.mp hw with rfl | hw
  · exact (e_mok_f h).1
  · exact hw
section EC
variable {G : e_G} {y pc : Nat} {L : List (Option Value)} {st : List Value} {S : e_Sh} {M : e_Me} {k n : Nat} {Q : e_Q}
theorem e_blind {as : List Value} : FrameBlind (va_Pc (as.map (e_tr (e_ad G))) (fun U => e_HR G S M U.heap ∧ e_Vm G U)) := by
  intro a U g mk h
  exact ⟨h.1, h.2.1, e_Vm_of (s := U) (U := U.calling g mk a) (State.WarmedH.refl U) (Nat.le_refl _) (fun _ _ _ => rfl) h.2.2⟩
theorem e_Pc_at {as : List Value} {s : State} {H : Heap} {locs : List Loc} {av : Array Value} (hav : av = (as.map (e_tr (e_ad G))).toArray) (hV : e_Vm G s) (hH : e_HR G S M H) (hS : va_S (e_A G) s.heap H locs) : ∀ U : State, U.heap = H → s.WarmedH U.vm → va_Pc (as.map (e_tr (e_ad G))) (fun U => e_HR G S M U.heap ∧ e_Vm G U) av U := by
  intro U hU hW
  refine ⟨hav, by rw [hU]; exact hH, e_Vm_of hW (by rw [hU]; exact hS.1) (fun q h1 h2 => ?_) hV⟩
  rw [hU]
  exact hS.2.1 q h1 h2
/-- behind a call -/
theorem e_after {z : Nat} {av : Array Value} {p : Program} {e : Env} {R : Room} {s : State} {m : MethodId} {args : Array Value} {below : List Frame} {meth : Method} {c : Code} {H : Heap} {locs : List Loc} {ls : Array Slot} {cells slots mc ms : Nat} {st0 rest : List Value} {Z : State → Prop} {Qr : e_R}
    (hr : va_Run p (e_l G) e R s m args below meth c H locs cells slots mc ms (F0 m pc ls st0) (rest.map (e_tr (e_ad G))) (e_Qc G Qr av) (e_A G)) (hS : va_S (e_A G) s.heap H locs)
    (kk : ∀ (r : Option Value) (S' : e_Sh) (M' : e_Me) (H1 : Heap) (locs1 : List Loc), Qr r S' M' → e_HR G S' M' H1 → va_S (e_A G) s.heap H1 locs1 → W p (e_l G) e R s m args below meth c H1 locs1 (cells + mc) (slots + ms) Z (F0 m (pc + 3) ls ((r.toList ++ rest).map (e_tr (e_ad G))))) :
    W p (e_l G) e R s m args below meth c H locs cells slots Z (F0 m pc ls st0) := by
  intro T hT X
  obtain ⟨v, st₀, t, T', L, h0, X', hL, e1, e2, ⟨⟨r, S', M', hv, hq, hH'⟩, hz, hk⟩, st⟩ := hr T hT X
  cases hv
  rw [h0] at hz hk
  have K := kk r S' M' T'.heap (locs ++ L) hq (by rw [e1]; exact hH') ⟨Nat.le_trans hS.1 (by rw [e1]; exact hz), fun q h1 h2 => by rw [e1, hk q (Nat.lt_of_lt_of_le h1 hS.1) h2]; exact hS.2.1 q h1 h2, fun q hq => by
      rcases List.mem_append.mp hq with h | h
      · exact hS.2.2 q h
      · exact hL q h⟩ T' rfl X'
  obtain ⟨t2, a1, b1⟩ := K
  refine ⟨t2, st t2 ?_, b1⟩
  have ee : (r.map (e_tr (e_ad G))).toList ++ rest.map (e_tr (e_ad G)) = (r.toList ++ rest).map (e_tr (e_ad G)) := by cases r <;> simp
  rw [ee]
  exact a1
theorem e_recv {s : State} {H : Heap} {i ci : Nat} {sl : List (Option Value)} {q : vw_C} (hV : e_Vm G s) (hH : e_HR G S M H) (hi : S[i]? = some (.inr (ci, sl))) (hq : vwCl[ci]? = some q) : ∃ cell : Cell, H[e_ad G i]? = some cell ∧ cell.vm.isStatics = false ∧ s.vm.findClass q.1 = some cell.cls :=
  va_recv hV.2.1 hH.2.2 hq (e_ws_get (G := G) (M := M) hi)
/-- room for a callee -/
def e_fit (y z : Nat) : Bool := decide ((e_rm z).frames + 1 ≤ (e_rm y).frames) && decide (8 + (e_mlx z + 11) + (e_rm z).locals ≤ (e_rm y).locals)
theorem e_fit_of {y z : Nat} (h : e_fit y z = true) : (e_rm z).frames + 1 ≤ (e_rm y).frames ∧ 8 + (e_mlx z + 11) + (e_rm z).locals ≤ (e_rm y).locals := by
  simpa [e_fit] using h
theorem e_mapapp (ad : Nat → Nat) (as rest : List Value) : (as.reverse ++ rest).map (e_tr ad) = (as.map (e_tr ad)).reverse ++ rest.map (e_tr ad) := by simp
theorem e_x_callV {z idx i ci : Nat} {sl : List (Option Value)} {as : List Value} {q : vw_C} (hz : z < 268) (d : decode (e_cd y) pc = .ok (.invokevirtual idx, 3)) (hl : Cond.methodLink (e_own y) idx (e_nm z) ∈ e_big) (hkd : e_kd z = 0) (hfit : e_fit y z = true) (hn : as.length = e_np z) (hi : S[i]? = some (.inr (ci, sl))) (hq : vwCl[ci]? = some q) (hqc : q.1 = (e_nm z).cls)
    (hW : (st.map fun v => v.category).sum ≤ 8) (hm : k + e_mc z ≤ e_mc y ∧ n + e_ms z ≤ e_ms y)
    (kk : e_CA G z (.ref i :: as) S M (fun r S' M' => e_EX G y (pc + 3) L (r.toList ++ st) S' M' (k + e_mc z) (n + e_ms z) Q)) : e_EX G y pc L (as.reverse ++ .ref i :: st) S M k n Q := by
  intro p e s m args below meth c Z H locs ls hC hE hH hS hL
  obtain ⟨f1, f2, f3, f4, f5, f6, f7, f8, f9⟩ := e_mok_f hz
  rw [if_neg (by rw [hkd]; decide)] at f2
  have hts := hC.2.2.2.2.1
  have hV := hC.2.2.2.2.2.2.2.1
  have hrv := e_recv (M := M) hV hH hi hq
  rw [hqc] at hrv
  have hG : GoodIn e_big (wsV (e_own y) idx (e_nm z).cls (e_nm z) (e_wl z)) := e_goodin (by
    intro w hw
    rcases List.mem_append.mp hw with hw | hw
    · simp only [List.mem_cons, List.not_mem_nil, or_false] at hw
      rcases hw with rfl | rfl | rfl | rfl
      · exact hl
      · exact f2
      · exact f3 hkd
      · exact f4
    · exact e_wl_in hz w hw)
  have hcat : 2 * (F0 m pc ls ((as.reverse ++ .ref i :: st).map (e_tr (e_ad G)))).monitorRoom + ((st.map (e_tr (e_ad G))).map fun v => v.category).sum ≤ 8 := by
    have : ((st.map (e_tr (e_ad G))).map fun v => v.category) = st.map fun v => v.category := by
      rw [List.map_map]; apply List.map_congr_left; intro a _; exact e_tr_cat _ a
    rw [this]
    show 2 * 0 + _ ≤ 8
    omega
  refine e_after (z := z) (va_runV (As := as.map (e_tr (e_ad G))) (rest := st.map (e_tr (e_ad G))) (b := e_ad G i) ⟨hC.1, hC.2.1, hC.2.2.2.1, hC.2.2.2.2.2.1, hts⟩ kk (cwV (e_np z) hts hG rfl rfl rfl ⟨rfl, f7, f8, f5⟩ (e_fit_of hfit)) ⟨e_blind, hrv, e_Pc_at (as := .ref i :: as) (by simp [e_tr]) hV hH hS⟩ rfl (by simpa using hn) (hL.1) (by rw [e_mapapp]; rfl) hcat d hm) hS ?_
  intro r S' M' H1 locs1 hK hH' hS'
  exact hK p e s m args below meth c Z H1 locs1 ls hC hE hH' hS' hL
theorem e_hcat {ls : Array Slot} {m : MethodId} {pcx : Nat} {g : List Value} (h : (st.map fun v => v.category).sum ≤ 8) : 2 * (F0 m pcx ls g).monitorRoom + ((st.map (e_tr (e_ad G))).map fun v => v.category).sum ≤ 8 := by
  have : ((st.map (e_tr (e_ad G))).map fun v => v.category) = st.map fun v => v.category := by
    rw [List.map_map]; apply List.map_congr_left; intro a _; exact e_tr_cat _ a
  rw [this]
  show 2 * 0 + _ ≤ 8
  omega
theorem e_x_callS {z idx : Nat} {as : List Value} (hz : z < 268) (d : decode (e_cd y) pc = .ok (.invokestatic idx, 3)) (hl : Cond.methodLink (e_own y) idx (e_nm z) ∈ e_big) (hkd : e_kd z = 1) (hfit : e_fit y z = true) (hn : as.length = e_np z)
    (hW : (st.map fun v => v.category).sum ≤ 8) (hm : k + e_mc z ≤ e_mc y ∧ n + e_ms z ≤ e_ms y)
    (kk : e_CA G z as S M (fun r S' M' => e_EX G y (pc + 3) L (r.toList ++ st) S' M' (k + e_mc z) (n + e_ms z) Q)) : e_EX G y pc L (as.reverse ++ st) S M k n Q := by
  intro p e s m args below meth c Z H locs ls hC hE hH hS hL
  obtain ⟨f1, f2, f3, f4, f5, f6, f7, f8, f9⟩ := e_mok_f hz
  rw [if_pos hkd] at f2
  have hts := hC.2.2.2.2.1
  have hV := hC.2.2.2.2.2.2.2.1
  have hG : GoodIn e_big (va_wsS (e_own y) idx (e_nm z) (e_wl z)) := e_goodin (by
    intro w hw
    rcases List.mem_append.mp hw with hw | hw
    · simp only [List.mem_cons, List.not_mem_nil, or_false] at hw
      rcases hw with rfl | rfl | rfl
      · exact hl
      · exact f2
      · exact f4
    · exact e_wl_in hz w hw)
  refine e_after (z := z) (va_runS (As := as.map (e_tr (e_ad G))) (rest := st.map (e_tr (e_ad G))) ⟨hC.1, hC.2.1, hC.2.2.2.1, hC.2.2.2.2.2.1, hts⟩ kk (va_cwS (e_np z) hts hG rfl rfl rfl ⟨f7, f8, f5⟩ (e_fit_of hfit)) ⟨e_blind, e_Pc_at (as := as) rfl hV hH hS⟩ rfl (by simpa using hn) (hL.1) (by rw [e_mapapp]) (e_hcat hW) d hm) hS ?_
  intro r S' M' H1 locs1 hK hH' hS'
  exact hK p e s m args below meth c Z H1 locs1 ls hC hE hH' hS' hL
theorem e_x_callI {z idx i : Nat} {as : List Value} (hz : z < 268) (d : decode (e_cd y) pc = .ok (.invokespecial idx, 3)) (hl : Cond.methodLink (e_own y) idx (e_nm z) ∈ e_big) (hkd : e_kd z = 2) (hfit : e_fit y z = true) (hn : as.length = e_np z)
    (hW : (st.map fun v => v.category).sum ≤ 8) (hm : k + e_mc z ≤ e_mc y ∧ n + e_ms z ≤ e_ms y)
    (kk : e_CA G z (.ref i :: as) S M (fun r S' M' => e_EX G y (pc + 3) L (r.toList ++ st) S' M' (k + e_mc z) (n + e_ms z) Q)) : e_EX G y pc L (as.reverse ++ .ref i :: st) S M k n Q := by
  intro p e s m args below meth c Z H locs ls hC hE hH hS hL
  obtain ⟨f1, f2, f3, f4, f5, f6, f7, f8, f9⟩ := e_mok_f hz
  rw [if_neg (by rw [hkd]; decide)] at f2
  obtain ⟨g1, g2⟩ := f9 hkd
  have hts := hC.2.2.2.2.1
  have hV := hC.2.2.2.2.2.2.2.1
  have cb : CallB (e_rm y) s args (e_own y) idx (e_nm z) (e_cd z) (e_mlx z) (e_rt z) (e_wl z) (e_rm z) (e_mc z) (e_ms z) (e_np z) := callB_of (e_np z) hts (e_goodin (e_wl_in hz)) rfl rfl rfl (hts _ f4) (hts _ hl) ⟨f7, f8, f5⟩ (e_fit_of hfit)
  rw [g2] at cb
  refine e_after (z := z) (va_runI (As := as.map (e_tr (e_ad G))) (rest := st.map (e_tr (e_ad G))) (b := e_ad G i) ⟨hC.1, hC.2.1, hC.2.2.2.1, hC.2.2.2.2.2.1, hts⟩ kk ⟨cb, g1, hts _ f2⟩ ⟨e_blind, e_Pc_at (as := .ref i :: as) (by simp [e_tr]) hV hH hS⟩ rfl (by simpa using hn) (hL.1) (by rw [e_mapapp]; rfl) (e_hcat hW) d hm) hS ?_
  intro r S' M' H1 locs1 hK hH' hS'
  exact hK p e s m args below meth c Z H1 locs1 ls hC hE hH' hS' hL
theorem e_x_callSN {z idx : Nat} {as : List Value} {host : String} (hz : z < 268) (d : decode (e_cd y) pc = .ok (.invokestatic idx, 3)) (hl : Cond.methodLinkNest (e_own y) idx (e_nm z) host ∈ e_nest) (hkd : e_kd z = 1) (hfit : e_fit y z = true) (hn : as.length = e_np z)
    (hW : (st.map fun v => v.category).sum ≤ 8) (hm : k + e_mc z ≤ e_mc y ∧ n + e_ms z ≤ e_ms y)
    (kk : e_CA G z as S M (fun r S' M' => e_EX G y (pc + 3) L (r.toList ++ st) S' M' (k + e_mc z) (n + e_ms z) Q)) : e_EX G y pc L (as.reverse ++ st) S M k n Q := by
  intro p e s m args below meth c Z H locs ls hC hE hH hS hL
  obtain ⟨f1, f2, f3, f4, f5, f6, f7, f8, f9⟩ := e_mok_f hz
  rw [if_pos hkd] at f2
  have hts := hC.2.2.2.2.1
  have hV := hC.2.2.2.2.2.2.2.1
  refine e_after (z := z) (va_runSN (As := as.map (e_tr (e_ad G))) (rest := st.map (e_tr (e_ad G))) ⟨hC.1, hC.2.1, hC.2.2.2.1, hC.2.2.2.2.2.1, hts⟩ kk ⟨va_cnB (e_np z) hts (e_goodin (e_wl_in hz)) rfl rfl rfl (hV.2.2.1 _ hl) (hts _ f4) ⟨f7, f8, f5⟩ (e_fit_of hfit), hts _ f2, trivial⟩ ⟨e_blind, e_Pc_at (as := as) rfl hV hH hS⟩ rfl (by simpa using hn) (hL.1) (by rw [e_mapapp]) (e_hcat hW) d hm) hS ?_
  intro r S' M' H1 locs1 hK hH' hS'
  exact hK p e s m args below meth c Z H1 locs1 ls hC hE hH' hS' hL
theorem e_x_callIN {z idx i : Nat} {as : List Value} {host : String} (hz : z < 268) (d : decode (e_cd y) pc = .ok (.invokespecial idx, 3)) (hl : Cond.methodLinkNest (e_own y) idx (e_nm z) host ∈ e_nest) (hkd : e_kd z = 2) (hfit : e_fit y z = true) (hn : as.length = e_np z)
    (hW : (st.map fun v => v.category).sum ≤ 8) (hm : k + e_mc z ≤ e_mc y ∧ n + e_ms z ≤ e_ms y)
    (kk : e_CA G z (.ref i :: as) S M (fun r S' M' => e_EX G y (pc + 3) L (r.toList ++ st) S' M' (k + e_mc z) (n + e_ms z) Q)) : e_EX G y pc L (as.reverse ++ .ref i :: st) S M k n Q := by
  intro p e s m args below meth c Z H locs ls hC hE hH hS hL
  obtain ⟨f1, f2, f3, f4, f5, f6, f7, f8, f9⟩ := e_mok_f hz
  rw [if_neg (by rw [hkd]; decide)] at f2
  obtain ⟨g1, g2⟩ := f9 hkd
  have hts := hC.2.2.2.2.1
  have hV := hC.2.2.2.2.2.2.2.1
  have cn : va_CN (e_rm y) s args (e_own y) idx (e_nm z) host (e_cd z) (e_mlx z) (e_rt z) (e_wl z) (e_rm z) (e_mc z) (e_ms z) (e_np z) := va_cnB (e_np z) hts (e_goodin (e_wl_in hz)) rfl rfl rfl (hV.2.2.1 _ hl) (hts _ f4) ⟨f7, f8, f5⟩ (e_fit_of hfit)
  rw [g2] at cn
  refine e_after (z := z) (va_runIN (As := as.map (e_tr (e_ad G))) (rest := st.map (e_tr (e_ad G))) (b := e_ad G i) ⟨hC.1, hC.2.1, hC.2.2.2.1, hC.2.2.2.2.2.1, hts⟩ kk ⟨cn, g1, hts _ f2⟩ ⟨e_blind, e_Pc_at (as := .ref i :: as) (by simp [e_tr]) hV hH hS⟩ rfl (by simpa using hn) (hL.1) (by rw [e_mapapp]; rfl) (e_hcat hW) d hm) hS ?_
  intro r S' M' H1 locs1 hK hH' hS'
  exact hK p e s m args below meth c Z H1 locs1 ls hC hE hH' hS' hL
/-- a method's end -/
theorem e_x_ret {ins : Instr} {r : Option Value} (d : decode (e_cd y) pc = .ok (ins, 1)) (hr : e_ret (e_rt y) ins r) (hst : st = r.toList) (kk : Q r S M k n) : e_EX G y pc L st S M k n Q := by
  subst hst
  intro p e s m args below meth c Z H locs ls hC hE hH hS hL
  exact hE r S M k n H locs pc ls ins kk hH hS d hr
/-- Met.ofW, for a method of a class some of whose methods the machine has natives for -/
theorem e_ofW {l : Launch} {y : MethodName} {ws ws' : List Cond} {rm : Room} {Pc : Array Value → State → Prop} {Qc : Array Value → State → Outcome → State → Prop} {mc ms : Nat} {free : Addr → Prop} {cc : ByteArray} {maxL : Nat} {ret : Option FieldType}
    (hy : plainFor y = true) (hw : ws = Cond.code y cc maxL ret :: ws')
    (body : ∀ p e s m args below meth c s₁, BodyLoose p l y (headSpec ws rm) cc maxL ret e s m args below meth c s₁ → c.maxLocals = maxL → Pc args s →
      W p l e (headSpec ws rm).room s m args below meth c s.heap [] 0 0 (MQ below Qc args s mc ms free) (entryFrame m args maxL)) : Met l y ws rm Pc Qc mc ms free := by
  refine MetFree.of_bodySF (code := cc) (maxLocals := maxL) (ret := ret) hy ?_ ?_
  · intro args s m h hn
    obtain ⟨meth, c, h1, h2, h3, h4, h5, h6, -, -⟩ := Cond.code_spec hn (atoms_spec (ws := ws) h _ (by rw [hw]; exact List.mem_cons_self))
    exact ⟨meth, c, h1, h2, h3, h4, h5, h6⟩
  · intro p e s m args below meth c s₁ B hml hP _
    have hh0 : s₁.heap = s.heap := by rw [B.state]; rfl
    obtain ⟨t, a1, o, b1, b2, b3⟩ := body p e s m args below meth c s₁ B hml hP s₁ hh0 (Stand.of_body B)
    exact ⟨t, o, a1, b1, b2, ⟨b3.1, b3.2⟩⟩
/-- the locals at a method's entry -/
def e_en (y : Nat) (as : List Value) : List (Option Value) := let l := as.flatMap (fun v => if v.category = 2 then [some v, none] else [some v]); l ++ List.replicate (e_mlx y - l.length) none
def e_fl2 (as : List Value) : List (Option Value) := as.flatMap (fun v => if v.category = 2 then [some v, none] else [some v])
theorem e_fl2_args (ad : Nat → Nat) : ∀ (as : List Value) (b : Nat), ∀ (i : Nat) (v : Value), (e_fl2 as)[i]? = some (some v) → (b + i, e_tr ad v) ∈ lv_args b (as.map (e_tr ad)) := by
  intro as
  induction as with
  | nil => intro b i v h; simp [e_fl2] at h
  | cons a as ih =>
    intro b i v h
    have hc := lv_cat a
    have hc' := lv_cat (e_tr ad a)
    simp only [e_fl2, List.flatMap_cons] at h
    simp only [List.map_cons, lv_args]
    by_cases h2 : a.category = 2
    · have h3 : (e_tr ad a).category = 2 := by rw [e_tr_cat]; exact h2
      rw [if_pos h2] at h
      rw [if_pos h3]
      match i, h with
      | 0, h => simp at h; subst h; exact List.mem_cons_self
      | 1, h => simp at h
      | i + 2, h =>
        have := ih (b + 2) i v (by simpa [e_fl2] using h)
        rw [show b + 2 + i = b + (i + 2) by omega] at this
        exact List.mem_cons_of_mem _ this
    · have h3 : ¬ (e_tr ad a).category = 2 := by rw [e_tr_cat]; exact h2
      rw [if_neg h2] at h
      rw [if_neg h3]
      match i, h with
      | 0, h => simp at h; subst h; exact List.mem_cons_self
      | i + 1, h =>
        have := ih (b + 1) i v (by simpa [e_fl2] using h)
        rw [show b + 1 + i = b + (i + 1) by omega] at this
        exact List.mem_cons_of_mem _ this
end EC
