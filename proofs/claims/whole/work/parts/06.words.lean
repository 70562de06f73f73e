/-! every method of the table has its words -/
def e_mok (z : Nat) : Bool :=
  e_at ((e_m z).2.2.2.2.2.2.2.2.2.2.1) (Cond.code (e_nm z) (e_cd z) (e_mlx z) (e_rt z)) &&
  e_at ((e_m z).2.2.2.2.2.2.2.2.2.2.2.1) (if e_kd z = 1 then Cond.static (e_nm z) else Cond.instanceMethod (e_nm z)) &&
  (if e_kd z = 0 then e_at ((e_m z).2.2.2.2.2.2.2.2.2.2.2.2.1) (Cond.selects (e_nm z).cls (e_nm z) (e_nm z)) else true) &&
  e_at ((e_m z).2.2.2.2.2.2.2.2.2.2.2.2.2) (Cond.initialized (e_nm z).cls) &&
  decide ((parseMethodDescriptor (e_nm z).desc).map (fun d => d.parameters.length) = some (e_np z)) && plainFor (e_nm z) &&
  decide ((e_nm z).cls ≠ "java/lang/invoke/MethodHandle") && decide ((e_nm z).cls ≠ "java/lang/invoke/VarHandle") && decide (e_kd z = 2 → (e_nm z).name = "<init>" ∧ e_rt z = none)
theorem e_mok_0 : (List.range 10).all (fun z => e_mok (z + 0)) = true := by decide +kernel
theorem e_mok_1 : (List.range 10).all (fun z => e_mok (z + 10)) = true := by decide +kernel
theorem e_mok_2 : (List.range 10).all (fun z => e_mok (z + 20)) = true := by decide +kernel
theorem e_mok_3 : (List.range 10).all (fun z => e_mok (z + 30)) = true := by decide +kernel
theorem e_mok_4 : (List.range 10).all (fun z => e_mok (z + 40)) = true := by decide +kernel
theorem e_mok_5 : (List.range 10).all (fun z => e_mok (z + 50)) = true := by decide +kernel
theorem e_mok_6 : (List.range 10).all (fun z => e_mok (z + 60)) = true := by decide +kernel
theorem e_mok_7 : (List.range 10).all (fun z => e_mok (z + 70)) = true := by decide +kernel
theorem e_mok_8 : (List.range 10).all (fun z => e_mok (z + 80)) = true := by decide +kernel
theorem e_mok_9 : (List.range 10).all (fun z => e_mok (z + 90)) = true := by decide +kernel
theorem e_mok_10 : (List.range 10).all (fun z => e_mok (z + 100)) = true := by decide +kernel
theorem e_mok_11 : (List.range 10).all (fun z => e_mok (z + 110)) = true := by decide +kernel
theorem e_mok_12 : (List.range 10).all (fun z => e_mok (z + 120)) = true := by decide +kernel
theorem e_mok_13 : (List.range 10).all (fun z => e_mok (z + 130)) = true := by decide +kernel
theorem e_mok_14 : (List.range 10).all (fun z => e_mok (z + 140)) = true := by decide +kernel
theorem e_mok_15 : (List.range 10).all (fun z => e_mok (z + 150)) = true := by decide +kernel
theorem e_mok_16 : (List.range 10).all (fun z => e_mok (z + 160)) = true := by decide +kernel
theorem e_mok_17 : (List.range 10).all (fun z => e_mok (z + 170)) = true := by decide +kernel
theorem e_mok_18 : (List.range 10).all (fun z => e_mok (z + 180)) = true := by decide +kernel
theorem e_mok_19 : (List.range 10).all (fun z => e_mok (z + 190)) = true := by decide +kernel
theorem e_mok_20 : (List.range 10).all (fun z => e_mok (z + 200)) = true := by decide +kernel
theorem e_mok_21 : (List.range 10).all (fun z => e_mok (z + 210)) = true := by decide +kernel
theorem e_mok_22 : (List.range 10).all (fun z => e_mok (z + 220)) = true := by decide +kernel
theorem e_mok_23 : (List.range 10).all (fun z => e_mok (z + 230)) = true := by decide +kernel
theorem e_mok_24 : (List.range 10).all (fun z => e_mok (z + 240)) = true := by decide +kernel
theorem e_mok_25 : (List.range 10).all (fun z => e_mok (z + 250)) = true := by decide +kernel
theorem e_mok_26 : (List.range 8).all (fun z => e_mok (z + 260)) = true := by decide +kernel
theorem e_mok_c {a b z : Nat} (h : (List.range b).all (fun z => e_mok (z + a)) = true) (h1 : a ≤ z) (h2 : z < a + b) : e_mok z = true := by
  have := List.all_eq_true.mp h (z - a) (List.mem_range.mpr (by omega))
  rwa [show z - a + a = z by omega] at this
theorem e_mok_z {z : Nat} (h : z < 268) : e_mok z = true := by
  rcases Nat.lt_or_ge z 10 with h0 | h0
  · exact e_mok_c e_mok_0 (by omega) (by omega)
  rcases Nat.lt_or_ge z 20 with h10 | h10
  · exact e_mok_c e_mok_1 (by omega) (by omega)
  rcases Nat.lt_or_ge z 30 with h20 | h20
  · exact e_mok_c e_mok_2 (by omega) (by omega)
  rcases Nat.lt_or_ge z 40 with h30 | h30
  · exact e_mok_c e_mok_3 (by omega) (by omega)
  rcases Nat.lt_or_ge z 50 with h40 | h40
  · exact e_mok_c e_mok_4 (by omega) (by omega)
  rcases Nat.lt_or_ge z 60 with h50 | h50
  · exact e_mok_c e_mok_5 (by omega) (by omega)
  rcases Nat.lt_or_ge z 70 with h60 | h60
  · exact e_mok_c e_mok_6 (by omega) (by omega)
  rcases Nat.lt_or_ge z 80 with h70 | h70
  · exact e_mok_c e_mok_7 (by omega) (by omega)
  rcases Nat.lt_or_ge z 90 with h80 | h80
  · exact e_mok_c e_mok_8 (by omega) (by omega)
  rcases Nat.lt_or_ge z 100 with h90 | h90
  · exact e_mok_c e_mok_9 (by omega) (by omega)
  rcases Nat.lt_or_ge z 110 with h100 | h100
  · exact e_mok_c e_mok_10 (by omega) (by omega)
  rcases Nat.lt_or_ge z 120 with h110 | h110
  · exact e_mok_c e_mok_11 (by omega) (by omega)
  rcases Nat.lt_or_ge z 130 with h120 | h120
  · exact e_mok_c e_mok_12 (by omega) (by omega)
  rcases Nat.lt_or_ge z 140 with h130 | h130
  · exact e_mok_c e_mok_13 (by omega) (by omega)
  rcases Nat.lt_or_ge z 150 with h140 | h140
  · exact e_mok_c e_mok_14 (by omega) (by omega)
  rcases Nat.lt_or_ge z 160 with h150 | h150
  · exact e_mok_c e_mok_15 (by omega) (by omega)
  rcases Nat.lt_or_ge z 170 with h160 | h160
  · exact e_mok_c e_mok_16 (by omega) (by omega)
  rcases Nat.lt_or_ge z 180 with h170 | h170
  · exact e_mok_c e_mok_17 (by omega) (by omega)
  rcases Nat.lt_or_ge z 190 with h180 | h180
  · exact e_mok_c e_mok_18 (by omega) (by omega)
  rcases Nat.lt_or_ge z 200 with h190 | h190
  · exact e_mok_c e_mok_19 (by omega) (by omega)
  rcases Nat.lt_or_ge z 210 with h200 | h200
  · exact e_mok_c e_mok_20 (by omega) (by omega)
  rcases Nat.lt_or_ge z 220 with h210 | h210
  · exact e_mok_c e_mok_21 (by omega) (by omega)
  rcases Nat.lt_or_ge z 230 with h220 | h220
  · exact e_mok_c e_mok_22 (by omega) (by omega)
  rcases Nat.lt_or_ge z 240 with h230 | h230
  · exact e_mok_c e_mok_23 (by omega) (by omega)
  rcases Nat.lt_or_ge z 250 with h240 | h240
  · exact e_mok_c e_mok_24 (by omega) (by omega)
  rcases Nat.lt_or_ge z 260 with h250 | h250
  · exact e_mok_c e_mok_25 (by omega) (by omega)
  rcases Nat.lt_or_ge z 268 with h260 | h260
  · exact e_mok_c e_mok_26 (by omega) (by omega)
  omega
theorem e_mok_f {z : Nat} (h : z < 268) : Cond.code (e_nm z) (e_cd z) (e_mlx z) (e_rt z) ∈ e_big ∧ (if e_kd z = 1 then Cond.static (e_nm z) else Cond.instanceMethod (e_nm z)) ∈ e_big ∧ (e_kd z = 0 → Cond.selects (e_nm z).cls (e_nm z) (e_nm z) ∈ e_big) ∧
    Cond.initialized (e_nm z).cls ∈ e_big ∧ (parseMethodDescriptor (e_nm z).desc).map (fun d => d.parameters.length) = some (e_np z) ∧ plainFor (e_nm z) = true ∧ (e_nm z).cls ≠ "java/lang/invoke/MethodHandle" ∧ (e_nm z).cls ≠ "java/lang/invoke/VarHandle" ∧ (e_kd z = 2 → (e_nm z).name = "<init>" ∧ e_rt z = none) := by
  have h1 := e_mok_z h
  unfold e_mok at h1
  simp only [Bool.and_eq_true, decide_eq_true_eq] at h1
  obtain ⟨⟨⟨⟨⟨⟨⟨⟨a1, a2⟩, a3⟩, a4⟩, a5⟩, a6⟩, a7⟩, a8⟩, a9⟩ := h1
  refine ⟨e_at_in a1, e_at_in a2, fun h0 => ?_, e_at_in a4, a5, a6, a7, a8, a9⟩
  rw [if_pos h0] at a3
  exact e_at_in a3
