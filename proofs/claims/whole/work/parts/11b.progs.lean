/-! .. method by method -/
theorem e_pm_0 : e_prOK 0 := by
  have hl : ((e_pgs.getD 0 []).zip (e_ins.getD 0 [])).length = 41 := by decide +kernel
  have hl2 : (e_pgs.getD 0 []).length = 41 := by decide +kernel
  intro j r hr
  have h0 := (List.getElem?_eq_some_iff.mp hr).1
  rw [hl] at h0
  rcases Nat.lt_or_ge j 41 with h0 | h0
  · have hh := e_pr_0
    (try simp only [Bool.and_eq_true] at hh)
    exact e_bulk hh.1.1.1.1 (by omega) (by omega) hr
  omega
theorem e_pm_1 : e_prOK 1 := by
  have hl : ((e_pgs.getD 1 []).zip (e_ins.getD 1 [])).length = 4 := by decide +kernel
  have hl2 : (e_pgs.getD 1 []).length = 4 := by decide +kernel
  intro j r hr
  have h0 := (List.getElem?_eq_some_iff.mp hr).1
  rw [hl] at h0
  rcases Nat.lt_or_ge j 4 with h0 | h0
  · have hh := e_pr_0
    (try simp only [Bool.and_eq_true] at hh)
    exact e_bulk hh.1.1.1.2 (by omega) (by omega) hr
  omega
theorem e_pm_2 : e_prOK 2 := by
  have hl : ((e_pgs.getD 2 []).zip (e_ins.getD 2 [])).length = 8 := by decide +kernel
  have hl2 : (e_pgs.getD 2 []).length = 8 := by decide +kernel
  intro j r hr
  have h0 := (List.getElem?_eq_some_iff.mp hr).1
  rw [hl] at h0
  rcases Nat.lt_or_ge j 8 with h0 | h0
  · have hh := e_pr_0
    (try simp only [Bool.and_eq_true] at hh)
    exact e_bulk hh.1.1.2 (by omega) (by omega) hr
  omega
theorem e_pm_3 : e_prOK 3 := by
  have hl : ((e_pgs.getD 3 []).zip (e_ins.getD 3 [])).length = 3 := by decide +kernel
  have hl2 : (e_pgs.getD 3 []).length = 3 := by decide +kernel
  intro j r hr
  have h0 := (List.getElem?_eq_some_iff.mp hr).1
  rw [hl] at h0
  rcases Nat.lt_or_ge j 3 with h0 | h0
  · have hh := e_pr_0
    (try simp only [Bool.and_eq_true] at hh)
    exact e_bulk hh.1.2 (by omega) (by omega) hr
  omega
theorem e_pm_4 : e_prOK 4 := by
  have hl : ((e_pgs.getD 4 []).zip (e_ins.getD 4 [])).length = 3 := by decide +kernel
  have hl2 : (e_pgs.getD 4 []).length = 3 := by decide +kernel
  intro j r hr
  have h0 := (List.getElem?_eq_some_iff.mp hr).1
  rw [hl] at h0
  rcases Nat.lt_or_ge j 3 with h0 | h0
  · have hh := e_pr_0
    (try simp only [Bool.and_eq_true] at hh)
    exact e_bulk hh.2 (by omega) (by omega) hr
  omega
theorem e_pm_5 : e_prOK 5 := by
  have hl : ((e_pgs.getD 5 []).zip (e_ins.getD 5 [])).length = 41 := by decide +kernel
  have hl2 : (e_pgs.getD 5 []).length = 41 := by decide +kernel
  intro j r hr
  have h0 := (List.getElem?_eq_some_iff.mp hr).1
  rw [hl] at h0
  rcases Nat.lt_or_ge j 41 with h0 | h0
  · have hh := e_pr_1
    (try simp only [Bool.and_eq_true] at hh)
    exact e_bulk hh (by omega) (by omega) hr
  omega
theorem e_pm_6 : e_prOK 6 := by
  have hl : ((e_pgs.getD 6 []).zip (e_ins.getD 6 [])).length = 68 := by decide +kernel
  have hl2 : (e_pgs.getD 6 []).length = 68 := by decide +kernel
  intro j r hr
  have h0 := (List.getElem?_eq_some_iff.mp hr).1
  rw [hl] at h0
  rcases Nat.lt_or_ge j 60 with h0 | h0
  · have hh := e_pr_2
    (try simp only [Bool.and_eq_true] at hh)
    exact e_bulk hh.1 (by omega) (by omega) hr
  rcases Nat.lt_or_ge j 68 with h60 | h60
  · have hh := e_pr_2
    (try simp only [Bool.and_eq_true] at hh)
    exact e_bulk hh.2 (by omega) (by omega) hr
  omega
theorem e_pm_7 : e_prOK 7 := by
  have hl : ((e_pgs.getD 7 []).zip (e_ins.getD 7 [])).length = 25 := by decide +kernel
  have hl2 : (e_pgs.getD 7 []).length = 25 := by decide +kernel
  intro j r hr
  have h0 := (List.getElem?_eq_some_iff.mp hr).1
  rw [hl] at h0
  rcases Nat.lt_or_ge j 25 with h0 | h0
  · have hh := e_pr_3
    (try simp only [Bool.and_eq_true] at hh)
    exact e_bulk hh (by omega) (by omega) hr
  omega
theorem e_pm_8 : e_prOK 8 := by
  have hl : ((e_pgs.getD 8 []).zip (e_ins.getD 8 [])).length = 46 := by decide +kernel
  have hl2 : (e_pgs.getD 8 []).length = 46 := by decide +kernel
  intro j r hr
  have h0 := (List.getElem?_eq_some_iff.mp hr).1
  rw [hl] at h0
  rcases Nat.lt_or_ge j 46 with h0 | h0
  · have hh := e_pr_4
    (try simp only [Bool.and_eq_true] at hh)
    exact e_bulk hh.1 (by omega) (by omega) hr
  omega
theorem e_pm_9 : e_prOK 9 := by
  have hl : ((e_pgs.getD 9 []).zip (e_ins.getD 9 [])).length = 19 := by decide +kernel
  have hl2 : (e_pgs.getD 9 []).length = 19 := by decide +kernel
  intro j r hr
  have h0 := (List.getElem?_eq_some_iff.mp hr).1
  rw [hl] at h0
  rcases Nat.lt_or_ge j 19 with h0 | h0
  · have hh := e_pr_4
    (try simp only [Bool.and_eq_true] at hh)
    exact e_bulk hh.2 (by omega) (by omega) hr
  omega
theorem e_pm_10 : e_prOK 10 := by
  have hl : ((e_pgs.getD 10 []).zip (e_ins.getD 10 [])).length = 14 := by decide +kernel
  have hl2 : (e_pgs.getD 10 []).length = 14 := by decide +kernel
  intro j r hr
  have h0 := (List.getElem?_eq_some_iff.mp hr).1
  rw [hl] at h0
  rcases Nat.lt_or_ge j 14 with h0 | h0
  · have hh := e_pr_5
    (try simp only [Bool.and_eq_true] at hh)
    exact e_bulk hh.1.1 (by omega) (by omega) hr
  omega
theorem e_pm_11 : e_prOK 11 := by
  have hl : ((e_pgs.getD 11 []).zip (e_ins.getD 11 [])).length = 16 := by decide +kernel
  have hl2 : (e_pgs.getD 11 []).length = 16 := by decide +kernel
  intro j r hr
  have h0 := (List.getElem?_eq_some_iff.mp hr).1
  rw [hl] at h0
  rcases Nat.lt_or_ge j 16 with h0 | h0
  · have hh := e_pr_5
    (try simp only [Bool.and_eq_true] at hh)
    exact e_bulk hh.1.2 (by omega) (by omega) hr
  omega
theorem e_pm_12 : e_prOK 12 := by
  have hl : ((e_pgs.getD 12 []).zip (e_ins.getD 12 [])).length = 16 := by decide +kernel
  have hl2 : (e_pgs.getD 12 []).length = 16 := by decide +kernel
  intro j r hr
  have h0 := (List.getElem?_eq_some_iff.mp hr).1
  rw [hl] at h0
  rcases Nat.lt_or_ge j 16 with h0 | h0
  · have hh := e_pr_5
    (try simp only [Bool.and_eq_true] at hh)
    exact e_bulk hh.2 (by omega) (by omega) hr
  omega
theorem e_pm_13 : e_prOK 13 := by
  have hl : ((e_pgs.getD 13 []).zip (e_ins.getD 13 [])).length = 73 := by decide +kernel
  have hl2 : (e_pgs.getD 13 []).length = 73 := by decide +kernel
  intro j r hr
  have h0 := (List.getElem?_eq_some_iff.mp hr).1
  rw [hl] at h0
  rcases Nat.lt_or_ge j 60 with h0 | h0
  · have hh := e_pr_6
    (try simp only [Bool.and_eq_true] at hh)
    exact e_bulk hh (by omega) (by omega) hr
  rcases Nat.lt_or_ge j 73 with h60 | h60
  · have hh := e_pr_7
    (try simp only [Bool.and_eq_true] at hh)
    exact e_bulk hh (by omega) (by omega) hr
  omega
theorem e_pm_14 : e_prOK 14 := by
  have hl : ((e_pgs.getD 14 []).zip (e_ins.getD 14 [])).length = 117 := by decide +kernel
  have hl2 : (e_pgs.getD 14 []).length = 117 := by decide +kernel
  intro j r hr
  have h0 := (List.getElem?_eq_some_iff.mp hr).1
  rw [hl] at h0
  rcases Nat.lt_or_ge j 60 with h0 | h0
  · have hh := e_pr_8
    (try simp only [Bool.and_eq_true] at hh)
    exact e_bulk hh (by omega) (by omega) hr
  rcases Nat.lt_or_ge j 117 with h60 | h60
  · have hh := e_pr_9
    (try simp only [Bool.and_eq_true] at hh)
    exact e_bulk hh.1 (by omega) (by omega) hr
  omega
theorem e_pm_15 : e_prOK 15 := by
  have hl : ((e_pgs.getD 15 []).zip (e_ins.getD 15 [])).length = 8 := by decide +kernel
  have hl2 : (e_pgs.getD 15 []).length = 8 := by decide +kernel
  intro j r hr
  have h0 := (List.getElem?_eq_some_iff.mp hr).1
  rw [hl] at h0
  rcases Nat.lt_or_ge j 8 with h0 | h0
  · have hh := e_pr_9
    (try simp only [Bool.and_eq_true] at hh)
    exact e_bulk hh.2 (by omega) (by omega) hr
  omega
theorem e_pm_16 : e_prOK 16 := by
  have hl : ((e_pgs.getD 16 []).zip (e_ins.getD 16 [])).length = 61 := by decide +kernel
  have hl2 : (e_pgs.getD 16 []).length = 61 := by decide +kernel
  intro j r hr
  have h0 := (List.getElem?_eq_some_iff.mp hr).1
  rw [hl] at h0
  rcases Nat.lt_or_ge j 60 with h0 | h0
  · have hh := e_pr_10
    (try simp only [Bool.and_eq_true] at hh)
    exact e_bulk hh.1.1 (by omega) (by omega) hr
  rcases Nat.lt_or_ge j 61 with h60 | h60
  · have hh := e_pr_10
    (try simp only [Bool.and_eq_true] at hh)
    exact e_bulk hh.1.2 (by omega) (by omega) hr
  omega
theorem e_pm_17 : e_prOK 17 := by
  have hl : ((e_pgs.getD 17 []).zip (e_ins.getD 17 [])).length = 6 := by decide +kernel
  have hl2 : (e_pgs.getD 17 []).length = 6 := by decide +kernel
  intro j r hr
  have h0 := (List.getElem?_eq_some_iff.mp hr).1
  rw [hl] at h0
  rcases Nat.lt_or_ge j 6 with h0 | h0
  · have hh := e_pr_10
    (try simp only [Bool.and_eq_true] at hh)
    exact e_bulk hh.2 (by omega) (by omega) hr
  omega
theorem e_pm_18 : e_prOK 18 := by
  have hl : ((e_pgs.getD 18 []).zip (e_ins.getD 18 [])).length = 18 := by decide +kernel
  have hl2 : (e_pgs.getD 18 []).length = 18 := by decide +kernel
  intro j r hr
  have h0 := (List.getElem?_eq_some_iff.mp hr).1
  rw [hl] at h0
  rcases Nat.lt_or_ge j 18 with h0 | h0
  · have hh := e_pr_11
    (try simp only [Bool.and_eq_true] at hh)
    exact e_bulk hh.1.1 (by omega) (by omega) hr
  omega
theorem e_pm_19 : e_prOK 19 := by
  have hl : ((e_pgs.getD 19 []).zip (e_ins.getD 19 [])).length = 23 := by decide +kernel
  have hl2 : (e_pgs.getD 19 []).length = 23 := by decide +kernel
  intro j r hr
  have h0 := (List.getElem?_eq_some_iff.mp hr).1
  rw [hl] at h0
  rcases Nat.lt_or_ge j 23 with h0 | h0
  · have hh := e_pr_11
    (try simp only [Bool.and_eq_true] at hh)
    exact e_bulk hh.1.2 (by omega) (by omega) hr
  omega
theorem e_pm_20 : e_prOK 20 := by
  have hl : ((e_pgs.getD 20 []).zip (e_ins.getD 20 [])).length = 12 := by decide +kernel
  have hl2 : (e_pgs.getD 20 []).length = 12 := by decide +kernel
  intro j r hr
  have h0 := (List.getElem?_eq_some_iff.mp hr).1
  rw [hl] at h0
  rcases Nat.lt_or_ge j 12 with h0 | h0
  · have hh := e_pr_11
    (try simp only [Bool.and_eq_true] at hh)
    exact e_bulk hh.2 (by omega) (by omega) hr
  omega
theorem e_pm_21 : e_prOK 21 := by
  have hl : ((e_pgs.getD 21 []).zip (e_ins.getD 21 [])).length = 18 := by decide +kernel
  have hl2 : (e_pgs.getD 21 []).length = 18 := by decide +kernel
  intro j r hr
  have h0 := (List.getElem?_eq_some_iff.mp hr).1
  rw [hl] at h0
  rcases Nat.lt_or_ge j 18 with h0 | h0
  · have hh := e_pr_12
    (try simp only [Bool.and_eq_true] at hh)
    exact e_bulk hh.1.1.1.1.1 (by omega) (by omega) hr
  omega
theorem e_pm_22 : e_prOK 22 := by
  have hl : ((e_pgs.getD 22 []).zip (e_ins.getD 22 [])).length = 6 := by decide +kernel
  have hl2 : (e_pgs.getD 22 []).length = 6 := by decide +kernel
  intro j r hr
  have h0 := (List.getElem?_eq_some_iff.mp hr).1
  rw [hl] at h0
  rcases Nat.lt_or_ge j 6 with h0 | h0
  · have hh := e_pr_12
    (try simp only [Bool.and_eq_true] at hh)
    exact e_bulk hh.1.1.1.1.2 (by omega) (by omega) hr
  omega
theorem e_pm_23 : e_prOK 23 := by
  have hl : ((e_pgs.getD 23 []).zip (e_ins.getD 23 [])).length = 10 := by decide +kernel
  have hl2 : (e_pgs.getD 23 []).length = 10 := by decide +kernel
  intro j r hr
  have h0 := (List.getElem?_eq_some_iff.mp hr).1
  rw [hl] at h0
  rcases Nat.lt_or_ge j 10 with h0 | h0
  · have hh := e_pr_12
    (try simp only [Bool.and_eq_true] at hh)
    exact e_bulk hh.1.1.1.2 (by omega) (by omega) hr
  omega
theorem e_pm_24 : e_prOK 24 := by
  have hl : ((e_pgs.getD 24 []).zip (e_ins.getD 24 [])).length = 3 := by decide +kernel
  have hl2 : (e_pgs.getD 24 []).length = 3 := by decide +kernel
  intro j r hr
  have h0 := (List.getElem?_eq_some_iff.mp hr).1
  rw [hl] at h0
  rcases Nat.lt_or_ge j 3 with h0 | h0
  · have hh := e_pr_12
    (try simp only [Bool.and_eq_true] at hh)
    exact e_bulk hh.1.1.2 (by omega) (by omega) hr
  omega
theorem e_pm_25 : e_prOK 25 := by
  have hl : ((e_pgs.getD 25 []).zip (e_ins.getD 25 [])).length = 3 := by decide +kernel
  have hl2 : (e_pgs.getD 25 []).length = 3 := by decide +kernel
  intro j r hr
  have h0 := (List.getElem?_eq_some_iff.mp hr).1
  rw [hl] at h0
  rcases Nat.lt_or_ge j 3 with h0 | h0
  · have hh := e_pr_12
    (try simp only [Bool.and_eq_true] at hh)
    exact e_bulk hh.1.2 (by omega) (by omega) hr
  omega
theorem e_pm_26 : e_prOK 26 := by
  have hl : ((e_pgs.getD 26 []).zip (e_ins.getD 26 [])).length = 30 := by decide +kernel
  have hl2 : (e_pgs.getD 26 []).length = 30 := by decide +kernel
  intro j r hr
  have h0 := (List.getElem?_eq_some_iff.mp hr).1
  rw [hl] at h0
  rcases Nat.lt_or_ge j 30 with h0 | h0
  · have hh := e_pr_12
    (try simp only [Bool.and_eq_true] at hh)
    exact e_bulk hh.2 (by omega) (by omega) hr
  omega
theorem e_pm_27 : e_prOK 27 := by
  have hl : ((e_pgs.getD 27 []).zip (e_ins.getD 27 [])).length = 39 := by decide +kernel
  have hl2 : (e_pgs.getD 27 []).length = 39 := by decide +kernel
  intro j r hr
  have h0 := (List.getElem?_eq_some_iff.mp hr).1
  rw [hl] at h0
  rcases Nat.lt_or_ge j 39 with h0 | h0
  · have hh := e_pr_13
    (try simp only [Bool.and_eq_true] at hh)
    exact e_bulk hh.1 (by omega) (by omega) hr
  omega
theorem e_pm_28 : e_prOK 28 := by
  have hl : ((e_pgs.getD 28 []).zip (e_ins.getD 28 [])).length = 11 := by decide +kernel
  have hl2 : (e_pgs.getD 28 []).length = 11 := by decide +kernel
  intro j r hr
  have h0 := (List.getElem?_eq_some_iff.mp hr).1
  rw [hl] at h0
  rcases Nat.lt_or_ge j 11 with h0 | h0
  · have hh := e_pr_13
    (try simp only [Bool.and_eq_true] at hh)
    exact e_bulk hh.2 (by omega) (by omega) hr
  omega
theorem e_pm_29 : e_prOK 29 := by
  have hl : ((e_pgs.getD 29 []).zip (e_ins.getD 29 [])).length = 54 := by decide +kernel
  have hl2 : (e_pgs.getD 29 []).length = 54 := by decide +kernel
  intro j r hr
  have h0 := (List.getElem?_eq_some_iff.mp hr).1
  rw [hl] at h0
  rcases Nat.lt_or_ge j 54 with h0 | h0
  · have hh := e_pr_14
    (try simp only [Bool.and_eq_true] at hh)
    exact e_bulk hh (by omega) (by omega) hr
  omega
theorem e_pm_30 : e_prOK 30 := by
  have hl : ((e_pgs.getD 30 []).zip (e_ins.getD 30 [])).length = 25 := by decide +kernel
  have hl2 : (e_pgs.getD 30 []).length = 25 := by decide +kernel
  intro j r hr
  have h0 := (List.getElem?_eq_some_iff.mp hr).1
  rw [hl] at h0
  rcases Nat.lt_or_ge j 25 with h0 | h0
  · have hh := e_pr_15
    (try simp only [Bool.and_eq_true] at hh)
    exact e_bulk hh.1 (by omega) (by omega) hr
  omega
theorem e_pm_31 : e_prOK 31 := by
  have hl : ((e_pgs.getD 31 []).zip (e_ins.getD 31 [])).length = 39 := by decide +kernel
  have hl2 : (e_pgs.getD 31 []).length = 39 := by decide +kernel
  intro j r hr
  have h0 := (List.getElem?_eq_some_iff.mp hr).1
  rw [hl] at h0
  rcases Nat.lt_or_ge j 39 with h0 | h0
  · have hh := e_pr_15
    (try simp only [Bool.and_eq_true] at hh)
    exact e_bulk hh.2 (by omega) (by omega) hr
  omega
theorem e_pm_32 : e_prOK 32 := by
  have hl : ((e_pgs.getD 32 []).zip (e_ins.getD 32 [])).length = 24 := by decide +kernel
  have hl2 : (e_pgs.getD 32 []).length = 24 := by decide +kernel
  intro j r hr
  have h0 := (List.getElem?_eq_some_iff.mp hr).1
  rw [hl] at h0
  rcases Nat.lt_or_ge j 24 with h0 | h0
  · have hh := e_pr_16
    (try simp only [Bool.and_eq_true] at hh)
    exact e_bulk hh.1.1 (by omega) (by omega) hr
  omega
theorem e_pm_33 : e_prOK 33 := by
  have hl : ((e_pgs.getD 33 []).zip (e_ins.getD 33 [])).length = 10 := by decide +kernel
  have hl2 : (e_pgs.getD 33 []).length = 10 := by decide +kernel
  intro j r hr
  have h0 := (List.getElem?_eq_some_iff.mp hr).1
  rw [hl] at h0
  rcases Nat.lt_or_ge j 10 with h0 | h0
  · have hh := e_pr_16
    (try simp only [Bool.and_eq_true] at hh)
    exact e_bulk hh.1.2 (by omega) (by omega) hr
  omega
theorem e_pm_34 : e_prOK 34 := by
  have hl : ((e_pgs.getD 34 []).zip (e_ins.getD 34 [])).length = 31 := by decide +kernel
  have hl2 : (e_pgs.getD 34 []).length = 31 := by decide +kernel
  intro j r hr
  have h0 := (List.getElem?_eq_some_iff.mp hr).1
  rw [hl] at h0
  rcases Nat.lt_or_ge j 31 with h0 | h0
  · have hh := e_pr_16
    (try simp only [Bool.and_eq_true] at hh)
    exact e_bulk hh.2 (by omega) (by omega) hr
  omega
theorem e_pm_35 : e_prOK 35 := by
  have hl : ((e_pgs.getD 35 []).zip (e_ins.getD 35 [])).length = 19 := by decide +kernel
  have hl2 : (e_pgs.getD 35 []).length = 19 := by decide +kernel
  intro j r hr
  have h0 := (List.getElem?_eq_some_iff.mp hr).1
  rw [hl] at h0
  rcases Nat.lt_or_ge j 19 with h0 | h0
  · have hh := e_pr_17
    (try simp only [Bool.and_eq_true] at hh)
    exact e_bulk hh.1.1.1.1 (by omega) (by omega) hr
  omega
theorem e_pm_36 : e_prOK 36 := by
  have hl : ((e_pgs.getD 36 []).zip (e_ins.getD 36 [])).length = 4 := by decide +kernel
  have hl2 : (e_pgs.getD 36 []).length = 4 := by decide +kernel
  intro j r hr
  have h0 := (List.getElem?_eq_some_iff.mp hr).1
  rw [hl] at h0
  rcases Nat.lt_or_ge j 4 with h0 | h0
  · have hh := e_pr_17
    (try simp only [Bool.and_eq_true] at hh)
    exact e_bulk hh.1.1.1.2 (by omega) (by omega) hr
  omega
theorem e_pm_37 : e_prOK 37 := by
  have hl : ((e_pgs.getD 37 []).zip (e_ins.getD 37 [])).length = 4 := by decide +kernel
  have hl2 : (e_pgs.getD 37 []).length = 4 := by decide +kernel
  intro j r hr
  have h0 := (List.getElem?_eq_some_iff.mp hr).1
  rw [hl] at h0
  rcases Nat.lt_or_ge j 4 with h0 | h0
  · have hh := e_pr_17
    (try simp only [Bool.and_eq_true] at hh)
    exact e_bulk hh.1.1.2 (by omega) (by omega) hr
  omega
theorem e_pm_38 : e_prOK 38 := by
  have hl : ((e_pgs.getD 38 []).zip (e_ins.getD 38 [])).length = 29 := by decide +kernel
  have hl2 : (e_pgs.getD 38 []).length = 29 := by decide +kernel
  intro j r hr
  have h0 := (List.getElem?_eq_some_iff.mp hr).1
  rw [hl] at h0
  rcases Nat.lt_or_ge j 29 with h0 | h0
  · have hh := e_pr_17
    (try simp only [Bool.and_eq_true] at hh)
    exact e_bulk hh.1.2 (by omega) (by omega) hr
  omega
theorem e_pm_39 : e_prOK 39 := by
  have hl : ((e_pgs.getD 39 []).zip (e_ins.getD 39 [])).length = 5 := by decide +kernel
  have hl2 : (e_pgs.getD 39 []).length = 5 := by decide +kernel
  intro j r hr
  have h0 := (List.getElem?_eq_some_iff.mp hr).1
  rw [hl] at h0
  rcases Nat.lt_or_ge j 5 with h0 | h0
  · have hh := e_pr_17
    (try simp only [Bool.and_eq_true] at hh)
    exact e_bulk hh.2 (by omega) (by omega) hr
  omega
theorem e_pm_40 : e_prOK 40 := by
  have hl : ((e_pgs.getD 40 []).zip (e_ins.getD 40 [])).length = 21 := by decide +kernel
  have hl2 : (e_pgs.getD 40 []).length = 21 := by decide +kernel
  intro j r hr
  have h0 := (List.getElem?_eq_some_iff.mp hr).1
  rw [hl] at h0
  rcases Nat.lt_or_ge j 21 with h0 | h0
  · have hh := e_pr_18
    (try simp only [Bool.and_eq_true] at hh)
    exact e_bulk hh.1.1.1.1.1.1 (by omega) (by omega) hr
  omega
theorem e_pm_41 : e_prOK 41 := by
  have hl : ((e_pgs.getD 41 []).zip (e_ins.getD 41 [])).length = 5 := by decide +kernel
  have hl2 : (e_pgs.getD 41 []).length = 5 := by decide +kernel
  intro j r hr
  have h0 := (List.getElem?_eq_some_iff.mp hr).1
  rw [hl] at h0
  rcases Nat.lt_or_ge j 5 with h0 | h0
  · have hh := e_pr_18
    (try simp only [Bool.and_eq_true] at hh)
    exact e_bulk hh.1.1.1.1.1.2 (by omega) (by omega) hr
  omega
theorem e_pm_42 : e_prOK 42 := by
  have hl : ((e_pgs.getD 42 []).zip (e_ins.getD 42 [])).length = 11 := by decide +kernel
  have hl2 : (e_pgs.getD 42 []).length = 11 := by decide +kernel
  intro j r hr
  have h0 := (List.getElem?_eq_some_iff.mp hr).1
  rw [hl] at h0
  rcases Nat.lt_or_ge j 11 with h0 | h0
  · have hh := e_pr_18
    (try simp only [Bool.and_eq_true] at hh)
    exact e_bulk hh.1.1.1.1.2 (by omega) (by omega) hr
  omega
theorem e_pm_43 : e_prOK 43 := by
  have hl : ((e_pgs.getD 43 []).zip (e_ins.getD 43 [])).length = 6 := by decide +kernel
  have hl2 : (e_pgs.getD 43 []).length = 6 := by decide +kernel
  intro j r hr
  have h0 := (List.getElem?_eq_some_iff.mp hr).1
  rw [hl] at h0
  rcases Nat.lt_or_ge j 6 with h0 | h0
  · have hh := e_pr_18
    (try simp only [Bool.and_eq_true] at hh)
    exact e_bulk hh.1.1.1.2 (by omega) (by omega) hr
  omega
theorem e_pm_44 : e_prOK 44 := by
  have hl : ((e_pgs.getD 44 []).zip (e_ins.getD 44 [])).length = 6 := by decide +kernel
  have hl2 : (e_pgs.getD 44 []).length = 6 := by decide +kernel
  intro j r hr
  have h0 := (List.getElem?_eq_some_iff.mp hr).1
  rw [hl] at h0
  rcases Nat.lt_or_ge j 6 with h0 | h0
  · have hh := e_pr_18
    (try simp only [Bool.and_eq_true] at hh)
    exact e_bulk hh.1.1.2 (by omega) (by omega) hr
  omega
theorem e_pm_45 : e_prOK 45 := by
  have hl : ((e_pgs.getD 45 []).zip (e_ins.getD 45 [])).length = 5 := by decide +kernel
  have hl2 : (e_pgs.getD 45 []).length = 5 := by decide +kernel
  intro j r hr
  have h0 := (List.getElem?_eq_some_iff.mp hr).1
  rw [hl] at h0
  rcases Nat.lt_or_ge j 5 with h0 | h0
  · have hh := e_pr_18
    (try simp only [Bool.and_eq_true] at hh)
    exact e_bulk hh.1.2 (by omega) (by omega) hr
  omega
theorem e_pm_46 : e_prOK 46 := by
  have hl : ((e_pgs.getD 46 []).zip (e_ins.getD 46 [])).length = 11 := by decide +kernel
  have hl2 : (e_pgs.getD 46 []).length = 11 := by decide +kernel
  intro j r hr
  have h0 := (List.getElem?_eq_some_iff.mp hr).1
  rw [hl] at h0
  rcases Nat.lt_or_ge j 11 with h0 | h0
  · have hh := e_pr_18
    (try simp only [Bool.and_eq_true] at hh)
    exact e_bulk hh.2 (by omega) (by omega) hr
  omega
theorem e_pm_47 : e_prOK 47 := by
  have hl : ((e_pgs.getD 47 []).zip (e_ins.getD 47 [])).length = 42 := by decide +kernel
  have hl2 : (e_pgs.getD 47 []).length = 42 := by decide +kernel
  intro j r hr
  have h0 := (List.getElem?_eq_some_iff.mp hr).1
  rw [hl] at h0
  rcases Nat.lt_or_ge j 42 with h0 | h0
  · have hh := e_pr_19
    (try simp only [Bool.and_eq_true] at hh)
    exact e_bulk hh.1 (by omega) (by omega) hr
  omega
theorem e_pm_48 : e_prOK 48 := by
  have hl : ((e_pgs.getD 48 []).zip (e_ins.getD 48 [])).length = 25 := by decide +kernel
  have hl2 : (e_pgs.getD 48 []).length = 25 := by decide +kernel
  intro j r hr
  have h0 := (List.getElem?_eq_some_iff.mp hr).1
  rw [hl] at h0
  rcases Nat.lt_or_ge j 25 with h0 | h0
  · have hh := e_pr_19
    (try simp only [Bool.and_eq_true] at hh)
    exact e_bulk hh.2 (by omega) (by omega) hr
  omega
theorem e_pm_49 : e_prOK 49 := by
  have hl : ((e_pgs.getD 49 []).zip (e_ins.getD 49 [])).length = 42 := by decide +kernel
  have hl2 : (e_pgs.getD 49 []).length = 42 := by decide +kernel
  intro j r hr
  have h0 := (List.getElem?_eq_some_iff.mp hr).1
  rw [hl] at h0
  rcases Nat.lt_or_ge j 42 with h0 | h0
  · have hh := e_pr_20
    (try simp only [Bool.and_eq_true] at hh)
    exact e_bulk hh.1.1 (by omega) (by omega) hr
  omega
theorem e_pm_50 : e_prOK 50 := by
  have hl : ((e_pgs.getD 50 []).zip (e_ins.getD 50 [])).length = 12 := by decide +kernel
  have hl2 : (e_pgs.getD 50 []).length = 12 := by decide +kernel
  intro j r hr
  have h0 := (List.getElem?_eq_some_iff.mp hr).1
  rw [hl] at h0
  rcases Nat.lt_or_ge j 12 with h0 | h0
  · have hh := e_pr_20
    (try simp only [Bool.and_eq_true] at hh)
    exact e_bulk hh.1.2 (by omega) (by omega) hr
  omega
theorem e_pm_51 : e_prOK 51 := by
  have hl : ((e_pgs.getD 51 []).zip (e_ins.getD 51 [])).length = 15 := by decide +kernel
  have hl2 : (e_pgs.getD 51 []).length = 15 := by decide +kernel
  intro j r hr
  have h0 := (List.getElem?_eq_some_iff.mp hr).1
  rw [hl] at h0
  rcases Nat.lt_or_ge j 15 with h0 | h0
  · have hh := e_pr_20
    (try simp only [Bool.and_eq_true] at hh)
    exact e_bulk hh.2 (by omega) (by omega) hr
  omega
theorem e_pm_52 : e_prOK 52 := by
  have hl : ((e_pgs.getD 52 []).zip (e_ins.getD 52 [])).length = 9 := by decide +kernel
  have hl2 : (e_pgs.getD 52 []).length = 9 := by decide +kernel
  intro j r hr
  have h0 := (List.getElem?_eq_some_iff.mp hr).1
  rw [hl] at h0
  rcases Nat.lt_or_ge j 9 with h0 | h0
  · have hh := e_pr_21
    (try simp only [Bool.and_eq_true] at hh)
    exact e_bulk hh.1.1 (by omega) (by omega) hr
  omega
theorem e_pm_53 : e_prOK 53 := by
  have hl : ((e_pgs.getD 53 []).zip (e_ins.getD 53 [])).length = 25 := by decide +kernel
  have hl2 : (e_pgs.getD 53 []).length = 25 := by decide +kernel
  intro j r hr
  have h0 := (List.getElem?_eq_some_iff.mp hr).1
  rw [hl] at h0
  rcases Nat.lt_or_ge j 25 with h0 | h0
  · have hh := e_pr_21
    (try simp only [Bool.and_eq_true] at hh)
    exact e_bulk hh.1.2 (by omega) (by omega) hr
  omega
theorem e_pm_54 : e_prOK 54 := by
  have hl : ((e_pgs.getD 54 []).zip (e_ins.getD 54 [])).length = 15 := by decide +kernel
  have hl2 : (e_pgs.getD 54 []).length = 15 := by decide +kernel
  intro j r hr
  have h0 := (List.getElem?_eq_some_iff.mp hr).1
  rw [hl] at h0
  rcases Nat.lt_or_ge j 15 with h0 | h0
  · have hh := e_pr_21
    (try simp only [Bool.and_eq_true] at hh)
    exact e_bulk hh.2 (by omega) (by omega) hr
  omega
theorem e_pm_55 : e_prOK 55 := by
  have hl : ((e_pgs.getD 55 []).zip (e_ins.getD 55 [])).length = 22 := by decide +kernel
  have hl2 : (e_pgs.getD 55 []).length = 22 := by decide +kernel
  intro j r hr
  have h0 := (List.getElem?_eq_some_iff.mp hr).1
  rw [hl] at h0
  rcases Nat.lt_or_ge j 22 with h0 | h0
  · have hh := e_pr_22
    (try simp only [Bool.and_eq_true] at hh)
    exact e_bulk hh.1.1 (by omega) (by omega) hr
  omega
theorem e_pm_56 : e_prOK 56 := by
  have hl : ((e_pgs.getD 56 []).zip (e_ins.getD 56 [])).length = 10 := by decide +kernel
  have hl2 : (e_pgs.getD 56 []).length = 10 := by decide +kernel
  intro j r hr
  have h0 := (List.getElem?_eq_some_iff.mp hr).1
  rw [hl] at h0
  rcases Nat.lt_or_ge j 10 with h0 | h0
  · have hh := e_pr_22
    (try simp only [Bool.and_eq_true] at hh)
    exact e_bulk hh.1.2 (by omega) (by omega) hr
  omega
theorem e_pm_57 : e_prOK 57 := by
  have hl : ((e_pgs.getD 57 []).zip (e_ins.getD 57 [])).length = 10 := by decide +kernel
  have hl2 : (e_pgs.getD 57 []).length = 10 := by decide +kernel
  intro j r hr
  have h0 := (List.getElem?_eq_some_iff.mp hr).1
  rw [hl] at h0
  rcases Nat.lt_or_ge j 10 with h0 | h0
  · have hh := e_pr_22
    (try simp only [Bool.and_eq_true] at hh)
    exact e_bulk hh.2 (by omega) (by omega) hr
  omega
theorem e_pm_58 : e_prOK 58 := by
  have hl : ((e_pgs.getD 58 []).zip (e_ins.getD 58 [])).length = 33 := by decide +kernel
  have hl2 : (e_pgs.getD 58 []).length = 33 := by decide +kernel
  intro j r hr
  have h0 := (List.getElem?_eq_some_iff.mp hr).1
  rw [hl] at h0
  rcases Nat.lt_or_ge j 33 with h0 | h0
  · have hh := e_pr_23
    (try simp only [Bool.and_eq_true] at hh)
    exact e_bulk hh (by omega) (by omega) hr
  omega
theorem e_pm_59 : e_prOK 59 := by
  have hl : ((e_pgs.getD 59 []).zip (e_ins.getD 59 [])).length = 108 := by decide +kernel
  have hl2 : (e_pgs.getD 59 []).length = 108 := by decide +kernel
  intro j r hr
  have h0 := (List.getElem?_eq_some_iff.mp hr).1
  rw [hl] at h0
  rcases Nat.lt_or_ge j 60 with h0 | h0
  · have hh := e_pr_24
    (try simp only [Bool.and_eq_true] at hh)
    exact e_bulk hh (by omega) (by omega) hr
  rcases Nat.lt_or_ge j 108 with h60 | h60
  · have hh := e_pr_25
    (try simp only [Bool.and_eq_true] at hh)
    exact e_bulk hh.1 (by omega) (by omega) hr
  omega
theorem e_pm_60 : e_prOK 60 := by
  have hl : ((e_pgs.getD 60 []).zip (e_ins.getD 60 [])).length = 18 := by decide +kernel
  have hl2 : (e_pgs.getD 60 []).length = 18 := by decide +kernel
  intro j r hr
  have h0 := (List.getElem?_eq_some_iff.mp hr).1
  rw [hl] at h0
  rcases Nat.lt_or_ge j 18 with h0 | h0
  · have hh := e_pr_25
    (try simp only [Bool.and_eq_true] at hh)
    exact e_bulk hh.2 (by omega) (by omega) hr
  omega
theorem e_pm_61 : e_prOK 61 := by
  have hl : ((e_pgs.getD 61 []).zip (e_ins.getD 61 [])).length = 18 := by decide +kernel
  have hl2 : (e_pgs.getD 61 []).length = 18 := by decide +kernel
  intro j r hr
  have h0 := (List.getElem?_eq_some_iff.mp hr).1
  rw [hl] at h0
  rcases Nat.lt_or_ge j 18 with h0 | h0
  · have hh := e_pr_26
    (try simp only [Bool.and_eq_true] at hh)
    exact e_bulk hh (by omega) (by omega) hr
  omega
theorem e_pm_62 : e_prOK 62 := by
  have hl : ((e_pgs.getD 62 []).zip (e_ins.getD 62 [])).length = 58 := by decide +kernel
  have hl2 : (e_pgs.getD 62 []).length = 58 := by decide +kernel
  intro j r hr
  have h0 := (List.getElem?_eq_some_iff.mp hr).1
  rw [hl] at h0
  rcases Nat.lt_or_ge j 58 with h0 | h0
  · have hh := e_pr_27
    (try simp only [Bool.and_eq_true] at hh)
    exact e_bulk hh.1 (by omega) (by omega) hr
  omega
theorem e_pm_63 : e_prOK 63 := by
  have hl : ((e_pgs.getD 63 []).zip (e_ins.getD 63 [])).length = 8 := by decide +kernel
  have hl2 : (e_pgs.getD 63 []).length = 8 := by decide +kernel
  intro j r hr
  have h0 := (List.getElem?_eq_some_iff.mp hr).1
  rw [hl] at h0
  rcases Nat.lt_or_ge j 8 with h0 | h0
  · have hh := e_pr_27
    (try simp only [Bool.and_eq_true] at hh)
    exact e_bulk hh.2 (by omega) (by omega) hr
  omega
theorem e_pm_64 : e_prOK 64 := by
  have hl : ((e_pgs.getD 64 []).zip (e_ins.getD 64 [])).length = 6 := by decide +kernel
  have hl2 : (e_pgs.getD 64 []).length = 6 := by decide +kernel
  intro j r hr
  have h0 := (List.getElem?_eq_some_iff.mp hr).1
  rw [hl] at h0
  rcases Nat.lt_or_ge j 6 with h0 | h0
  · have hh := e_pr_28
    (try simp only [Bool.and_eq_true] at hh)
    exact e_bulk hh.1 (by omega) (by omega) hr
  omega
theorem e_pm_65 : e_prOK 65 := by
  have hl : ((e_pgs.getD 65 []).zip (e_ins.getD 65 [])).length = 29 := by decide +kernel
  have hl2 : (e_pgs.getD 65 []).length = 29 := by decide +kernel
  intro j r hr
  have h0 := (List.getElem?_eq_some_iff.mp hr).1
  rw [hl] at h0
  rcases Nat.lt_or_ge j 29 with h0 | h0
  · have hh := e_pr_28
    (try simp only [Bool.and_eq_true] at hh)
    exact e_bulk hh.2 (by omega) (by omega) hr
  omega
theorem e_pm_66 : e_prOK 66 := by
  have hl : ((e_pgs.getD 66 []).zip (e_ins.getD 66 [])).length = 57 := by decide +kernel
  have hl2 : (e_pgs.getD 66 []).length = 57 := by decide +kernel
  intro j r hr
  have h0 := (List.getElem?_eq_some_iff.mp hr).1
  rw [hl] at h0
  rcases Nat.lt_or_ge j 57 with h0 | h0
  · have hh := e_pr_29
    (try simp only [Bool.and_eq_true] at hh)
    exact e_bulk hh.1 (by omega) (by omega) hr
  omega
theorem e_pm_67 : e_prOK 67 := by
  have hl : ((e_pgs.getD 67 []).zip (e_ins.getD 67 [])).length = 12 := by decide +kernel
  have hl2 : (e_pgs.getD 67 []).length = 12 := by decide +kernel
  intro j r hr
  have h0 := (List.getElem?_eq_some_iff.mp hr).1
  rw [hl] at h0
  rcases Nat.lt_or_ge j 12 with h0 | h0
  · have hh := e_pr_29
    (try simp only [Bool.and_eq_true] at hh)
    exact e_bulk hh.2 (by omega) (by omega) hr
  omega
theorem e_pm_68 : e_prOK 68 := by
  have hl : ((e_pgs.getD 68 []).zip (e_ins.getD 68 [])).length = 7 := by decide +kernel
  have hl2 : (e_pgs.getD 68 []).length = 7 := by decide +kernel
  intro j r hr
  have h0 := (List.getElem?_eq_some_iff.mp hr).1
  rw [hl] at h0
  rcases Nat.lt_or_ge j 7 with h0 | h0
  · have hh := e_pr_30
    (try simp only [Bool.and_eq_true] at hh)
    exact e_bulk hh.1.1.1.1.1.1 (by omega) (by omega) hr
  omega
theorem e_pm_69 : e_prOK 69 := by
  have hl : ((e_pgs.getD 69 []).zip (e_ins.getD 69 [])).length = 3 := by decide +kernel
  have hl2 : (e_pgs.getD 69 []).length = 3 := by decide +kernel
  intro j r hr
  have h0 := (List.getElem?_eq_some_iff.mp hr).1
  rw [hl] at h0
  rcases Nat.lt_or_ge j 3 with h0 | h0
  · have hh := e_pr_30
    (try simp only [Bool.and_eq_true] at hh)
    exact e_bulk hh.1.1.1.1.1.2 (by omega) (by omega) hr
  omega
theorem e_pm_70 : e_prOK 70 := by
  have hl : ((e_pgs.getD 70 []).zip (e_ins.getD 70 [])).length = 3 := by decide +kernel
  have hl2 : (e_pgs.getD 70 []).length = 3 := by decide +kernel
  intro j r hr
  have h0 := (List.getElem?_eq_some_iff.mp hr).1
  rw [hl] at h0
  rcases Nat.lt_or_ge j 3 with h0 | h0
  · have hh := e_pr_30
    (try simp only [Bool.and_eq_true] at hh)
    exact e_bulk hh.1.1.1.1.2 (by omega) (by omega) hr
  omega
theorem e_pm_71 : e_prOK 71 := by
  have hl : ((e_pgs.getD 71 []).zip (e_ins.getD 71 [])).length = 3 := by decide +kernel
  have hl2 : (e_pgs.getD 71 []).length = 3 := by decide +kernel
  intro j r hr
  have h0 := (List.getElem?_eq_some_iff.mp hr).1
  rw [hl] at h0
  rcases Nat.lt_or_ge j 3 with h0 | h0
  · have hh := e_pr_30
    (try simp only [Bool.and_eq_true] at hh)
    exact e_bulk hh.1.1.1.2 (by omega) (by omega) hr
  omega
theorem e_pm_72 : e_prOK 72 := by
  have hl : ((e_pgs.getD 72 []).zip (e_ins.getD 72 [])).length = 8 := by decide +kernel
  have hl2 : (e_pgs.getD 72 []).length = 8 := by decide +kernel
  intro j r hr
  have h0 := (List.getElem?_eq_some_iff.mp hr).1
  rw [hl] at h0
  rcases Nat.lt_or_ge j 8 with h0 | h0
  · have hh := e_pr_30
    (try simp only [Bool.and_eq_true] at hh)
    exact e_bulk hh.1.1.2 (by omega) (by omega) hr
  omega
theorem e_pm_73 : e_prOK 73 := by
  have hl : ((e_pgs.getD 73 []).zip (e_ins.getD 73 [])).length = 10 := by decide +kernel
  have hl2 : (e_pgs.getD 73 []).length = 10 := by decide +kernel
  intro j r hr
  have h0 := (List.getElem?_eq_some_iff.mp hr).1
  rw [hl] at h0
  rcases Nat.lt_or_ge j 10 with h0 | h0
  · have hh := e_pr_30
    (try simp only [Bool.and_eq_true] at hh)
    exact e_bulk hh.1.2 (by omega) (by omega) hr
  omega
theorem e_pm_74 : e_prOK 74 := by
  have hl : ((e_pgs.getD 74 []).zip (e_ins.getD 74 [])).length = 23 := by decide +kernel
  have hl2 : (e_pgs.getD 74 []).length = 23 := by decide +kernel
  intro j r hr
  have h0 := (List.getElem?_eq_some_iff.mp hr).1
  rw [hl] at h0
  rcases Nat.lt_or_ge j 23 with h0 | h0
  · have hh := e_pr_30
    (try simp only [Bool.and_eq_true] at hh)
    exact e_bulk hh.2 (by omega) (by omega) hr
  omega
theorem e_pm_75 : e_prOK 75 := by
  have hl : ((e_pgs.getD 75 []).zip (e_ins.getD 75 [])).length = 30 := by decide +kernel
  have hl2 : (e_pgs.getD 75 []).length = 30 := by decide +kernel
  intro j r hr
  have h0 := (List.getElem?_eq_some_iff.mp hr).1
  rw [hl] at h0
  rcases Nat.lt_or_ge j 30 with h0 | h0
  · have hh := e_pr_31
    (try simp only [Bool.and_eq_true] at hh)
    exact e_bulk hh.1 (by omega) (by omega) hr
  omega
theorem e_pm_76 : e_prOK 76 := by
  have hl : ((e_pgs.getD 76 []).zip (e_ins.getD 76 [])).length = 26 := by decide +kernel
  have hl2 : (e_pgs.getD 76 []).length = 26 := by decide +kernel
  intro j r hr
  have h0 := (List.getElem?_eq_some_iff.mp hr).1
  rw [hl] at h0
  rcases Nat.lt_or_ge j 26 with h0 | h0
  · have hh := e_pr_31
    (try simp only [Bool.and_eq_true] at hh)
    exact e_bulk hh.2 (by omega) (by omega) hr
  omega
theorem e_pm_77 : e_prOK 77 := by
  have hl : ((e_pgs.getD 77 []).zip (e_ins.getD 77 [])).length = 45 := by decide +kernel
  have hl2 : (e_pgs.getD 77 []).length = 45 := by decide +kernel
  intro j r hr
  have h0 := (List.getElem?_eq_some_iff.mp hr).1
  rw [hl] at h0
  rcases Nat.lt_or_ge j 45 with h0 | h0
  · have hh := e_pr_32
    (try simp only [Bool.and_eq_true] at hh)
    exact e_bulk hh.1 (by omega) (by omega) hr
  omega
theorem e_pm_78 : e_prOK 78 := by
  have hl : ((e_pgs.getD 78 []).zip (e_ins.getD 78 [])).length = 21 := by decide +kernel
  have hl2 : (e_pgs.getD 78 []).length = 21 := by decide +kernel
  intro j r hr
  have h0 := (List.getElem?_eq_some_iff.mp hr).1
  rw [hl] at h0
  rcases Nat.lt_or_ge j 21 with h0 | h0
  · have hh := e_pr_32
    (try simp only [Bool.and_eq_true] at hh)
    exact e_bulk hh.2 (by omega) (by omega) hr
  omega
theorem e_pm_79 : e_prOK 79 := by
  have hl : ((e_pgs.getD 79 []).zip (e_ins.getD 79 [])).length = 15 := by decide +kernel
  have hl2 : (e_pgs.getD 79 []).length = 15 := by decide +kernel
  intro j r hr
  have h0 := (List.getElem?_eq_some_iff.mp hr).1
  rw [hl] at h0
  rcases Nat.lt_or_ge j 15 with h0 | h0
  · have hh := e_pr_33
    (try simp only [Bool.and_eq_true] at hh)
    exact e_bulk hh.1.1.1.1.1.1.1 (by omega) (by omega) hr
  omega
theorem e_pm_80 : e_prOK 80 := by
  have hl : ((e_pgs.getD 80 []).zip (e_ins.getD 80 [])).length = 4 := by decide +kernel
  have hl2 : (e_pgs.getD 80 []).length = 4 := by decide +kernel
  intro j r hr
  have h0 := (List.getElem?_eq_some_iff.mp hr).1
  rw [hl] at h0
  rcases Nat.lt_or_ge j 4 with h0 | h0
  · have hh := e_pr_33
    (try simp only [Bool.and_eq_true] at hh)
    exact e_bulk hh.1.1.1.1.1.1.2 (by omega) (by omega) hr
  omega
theorem e_pm_81 : e_prOK 81 := by
  have hl : ((e_pgs.getD 81 []).zip (e_ins.getD 81 [])).length = 6 := by decide +kernel
  have hl2 : (e_pgs.getD 81 []).length = 6 := by decide +kernel
  intro j r hr
  have h0 := (List.getElem?_eq_some_iff.mp hr).1
  rw [hl] at h0
  rcases Nat.lt_or_ge j 6 with h0 | h0
  · have hh := e_pr_33
    (try simp only [Bool.and_eq_true] at hh)
    exact e_bulk hh.1.1.1.1.1.2 (by omega) (by omega) hr
  omega
theorem e_pm_82 : e_prOK 82 := by
  have hl : ((e_pgs.getD 82 []).zip (e_ins.getD 82 [])).length = 5 := by decide +kernel
  have hl2 : (e_pgs.getD 82 []).length = 5 := by decide +kernel
  intro j r hr
  have h0 := (List.getElem?_eq_some_iff.mp hr).1
  rw [hl] at h0
  rcases Nat.lt_or_ge j 5 with h0 | h0
  · have hh := e_pr_33
    (try simp only [Bool.and_eq_true] at hh)
    exact e_bulk hh.1.1.1.1.2 (by omega) (by omega) hr
  omega
theorem e_pm_83 : e_prOK 83 := by
  have hl : ((e_pgs.getD 83 []).zip (e_ins.getD 83 [])).length = 6 := by decide +kernel
  have hl2 : (e_pgs.getD 83 []).length = 6 := by decide +kernel
  intro j r hr
  have h0 := (List.getElem?_eq_some_iff.mp hr).1
  rw [hl] at h0
  rcases Nat.lt_or_ge j 6 with h0 | h0
  · have hh := e_pr_33
    (try simp only [Bool.and_eq_true] at hh)
    exact e_bulk hh.1.1.1.2 (by omega) (by omega) hr
  omega
theorem e_pm_84 : e_prOK 84 := by
  have hl : ((e_pgs.getD 84 []).zip (e_ins.getD 84 [])).length = 7 := by decide +kernel
  have hl2 : (e_pgs.getD 84 []).length = 7 := by decide +kernel
  intro j r hr
  have h0 := (List.getElem?_eq_some_iff.mp hr).1
  rw [hl] at h0
  rcases Nat.lt_or_ge j 7 with h0 | h0
  · have hh := e_pr_33
    (try simp only [Bool.and_eq_true] at hh)
    exact e_bulk hh.1.1.2 (by omega) (by omega) hr
  omega
theorem e_pm_85 : e_prOK 85 := by
  have hl : ((e_pgs.getD 85 []).zip (e_ins.getD 85 [])).length = 19 := by decide +kernel
  have hl2 : (e_pgs.getD 85 []).length = 19 := by decide +kernel
  intro j r hr
  have h0 := (List.getElem?_eq_some_iff.mp hr).1
  rw [hl] at h0
  rcases Nat.lt_or_ge j 19 with h0 | h0
  · have hh := e_pr_33
    (try simp only [Bool.and_eq_true] at hh)
    exact e_bulk hh.1.2 (by omega) (by omega) hr
  omega
theorem e_pm_86 : e_prOK 86 := by
  have hl : ((e_pgs.getD 86 []).zip (e_ins.getD 86 [])).length = 6 := by decide +kernel
  have hl2 : (e_pgs.getD 86 []).length = 6 := by decide +kernel
  intro j r hr
  have h0 := (List.getElem?_eq_some_iff.mp hr).1
  rw [hl] at h0
  rcases Nat.lt_or_ge j 6 with h0 | h0
  · have hh := e_pr_33
    (try simp only [Bool.and_eq_true] at hh)
    exact e_bulk hh.2 (by omega) (by omega) hr
  omega
theorem e_pm_87 : e_prOK 87 := by
  have hl : ((e_pgs.getD 87 []).zip (e_ins.getD 87 [])).length = 23 := by decide +kernel
  have hl2 : (e_pgs.getD 87 []).length = 23 := by decide +kernel
  intro j r hr
  have h0 := (List.getElem?_eq_some_iff.mp hr).1
  rw [hl] at h0
  rcases Nat.lt_or_ge j 23 with h0 | h0
  · have hh := e_pr_34
    (try simp only [Bool.and_eq_true] at hh)
    exact e_bulk hh.1.1.1 (by omega) (by omega) hr
  omega
theorem e_pm_88 : e_prOK 88 := by
  have hl : ((e_pgs.getD 88 []).zip (e_ins.getD 88 [])).length = 21 := by decide +kernel
  have hl2 : (e_pgs.getD 88 []).length = 21 := by decide +kernel
  intro j r hr
  have h0 := (List.getElem?_eq_some_iff.mp hr).1
  rw [hl] at h0
  rcases Nat.lt_or_ge j 21 with h0 | h0
  · have hh := e_pr_34
    (try simp only [Bool.and_eq_true] at hh)
    exact e_bulk hh.1.1.2 (by omega) (by omega) hr
  omega
theorem e_pm_89 : e_prOK 89 := by
  have hl : ((e_pgs.getD 89 []).zip (e_ins.getD 89 [])).length = 12 := by decide +kernel
  have hl2 : (e_pgs.getD 89 []).length = 12 := by decide +kernel
  intro j r hr
  have h0 := (List.getElem?_eq_some_iff.mp hr).1
  rw [hl] at h0
  rcases Nat.lt_or_ge j 12 with h0 | h0
  · have hh := e_pr_34
    (try simp only [Bool.and_eq_true] at hh)
    exact e_bulk hh.1.2 (by omega) (by omega) hr
  omega
theorem e_pm_90 : e_prOK 90 := by
  have hl : ((e_pgs.getD 90 []).zip (e_ins.getD 90 [])).length = 13 := by decide +kernel
  have hl2 : (e_pgs.getD 90 []).length = 13 := by decide +kernel
  intro j r hr
  have h0 := (List.getElem?_eq_some_iff.mp hr).1
  rw [hl] at h0
  rcases Nat.lt_or_ge j 13 with h0 | h0
  · have hh := e_pr_34
    (try simp only [Bool.and_eq_true] at hh)
    exact e_bulk hh.2 (by omega) (by omega) hr
  omega
theorem e_pm_91 : e_prOK 91 := by
  have hl : ((e_pgs.getD 91 []).zip (e_ins.getD 91 [])).length = 5 := by decide +kernel
  have hl2 : (e_pgs.getD 91 []).length = 5 := by decide +kernel
  intro j r hr
  have h0 := (List.getElem?_eq_some_iff.mp hr).1
  rw [hl] at h0
  rcases Nat.lt_or_ge j 5 with h0 | h0
  · have hh := e_pr_35
    (try simp only [Bool.and_eq_true] at hh)
    exact e_bulk hh.1 (by omega) (by omega) hr
  omega
theorem e_pm_92 : e_prOK 92 := by
  have hl : ((e_pgs.getD 92 []).zip (e_ins.getD 92 [])).length = 48 := by decide +kernel
  have hl2 : (e_pgs.getD 92 []).length = 48 := by decide +kernel
  intro j r hr
  have h0 := (List.getElem?_eq_some_iff.mp hr).1
  rw [hl] at h0
  rcases Nat.lt_or_ge j 48 with h0 | h0
  · have hh := e_pr_35
    (try simp only [Bool.and_eq_true] at hh)
    exact e_bulk hh.2 (by omega) (by omega) hr
  omega
theorem e_pm_93 : e_prOK 93 := by
  have hl : ((e_pgs.getD 93 []).zip (e_ins.getD 93 [])).length = 35 := by decide +kernel
  have hl2 : (e_pgs.getD 93 []).length = 35 := by decide +kernel
  intro j r hr
  have h0 := (List.getElem?_eq_some_iff.mp hr).1
  rw [hl] at h0
  rcases Nat.lt_or_ge j 35 with h0 | h0
  · have hh := e_pr_36
    (try simp only [Bool.and_eq_true] at hh)
    exact e_bulk hh (by omega) (by omega) hr
  omega
theorem e_pm_94 : e_prOK 94 := by
  have hl : ((e_pgs.getD 94 []).zip (e_ins.getD 94 [])).length = 55 := by decide +kernel
  have hl2 : (e_pgs.getD 94 []).length = 55 := by decide +kernel
  intro j r hr
  have h0 := (List.getElem?_eq_some_iff.mp hr).1
  rw [hl] at h0
  rcases Nat.lt_or_ge j 55 with h0 | h0
  · have hh := e_pr_37
    (try simp only [Bool.and_eq_true] at hh)
    exact e_bulk hh (by omega) (by omega) hr
  omega
theorem e_pm_95 : e_prOK 95 := by
  have hl : ((e_pgs.getD 95 []).zip (e_ins.getD 95 [])).length = 16 := by decide +kernel
  have hl2 : (e_pgs.getD 95 []).length = 16 := by decide +kernel
  intro j r hr
  have h0 := (List.getElem?_eq_some_iff.mp hr).1
  rw [hl] at h0
  rcases Nat.lt_or_ge j 16 with h0 | h0
  · have hh := e_pr_38
    (try simp only [Bool.and_eq_true] at hh)
    exact e_bulk hh.1.1 (by omega) (by omega) hr
  omega
theorem e_pm_96 : e_prOK 96 := by
  have hl : ((e_pgs.getD 96 []).zip (e_ins.getD 96 [])).length = 13 := by decide +kernel
  have hl2 : (e_pgs.getD 96 []).length = 13 := by decide +kernel
  intro j r hr
  have h0 := (List.getElem?_eq_some_iff.mp hr).1
  rw [hl] at h0
  rcases Nat.lt_or_ge j 13 with h0 | h0
  · have hh := e_pr_38
    (try simp only [Bool.and_eq_true] at hh)
    exact e_bulk hh.1.2 (by omega) (by omega) hr
  omega
theorem e_pm_97 : e_prOK 97 := by
  have hl : ((e_pgs.getD 97 []).zip (e_ins.getD 97 [])).length = 27 := by decide +kernel
  have hl2 : (e_pgs.getD 97 []).length = 27 := by decide +kernel
  intro j r hr
  have h0 := (List.getElem?_eq_some_iff.mp hr).1
  rw [hl] at h0
  rcases Nat.lt_or_ge j 27 with h0 | h0
  · have hh := e_pr_38
    (try simp only [Bool.and_eq_true] at hh)
    exact e_bulk hh.2 (by omega) (by omega) hr
  omega
theorem e_pm_98 : e_prOK 98 := by
  have hl : ((e_pgs.getD 98 []).zip (e_ins.getD 98 [])).length = 32 := by decide +kernel
  have hl2 : (e_pgs.getD 98 []).length = 32 := by decide +kernel
  intro j r hr
  have h0 := (List.getElem?_eq_some_iff.mp hr).1
  rw [hl] at h0
  rcases Nat.lt_or_ge j 32 with h0 | h0
  · have hh := e_pr_39
    (try simp only [Bool.and_eq_true] at hh)
    exact e_bulk hh.1 (by omega) (by omega) hr
  omega
theorem e_pm_99 : e_prOK 99 := by
  have hl : ((e_pgs.getD 99 []).zip (e_ins.getD 99 [])).length = 36 := by decide +kernel
  have hl2 : (e_pgs.getD 99 []).length = 36 := by decide +kernel
  intro j r hr
  have h0 := (List.getElem?_eq_some_iff.mp hr).1
  rw [hl] at h0
  rcases Nat.lt_or_ge j 36 with h0 | h0
  · have hh := e_pr_39
    (try simp only [Bool.and_eq_true] at hh)
    exact e_bulk hh.2 (by omega) (by omega) hr
  omega
theorem e_pm_100 : e_prOK 100 := by
  have hl : ((e_pgs.getD 100 []).zip (e_ins.getD 100 [])).length = 27 := by decide +kernel
  have hl2 : (e_pgs.getD 100 []).length = 27 := by decide +kernel
  intro j r hr
  have h0 := (List.getElem?_eq_some_iff.mp hr).1
  rw [hl] at h0
  rcases Nat.lt_or_ge j 27 with h0 | h0
  · have hh := e_pr_40
    (try simp only [Bool.and_eq_true] at hh)
    exact e_bulk hh.1.1 (by omega) (by omega) hr
  omega
theorem e_pm_101 : e_prOK 101 := by
  have hl : ((e_pgs.getD 101 []).zip (e_ins.getD 101 [])).length = 19 := by decide +kernel
  have hl2 : (e_pgs.getD 101 []).length = 19 := by decide +kernel
  intro j r hr
  have h0 := (List.getElem?_eq_some_iff.mp hr).1
  rw [hl] at h0
  rcases Nat.lt_or_ge j 19 with h0 | h0
  · have hh := e_pr_40
    (try simp only [Bool.and_eq_true] at hh)
    exact e_bulk hh.1.2 (by omega) (by omega) hr
  omega
theorem e_pm_102 : e_prOK 102 := by
  have hl : ((e_pgs.getD 102 []).zip (e_ins.getD 102 [])).length = 12 := by decide +kernel
  have hl2 : (e_pgs.getD 102 []).length = 12 := by decide +kernel
  intro j r hr
  have h0 := (List.getElem?_eq_some_iff.mp hr).1
  rw [hl] at h0
  rcases Nat.lt_or_ge j 12 with h0 | h0
  · have hh := e_pr_40
    (try simp only [Bool.and_eq_true] at hh)
    exact e_bulk hh.2 (by omega) (by omega) hr
  omega
theorem e_pm_103 : e_prOK 103 := by
  have hl : ((e_pgs.getD 103 []).zip (e_ins.getD 103 [])).length = 30 := by decide +kernel
  have hl2 : (e_pgs.getD 103 []).length = 30 := by decide +kernel
  intro j r hr
  have h0 := (List.getElem?_eq_some_iff.mp hr).1
  rw [hl] at h0
  rcases Nat.lt_or_ge j 30 with h0 | h0
  · have hh := e_pr_41
    (try simp only [Bool.and_eq_true] at hh)
    exact e_bulk hh.1 (by omega) (by omega) hr
  omega
theorem e_pm_104 : e_prOK 104 := by
  have hl : ((e_pgs.getD 104 []).zip (e_ins.getD 104 [])).length = 27 := by decide +kernel
  have hl2 : (e_pgs.getD 104 []).length = 27 := by decide +kernel
  intro j r hr
  have h0 := (List.getElem?_eq_some_iff.mp hr).1
  rw [hl] at h0
  rcases Nat.lt_or_ge j 27 with h0 | h0
  · have hh := e_pr_41
    (try simp only [Bool.and_eq_true] at hh)
    exact e_bulk hh.2 (by omega) (by omega) hr
  omega
theorem e_pm_105 : e_prOK 105 := by
  have hl : ((e_pgs.getD 105 []).zip (e_ins.getD 105 [])).length = 28 := by decide +kernel
  have hl2 : (e_pgs.getD 105 []).length = 28 := by decide +kernel
  intro j r hr
  have h0 := (List.getElem?_eq_some_iff.mp hr).1
  rw [hl] at h0
  rcases Nat.lt_or_ge j 28 with h0 | h0
  · have hh := e_pr_42
    (try simp only [Bool.and_eq_true] at hh)
    exact e_bulk hh.1 (by omega) (by omega) hr
  omega
theorem e_pm_106 : e_prOK 106 := by
  have hl : ((e_pgs.getD 106 []).zip (e_ins.getD 106 [])).length = 14 := by decide +kernel
  have hl2 : (e_pgs.getD 106 []).length = 14 := by decide +kernel
  intro j r hr
  have h0 := (List.getElem?_eq_some_iff.mp hr).1
  rw [hl] at h0
  rcases Nat.lt_or_ge j 14 with h0 | h0
  · have hh := e_pr_42
    (try simp only [Bool.and_eq_true] at hh)
    exact e_bulk hh.2 (by omega) (by omega) hr
  omega
theorem e_pm_107 : e_prOK 107 := by
  have hl : ((e_pgs.getD 107 []).zip (e_ins.getD 107 [])).length = 65 := by decide +kernel
  have hl2 : (e_pgs.getD 107 []).length = 65 := by decide +kernel
  intro j r hr
  have h0 := (List.getElem?_eq_some_iff.mp hr).1
  rw [hl] at h0
  rcases Nat.lt_or_ge j 60 with h0 | h0
  · have hh := e_pr_43
    (try simp only [Bool.and_eq_true] at hh)
    exact e_bulk hh.1 (by omega) (by omega) hr
  rcases Nat.lt_or_ge j 65 with h60 | h60
  · have hh := e_pr_43
    (try simp only [Bool.and_eq_true] at hh)
    exact e_bulk hh.2 (by omega) (by omega) hr
  omega
theorem e_pm_108 : e_prOK 108 := by
  have hl : ((e_pgs.getD 108 []).zip (e_ins.getD 108 [])).length = 43 := by decide +kernel
  have hl2 : (e_pgs.getD 108 []).length = 43 := by decide +kernel
  intro j r hr
  have h0 := (List.getElem?_eq_some_iff.mp hr).1
  rw [hl] at h0
  rcases Nat.lt_or_ge j 43 with h0 | h0
  · have hh := e_pr_44
    (try simp only [Bool.and_eq_true] at hh)
    exact e_bulk hh (by omega) (by omega) hr
  omega
theorem e_pm_109 : e_prOK 109 := by
  have hl : ((e_pgs.getD 109 []).zip (e_ins.getD 109 [])).length = 32 := by decide +kernel
  have hl2 : (e_pgs.getD 109 []).length = 32 := by decide +kernel
  intro j r hr
  have h0 := (List.getElem?_eq_some_iff.mp hr).1
  rw [hl] at h0
  rcases Nat.lt_or_ge j 32 with h0 | h0
  · have hh := e_pr_45
    (try simp only [Bool.and_eq_true] at hh)
    exact e_bulk hh.1.1.1.1 (by omega) (by omega) hr
  omega
theorem e_pm_110 : e_prOK 110 := by
  have hl : ((e_pgs.getD 110 []).zip (e_ins.getD 110 [])).length = 9 := by decide +kernel
  have hl2 : (e_pgs.getD 110 []).length = 9 := by decide +kernel
  intro j r hr
  have h0 := (List.getElem?_eq_some_iff.mp hr).1
  rw [hl] at h0
  rcases Nat.lt_or_ge j 9 with h0 | h0
  · have hh := e_pr_45
    (try simp only [Bool.and_eq_true] at hh)
    exact e_bulk hh.1.1.1.2 (by omega) (by omega) hr
  omega
theorem e_pm_111 : e_prOK 111 := by
  have hl : ((e_pgs.getD 111 []).zip (e_ins.getD 111 [])).length = 3 := by decide +kernel
  have hl2 : (e_pgs.getD 111 []).length = 3 := by decide +kernel
  intro j r hr
  have h0 := (List.getElem?_eq_some_iff.mp hr).1
  rw [hl] at h0
  rcases Nat.lt_or_ge j 3 with h0 | h0
  · have hh := e_pr_45
    (try simp only [Bool.and_eq_true] at hh)
    exact e_bulk hh.1.1.2 (by omega) (by omega) hr
  omega
theorem e_pm_112 : e_prOK 112 := by
  have hl : ((e_pgs.getD 112 []).zip (e_ins.getD 112 [])).length = 10 := by decide +kernel
  have hl2 : (e_pgs.getD 112 []).length = 10 := by decide +kernel
  intro j r hr
  have h0 := (List.getElem?_eq_some_iff.mp hr).1
  rw [hl] at h0
  rcases Nat.lt_or_ge j 10 with h0 | h0
  · have hh := e_pr_45
    (try simp only [Bool.and_eq_true] at hh)
    exact e_bulk hh.1.2 (by omega) (by omega) hr
  omega
theorem e_pm_113 : e_prOK 113 := by
  have hl : ((e_pgs.getD 113 []).zip (e_ins.getD 113 [])).length = 13 := by decide +kernel
  have hl2 : (e_pgs.getD 113 []).length = 13 := by decide +kernel
  intro j r hr
  have h0 := (List.getElem?_eq_some_iff.mp hr).1
  rw [hl] at h0
  rcases Nat.lt_or_ge j 13 with h0 | h0
  · have hh := e_pr_45
    (try simp only [Bool.and_eq_true] at hh)
    exact e_bulk hh.2 (by omega) (by omega) hr
  omega
theorem e_pm_114 : e_prOK 114 := by
  have hl : ((e_pgs.getD 114 []).zip (e_ins.getD 114 [])).length = 18 := by decide +kernel
  have hl2 : (e_pgs.getD 114 []).length = 18 := by decide +kernel
  intro j r hr
  have h0 := (List.getElem?_eq_some_iff.mp hr).1
  rw [hl] at h0
  rcases Nat.lt_or_ge j 18 with h0 | h0
  · have hh := e_pr_46
    (try simp only [Bool.and_eq_true] at hh)
    exact e_bulk hh.1.1.1 (by omega) (by omega) hr
  omega
theorem e_pm_115 : e_prOK 115 := by
  have hl : ((e_pgs.getD 115 []).zip (e_ins.getD 115 [])).length = 16 := by decide +kernel
  have hl2 : (e_pgs.getD 115 []).length = 16 := by decide +kernel
  intro j r hr
  have h0 := (List.getElem?_eq_some_iff.mp hr).1
  rw [hl] at h0
  rcases Nat.lt_or_ge j 16 with h0 | h0
  · have hh := e_pr_46
    (try simp only [Bool.and_eq_true] at hh)
    exact e_bulk hh.1.1.2 (by omega) (by omega) hr
  omega
theorem e_pm_116 : e_prOK 116 := by
  have hl : ((e_pgs.getD 116 []).zip (e_ins.getD 116 [])).length = 12 := by decide +kernel
  have hl2 : (e_pgs.getD 116 []).length = 12 := by decide +kernel
  intro j r hr
  have h0 := (List.getElem?_eq_some_iff.mp hr).1
  rw [hl] at h0
  rcases Nat.lt_or_ge j 12 with h0 | h0
  · have hh := e_pr_46
    (try simp only [Bool.and_eq_true] at hh)
    exact e_bulk hh.1.2 (by omega) (by omega) hr
  omega
theorem e_pm_117 : e_prOK 117 := by
  have hl : ((e_pgs.getD 117 []).zip (e_ins.getD 117 [])).length = 15 := by decide +kernel
  have hl2 : (e_pgs.getD 117 []).length = 15 := by decide +kernel
  intro j r hr
  have h0 := (List.getElem?_eq_some_iff.mp hr).1
  rw [hl] at h0
  rcases Nat.lt_or_ge j 15 with h0 | h0
  · have hh := e_pr_46
    (try simp only [Bool.and_eq_true] at hh)
    exact e_bulk hh.2 (by omega) (by omega) hr
  omega
theorem e_pm_118 : e_prOK 118 := by
  have hl : ((e_pgs.getD 118 []).zip (e_ins.getD 118 [])).length = 34 := by decide +kernel
  have hl2 : (e_pgs.getD 118 []).length = 34 := by decide +kernel
  intro j r hr
  have h0 := (List.getElem?_eq_some_iff.mp hr).1
  rw [hl] at h0
  rcases Nat.lt_or_ge j 34 with h0 | h0
  · have hh := e_pr_47
    (try simp only [Bool.and_eq_true] at hh)
    exact e_bulk hh.1.1 (by omega) (by omega) hr
  omega
theorem e_pm_119 : e_prOK 119 := by
  have hl : ((e_pgs.getD 119 []).zip (e_ins.getD 119 [])).length = 4 := by decide +kernel
  have hl2 : (e_pgs.getD 119 []).length = 4 := by decide +kernel
  intro j r hr
  have h0 := (List.getElem?_eq_some_iff.mp hr).1
  rw [hl] at h0
  rcases Nat.lt_or_ge j 4 with h0 | h0
  · have hh := e_pr_47
    (try simp only [Bool.and_eq_true] at hh)
    exact e_bulk hh.1.2 (by omega) (by omega) hr
  omega
theorem e_pm_120 : e_prOK 120 := by
  have hl : ((e_pgs.getD 120 []).zip (e_ins.getD 120 [])).length = 16 := by decide +kernel
  have hl2 : (e_pgs.getD 120 []).length = 16 := by decide +kernel
  intro j r hr
  have h0 := (List.getElem?_eq_some_iff.mp hr).1
  rw [hl] at h0
  rcases Nat.lt_or_ge j 16 with h0 | h0
  · have hh := e_pr_47
    (try simp only [Bool.and_eq_true] at hh)
    exact e_bulk hh.2 (by omega) (by omega) hr
  omega
theorem e_pm_121 : e_prOK 121 := by
  have hl : ((e_pgs.getD 121 []).zip (e_ins.getD 121 [])).length = 18 := by decide +kernel
  have hl2 : (e_pgs.getD 121 []).length = 18 := by decide +kernel
  intro j r hr
  have h0 := (List.getElem?_eq_some_iff.mp hr).1
  rw [hl] at h0
  rcases Nat.lt_or_ge j 18 with h0 | h0
  · have hh := e_pr_48
    (try simp only [Bool.and_eq_true] at hh)
    exact e_bulk hh.1.1.1 (by omega) (by omega) hr
  omega
theorem e_pm_122 : e_prOK 122 := by
  have hl : ((e_pgs.getD 122 []).zip (e_ins.getD 122 [])).length = 23 := by decide +kernel
  have hl2 : (e_pgs.getD 122 []).length = 23 := by decide +kernel
  intro j r hr
  have h0 := (List.getElem?_eq_some_iff.mp hr).1
  rw [hl] at h0
  rcases Nat.lt_or_ge j 23 with h0 | h0
  · have hh := e_pr_48
    (try simp only [Bool.and_eq_true] at hh)
    exact e_bulk hh.1.1.2 (by omega) (by omega) hr
  omega
theorem e_pm_123 : e_prOK 123 := by
  have hl : ((e_pgs.getD 123 []).zip (e_ins.getD 123 [])).length = 9 := by decide +kernel
  have hl2 : (e_pgs.getD 123 []).length = 9 := by decide +kernel
  intro j r hr
  have h0 := (List.getElem?_eq_some_iff.mp hr).1
  rw [hl] at h0
  rcases Nat.lt_or_ge j 9 with h0 | h0
  · have hh := e_pr_48
    (try simp only [Bool.and_eq_true] at hh)
    exact e_bulk hh.1.2 (by omega) (by omega) hr
  omega
theorem e_pm_124 : e_prOK 124 := by
  have hl : ((e_pgs.getD 124 []).zip (e_ins.getD 124 [])).length = 17 := by decide +kernel
  have hl2 : (e_pgs.getD 124 []).length = 17 := by decide +kernel
  intro j r hr
  have h0 := (List.getElem?_eq_some_iff.mp hr).1
  rw [hl] at h0
  rcases Nat.lt_or_ge j 17 with h0 | h0
  · have hh := e_pr_48
    (try simp only [Bool.and_eq_true] at hh)
    exact e_bulk hh.2 (by omega) (by omega) hr
  omega
theorem e_pm_125 : e_prOK 125 := by
  have hl : ((e_pgs.getD 125 []).zip (e_ins.getD 125 [])).length = 10 := by decide +kernel
  have hl2 : (e_pgs.getD 125 []).length = 10 := by decide +kernel
  intro j r hr
  have h0 := (List.getElem?_eq_some_iff.mp hr).1
  rw [hl] at h0
  rcases Nat.lt_or_ge j 10 with h0 | h0
  · have hh := e_pr_49
    (try simp only [Bool.and_eq_true] at hh)
    exact e_bulk hh.1.1.1 (by omega) (by omega) hr
  omega
theorem e_pm_126 : e_prOK 126 := by
  have hl : ((e_pgs.getD 126 []).zip (e_ins.getD 126 [])).length = 14 := by decide +kernel
  have hl2 : (e_pgs.getD 126 []).length = 14 := by decide +kernel
  intro j r hr
  have h0 := (List.getElem?_eq_some_iff.mp hr).1
  rw [hl] at h0
  rcases Nat.lt_or_ge j 14 with h0 | h0
  · have hh := e_pr_49
    (try simp only [Bool.and_eq_true] at hh)
    exact e_bulk hh.1.1.2 (by omega) (by omega) hr
  omega
theorem e_pm_127 : e_prOK 127 := by
  have hl : ((e_pgs.getD 127 []).zip (e_ins.getD 127 [])).length = 17 := by decide +kernel
  have hl2 : (e_pgs.getD 127 []).length = 17 := by decide +kernel
  intro j r hr
  have h0 := (List.getElem?_eq_some_iff.mp hr).1
  rw [hl] at h0
  rcases Nat.lt_or_ge j 17 with h0 | h0
  · have hh := e_pr_49
    (try simp only [Bool.and_eq_true] at hh)
    exact e_bulk hh.1.2 (by omega) (by omega) hr
  omega
theorem e_pm_128 : e_prOK 128 := by
  have hl : ((e_pgs.getD 128 []).zip (e_ins.getD 128 [])).length = 18 := by decide +kernel
  have hl2 : (e_pgs.getD 128 []).length = 18 := by decide +kernel
  intro j r hr
  have h0 := (List.getElem?_eq_some_iff.mp hr).1
  rw [hl] at h0
  rcases Nat.lt_or_ge j 18 with h0 | h0
  · have hh := e_pr_49
    (try simp only [Bool.and_eq_true] at hh)
    exact e_bulk hh.2 (by omega) (by omega) hr
  omega
theorem e_pm_129 : e_prOK 129 := by
  have hl : ((e_pgs.getD 129 []).zip (e_ins.getD 129 [])).length = 14 := by decide +kernel
  have hl2 : (e_pgs.getD 129 []).length = 14 := by decide +kernel
  intro j r hr
  have h0 := (List.getElem?_eq_some_iff.mp hr).1
  rw [hl] at h0
  rcases Nat.lt_or_ge j 14 with h0 | h0
  · have hh := e_pr_50
    (try simp only [Bool.and_eq_true] at hh)
    exact e_bulk hh.1 (by omega) (by omega) hr
  omega
theorem e_pm_130 : e_prOK 130 := by
  have hl : ((e_pgs.getD 130 []).zip (e_ins.getD 130 [])).length = 36 := by decide +kernel
  have hl2 : (e_pgs.getD 130 []).length = 36 := by decide +kernel
  intro j r hr
  have h0 := (List.getElem?_eq_some_iff.mp hr).1
  rw [hl] at h0
  rcases Nat.lt_or_ge j 36 with h0 | h0
  · have hh := e_pr_50
    (try simp only [Bool.and_eq_true] at hh)
    exact e_bulk hh.2 (by omega) (by omega) hr
  omega
theorem e_pm_131 : e_prOK 131 := by
  have hl : ((e_pgs.getD 131 []).zip (e_ins.getD 131 [])).length = 35 := by decide +kernel
  have hl2 : (e_pgs.getD 131 []).length = 35 := by decide +kernel
  intro j r hr
  have h0 := (List.getElem?_eq_some_iff.mp hr).1
  rw [hl] at h0
  rcases Nat.lt_or_ge j 35 with h0 | h0
  · have hh := e_pr_51
    (try simp only [Bool.and_eq_true] at hh)
    exact e_bulk hh.1.1.1.1 (by omega) (by omega) hr
  omega
theorem e_pm_132 : e_prOK 132 := by
  have hl : ((e_pgs.getD 132 []).zip (e_ins.getD 132 [])).length = 10 := by decide +kernel
  have hl2 : (e_pgs.getD 132 []).length = 10 := by decide +kernel
  intro j r hr
  have h0 := (List.getElem?_eq_some_iff.mp hr).1
  rw [hl] at h0
  rcases Nat.lt_or_ge j 10 with h0 | h0
  · have hh := e_pr_51
    (try simp only [Bool.and_eq_true] at hh)
    exact e_bulk hh.1.1.1.2 (by omega) (by omega) hr
  omega
theorem e_pm_133 : e_prOK 133 := by
  have hl : ((e_pgs.getD 133 []).zip (e_ins.getD 133 [])).length = 3 := by decide +kernel
  have hl2 : (e_pgs.getD 133 []).length = 3 := by decide +kernel
  intro j r hr
  have h0 := (List.getElem?_eq_some_iff.mp hr).1
  rw [hl] at h0
  rcases Nat.lt_or_ge j 3 with h0 | h0
  · have hh := e_pr_51
    (try simp only [Bool.and_eq_true] at hh)
    exact e_bulk hh.1.1.2 (by omega) (by omega) hr
  omega
theorem e_pm_134 : e_prOK 134 := by
  have hl : ((e_pgs.getD 134 []).zip (e_ins.getD 134 [])).length = 3 := by decide +kernel
  have hl2 : (e_pgs.getD 134 []).length = 3 := by decide +kernel
  intro j r hr
  have h0 := (List.getElem?_eq_some_iff.mp hr).1
  rw [hl] at h0
  rcases Nat.lt_or_ge j 3 with h0 | h0
  · have hh := e_pr_51
    (try simp only [Bool.and_eq_true] at hh)
    exact e_bulk hh.1.2 (by omega) (by omega) hr
  omega
theorem e_pm_135 : e_prOK 135 := by
  have hl : ((e_pgs.getD 135 []).zip (e_ins.getD 135 [])).length = 8 := by decide +kernel
  have hl2 : (e_pgs.getD 135 []).length = 8 := by decide +kernel
  intro j r hr
  have h0 := (List.getElem?_eq_some_iff.mp hr).1
  rw [hl] at h0
  rcases Nat.lt_or_ge j 8 with h0 | h0
  · have hh := e_pr_51
    (try simp only [Bool.and_eq_true] at hh)
    exact e_bulk hh.2 (by omega) (by omega) hr
  omega
theorem e_pm_136 : e_prOK 136 := by
  have hl : ((e_pgs.getD 136 []).zip (e_ins.getD 136 [])).length = 12 := by decide +kernel
  have hl2 : (e_pgs.getD 136 []).length = 12 := by decide +kernel
  intro j r hr
  have h0 := (List.getElem?_eq_some_iff.mp hr).1
  rw [hl] at h0
  rcases Nat.lt_or_ge j 12 with h0 | h0
  · have hh := e_pr_52
    (try simp only [Bool.and_eq_true] at hh)
    exact e_bulk hh.1.1.1.1.1.1 (by omega) (by omega) hr
  omega
theorem e_pm_137 : e_prOK 137 := by
  have hl : ((e_pgs.getD 137 []).zip (e_ins.getD 137 [])).length = 11 := by decide +kernel
  have hl2 : (e_pgs.getD 137 []).length = 11 := by decide +kernel
  intro j r hr
  have h0 := (List.getElem?_eq_some_iff.mp hr).1
  rw [hl] at h0
  rcases Nat.lt_or_ge j 11 with h0 | h0
  · have hh := e_pr_52
    (try simp only [Bool.and_eq_true] at hh)
    exact e_bulk hh.1.1.1.1.1.2 (by omega) (by omega) hr
  omega
theorem e_pm_138 : e_prOK 138 := by
  have hl : ((e_pgs.getD 138 []).zip (e_ins.getD 138 [])).length = 5 := by decide +kernel
  have hl2 : (e_pgs.getD 138 []).length = 5 := by decide +kernel
  intro j r hr
  have h0 := (List.getElem?_eq_some_iff.mp hr).1
  rw [hl] at h0
  rcases Nat.lt_or_ge j 5 with h0 | h0
  · have hh := e_pr_52
    (try simp only [Bool.and_eq_true] at hh)
    exact e_bulk hh.1.1.1.1.2 (by omega) (by omega) hr
  omega
theorem e_pm_139 : e_prOK 139 := by
  have hl : ((e_pgs.getD 139 []).zip (e_ins.getD 139 [])).length = 9 := by decide +kernel
  have hl2 : (e_pgs.getD 139 []).length = 9 := by decide +kernel
  intro j r hr
  have h0 := (List.getElem?_eq_some_iff.mp hr).1
  rw [hl] at h0
  rcases Nat.lt_or_ge j 9 with h0 | h0
  · have hh := e_pr_52
    (try simp only [Bool.and_eq_true] at hh)
    exact e_bulk hh.1.1.1.2 (by omega) (by omega) hr
  omega
theorem e_pm_140 : e_prOK 140 := by
  have hl : ((e_pgs.getD 140 []).zip (e_ins.getD 140 [])).length = 9 := by decide +kernel
  have hl2 : (e_pgs.getD 140 []).length = 9 := by decide +kernel
  intro j r hr
  have h0 := (List.getElem?_eq_some_iff.mp hr).1
  rw [hl] at h0
  rcases Nat.lt_or_ge j 9 with h0 | h0
  · have hh := e_pr_52
    (try simp only [Bool.and_eq_true] at hh)
    exact e_bulk hh.1.1.2 (by omega) (by omega) hr
  omega
theorem e_pm_141 : e_prOK 141 := by
  have hl : ((e_pgs.getD 141 []).zip (e_ins.getD 141 [])).length = 17 := by decide +kernel
  have hl2 : (e_pgs.getD 141 []).length = 17 := by decide +kernel
  intro j r hr
  have h0 := (List.getElem?_eq_some_iff.mp hr).1
  rw [hl] at h0
  rcases Nat.lt_or_ge j 17 with h0 | h0
  · have hh := e_pr_52
    (try simp only [Bool.and_eq_true] at hh)
    exact e_bulk hh.1.2 (by omega) (by omega) hr
  omega
theorem e_pm_142 : e_prOK 142 := by
  have hl : ((e_pgs.getD 142 []).zip (e_ins.getD 142 [])).length = 6 := by decide +kernel
  have hl2 : (e_pgs.getD 142 []).length = 6 := by decide +kernel
  intro j r hr
  have h0 := (List.getElem?_eq_some_iff.mp hr).1
  rw [hl] at h0
  rcases Nat.lt_or_ge j 6 with h0 | h0
  · have hh := e_pr_52
    (try simp only [Bool.and_eq_true] at hh)
    exact e_bulk hh.2 (by omega) (by omega) hr
  omega
theorem e_pm_143 : e_prOK 143 := by
  have hl : ((e_pgs.getD 143 []).zip (e_ins.getD 143 [])).length = 17 := by decide +kernel
  have hl2 : (e_pgs.getD 143 []).length = 17 := by decide +kernel
  intro j r hr
  have h0 := (List.getElem?_eq_some_iff.mp hr).1
  rw [hl] at h0
  rcases Nat.lt_or_ge j 17 with h0 | h0
  · have hh := e_pr_53
    (try simp only [Bool.and_eq_true] at hh)
    exact e_bulk hh.1.1 (by omega) (by omega) hr
  omega
theorem e_pm_144 : e_prOK 144 := by
  have hl : ((e_pgs.getD 144 []).zip (e_ins.getD 144 [])).length = 16 := by decide +kernel
  have hl2 : (e_pgs.getD 144 []).length = 16 := by decide +kernel
  intro j r hr
  have h0 := (List.getElem?_eq_some_iff.mp hr).1
  rw [hl] at h0
  rcases Nat.lt_or_ge j 16 with h0 | h0
  · have hh := e_pr_53
    (try simp only [Bool.and_eq_true] at hh)
    exact e_bulk hh.1.2 (by omega) (by omega) hr
  omega
theorem e_pm_145 : e_prOK 145 := by
  have hl : ((e_pgs.getD 145 []).zip (e_ins.getD 145 [])).length = 11 := by decide +kernel
  have hl2 : (e_pgs.getD 145 []).length = 11 := by decide +kernel
  intro j r hr
  have h0 := (List.getElem?_eq_some_iff.mp hr).1
  rw [hl] at h0
  rcases Nat.lt_or_ge j 11 with h0 | h0
  · have hh := e_pr_53
    (try simp only [Bool.and_eq_true] at hh)
    exact e_bulk hh.2 (by omega) (by omega) hr
  omega
theorem e_pm_146 : e_prOK 146 := by
  have hl : ((e_pgs.getD 146 []).zip (e_ins.getD 146 [])).length = 35 := by decide +kernel
  have hl2 : (e_pgs.getD 146 []).length = 35 := by decide +kernel
  intro j r hr
  have h0 := (List.getElem?_eq_some_iff.mp hr).1
  rw [hl] at h0
  rcases Nat.lt_or_ge j 35 with h0 | h0
  · have hh := e_pr_54
    (try simp only [Bool.and_eq_true] at hh)
    exact e_bulk hh.1.1 (by omega) (by omega) hr
  omega
theorem e_pm_147 : e_prOK 147 := by
  have hl : ((e_pgs.getD 147 []).zip (e_ins.getD 147 [])).length = 11 := by decide +kernel
  have hl2 : (e_pgs.getD 147 []).length = 11 := by decide +kernel
  intro j r hr
  have h0 := (List.getElem?_eq_some_iff.mp hr).1
  rw [hl] at h0
  rcases Nat.lt_or_ge j 11 with h0 | h0
  · have hh := e_pr_54
    (try simp only [Bool.and_eq_true] at hh)
    exact e_bulk hh.1.2 (by omega) (by omega) hr
  omega
theorem e_pm_148 : e_prOK 148 := by
  have hl : ((e_pgs.getD 148 []).zip (e_ins.getD 148 [])).length = 5 := by decide +kernel
  have hl2 : (e_pgs.getD 148 []).length = 5 := by decide +kernel
  intro j r hr
  have h0 := (List.getElem?_eq_some_iff.mp hr).1
  rw [hl] at h0
  rcases Nat.lt_or_ge j 5 with h0 | h0
  · have hh := e_pr_54
    (try simp only [Bool.and_eq_true] at hh)
    exact e_bulk hh.2 (by omega) (by omega) hr
  omega
theorem e_pm_149 : e_prOK 149 := by
  have hl : ((e_pgs.getD 149 []).zip (e_ins.getD 149 [])).length = 27 := by decide +kernel
  have hl2 : (e_pgs.getD 149 []).length = 27 := by decide +kernel
  intro j r hr
  have h0 := (List.getElem?_eq_some_iff.mp hr).1
  rw [hl] at h0
  rcases Nat.lt_or_ge j 27 with h0 | h0
  · have hh := e_pr_55
    (try simp only [Bool.and_eq_true] at hh)
    exact e_bulk hh.1 (by omega) (by omega) hr
  omega
theorem e_pm_150 : e_prOK 150 := by
  have hl : ((e_pgs.getD 150 []).zip (e_ins.getD 150 [])).length = 25 := by decide +kernel
  have hl2 : (e_pgs.getD 150 []).length = 25 := by decide +kernel
  intro j r hr
  have h0 := (List.getElem?_eq_some_iff.mp hr).1
  rw [hl] at h0
  rcases Nat.lt_or_ge j 25 with h0 | h0
  · have hh := e_pr_55
    (try simp only [Bool.and_eq_true] at hh)
    exact e_bulk hh.2 (by omega) (by omega) hr
  omega
theorem e_pm_151 : e_prOK 151 := by
  have hl : ((e_pgs.getD 151 []).zip (e_ins.getD 151 [])).length = 61 := by decide +kernel
  have hl2 : (e_pgs.getD 151 []).length = 61 := by decide +kernel
  intro j r hr
  have h0 := (List.getElem?_eq_some_iff.mp hr).1
  rw [hl] at h0
  rcases Nat.lt_or_ge j 60 with h0 | h0
  · have hh := e_pr_56
    (try simp only [Bool.and_eq_true] at hh)
    exact e_bulk hh.1 (by omega) (by omega) hr
  rcases Nat.lt_or_ge j 61 with h60 | h60
  · have hh := e_pr_56
    (try simp only [Bool.and_eq_true] at hh)
    exact e_bulk hh.2 (by omega) (by omega) hr
  omega
theorem e_pm_152 : e_prOK 152 := by
  have hl : ((e_pgs.getD 152 []).zip (e_ins.getD 152 [])).length = 24 := by decide +kernel
  have hl2 : (e_pgs.getD 152 []).length = 24 := by decide +kernel
  intro j r hr
  have h0 := (List.getElem?_eq_some_iff.mp hr).1
  rw [hl] at h0
  rcases Nat.lt_or_ge j 24 with h0 | h0
  · have hh := e_pr_57
    (try simp only [Bool.and_eq_true] at hh)
    exact e_bulk hh.1 (by omega) (by omega) hr
  omega
theorem e_pm_153 : e_prOK 153 := by
  have hl : ((e_pgs.getD 153 []).zip (e_ins.getD 153 [])).length = 13 := by decide +kernel
  have hl2 : (e_pgs.getD 153 []).length = 13 := by decide +kernel
  intro j r hr
  have h0 := (List.getElem?_eq_some_iff.mp hr).1
  rw [hl] at h0
  rcases Nat.lt_or_ge j 13 with h0 | h0
  · have hh := e_pr_57
    (try simp only [Bool.and_eq_true] at hh)
    exact e_bulk hh.2 (by omega) (by omega) hr
  omega
theorem e_pm_154 : e_prOK 154 := by
  have hl : ((e_pgs.getD 154 []).zip (e_ins.getD 154 [])).length = 44 := by decide +kernel
  have hl2 : (e_pgs.getD 154 []).length = 44 := by decide +kernel
  intro j r hr
  have h0 := (List.getElem?_eq_some_iff.mp hr).1
  rw [hl] at h0
  rcases Nat.lt_or_ge j 44 with h0 | h0
  · have hh := e_pr_58
    (try simp only [Bool.and_eq_true] at hh)
    exact e_bulk hh.1.1 (by omega) (by omega) hr
  omega
theorem e_pm_155 : e_prOK 155 := by
  have hl : ((e_pgs.getD 155 []).zip (e_ins.getD 155 [])).length = 17 := by decide +kernel
  have hl2 : (e_pgs.getD 155 []).length = 17 := by decide +kernel
  intro j r hr
  have h0 := (List.getElem?_eq_some_iff.mp hr).1
  rw [hl] at h0
  rcases Nat.lt_or_ge j 17 with h0 | h0
  · have hh := e_pr_58
    (try simp only [Bool.and_eq_true] at hh)
    exact e_bulk hh.1.2 (by omega) (by omega) hr
  omega
theorem e_pm_156 : e_prOK 156 := by
  have hl : ((e_pgs.getD 156 []).zip (e_ins.getD 156 [])).length = 9 := by decide +kernel
  have hl2 : (e_pgs.getD 156 []).length = 9 := by decide +kernel
  intro j r hr
  have h0 := (List.getElem?_eq_some_iff.mp hr).1
  rw [hl] at h0
  rcases Nat.lt_or_ge j 9 with h0 | h0
  · have hh := e_pr_58
    (try simp only [Bool.and_eq_true] at hh)
    exact e_bulk hh.2 (by omega) (by omega) hr
  omega
theorem e_pm_157 : e_prOK 157 := by
  have hl : ((e_pgs.getD 157 []).zip (e_ins.getD 157 [])).length = 12 := by decide +kernel
  have hl2 : (e_pgs.getD 157 []).length = 12 := by decide +kernel
  intro j r hr
  have h0 := (List.getElem?_eq_some_iff.mp hr).1
  rw [hl] at h0
  rcases Nat.lt_or_ge j 12 with h0 | h0
  · have hh := e_pr_59
    (try simp only [Bool.and_eq_true] at hh)
    exact e_bulk hh.1.1.1.1 (by omega) (by omega) hr
  omega
theorem e_pm_158 : e_prOK 158 := by
  have hl : ((e_pgs.getD 158 []).zip (e_ins.getD 158 [])).length = 4 := by decide +kernel
  have hl2 : (e_pgs.getD 158 []).length = 4 := by decide +kernel
  intro j r hr
  have h0 := (List.getElem?_eq_some_iff.mp hr).1
  rw [hl] at h0
  rcases Nat.lt_or_ge j 4 with h0 | h0
  · have hh := e_pr_59
    (try simp only [Bool.and_eq_true] at hh)
    exact e_bulk hh.1.1.1.2 (by omega) (by omega) hr
  omega
theorem e_pm_159 : e_prOK 159 := by
  have hl : ((e_pgs.getD 159 []).zip (e_ins.getD 159 [])).length = 4 := by decide +kernel
  have hl2 : (e_pgs.getD 159 []).length = 4 := by decide +kernel
  intro j r hr
  have h0 := (List.getElem?_eq_some_iff.mp hr).1
  rw [hl] at h0
  rcases Nat.lt_or_ge j 4 with h0 | h0
  · have hh := e_pr_59
    (try simp only [Bool.and_eq_true] at hh)
    exact e_bulk hh.1.1.2 (by omega) (by omega) hr
  omega
theorem e_pm_160 : e_prOK 160 := by
  have hl : ((e_pgs.getD 160 []).zip (e_ins.getD 160 [])).length = 12 := by decide +kernel
  have hl2 : (e_pgs.getD 160 []).length = 12 := by decide +kernel
  intro j r hr
  have h0 := (List.getElem?_eq_some_iff.mp hr).1
  rw [hl] at h0
  rcases Nat.lt_or_ge j 12 with h0 | h0
  · have hh := e_pr_59
    (try simp only [Bool.and_eq_true] at hh)
    exact e_bulk hh.1.2 (by omega) (by omega) hr
  omega
theorem e_pm_161 : e_prOK 161 := by
  have hl : ((e_pgs.getD 161 []).zip (e_ins.getD 161 [])).length = 35 := by decide +kernel
  have hl2 : (e_pgs.getD 161 []).length = 35 := by decide +kernel
  intro j r hr
  have h0 := (List.getElem?_eq_some_iff.mp hr).1
  rw [hl] at h0
  rcases Nat.lt_or_ge j 35 with h0 | h0
  · have hh := e_pr_59
    (try simp only [Bool.and_eq_true] at hh)
    exact e_bulk hh.2 (by omega) (by omega) hr
  omega
theorem e_pm_162 : e_prOK 162 := by
  have hl : ((e_pgs.getD 162 []).zip (e_ins.getD 162 [])).length = 13 := by decide +kernel
  have hl2 : (e_pgs.getD 162 []).length = 13 := by decide +kernel
  intro j r hr
  have h0 := (List.getElem?_eq_some_iff.mp hr).1
  rw [hl] at h0
  rcases Nat.lt_or_ge j 13 with h0 | h0
  · have hh := e_pr_60
    (try simp only [Bool.and_eq_true] at hh)
    exact e_bulk hh.1.1.1 (by omega) (by omega) hr
  omega
theorem e_pm_163 : e_prOK 163 := by
  have hl : ((e_pgs.getD 163 []).zip (e_ins.getD 163 [])).length = 10 := by decide +kernel
  have hl2 : (e_pgs.getD 163 []).length = 10 := by decide +kernel
  intro j r hr
  have h0 := (List.getElem?_eq_some_iff.mp hr).1
  rw [hl] at h0
  rcases Nat.lt_or_ge j 10 with h0 | h0
  · have hh := e_pr_60
    (try simp only [Bool.and_eq_true] at hh)
    exact e_bulk hh.1.1.2 (by omega) (by omega) hr
  omega
theorem e_pm_164 : e_prOK 164 := by
  have hl : ((e_pgs.getD 164 []).zip (e_ins.getD 164 [])).length = 4 := by decide +kernel
  have hl2 : (e_pgs.getD 164 []).length = 4 := by decide +kernel
  intro j r hr
  have h0 := (List.getElem?_eq_some_iff.mp hr).1
  rw [hl] at h0
  rcases Nat.lt_or_ge j 4 with h0 | h0
  · have hh := e_pr_60
    (try simp only [Bool.and_eq_true] at hh)
    exact e_bulk hh.1.2 (by omega) (by omega) hr
  omega
theorem e_pm_165 : e_prOK 165 := by
  have hl : ((e_pgs.getD 165 []).zip (e_ins.getD 165 [])).length = 23 := by decide +kernel
  have hl2 : (e_pgs.getD 165 []).length = 23 := by decide +kernel
  intro j r hr
  have h0 := (List.getElem?_eq_some_iff.mp hr).1
  rw [hl] at h0
  rcases Nat.lt_or_ge j 23 with h0 | h0
  · have hh := e_pr_60
    (try simp only [Bool.and_eq_true] at hh)
    exact e_bulk hh.2 (by omega) (by omega) hr
  omega
theorem e_pm_166 : e_prOK 166 := by
  have hl : ((e_pgs.getD 166 []).zip (e_ins.getD 166 [])).length = 26 := by decide +kernel
  have hl2 : (e_pgs.getD 166 []).length = 26 := by decide +kernel
  intro j r hr
  have h0 := (List.getElem?_eq_some_iff.mp hr).1
  rw [hl] at h0
  rcases Nat.lt_or_ge j 26 with h0 | h0
  · have hh := e_pr_61
    (try simp only [Bool.and_eq_true] at hh)
    exact e_bulk hh.1.1.1.1 (by omega) (by omega) hr
  omega
theorem e_pm_167 : e_prOK 167 := by
  have hl : ((e_pgs.getD 167 []).zip (e_ins.getD 167 [])).length = 5 := by decide +kernel
  have hl2 : (e_pgs.getD 167 []).length = 5 := by decide +kernel
  intro j r hr
  have h0 := (List.getElem?_eq_some_iff.mp hr).1
  rw [hl] at h0
  rcases Nat.lt_or_ge j 5 with h0 | h0
  · have hh := e_pr_61
    (try simp only [Bool.and_eq_true] at hh)
    exact e_bulk hh.1.1.1.2 (by omega) (by omega) hr
  omega
theorem e_pm_168 : e_prOK 168 := by
  have hl : ((e_pgs.getD 168 []).zip (e_ins.getD 168 [])).length = 19 := by decide +kernel
  have hl2 : (e_pgs.getD 168 []).length = 19 := by decide +kernel
  intro j r hr
  have h0 := (List.getElem?_eq_some_iff.mp hr).1
  rw [hl] at h0
  rcases Nat.lt_or_ge j 19 with h0 | h0
  · have hh := e_pr_61
    (try simp only [Bool.and_eq_true] at hh)
    exact e_bulk hh.1.1.2 (by omega) (by omega) hr
  omega
theorem e_pm_169 : e_prOK 169 := by
  have hl : ((e_pgs.getD 169 []).zip (e_ins.getD 169 [])).length = 4 := by decide +kernel
  have hl2 : (e_pgs.getD 169 []).length = 4 := by decide +kernel
  intro j r hr
  have h0 := (List.getElem?_eq_some_iff.mp hr).1
  rw [hl] at h0
  rcases Nat.lt_or_ge j 4 with h0 | h0
  · have hh := e_pr_61
    (try simp only [Bool.and_eq_true] at hh)
    exact e_bulk hh.1.2 (by omega) (by omega) hr
  omega
theorem e_pm_170 : e_prOK 170 := by
  have hl : ((e_pgs.getD 170 []).zip (e_ins.getD 170 [])).length = 14 := by decide +kernel
  have hl2 : (e_pgs.getD 170 []).length = 14 := by decide +kernel
  intro j r hr
  have h0 := (List.getElem?_eq_some_iff.mp hr).1
  rw [hl] at h0
  rcases Nat.lt_or_ge j 14 with h0 | h0
  · have hh := e_pr_61
    (try simp only [Bool.and_eq_true] at hh)
    exact e_bulk hh.2 (by omega) (by omega) hr
  omega
theorem e_pm_171 : e_prOK 171 := by
  have hl : ((e_pgs.getD 171 []).zip (e_ins.getD 171 [])).length = 13 := by decide +kernel
  have hl2 : (e_pgs.getD 171 []).length = 13 := by decide +kernel
  intro j r hr
  have h0 := (List.getElem?_eq_some_iff.mp hr).1
  rw [hl] at h0
  rcases Nat.lt_or_ge j 13 with h0 | h0
  · have hh := e_pr_62
    (try simp only [Bool.and_eq_true] at hh)
    exact e_bulk hh.1.1.1 (by omega) (by omega) hr
  omega
theorem e_pm_172 : e_prOK 172 := by
  have hl : ((e_pgs.getD 172 []).zip (e_ins.getD 172 [])).length = 19 := by decide +kernel
  have hl2 : (e_pgs.getD 172 []).length = 19 := by decide +kernel
  intro j r hr
  have h0 := (List.getElem?_eq_some_iff.mp hr).1
  rw [hl] at h0
  rcases Nat.lt_or_ge j 19 with h0 | h0
  · have hh := e_pr_62
    (try simp only [Bool.and_eq_true] at hh)
    exact e_bulk hh.1.1.2 (by omega) (by omega) hr
  omega
theorem e_pm_173 : e_prOK 173 := by
  have hl : ((e_pgs.getD 173 []).zip (e_ins.getD 173 [])).length = 6 := by decide +kernel
  have hl2 : (e_pgs.getD 173 []).length = 6 := by decide +kernel
  intro j r hr
  have h0 := (List.getElem?_eq_some_iff.mp hr).1
  rw [hl] at h0
  rcases Nat.lt_or_ge j 6 with h0 | h0
  · have hh := e_pr_62
    (try simp only [Bool.and_eq_true] at hh)
    exact e_bulk hh.1.2 (by omega) (by omega) hr
  omega
theorem e_pm_174 : e_prOK 174 := by
  have hl : ((e_pgs.getD 174 []).zip (e_ins.getD 174 [])).length = 29 := by decide +kernel
  have hl2 : (e_pgs.getD 174 []).length = 29 := by decide +kernel
  intro j r hr
  have h0 := (List.getElem?_eq_some_iff.mp hr).1
  rw [hl] at h0
  rcases Nat.lt_or_ge j 29 with h0 | h0
  · have hh := e_pr_62
    (try simp only [Bool.and_eq_true] at hh)
    exact e_bulk hh.2 (by omega) (by omega) hr
  omega
theorem e_pm_175 : e_prOK 175 := by
  have hl : ((e_pgs.getD 175 []).zip (e_ins.getD 175 [])).length = 11 := by decide +kernel
  have hl2 : (e_pgs.getD 175 []).length = 11 := by decide +kernel
  intro j r hr
  have h0 := (List.getElem?_eq_some_iff.mp hr).1
  rw [hl] at h0
  rcases Nat.lt_or_ge j 11 with h0 | h0
  · have hh := e_pr_63
    (try simp only [Bool.and_eq_true] at hh)
    exact e_bulk hh.1.1.1.1.1 (by omega) (by omega) hr
  omega
theorem e_pm_176 : e_prOK 176 := by
  have hl : ((e_pgs.getD 176 []).zip (e_ins.getD 176 [])).length = 17 := by decide +kernel
  have hl2 : (e_pgs.getD 176 []).length = 17 := by decide +kernel
  intro j r hr
  have h0 := (List.getElem?_eq_some_iff.mp hr).1
  rw [hl] at h0
  rcases Nat.lt_or_ge j 17 with h0 | h0
  · have hh := e_pr_63
    (try simp only [Bool.and_eq_true] at hh)
    exact e_bulk hh.1.1.1.1.2 (by omega) (by omega) hr
  omega
theorem e_pm_177 : e_prOK 177 := by
  have hl : ((e_pgs.getD 177 []).zip (e_ins.getD 177 [])).length = 4 := by decide +kernel
  have hl2 : (e_pgs.getD 177 []).length = 4 := by decide +kernel
  intro j r hr
  have h0 := (List.getElem?_eq_some_iff.mp hr).1
  rw [hl] at h0
  rcases Nat.lt_or_ge j 4 with h0 | h0
  · have hh := e_pr_63
    (try simp only [Bool.and_eq_true] at hh)
    exact e_bulk hh.1.1.1.2 (by omega) (by omega) hr
  omega
theorem e_pm_178 : e_prOK 178 := by
  have hl : ((e_pgs.getD 178 []).zip (e_ins.getD 178 [])).length = 4 := by decide +kernel
  have hl2 : (e_pgs.getD 178 []).length = 4 := by decide +kernel
  intro j r hr
  have h0 := (List.getElem?_eq_some_iff.mp hr).1
  rw [hl] at h0
  rcases Nat.lt_or_ge j 4 with h0 | h0
  · have hh := e_pr_63
    (try simp only [Bool.and_eq_true] at hh)
    exact e_bulk hh.1.1.2 (by omega) (by omega) hr
  omega
theorem e_pm_179 : e_prOK 179 := by
  have hl : ((e_pgs.getD 179 []).zip (e_ins.getD 179 [])).length = 4 := by decide +kernel
  have hl2 : (e_pgs.getD 179 []).length = 4 := by decide +kernel
  intro j r hr
  have h0 := (List.getElem?_eq_some_iff.mp hr).1
  rw [hl] at h0
  rcases Nat.lt_or_ge j 4 with h0 | h0
  · have hh := e_pr_63
    (try simp only [Bool.and_eq_true] at hh)
    exact e_bulk hh.1.2 (by omega) (by omega) hr
  omega
theorem e_pm_180 : e_prOK 180 := by
  have hl : ((e_pgs.getD 180 []).zip (e_ins.getD 180 [])).length = 12 := by decide +kernel
  have hl2 : (e_pgs.getD 180 []).length = 12 := by decide +kernel
  intro j r hr
  have h0 := (List.getElem?_eq_some_iff.mp hr).1
  rw [hl] at h0
  rcases Nat.lt_or_ge j 12 with h0 | h0
  · have hh := e_pr_63
    (try simp only [Bool.and_eq_true] at hh)
    exact e_bulk hh.2 (by omega) (by omega) hr
  omega
theorem e_pm_181 : e_prOK 181 := by
  have hl : ((e_pgs.getD 181 []).zip (e_ins.getD 181 [])).length = 29 := by decide +kernel
  have hl2 : (e_pgs.getD 181 []).length = 29 := by decide +kernel
  intro j r hr
  have h0 := (List.getElem?_eq_some_iff.mp hr).1
  rw [hl] at h0
  rcases Nat.lt_or_ge j 29 with h0 | h0
  · have hh := e_pr_64
    (try simp only [Bool.and_eq_true] at hh)
    exact e_bulk hh.1.1.1 (by omega) (by omega) hr
  omega
theorem e_pm_182 : e_prOK 182 := by
  have hl : ((e_pgs.getD 182 []).zip (e_ins.getD 182 [])).length = 4 := by decide +kernel
  have hl2 : (e_pgs.getD 182 []).length = 4 := by decide +kernel
  intro j r hr
  have h0 := (List.getElem?_eq_some_iff.mp hr).1
  rw [hl] at h0
  rcases Nat.lt_or_ge j 4 with h0 | h0
  · have hh := e_pr_64
    (try simp only [Bool.and_eq_true] at hh)
    exact e_bulk hh.1.1.2 (by omega) (by omega) hr
  omega
theorem e_pm_183 : e_prOK 183 := by
  have hl : ((e_pgs.getD 183 []).zip (e_ins.getD 183 [])).length = 4 := by decide +kernel
  have hl2 : (e_pgs.getD 183 []).length = 4 := by decide +kernel
  intro j r hr
  have h0 := (List.getElem?_eq_some_iff.mp hr).1
  rw [hl] at h0
  rcases Nat.lt_or_ge j 4 with h0 | h0
  · have hh := e_pr_64
    (try simp only [Bool.and_eq_true] at hh)
    exact e_bulk hh.1.2 (by omega) (by omega) hr
  omega
theorem e_pm_184 : e_prOK 184 := by
  have hl : ((e_pgs.getD 184 []).zip (e_ins.getD 184 [])).length = 18 := by decide +kernel
  have hl2 : (e_pgs.getD 184 []).length = 18 := by decide +kernel
  intro j r hr
  have h0 := (List.getElem?_eq_some_iff.mp hr).1
  rw [hl] at h0
  rcases Nat.lt_or_ge j 18 with h0 | h0
  · have hh := e_pr_64
    (try simp only [Bool.and_eq_true] at hh)
    exact e_bulk hh.2 (by omega) (by omega) hr
  omega
theorem e_pm_185 : e_prOK 185 := by
  have hl : ((e_pgs.getD 185 []).zip (e_ins.getD 185 [])).length = 20 := by decide +kernel
  have hl2 : (e_pgs.getD 185 []).length = 20 := by decide +kernel
  intro j r hr
  have h0 := (List.getElem?_eq_some_iff.mp hr).1
  rw [hl] at h0
  rcases Nat.lt_or_ge j 20 with h0 | h0
  · have hh := e_pr_65
    (try simp only [Bool.and_eq_true] at hh)
    exact e_bulk hh.1.1.1 (by omega) (by omega) hr
  omega
theorem e_pm_186 : e_prOK 186 := by
  have hl : ((e_pgs.getD 186 []).zip (e_ins.getD 186 [])).length = 4 := by decide +kernel
  have hl2 : (e_pgs.getD 186 []).length = 4 := by decide +kernel
  intro j r hr
  have h0 := (List.getElem?_eq_some_iff.mp hr).1
  rw [hl] at h0
  rcases Nat.lt_or_ge j 4 with h0 | h0
  · have hh := e_pr_65
    (try simp only [Bool.and_eq_true] at hh)
    exact e_bulk hh.1.1.2 (by omega) (by omega) hr
  omega
theorem e_pm_187 : e_prOK 187 := by
  have hl : ((e_pgs.getD 187 []).zip (e_ins.getD 187 [])).length = 33 := by decide +kernel
  have hl2 : (e_pgs.getD 187 []).length = 33 := by decide +kernel
  intro j r hr
  have h0 := (List.getElem?_eq_some_iff.mp hr).1
  rw [hl] at h0
  rcases Nat.lt_or_ge j 33 with h0 | h0
  · have hh := e_pr_65
    (try simp only [Bool.and_eq_true] at hh)
    exact e_bulk hh.1.2 (by omega) (by omega) hr
  omega
theorem e_pm_188 : e_prOK 188 := by
  have hl : ((e_pgs.getD 188 []).zip (e_ins.getD 188 [])).length = 4 := by decide +kernel
  have hl2 : (e_pgs.getD 188 []).length = 4 := by decide +kernel
  intro j r hr
  have h0 := (List.getElem?_eq_some_iff.mp hr).1
  rw [hl] at h0
  rcases Nat.lt_or_ge j 4 with h0 | h0
  · have hh := e_pr_65
    (try simp only [Bool.and_eq_true] at hh)
    exact e_bulk hh.2 (by omega) (by omega) hr
  omega
theorem e_pm_189 : e_prOK 189 := by
  have hl : ((e_pgs.getD 189 []).zip (e_ins.getD 189 [])).length = 11 := by decide +kernel
  have hl2 : (e_pgs.getD 189 []).length = 11 := by decide +kernel
  intro j r hr
  have h0 := (List.getElem?_eq_some_iff.mp hr).1
  rw [hl] at h0
  rcases Nat.lt_or_ge j 11 with h0 | h0
  · have hh := e_pr_66
    (try simp only [Bool.and_eq_true] at hh)
    exact e_bulk hh (by omega) (by omega) hr
  omega
theorem e_pm_190 : e_prOK 190 := by
  have hl : ((e_pgs.getD 190 []).zip (e_ins.getD 190 [])).length = 62 := by decide +kernel
  have hl2 : (e_pgs.getD 190 []).length = 62 := by decide +kernel
  intro j r hr
  have h0 := (List.getElem?_eq_some_iff.mp hr).1
  rw [hl] at h0
  rcases Nat.lt_or_ge j 60 with h0 | h0
  · have hh := e_pr_67
    (try simp only [Bool.and_eq_true] at hh)
    exact e_bulk hh.1.1 (by omega) (by omega) hr
  rcases Nat.lt_or_ge j 62 with h60 | h60
  · have hh := e_pr_67
    (try simp only [Bool.and_eq_true] at hh)
    exact e_bulk hh.1.2 (by omega) (by omega) hr
  omega
theorem e_pm_191 : e_prOK 191 := by
  have hl : ((e_pgs.getD 191 []).zip (e_ins.getD 191 [])).length = 6 := by decide +kernel
  have hl2 : (e_pgs.getD 191 []).length = 6 := by decide +kernel
  intro j r hr
  have h0 := (List.getElem?_eq_some_iff.mp hr).1
  rw [hl] at h0
  rcases Nat.lt_or_ge j 6 with h0 | h0
  · have hh := e_pr_67
    (try simp only [Bool.and_eq_true] at hh)
    exact e_bulk hh.2 (by omega) (by omega) hr
  omega
theorem e_pm_192 : e_prOK 192 := by
  have hl : ((e_pgs.getD 192 []).zip (e_ins.getD 192 [])).length = 121 := by decide +kernel
  have hl2 : (e_pgs.getD 192 []).length = 121 := by decide +kernel
  intro j r hr
  have h0 := (List.getElem?_eq_some_iff.mp hr).1
  rw [hl] at h0
  rcases Nat.lt_or_ge j 60 with h0 | h0
  · have hh := e_pr_68
    (try simp only [Bool.and_eq_true] at hh)
    exact e_bulk hh (by omega) (by omega) hr
  rcases Nat.lt_or_ge j 120 with h60 | h60
  · have hh := e_pr_69
    (try simp only [Bool.and_eq_true] at hh)
    exact e_bulk hh.1 (by omega) (by omega) hr
  rcases Nat.lt_or_ge j 121 with h120 | h120
  · have hh := e_pr_69
    (try simp only [Bool.and_eq_true] at hh)
    exact e_bulk hh.2 (by omega) (by omega) hr
  omega
theorem e_pm_193 : e_prOK 193 := by
  have hl : ((e_pgs.getD 193 []).zip (e_ins.getD 193 [])).length = 12 := by decide +kernel
  have hl2 : (e_pgs.getD 193 []).length = 12 := by decide +kernel
  intro j r hr
  have h0 := (List.getElem?_eq_some_iff.mp hr).1
  rw [hl] at h0
  rcases Nat.lt_or_ge j 12 with h0 | h0
  · have hh := e_pr_70
    (try simp only [Bool.and_eq_true] at hh)
    exact e_bulk hh.1 (by omega) (by omega) hr
  omega
theorem e_pm_194 : e_prOK 194 := by
  have hl : ((e_pgs.getD 194 []).zip (e_ins.getD 194 [])).length = 7 := by decide +kernel
  have hl2 : (e_pgs.getD 194 []).length = 7 := by decide +kernel
  intro j r hr
  have h0 := (List.getElem?_eq_some_iff.mp hr).1
  rw [hl] at h0
  rcases Nat.lt_or_ge j 7 with h0 | h0
  · have hh := e_pr_70
    (try simp only [Bool.and_eq_true] at hh)
    exact e_bulk hh.2 (by omega) (by omega) hr
  omega
theorem e_pm_195 : e_prOK 195 := by
  have hl : ((e_pgs.getD 195 []).zip (e_ins.getD 195 [])).length = 52 := by decide +kernel
  have hl2 : (e_pgs.getD 195 []).length = 52 := by decide +kernel
  intro j r hr
  have h0 := (List.getElem?_eq_some_iff.mp hr).1
  rw [hl] at h0
  rcases Nat.lt_or_ge j 52 with h0 | h0
  · have hh := e_pr_71
    (try simp only [Bool.and_eq_true] at hh)
    exact e_bulk hh (by omega) (by omega) hr
  omega
theorem e_pm_196 : e_prOK 196 := by
  have hl : ((e_pgs.getD 196 []).zip (e_ins.getD 196 [])).length = 23 := by decide +kernel
  have hl2 : (e_pgs.getD 196 []).length = 23 := by decide +kernel
  intro j r hr
  have h0 := (List.getElem?_eq_some_iff.mp hr).1
  rw [hl] at h0
  rcases Nat.lt_or_ge j 23 with h0 | h0
  · have hh := e_pr_72
    (try simp only [Bool.and_eq_true] at hh)
    exact e_bulk hh.1 (by omega) (by omega) hr
  omega
theorem e_pm_197 : e_prOK 197 := by
  have hl : ((e_pgs.getD 197 []).zip (e_ins.getD 197 [])).length = 34 := by decide +kernel
  have hl2 : (e_pgs.getD 197 []).length = 34 := by decide +kernel
  intro j r hr
  have h0 := (List.getElem?_eq_some_iff.mp hr).1
  rw [hl] at h0
  rcases Nat.lt_or_ge j 34 with h0 | h0
  · have hh := e_pr_72
    (try simp only [Bool.and_eq_true] at hh)
    exact e_bulk hh.2 (by omega) (by omega) hr
  omega
theorem e_pm_198 : e_prOK 198 := by
  have hl : ((e_pgs.getD 198 []).zip (e_ins.getD 198 [])).length = 29 := by decide +kernel
  have hl2 : (e_pgs.getD 198 []).length = 29 := by decide +kernel
  intro j r hr
  have h0 := (List.getElem?_eq_some_iff.mp hr).1
  rw [hl] at h0
  rcases Nat.lt_or_ge j 29 with h0 | h0
  · have hh := e_pr_73
    (try simp only [Bool.and_eq_true] at hh)
    exact e_bulk hh.1 (by omega) (by omega) hr
  omega
theorem e_pm_199 : e_prOK 199 := by
  have hl : ((e_pgs.getD 199 []).zip (e_ins.getD 199 [])).length = 16 := by decide +kernel
  have hl2 : (e_pgs.getD 199 []).length = 16 := by decide +kernel
  intro j r hr
  have h0 := (List.getElem?_eq_some_iff.mp hr).1
  rw [hl] at h0
  rcases Nat.lt_or_ge j 16 with h0 | h0
  · have hh := e_pr_73
    (try simp only [Bool.and_eq_true] at hh)
    exact e_bulk hh.2 (by omega) (by omega) hr
  omega
theorem e_pm_200 : e_prOK 200 := by
  have hl : ((e_pgs.getD 200 []).zip (e_ins.getD 200 [])).length = 28 := by decide +kernel
  have hl2 : (e_pgs.getD 200 []).length = 28 := by decide +kernel
  intro j r hr
  have h0 := (List.getElem?_eq_some_iff.mp hr).1
  rw [hl] at h0
  rcases Nat.lt_or_ge j 28 with h0 | h0
  · have hh := e_pr_74
    (try simp only [Bool.and_eq_true] at hh)
    exact e_bulk hh.1.1.1 (by omega) (by omega) hr
  omega
theorem e_pm_201 : e_prOK 201 := by
  have hl : ((e_pgs.getD 201 []).zip (e_ins.getD 201 [])).length = 25 := by decide +kernel
  have hl2 : (e_pgs.getD 201 []).length = 25 := by decide +kernel
  intro j r hr
  have h0 := (List.getElem?_eq_some_iff.mp hr).1
  rw [hl] at h0
  rcases Nat.lt_or_ge j 25 with h0 | h0
  · have hh := e_pr_74
    (try simp only [Bool.and_eq_true] at hh)
    exact e_bulk hh.1.1.2 (by omega) (by omega) hr
  omega
theorem e_pm_202 : e_prOK 202 := by
  have hl : ((e_pgs.getD 202 []).zip (e_ins.getD 202 [])).length = 6 := by decide +kernel
  have hl2 : (e_pgs.getD 202 []).length = 6 := by decide +kernel
  intro j r hr
  have h0 := (List.getElem?_eq_some_iff.mp hr).1
  rw [hl] at h0
  rcases Nat.lt_or_ge j 6 with h0 | h0
  · have hh := e_pr_74
    (try simp only [Bool.and_eq_true] at hh)
    exact e_bulk hh.1.2 (by omega) (by omega) hr
  omega
theorem e_pm_203 : e_prOK 203 := by
  have hl : ((e_pgs.getD 203 []).zip (e_ins.getD 203 [])).length = 11 := by decide +kernel
  have hl2 : (e_pgs.getD 203 []).length = 11 := by decide +kernel
  intro j r hr
  have h0 := (List.getElem?_eq_some_iff.mp hr).1
  rw [hl] at h0
  rcases Nat.lt_or_ge j 11 with h0 | h0
  · have hh := e_pr_74
    (try simp only [Bool.and_eq_true] at hh)
    exact e_bulk hh.2 (by omega) (by omega) hr
  omega
theorem e_pm_204 : e_prOK 204 := by
  have hl : ((e_pgs.getD 204 []).zip (e_ins.getD 204 [])).length = 28 := by decide +kernel
  have hl2 : (e_pgs.getD 204 []).length = 28 := by decide +kernel
  intro j r hr
  have h0 := (List.getElem?_eq_some_iff.mp hr).1
  rw [hl] at h0
  rcases Nat.lt_or_ge j 28 with h0 | h0
  · have hh := e_pr_75
    (try simp only [Bool.and_eq_true] at hh)
    exact e_bulk hh.1 (by omega) (by omega) hr
  omega
theorem e_pm_205 : e_prOK 205 := by
  have hl : ((e_pgs.getD 205 []).zip (e_ins.getD 205 [])).length = 18 := by decide +kernel
  have hl2 : (e_pgs.getD 205 []).length = 18 := by decide +kernel
  intro j r hr
  have h0 := (List.getElem?_eq_some_iff.mp hr).1
  rw [hl] at h0
  rcases Nat.lt_or_ge j 18 with h0 | h0
  · have hh := e_pr_75
    (try simp only [Bool.and_eq_true] at hh)
    exact e_bulk hh.2 (by omega) (by omega) hr
  omega
theorem e_pm_206 : e_prOK 206 := by
  have hl : ((e_pgs.getD 206 []).zip (e_ins.getD 206 [])).length = 59 := by decide +kernel
  have hl2 : (e_pgs.getD 206 []).length = 59 := by decide +kernel
  intro j r hr
  have h0 := (List.getElem?_eq_some_iff.mp hr).1
  rw [hl] at h0
  rcases Nat.lt_or_ge j 59 with h0 | h0
  · have hh := e_pr_76
    (try simp only [Bool.and_eq_true] at hh)
    exact e_bulk hh (by omega) (by omega) hr
  omega
theorem e_pm_207 : e_prOK 207 := by
  have hl : ((e_pgs.getD 207 []).zip (e_ins.getD 207 [])).length = 97 := by decide +kernel
  have hl2 : (e_pgs.getD 207 []).length = 97 := by decide +kernel
  intro j r hr
  have h0 := (List.getElem?_eq_some_iff.mp hr).1
  rw [hl] at h0
  rcases Nat.lt_or_ge j 60 with h0 | h0
  · have hh := e_pr_77
    (try simp only [Bool.and_eq_true] at hh)
    exact e_bulk hh (by omega) (by omega) hr
  rcases Nat.lt_or_ge j 97 with h60 | h60
  · have hh := e_pr_78
    (try simp only [Bool.and_eq_true] at hh)
    exact e_bulk hh.1.1.1 (by omega) (by omega) hr
  omega
theorem e_pm_208 : e_prOK 208 := by
  have hl : ((e_pgs.getD 208 []).zip (e_ins.getD 208 [])).length = 12 := by decide +kernel
  have hl2 : (e_pgs.getD 208 []).length = 12 := by decide +kernel
  intro j r hr
  have h0 := (List.getElem?_eq_some_iff.mp hr).1
  rw [hl] at h0
  rcases Nat.lt_or_ge j 12 with h0 | h0
  · have hh := e_pr_78
    (try simp only [Bool.and_eq_true] at hh)
    exact e_bulk hh.1.1.2 (by omega) (by omega) hr
  omega
theorem e_pm_209 : e_prOK 209 := by
  have hl : ((e_pgs.getD 209 []).zip (e_ins.getD 209 [])).length = 16 := by decide +kernel
  have hl2 : (e_pgs.getD 209 []).length = 16 := by decide +kernel
  intro j r hr
  have h0 := (List.getElem?_eq_some_iff.mp hr).1
  rw [hl] at h0
  rcases Nat.lt_or_ge j 16 with h0 | h0
  · have hh := e_pr_78
    (try simp only [Bool.and_eq_true] at hh)
    exact e_bulk hh.1.2 (by omega) (by omega) hr
  omega
theorem e_pm_210 : e_prOK 210 := by
  have hl : ((e_pgs.getD 210 []).zip (e_ins.getD 210 [])).length = 3 := by decide +kernel
  have hl2 : (e_pgs.getD 210 []).length = 3 := by decide +kernel
  intro j r hr
  have h0 := (List.getElem?_eq_some_iff.mp hr).1
  rw [hl] at h0
  rcases Nat.lt_or_ge j 3 with h0 | h0
  · have hh := e_pr_78
    (try simp only [Bool.and_eq_true] at hh)
    exact e_bulk hh.2 (by omega) (by omega) hr
  omega
theorem e_pm_211 : e_prOK 211 := by
  have hl : ((e_pgs.getD 211 []).zip (e_ins.getD 211 [])).length = 3 := by decide +kernel
  have hl2 : (e_pgs.getD 211 []).length = 3 := by decide +kernel
  intro j r hr
  have h0 := (List.getElem?_eq_some_iff.mp hr).1
  rw [hl] at h0
  rcases Nat.lt_or_ge j 3 with h0 | h0
  · have hh := e_pr_79
    (try simp only [Bool.and_eq_true] at hh)
    exact e_bulk hh.1.1.1 (by omega) (by omega) hr
  omega
theorem e_pm_212 : e_prOK 212 := by
  have hl : ((e_pgs.getD 212 []).zip (e_ins.getD 212 [])).length = 10 := by decide +kernel
  have hl2 : (e_pgs.getD 212 []).length = 10 := by decide +kernel
  intro j r hr
  have h0 := (List.getElem?_eq_some_iff.mp hr).1
  rw [hl] at h0
  rcases Nat.lt_or_ge j 10 with h0 | h0
  · have hh := e_pr_79
    (try simp only [Bool.and_eq_true] at hh)
    exact e_bulk hh.1.1.2 (by omega) (by omega) hr
  omega
theorem e_pm_213 : e_prOK 213 := by
  have hl : ((e_pgs.getD 213 []).zip (e_ins.getD 213 [])).length = 11 := by decide +kernel
  have hl2 : (e_pgs.getD 213 []).length = 11 := by decide +kernel
  intro j r hr
  have h0 := (List.getElem?_eq_some_iff.mp hr).1
  rw [hl] at h0
  rcases Nat.lt_or_ge j 11 with h0 | h0
  · have hh := e_pr_79
    (try simp only [Bool.and_eq_true] at hh)
    exact e_bulk hh.1.2 (by omega) (by omega) hr
  omega
theorem e_pm_214 : e_prOK 214 := by
  have hl : ((e_pgs.getD 214 []).zip (e_ins.getD 214 [])).length = 35 := by decide +kernel
  have hl2 : (e_pgs.getD 214 []).length = 35 := by decide +kernel
  intro j r hr
  have h0 := (List.getElem?_eq_some_iff.mp hr).1
  rw [hl] at h0
  rcases Nat.lt_or_ge j 35 with h0 | h0
  · have hh := e_pr_79
    (try simp only [Bool.and_eq_true] at hh)
    exact e_bulk hh.2 (by omega) (by omega) hr
  omega
theorem e_pm_215 : e_prOK 215 := by
  have hl : ((e_pgs.getD 215 []).zip (e_ins.getD 215 [])).length = 44 := by decide +kernel
  have hl2 : (e_pgs.getD 215 []).length = 44 := by decide +kernel
  intro j r hr
  have h0 := (List.getElem?_eq_some_iff.mp hr).1
  rw [hl] at h0
  rcases Nat.lt_or_ge j 44 with h0 | h0
  · have hh := e_pr_80
    (try simp only [Bool.and_eq_true] at hh)
    exact e_bulk hh (by omega) (by omega) hr
  omega
theorem e_pm_216 : e_prOK 216 := by
  have hl : ((e_pgs.getD 216 []).zip (e_ins.getD 216 [])).length = 29 := by decide +kernel
  have hl2 : (e_pgs.getD 216 []).length = 29 := by decide +kernel
  intro j r hr
  have h0 := (List.getElem?_eq_some_iff.mp hr).1
  rw [hl] at h0
  rcases Nat.lt_or_ge j 29 with h0 | h0
  · have hh := e_pr_81
    (try simp only [Bool.and_eq_true] at hh)
    exact e_bulk hh (by omega) (by omega) hr
  omega
theorem e_pm_217 : e_prOK 217 := by
  have hl : ((e_pgs.getD 217 []).zip (e_ins.getD 217 [])).length = 55 := by decide +kernel
  have hl2 : (e_pgs.getD 217 []).length = 55 := by decide +kernel
  intro j r hr
  have h0 := (List.getElem?_eq_some_iff.mp hr).1
  rw [hl] at h0
  rcases Nat.lt_or_ge j 55 with h0 | h0
  · have hh := e_pr_82
    (try simp only [Bool.and_eq_true] at hh)
    exact e_bulk hh (by omega) (by omega) hr
  omega
theorem e_pm_218 : e_prOK 218 := by
  have hl : ((e_pgs.getD 218 []).zip (e_ins.getD 218 [])).length = 53 := by decide +kernel
  have hl2 : (e_pgs.getD 218 []).length = 53 := by decide +kernel
  intro j r hr
  have h0 := (List.getElem?_eq_some_iff.mp hr).1
  rw [hl] at h0
  rcases Nat.lt_or_ge j 53 with h0 | h0
  · have hh := e_pr_83
    (try simp only [Bool.and_eq_true] at hh)
    exact e_bulk hh.1.1 (by omega) (by omega) hr
  omega
theorem e_pm_219 : e_prOK 219 := by
  have hl : ((e_pgs.getD 219 []).zip (e_ins.getD 219 [])).length = 8 := by decide +kernel
  have hl2 : (e_pgs.getD 219 []).length = 8 := by decide +kernel
  intro j r hr
  have h0 := (List.getElem?_eq_some_iff.mp hr).1
  rw [hl] at h0
  rcases Nat.lt_or_ge j 8 with h0 | h0
  · have hh := e_pr_83
    (try simp only [Bool.and_eq_true] at hh)
    exact e_bulk hh.1.2 (by omega) (by omega) hr
  omega
theorem e_pm_220 : e_prOK 220 := by
  have hl : ((e_pgs.getD 220 []).zip (e_ins.getD 220 [])).length = 3 := by decide +kernel
  have hl2 : (e_pgs.getD 220 []).length = 3 := by decide +kernel
  intro j r hr
  have h0 := (List.getElem?_eq_some_iff.mp hr).1
  rw [hl] at h0
  rcases Nat.lt_or_ge j 3 with h0 | h0
  · have hh := e_pr_83
    (try simp only [Bool.and_eq_true] at hh)
    exact e_bulk hh.2 (by omega) (by omega) hr
  omega
theorem e_pm_221 : e_prOK 221 := by
  have hl : ((e_pgs.getD 221 []).zip (e_ins.getD 221 [])).length = 49 := by decide +kernel
  have hl2 : (e_pgs.getD 221 []).length = 49 := by decide +kernel
  intro j r hr
  have h0 := (List.getElem?_eq_some_iff.mp hr).1
  rw [hl] at h0
  rcases Nat.lt_or_ge j 49 with h0 | h0
  · have hh := e_pr_84
    (try simp only [Bool.and_eq_true] at hh)
    exact e_bulk hh.1 (by omega) (by omega) hr
  omega
theorem e_pm_222 : e_prOK 222 := by
  have hl : ((e_pgs.getD 222 []).zip (e_ins.getD 222 [])).length = 6 := by decide +kernel
  have hl2 : (e_pgs.getD 222 []).length = 6 := by decide +kernel
  intro j r hr
  have h0 := (List.getElem?_eq_some_iff.mp hr).1
  rw [hl] at h0
  rcases Nat.lt_or_ge j 6 with h0 | h0
  · have hh := e_pr_84
    (try simp only [Bool.and_eq_true] at hh)
    exact e_bulk hh.2 (by omega) (by omega) hr
  omega
theorem e_pm_223 : e_prOK 223 := by
  have hl : ((e_pgs.getD 223 []).zip (e_ins.getD 223 [])).length = 119 := by decide +kernel
  have hl2 : (e_pgs.getD 223 []).length = 119 := by decide +kernel
  intro j r hr
  have h0 := (List.getElem?_eq_some_iff.mp hr).1
  rw [hl] at h0
  rcases Nat.lt_or_ge j 60 with h0 | h0
  · have hh := e_pr_85
    (try simp only [Bool.and_eq_true] at hh)
    exact e_bulk hh (by omega) (by omega) hr
  rcases Nat.lt_or_ge j 119 with h60 | h60
  · have hh := e_pr_86
    (try simp only [Bool.and_eq_true] at hh)
    exact e_bulk hh (by omega) (by omega) hr
  omega
theorem e_pm_224 : e_prOK 224 := by
  have hl : ((e_pgs.getD 224 []).zip (e_ins.getD 224 [])).length = 17 := by decide +kernel
  have hl2 : (e_pgs.getD 224 []).length = 17 := by decide +kernel
  intro j r hr
  have h0 := (List.getElem?_eq_some_iff.mp hr).1
  rw [hl] at h0
  rcases Nat.lt_or_ge j 17 with h0 | h0
  · have hh := e_pr_87
    (try simp only [Bool.and_eq_true] at hh)
    exact e_bulk hh (by omega) (by omega) hr
  omega
theorem e_pm_225 : e_prOK 225 := by
  have hl : ((e_pgs.getD 225 []).zip (e_ins.getD 225 [])).length = 68 := by decide +kernel
  have hl2 : (e_pgs.getD 225 []).length = 68 := by decide +kernel
  intro j r hr
  have h0 := (List.getElem?_eq_some_iff.mp hr).1
  rw [hl] at h0
  rcases Nat.lt_or_ge j 60 with h0 | h0
  · have hh := e_pr_88
    (try simp only [Bool.and_eq_true] at hh)
    exact e_bulk hh.1 (by omega) (by omega) hr
  rcases Nat.lt_or_ge j 68 with h60 | h60
  · have hh := e_pr_88
    (try simp only [Bool.and_eq_true] at hh)
    exact e_bulk hh.2 (by omega) (by omega) hr
  omega
theorem e_pm_226 : e_prOK 226 := by
  have hl : ((e_pgs.getD 226 []).zip (e_ins.getD 226 [])).length = 23 := by decide +kernel
  have hl2 : (e_pgs.getD 226 []).length = 23 := by decide +kernel
  intro j r hr
  have h0 := (List.getElem?_eq_some_iff.mp hr).1
  rw [hl] at h0
  rcases Nat.lt_or_ge j 23 with h0 | h0
  · have hh := e_pr_89
    (try simp only [Bool.and_eq_true] at hh)
    exact e_bulk hh.1 (by omega) (by omega) hr
  omega
theorem e_pm_227 : e_prOK 227 := by
  have hl : ((e_pgs.getD 227 []).zip (e_ins.getD 227 [])).length = 25 := by decide +kernel
  have hl2 : (e_pgs.getD 227 []).length = 25 := by decide +kernel
  intro j r hr
  have h0 := (List.getElem?_eq_some_iff.mp hr).1
  rw [hl] at h0
  rcases Nat.lt_or_ge j 25 with h0 | h0
  · have hh := e_pr_89
    (try simp only [Bool.and_eq_true] at hh)
    exact e_bulk hh.2 (by omega) (by omega) hr
  omega
theorem e_pm_228 : e_prOK 228 := by
  have hl : ((e_pgs.getD 228 []).zip (e_ins.getD 228 [])).length = 91 := by decide +kernel
  have hl2 : (e_pgs.getD 228 []).length = 91 := by decide +kernel
  intro j r hr
  have h0 := (List.getElem?_eq_some_iff.mp hr).1
  rw [hl] at h0
  rcases Nat.lt_or_ge j 60 with h0 | h0
  · have hh := e_pr_90
    (try simp only [Bool.and_eq_true] at hh)
    exact e_bulk hh (by omega) (by omega) hr
  rcases Nat.lt_or_ge j 91 with h60 | h60
  · have hh := e_pr_91
    (try simp only [Bool.and_eq_true] at hh)
    exact e_bulk hh.1.1 (by omega) (by omega) hr
  omega
theorem e_pm_229 : e_prOK 229 := by
  have hl : ((e_pgs.getD 229 []).zip (e_ins.getD 229 [])).length = 3 := by decide +kernel
  have hl2 : (e_pgs.getD 229 []).length = 3 := by decide +kernel
  intro j r hr
  have h0 := (List.getElem?_eq_some_iff.mp hr).1
  rw [hl] at h0
  rcases Nat.lt_or_ge j 3 with h0 | h0
  · have hh := e_pr_91
    (try simp only [Bool.and_eq_true] at hh)
    exact e_bulk hh.1.2 (by omega) (by omega) hr
  omega
theorem e_pm_230 : e_prOK 230 := by
  have hl : ((e_pgs.getD 230 []).zip (e_ins.getD 230 [])).length = 10 := by decide +kernel
  have hl2 : (e_pgs.getD 230 []).length = 10 := by decide +kernel
  intro j r hr
  have h0 := (List.getElem?_eq_some_iff.mp hr).1
  rw [hl] at h0
  rcases Nat.lt_or_ge j 10 with h0 | h0
  · have hh := e_pr_91
    (try simp only [Bool.and_eq_true] at hh)
    exact e_bulk hh.2 (by omega) (by omega) hr
  omega
theorem e_pm_231 : e_prOK 231 := by
  have hl : ((e_pgs.getD 231 []).zip (e_ins.getD 231 [])).length = 27 := by decide +kernel
  have hl2 : (e_pgs.getD 231 []).length = 27 := by decide +kernel
  intro j r hr
  have h0 := (List.getElem?_eq_some_iff.mp hr).1
  rw [hl] at h0
  rcases Nat.lt_or_ge j 27 with h0 | h0
  · have hh := e_pr_92
    (try simp only [Bool.and_eq_true] at hh)
    exact e_bulk hh (by omega) (by omega) hr
  omega
theorem e_pm_232 : e_prOK 232 := by
  have hl : ((e_pgs.getD 232 []).zip (e_ins.getD 232 [])).length = 117 := by decide +kernel
  have hl2 : (e_pgs.getD 232 []).length = 117 := by decide +kernel
  intro j r hr
  have h0 := (List.getElem?_eq_some_iff.mp hr).1
  rw [hl] at h0
  rcases Nat.lt_or_ge j 60 with h0 | h0
  · have hh := e_pr_93
    (try simp only [Bool.and_eq_true] at hh)
    exact e_bulk hh (by omega) (by omega) hr
  rcases Nat.lt_or_ge j 117 with h60 | h60
  · have hh := e_pr_94
    (try simp only [Bool.and_eq_true] at hh)
    exact e_bulk hh (by omega) (by omega) hr
  omega
theorem e_pm_233 : e_prOK 233 := by
  have hl : ((e_pgs.getD 233 []).zip (e_ins.getD 233 [])).length = 38 := by decide +kernel
  have hl2 : (e_pgs.getD 233 []).length = 38 := by decide +kernel
  intro j r hr
  have h0 := (List.getElem?_eq_some_iff.mp hr).1
  rw [hl] at h0
  rcases Nat.lt_or_ge j 38 with h0 | h0
  · have hh := e_pr_95
    (try simp only [Bool.and_eq_true] at hh)
    exact e_bulk hh.1 (by omega) (by omega) hr
  omega
theorem e_pm_234 : e_prOK 234 := by
  have hl : ((e_pgs.getD 234 []).zip (e_ins.getD 234 [])).length = 17 := by decide +kernel
  have hl2 : (e_pgs.getD 234 []).length = 17 := by decide +kernel
  intro j r hr
  have h0 := (List.getElem?_eq_some_iff.mp hr).1
  rw [hl] at h0
  rcases Nat.lt_or_ge j 17 with h0 | h0
  · have hh := e_pr_95
    (try simp only [Bool.and_eq_true] at hh)
    exact e_bulk hh.2 (by omega) (by omega) hr
  omega
theorem e_pm_235 : e_prOK 235 := by
  have hl : ((e_pgs.getD 235 []).zip (e_ins.getD 235 [])).length = 37 := by decide +kernel
  have hl2 : (e_pgs.getD 235 []).length = 37 := by decide +kernel
  intro j r hr
  have h0 := (List.getElem?_eq_some_iff.mp hr).1
  rw [hl] at h0
  rcases Nat.lt_or_ge j 37 with h0 | h0
  · have hh := e_pr_96
    (try simp only [Bool.and_eq_true] at hh)
    exact e_bulk hh (by omega) (by omega) hr
  omega
theorem e_pm_236 : e_prOK 236 := by
  have hl : ((e_pgs.getD 236 []).zip (e_ins.getD 236 [])).length = 81 := by decide +kernel
  have hl2 : (e_pgs.getD 236 []).length = 81 := by decide +kernel
  intro j r hr
  have h0 := (List.getElem?_eq_some_iff.mp hr).1
  rw [hl] at h0
  rcases Nat.lt_or_ge j 60 with h0 | h0
  · have hh := e_pr_97
    (try simp only [Bool.and_eq_true] at hh)
    exact e_bulk hh (by omega) (by omega) hr
  rcases Nat.lt_or_ge j 81 with h60 | h60
  · have hh := e_pr_98
    (try simp only [Bool.and_eq_true] at hh)
    exact e_bulk hh (by omega) (by omega) hr
  omega
theorem e_pm_237 : e_prOK 237 := by
  have hl : ((e_pgs.getD 237 []).zip (e_ins.getD 237 [])).length = 70 := by decide +kernel
  have hl2 : (e_pgs.getD 237 []).length = 70 := by decide +kernel
  intro j r hr
  have h0 := (List.getElem?_eq_some_iff.mp hr).1
  rw [hl] at h0
  rcases Nat.lt_or_ge j 60 with h0 | h0
  · have hh := e_pr_99
    (try simp only [Bool.and_eq_true] at hh)
    exact e_bulk hh.1 (by omega) (by omega) hr
  rcases Nat.lt_or_ge j 70 with h60 | h60
  · have hh := e_pr_99
    (try simp only [Bool.and_eq_true] at hh)
    exact e_bulk hh.2 (by omega) (by omega) hr
  omega
theorem e_pm_238 : e_prOK 238 := by
  have hl : ((e_pgs.getD 238 []).zip (e_ins.getD 238 [])).length = 77 := by decide +kernel
  have hl2 : (e_pgs.getD 238 []).length = 77 := by decide +kernel
  intro j r hr
  have h0 := (List.getElem?_eq_some_iff.mp hr).1
  rw [hl] at h0
  rcases Nat.lt_or_ge j 60 with h0 | h0
  · have hh := e_pr_100
    (try simp only [Bool.and_eq_true] at hh)
    exact e_bulk hh (by omega) (by omega) hr
  rcases Nat.lt_or_ge j 77 with h60 | h60
  · have hh := e_pr_101
    (try simp only [Bool.and_eq_true] at hh)
    exact e_bulk hh.1 (by omega) (by omega) hr
  omega
theorem e_pm_239 : e_prOK 239 := by
  have hl : ((e_pgs.getD 239 []).zip (e_ins.getD 239 [])).length = 41 := by decide +kernel
  have hl2 : (e_pgs.getD 239 []).length = 41 := by decide +kernel
  intro j r hr
  have h0 := (List.getElem?_eq_some_iff.mp hr).1
  rw [hl] at h0
  rcases Nat.lt_or_ge j 41 with h0 | h0
  · have hh := e_pr_101
    (try simp only [Bool.and_eq_true] at hh)
    exact e_bulk hh.2 (by omega) (by omega) hr
  omega
theorem e_pm_240 : e_prOK 240 := by
  have hl : ((e_pgs.getD 240 []).zip (e_ins.getD 240 [])).length = 37 := by decide +kernel
  have hl2 : (e_pgs.getD 240 []).length = 37 := by decide +kernel
  intro j r hr
  have h0 := (List.getElem?_eq_some_iff.mp hr).1
  rw [hl] at h0
  rcases Nat.lt_or_ge j 37 with h0 | h0
  · have hh := e_pr_102
    (try simp only [Bool.and_eq_true] at hh)
    exact e_bulk hh (by omega) (by omega) hr
  omega
theorem e_pm_241 : e_prOK 241 := by
  have hl : ((e_pgs.getD 241 []).zip (e_ins.getD 241 [])).length = 88 := by decide +kernel
  have hl2 : (e_pgs.getD 241 []).length = 88 := by decide +kernel
  intro j r hr
  have h0 := (List.getElem?_eq_some_iff.mp hr).1
  rw [hl] at h0
  rcases Nat.lt_or_ge j 60 with h0 | h0
  · have hh := e_pr_103
    (try simp only [Bool.and_eq_true] at hh)
    exact e_bulk hh (by omega) (by omega) hr
  rcases Nat.lt_or_ge j 88 with h60 | h60
  · have hh := e_pr_104
    (try simp only [Bool.and_eq_true] at hh)
    exact e_bulk hh (by omega) (by omega) hr
  omega
theorem e_pm_242 : e_prOK 242 := by
  have hl : ((e_pgs.getD 242 []).zip (e_ins.getD 242 [])).length = 66 := by decide +kernel
  have hl2 : (e_pgs.getD 242 []).length = 66 := by decide +kernel
  intro j r hr
  have h0 := (List.getElem?_eq_some_iff.mp hr).1
  rw [hl] at h0
  rcases Nat.lt_or_ge j 60 with h0 | h0
  · have hh := e_pr_105
    (try simp only [Bool.and_eq_true] at hh)
    exact e_bulk hh.1.1 (by omega) (by omega) hr
  rcases Nat.lt_or_ge j 66 with h60 | h60
  · have hh := e_pr_105
    (try simp only [Bool.and_eq_true] at hh)
    exact e_bulk hh.1.2 (by omega) (by omega) hr
  omega
theorem e_pm_243 : e_prOK 243 := by
  have hl : ((e_pgs.getD 243 []).zip (e_ins.getD 243 [])).length = 3 := by decide +kernel
  have hl2 : (e_pgs.getD 243 []).length = 3 := by decide +kernel
  intro j r hr
  have h0 := (List.getElem?_eq_some_iff.mp hr).1
  rw [hl] at h0
  rcases Nat.lt_or_ge j 3 with h0 | h0
  · have hh := e_pr_105
    (try simp only [Bool.and_eq_true] at hh)
    exact e_bulk hh.2 (by omega) (by omega) hr
  omega
theorem e_pm_244 : e_prOK 244 := by
  have hl : ((e_pgs.getD 244 []).zip (e_ins.getD 244 [])).length = 60 := by decide +kernel
  have hl2 : (e_pgs.getD 244 []).length = 60 := by decide +kernel
  intro j r hr
  have h0 := (List.getElem?_eq_some_iff.mp hr).1
  rw [hl] at h0
  rcases Nat.lt_or_ge j 60 with h0 | h0
  · have hh := e_pr_106
    (try simp only [Bool.and_eq_true] at hh)
    exact e_bulk hh (by omega) (by omega) hr
  omega
theorem e_pm_245 : e_prOK 245 := by
  have hl : ((e_pgs.getD 245 []).zip (e_ins.getD 245 [])).length = 72 := by decide +kernel
  have hl2 : (e_pgs.getD 245 []).length = 72 := by decide +kernel
  intro j r hr
  have h0 := (List.getElem?_eq_some_iff.mp hr).1
  rw [hl] at h0
  rcases Nat.lt_or_ge j 60 with h0 | h0
  · have hh := e_pr_107
    (try simp only [Bool.and_eq_true] at hh)
    exact e_bulk hh (by omega) (by omega) hr
  rcases Nat.lt_or_ge j 72 with h60 | h60
  · have hh := e_pr_108
    (try simp only [Bool.and_eq_true] at hh)
    exact e_bulk hh.1 (by omega) (by omega) hr
  omega
theorem e_pm_246 : e_prOK 246 := by
  have hl : ((e_pgs.getD 246 []).zip (e_ins.getD 246 [])).length = 46 := by decide +kernel
  have hl2 : (e_pgs.getD 246 []).length = 46 := by decide +kernel
  intro j r hr
  have h0 := (List.getElem?_eq_some_iff.mp hr).1
  rw [hl] at h0
  rcases Nat.lt_or_ge j 46 with h0 | h0
  · have hh := e_pr_108
    (try simp only [Bool.and_eq_true] at hh)
    exact e_bulk hh.2 (by omega) (by omega) hr
  omega
theorem e_pm_247 : e_prOK 247 := by
  have hl : ((e_pgs.getD 247 []).zip (e_ins.getD 247 [])).length = 127 := by decide +kernel
  have hl2 : (e_pgs.getD 247 []).length = 127 := by decide +kernel
  intro j r hr
  have h0 := (List.getElem?_eq_some_iff.mp hr).1
  rw [hl] at h0
  rcases Nat.lt_or_ge j 60 with h0 | h0
  · have hh := e_pr_109
    (try simp only [Bool.and_eq_true] at hh)
    exact e_bulk hh (by omega) (by omega) hr
  rcases Nat.lt_or_ge j 120 with h60 | h60
  · have hh := e_pr_110
    (try simp only [Bool.and_eq_true] at hh)
    exact e_bulk hh.1 (by omega) (by omega) hr
  rcases Nat.lt_or_ge j 127 with h120 | h120
  · have hh := e_pr_110
    (try simp only [Bool.and_eq_true] at hh)
    exact e_bulk hh.2 (by omega) (by omega) hr
  omega
theorem e_pm_248 : e_prOK 248 := by
  have hl : ((e_pgs.getD 248 []).zip (e_ins.getD 248 [])).length = 29 := by decide +kernel
  have hl2 : (e_pgs.getD 248 []).length = 29 := by decide +kernel
  intro j r hr
  have h0 := (List.getElem?_eq_some_iff.mp hr).1
  rw [hl] at h0
  rcases Nat.lt_or_ge j 29 with h0 | h0
  · have hh := e_pr_111
    (try simp only [Bool.and_eq_true] at hh)
    exact e_bulk hh.1 (by omega) (by omega) hr
  omega
theorem e_pm_249 : e_prOK 249 := by
  have hl : ((e_pgs.getD 249 []).zip (e_ins.getD 249 [])).length = 25 := by decide +kernel
  have hl2 : (e_pgs.getD 249 []).length = 25 := by decide +kernel
  intro j r hr
  have h0 := (List.getElem?_eq_some_iff.mp hr).1
  rw [hl] at h0
  rcases Nat.lt_or_ge j 25 with h0 | h0
  · have hh := e_pr_111
    (try simp only [Bool.and_eq_true] at hh)
    exact e_bulk hh.2 (by omega) (by omega) hr
  omega
theorem e_pm_250 : e_prOK 250 := by
  have hl : ((e_pgs.getD 250 []).zip (e_ins.getD 250 [])).length = 28 := by decide +kernel
  have hl2 : (e_pgs.getD 250 []).length = 28 := by decide +kernel
  intro j r hr
  have h0 := (List.getElem?_eq_some_iff.mp hr).1
  rw [hl] at h0
  rcases Nat.lt_or_ge j 28 with h0 | h0
  · have hh := e_pr_112
    (try simp only [Bool.and_eq_true] at hh)
    exact e_bulk hh.1.1 (by omega) (by omega) hr
  omega
theorem e_pm_251 : e_prOK 251 := by
  have hl : ((e_pgs.getD 251 []).zip (e_ins.getD 251 [])).length = 8 := by decide +kernel
  have hl2 : (e_pgs.getD 251 []).length = 8 := by decide +kernel
  intro j r hr
  have h0 := (List.getElem?_eq_some_iff.mp hr).1
  rw [hl] at h0
  rcases Nat.lt_or_ge j 8 with h0 | h0
  · have hh := e_pr_112
    (try simp only [Bool.and_eq_true] at hh)
    exact e_bulk hh.1.2 (by omega) (by omega) hr
  omega
theorem e_pm_252 : e_prOK 252 := by
  have hl : ((e_pgs.getD 252 []).zip (e_ins.getD 252 [])).length = 33 := by decide +kernel
  have hl2 : (e_pgs.getD 252 []).length = 33 := by decide +kernel
  intro j r hr
  have h0 := (List.getElem?_eq_some_iff.mp hr).1
  rw [hl] at h0
  rcases Nat.lt_or_ge j 33 with h0 | h0
  · have hh := e_pr_112
    (try simp only [Bool.and_eq_true] at hh)
    exact e_bulk hh.2 (by omega) (by omega) hr
  omega
theorem e_pm_253 : e_prOK 253 := by
  have hl : ((e_pgs.getD 253 []).zip (e_ins.getD 253 [])).length = 59 := by decide +kernel
  have hl2 : (e_pgs.getD 253 []).length = 59 := by decide +kernel
  intro j r hr
  have h0 := (List.getElem?_eq_some_iff.mp hr).1
  rw [hl] at h0
  rcases Nat.lt_or_ge j 59 with h0 | h0
  · have hh := e_pr_113
    (try simp only [Bool.and_eq_true] at hh)
    exact e_bulk hh.1 (by omega) (by omega) hr
  omega
theorem e_pm_254 : e_prOK 254 := by
  have hl : ((e_pgs.getD 254 []).zip (e_ins.getD 254 [])).length = 8 := by decide +kernel
  have hl2 : (e_pgs.getD 254 []).length = 8 := by decide +kernel
  intro j r hr
  have h0 := (List.getElem?_eq_some_iff.mp hr).1
  rw [hl] at h0
  rcases Nat.lt_or_ge j 8 with h0 | h0
  · have hh := e_pr_113
    (try simp only [Bool.and_eq_true] at hh)
    exact e_bulk hh.2 (by omega) (by omega) hr
  omega
theorem e_pm_255 : e_prOK 255 := by
  have hl : ((e_pgs.getD 255 []).zip (e_ins.getD 255 [])).length = 25 := by decide +kernel
  have hl2 : (e_pgs.getD 255 []).length = 25 := by decide +kernel
  intro j r hr
  have h0 := (List.getElem?_eq_some_iff.mp hr).1
  rw [hl] at h0
  rcases Nat.lt_or_ge j 25 with h0 | h0
  · have hh := e_pr_114
    (try simp only [Bool.and_eq_true] at hh)
    exact e_bulk hh.1 (by omega) (by omega) hr
  omega
theorem e_pm_256 : e_prOK 256 := by
  have hl : ((e_pgs.getD 256 []).zip (e_ins.getD 256 [])).length = 6 := by decide +kernel
  have hl2 : (e_pgs.getD 256 []).length = 6 := by decide +kernel
  intro j r hr
  have h0 := (List.getElem?_eq_some_iff.mp hr).1
  rw [hl] at h0
  rcases Nat.lt_or_ge j 6 with h0 | h0
  · have hh := e_pr_114
    (try simp only [Bool.and_eq_true] at hh)
    exact e_bulk hh.2 (by omega) (by omega) hr
  omega
theorem e_pm_257 : e_prOK 257 := by
  have hl : ((e_pgs.getD 257 []).zip (e_ins.getD 257 [])).length = 166 := by decide +kernel
  have hl2 : (e_pgs.getD 257 []).length = 166 := by decide +kernel
  intro j r hr
  have h0 := (List.getElem?_eq_some_iff.mp hr).1
  rw [hl] at h0
  rcases Nat.lt_or_ge j 60 with h0 | h0
  · have hh := e_pr_115
    (try simp only [Bool.and_eq_true] at hh)
    exact e_bulk hh (by omega) (by omega) hr
  rcases Nat.lt_or_ge j 120 with h60 | h60
  · have hh := e_pr_116
    (try simp only [Bool.and_eq_true] at hh)
    exact e_bulk hh (by omega) (by omega) hr
  rcases Nat.lt_or_ge j 166 with h120 | h120
  · have hh := e_pr_117
    (try simp only [Bool.and_eq_true] at hh)
    exact e_bulk hh (by omega) (by omega) hr
  omega
theorem e_pm_258 : e_prOK 258 := by
  have hl : ((e_pgs.getD 258 []).zip (e_ins.getD 258 [])).length = 49 := by decide +kernel
  have hl2 : (e_pgs.getD 258 []).length = 49 := by decide +kernel
  intro j r hr
  have h0 := (List.getElem?_eq_some_iff.mp hr).1
  rw [hl] at h0
  rcases Nat.lt_or_ge j 49 with h0 | h0
  · have hh := e_pr_118
    (try simp only [Bool.and_eq_true] at hh)
    exact e_bulk hh (by omega) (by omega) hr
  omega
theorem e_pm_259 : e_prOK 259 := by
  have hl : ((e_pgs.getD 259 []).zip (e_ins.getD 259 [])).length = 32 := by decide +kernel
  have hl2 : (e_pgs.getD 259 []).length = 32 := by decide +kernel
  intro j r hr
  have h0 := (List.getElem?_eq_some_iff.mp hr).1
  rw [hl] at h0
  rcases Nat.lt_or_ge j 32 with h0 | h0
  · have hh := e_pr_119
    (try simp only [Bool.and_eq_true] at hh)
    exact e_bulk hh.1 (by omega) (by omega) hr
  omega
theorem e_pm_260 : e_prOK 260 := by
  have hl : ((e_pgs.getD 260 []).zip (e_ins.getD 260 [])).length = 3 := by decide +kernel
  have hl2 : (e_pgs.getD 260 []).length = 3 := by decide +kernel
  intro j r hr
  have h0 := (List.getElem?_eq_some_iff.mp hr).1
  rw [hl] at h0
  rcases Nat.lt_or_ge j 3 with h0 | h0
  · have hh := e_pr_119
    (try simp only [Bool.and_eq_true] at hh)
    exact e_bulk hh.2 (by omega) (by omega) hr
  omega
theorem e_pm_261 : e_prOK 261 := by
  have hl : ((e_pgs.getD 261 []).zip (e_ins.getD 261 [])).length = 41 := by decide +kernel
  have hl2 : (e_pgs.getD 261 []).length = 41 := by decide +kernel
  intro j r hr
  have h0 := (List.getElem?_eq_some_iff.mp hr).1
  rw [hl] at h0
  rcases Nat.lt_or_ge j 41 with h0 | h0
  · have hh := e_pr_120
    (try simp only [Bool.and_eq_true] at hh)
    exact e_bulk hh (by omega) (by omega) hr
  omega
theorem e_pm_262 : e_prOK 262 := by
  have hl : ((e_pgs.getD 262 []).zip (e_ins.getD 262 [])).length = 257 := by decide +kernel
  have hl2 : (e_pgs.getD 262 []).length = 257 := by decide +kernel
  intro j r hr
  have h0 := (List.getElem?_eq_some_iff.mp hr).1
  rw [hl] at h0
  rcases Nat.lt_or_ge j 60 with h0 | h0
  · have hh := e_pr_121
    (try simp only [Bool.and_eq_true] at hh)
    exact e_bulk hh (by omega) (by omega) hr
  rcases Nat.lt_or_ge j 120 with h60 | h60
  · have hh := e_pr_122
    (try simp only [Bool.and_eq_true] at hh)
    exact e_bulk hh (by omega) (by omega) hr
  rcases Nat.lt_or_ge j 180 with h120 | h120
  · have hh := e_pr_123
    (try simp only [Bool.and_eq_true] at hh)
    exact e_bulk hh (by omega) (by omega) hr
  rcases Nat.lt_or_ge j 240 with h180 | h180
  · have hh := e_pr_124
    (try simp only [Bool.and_eq_true] at hh)
    exact e_bulk hh (by omega) (by omega) hr
  rcases Nat.lt_or_ge j 257 with h240 | h240
  · have hh := e_pr_125
    (try simp only [Bool.and_eq_true] at hh)
    exact e_bulk hh.1.1.1.1 (by omega) (by omega) hr
  omega
theorem e_pm_263 : e_prOK 263 := by
  have hl : ((e_pgs.getD 263 []).zip (e_ins.getD 263 [])).length = 19 := by decide +kernel
  have hl2 : (e_pgs.getD 263 []).length = 19 := by decide +kernel
  intro j r hr
  have h0 := (List.getElem?_eq_some_iff.mp hr).1
  rw [hl] at h0
  rcases Nat.lt_or_ge j 19 with h0 | h0
  · have hh := e_pr_125
    (try simp only [Bool.and_eq_true] at hh)
    exact e_bulk hh.1.1.1.2 (by omega) (by omega) hr
  omega
theorem e_pm_264 : e_prOK 264 := by
  have hl : ((e_pgs.getD 264 []).zip (e_ins.getD 264 [])).length = 7 := by decide +kernel
  have hl2 : (e_pgs.getD 264 []).length = 7 := by decide +kernel
  intro j r hr
  have h0 := (List.getElem?_eq_some_iff.mp hr).1
  rw [hl] at h0
  rcases Nat.lt_or_ge j 7 with h0 | h0
  · have hh := e_pr_125
    (try simp only [Bool.and_eq_true] at hh)
    exact e_bulk hh.1.1.2 (by omega) (by omega) hr
  omega
theorem e_pm_265 : e_prOK 265 := by
  have hl : ((e_pgs.getD 265 []).zip (e_ins.getD 265 [])).length = 7 := by decide +kernel
  have hl2 : (e_pgs.getD 265 []).length = 7 := by decide +kernel
  intro j r hr
  have h0 := (List.getElem?_eq_some_iff.mp hr).1
  rw [hl] at h0
  rcases Nat.lt_or_ge j 7 with h0 | h0
  · have hh := e_pr_125
    (try simp only [Bool.and_eq_true] at hh)
    exact e_bulk hh.1.2 (by omega) (by omega) hr
  omega
theorem e_pm_266 : e_prOK 266 := by
  have hl : ((e_pgs.getD 266 []).zip (e_ins.getD 266 [])).length = 7 := by decide +kernel
  have hl2 : (e_pgs.getD 266 []).length = 7 := by decide +kernel
  intro j r hr
  have h0 := (List.getElem?_eq_some_iff.mp hr).1
  rw [hl] at h0
  rcases Nat.lt_or_ge j 7 with h0 | h0
  · have hh := e_pr_125
    (try simp only [Bool.and_eq_true] at hh)
    exact e_bulk hh.2 (by omega) (by omega) hr
  omega
theorem e_pm_267 : e_prOK 267 := by
  have hl : ((e_pgs.getD 267 []).zip (e_ins.getD 267 [])).length = 15 := by decide +kernel
  have hl2 : (e_pgs.getD 267 []).length = 15 := by decide +kernel
  intro j r hr
  have h0 := (List.getElem?_eq_some_iff.mp hr).1
  rw [hl] at h0
  rcases Nat.lt_or_ge j 15 with h0 | h0
  · have hh := e_pr_126
    (try simp only [Bool.and_eq_true] at hh)
    exact e_bulk hh (by omega) (by omega) hr
  omega
theorem e_pm_268 : e_prOK 268 := by
  have hl : ((e_pgs.getD 268 []).zip (e_ins.getD 268 [])).length = 698 := by decide +kernel
  have hl2 : (e_pgs.getD 268 []).length = 698 := by decide +kernel
  intro j r hr
  have h0 := (List.getElem?_eq_some_iff.mp hr).1
  rw [hl] at h0
  rcases Nat.lt_or_ge j 60 with h0 | h0
  · have hh := e_pr_127
    (try simp only [Bool.and_eq_true] at hh)
    exact e_bulk hh (by omega) (by omega) hr
  rcases Nat.lt_or_ge j 120 with h60 | h60
  · have hh := e_pr_128
    (try simp only [Bool.and_eq_true] at hh)
    exact e_bulk hh (by omega) (by omega) hr
  rcases Nat.lt_or_ge j 180 with h120 | h120
  · have hh := e_pr_129
    (try simp only [Bool.and_eq_true] at hh)
    exact e_bulk hh (by omega) (by omega) hr
  rcases Nat.lt_or_ge j 240 with h180 | h180
  · have hh := e_pr_130
    (try simp only [Bool.and_eq_true] at hh)
    exact e_bulk hh (by omega) (by omega) hr
  rcases Nat.lt_or_ge j 300 with h240 | h240
  · have hh := e_pr_131
    (try simp only [Bool.and_eq_true] at hh)
    exact e_bulk hh (by omega) (by omega) hr
  rcases Nat.lt_or_ge j 360 with h300 | h300
  · have hh := e_pr_132
    (try simp only [Bool.and_eq_true] at hh)
    exact e_bulk hh (by omega) (by omega) hr
  rcases Nat.lt_or_ge j 420 with h360 | h360
  · have hh := e_pr_133
    (try simp only [Bool.and_eq_true] at hh)
    exact e_bulk hh (by omega) (by omega) hr
  rcases Nat.lt_or_ge j 480 with h420 | h420
  · have hh := e_pr_134
    (try simp only [Bool.and_eq_true] at hh)
    exact e_bulk hh (by omega) (by omega) hr
  rcases Nat.lt_or_ge j 540 with h480 | h480
  · have hh := e_pr_135
    (try simp only [Bool.and_eq_true] at hh)
    exact e_bulk hh (by omega) (by omega) hr
  rcases Nat.lt_or_ge j 600 with h540 | h540
  · have hh := e_pr_136
    (try simp only [Bool.and_eq_true] at hh)
    exact e_bulk hh (by omega) (by omega) hr
  rcases Nat.lt_or_ge j 660 with h600 | h600
  · have hh := e_pr_137
    (try simp only [Bool.and_eq_true] at hh)
    exact e_bulk hh (by omega) (by omega) hr
  rcases Nat.lt_or_ge j 698 with h660 | h660
  · have hh := e_pr_138
    (try simp only [Bool.and_eq_true] at hh)
    exact e_bulk hh (by omega) (by omega) hr
  omega
theorem e_pmc_0 {y : Nat} (h1 : 0 ≤ y) (h2 : y < 16) : e_prOK y := by
  have h : y = 0 ∨ y = 1 ∨ y = 2 ∨ y = 3 ∨ y = 4 ∨ y = 5 ∨ y = 6 ∨ y = 7 ∨ y = 8 ∨ y = 9 ∨ y = 10 ∨ y = 11 ∨ y = 12 ∨ y = 13 ∨ y = 14 ∨ y = 15 := by omega
  rcases h with rfl | rfl | rfl | rfl | rfl | rfl | rfl | rfl | rfl | rfl | rfl | rfl | rfl | rfl | rfl | rfl
  · exact e_pm_0
  · exact e_pm_1
  · exact e_pm_2
  · exact e_pm_3
  · exact e_pm_4
  · exact e_pm_5
  · exact e_pm_6
  · exact e_pm_7
  · exact e_pm_8
  · exact e_pm_9
  · exact e_pm_10
  · exact e_pm_11
  · exact e_pm_12
  · exact e_pm_13
  · exact e_pm_14
  · exact e_pm_15
theorem e_pmc_1 {y : Nat} (h1 : 16 ≤ y) (h2 : y < 32) : e_prOK y := by
  have h : y = 16 ∨ y = 17 ∨ y = 18 ∨ y = 19 ∨ y = 20 ∨ y = 21 ∨ y = 22 ∨ y = 23 ∨ y = 24 ∨ y = 25 ∨ y = 26 ∨ y = 27 ∨ y = 28 ∨ y = 29 ∨ y = 30 ∨ y = 31 := by omega
  rcases h with rfl | rfl | rfl | rfl | rfl | rfl | rfl | rfl | rfl | rfl | rfl | rfl | rfl | rfl | rfl | rfl
  · exact e_pm_16
  · exact e_pm_17
  · exact e_pm_18
  · exact e_pm_19
  · exact e_pm_20
  · exact e_pm_21
  · exact e_pm_22
  · exact e_pm_23
  · exact e_pm_24
  · exact e_pm_25
  · exact e_pm_26
  · exact e_pm_27
  · exact e_pm_28
  · exact e_pm_29
  · exact e_pm_30
  · exact e_pm_31
theorem e_pmc_2 {y : Nat} (h1 : 32 ≤ y) (h2 : y < 48) : e_prOK y := by
  have h : y = 32 ∨ y = 33 ∨ y = 34 ∨ y = 35 ∨ y = 36 ∨ y = 37 ∨ y = 38 ∨ y = 39 ∨ y = 40 ∨ y = 41 ∨ y = 42 ∨ y = 43 ∨ y = 44 ∨ y = 45 ∨ y = 46 ∨ y = 47 := by omega
  rcases h with rfl | rfl | rfl | rfl | rfl | rfl | rfl | rfl | rfl | rfl | rfl | rfl | rfl | rfl | rfl | rfl
  · exact e_pm_32
  · exact e_pm_33
  · exact e_pm_34
  · exact e_pm_35
  · exact e_pm_36
  · exact e_pm_37
  · exact e_pm_38
  · exact e_pm_39
  · exact e_pm_40
  · exact e_pm_41
  · exact e_pm_42
  · exact e_pm_43
  · exact e_pm_44
  · exact e_pm_45
  · exact e_pm_46
  · exact e_pm_47
theorem e_pmc_3 {y : Nat} (h1 : 48 ≤ y) (h2 : y < 64) : e_prOK y := by
  have h : y = 48 ∨ y = 49 ∨ y = 50 ∨ y = 51 ∨ y = 52 ∨ y = 53 ∨ y = 54 ∨ y = 55 ∨ y = 56 ∨ y = 57 ∨ y = 58 ∨ y = 59 ∨ y = 60 ∨ y = 61 ∨ y = 62 ∨ y = 63 := by omega
  rcases h with rfl | rfl | rfl | rfl | rfl | rfl | rfl | rfl | rfl | rfl | rfl | rfl | rfl | rfl | rfl | rfl
  · exact e_pm_48
  · exact e_pm_49
  · exact e_pm_50
  · exact e_pm_51
  · exact e_pm_52
  · exact e_pm_53
  · exact e_pm_54
  · exact e_pm_55
  · exact e_pm_56
  · exact e_pm_57
  · exact e_pm_58
  · exact e_pm_59
  · exact e_pm_60
  · exact e_pm_61
  · exact e_pm_62
  · exact e_pm_63
theorem e_pmc_4 {y : Nat} (h1 : 64 ≤ y) (h2 : y < 80) : e_prOK y := by
  have h : y = 64 ∨ y = 65 ∨ y = 66 ∨ y = 67 ∨ y = 68 ∨ y = 69 ∨ y = 70 ∨ y = 71 ∨ y = 72 ∨ y = 73 ∨ y = 74 ∨ y = 75 ∨ y = 76 ∨ y = 77 ∨ y = 78 ∨ y = 79 := by omega
  rcases h with rfl | rfl | rfl | rfl | rfl | rfl | rfl | rfl | rfl | rfl | rfl | rfl | rfl | rfl | rfl | rfl
  · exact e_pm_64
  · exact e_pm_65
  · exact e_pm_66
  · exact e_pm_67
  · exact e_pm_68
  · exact e_pm_69
  · exact e_pm_70
  · exact e_pm_71
  · exact e_pm_72
  · exact e_pm_73
  · exact e_pm_74
  · exact e_pm_75
  · exact e_pm_76
  · exact e_pm_77
  · exact e_pm_78
  · exact e_pm_79
theorem e_pmc_5 {y : Nat} (h1 : 80 ≤ y) (h2 : y < 96) : e_prOK y := by
  have h : y = 80 ∨ y = 81 ∨ y = 82 ∨ y = 83 ∨ y = 84 ∨ y = 85 ∨ y = 86 ∨ y = 87 ∨ y = 88 ∨ y = 89 ∨ y = 90 ∨ y = 91 ∨ y = 92 ∨ y = 93 ∨ y = 94 ∨ y = 95 := by omega
  rcases h with rfl | rfl | rfl | rfl | rfl | rfl | rfl | rfl | rfl | rfl | rfl | rfl | rfl | rfl | rfl | rfl
  · exact e_pm_80
  · exact e_pm_81
  · exact e_pm_82
  · exact e_pm_83
  · exact e_pm_84
  · exact e_pm_85
  · exact e_pm_86
  · exact e_pm_87
  · exact e_pm_88
  · exact e_pm_89
  · exact e_pm_90
  · exact e_pm_91
  · exact e_pm_92
  · exact e_pm_93
  · exact e_pm_94
  · exact e_pm_95
theorem e_pmc_6 {y : Nat} (h1 : 96 ≤ y) (h2 : y < 112) : e_prOK y := by
  have h : y = 96 ∨ y = 97 ∨ y = 98 ∨ y = 99 ∨ y = 100 ∨ y = 101 ∨ y = 102 ∨ y = 103 ∨ y = 104 ∨ y = 105 ∨ y = 106 ∨ y = 107 ∨ y = 108 ∨ y = 109 ∨ y = 110 ∨ y = 111 := by omega
  rcases h with rfl | rfl | rfl | rfl | rfl | rfl | rfl | rfl | rfl | rfl | rfl | rfl | rfl | rfl | rfl | rfl
  · exact e_pm_96
  · exact e_pm_97
  · exact e_pm_98
  · exact e_pm_99
  · exact e_pm_100
  · exact e_pm_101
  · exact e_pm_102
  · exact e_pm_103
  · exact e_pm_104
  · exact e_pm_105
  · exact e_pm_106
  · exact e_pm_107
  · exact e_pm_108
  · exact e_pm_109
  · exact e_pm_110
  · exact e_pm_111
theorem e_pmc_7 {y : Nat} (h1 : 112 ≤ y) (h2 : y < 128) : e_prOK y := by
  have h : y = 112 ∨ y = 113 ∨ y = 114 ∨ y = 115 ∨ y = 116 ∨ y = 117 ∨ y = 118 ∨ y = 119 ∨ y = 120 ∨ y = 121 ∨ y = 122 ∨ y = 123 ∨ y = 124 ∨ y = 125 ∨ y = 126 ∨ y = 127 := by omega
  rcases h with rfl | rfl | rfl | rfl | rfl | rfl | rfl | rfl | rfl | rfl | rfl | rfl | rfl | rfl | rfl | rfl
  · exact e_pm_112
  · exact e_pm_113
  · exact e_pm_114
  · exact e_pm_115
  · exact e_pm_116
  · exact e_pm_117
  · exact e_pm_118
  · exact e_pm_119
  · exact e_pm_120
  · exact e_pm_121
  · exact e_pm_122
  · exact e_pm_123
  · exact e_pm_124
  · exact e_pm_125
  · exact e_pm_126
  · exact e_pm_127
theorem e_pmc_8 {y : Nat} (h1 : 128 ≤ y) (h2 : y < 144) : e_prOK y := by
  have h : y = 128 ∨ y = 129 ∨ y = 130 ∨ y = 131 ∨ y = 132 ∨ y = 133 ∨ y = 134 ∨ y = 135 ∨ y = 136 ∨ y = 137 ∨ y = 138 ∨ y = 139 ∨ y = 140 ∨ y = 141 ∨ y = 142 ∨ y = 143 := by omega
  rcases h with rfl | rfl | rfl | rfl | rfl | rfl | rfl | rfl | rfl | rfl | rfl | rfl | rfl | rfl | rfl | rfl
  · exact e_pm_128
  · exact e_pm_129
  · exact e_pm_130
  · exact e_pm_131
  · exact e_pm_132
  · exact e_pm_133
  · exact e_pm_134
  · exact e_pm_135
  · exact e_pm_136
  · exact e_pm_137
  · exact e_pm_138
  · exact e_pm_139
  · exact e_pm_140
  · exact e_pm_141
  · exact e_pm_142
  · exact e_pm_143
theorem e_pmc_9 {y : Nat} (h1 : 144 ≤ y) (h2 : y < 160) : e_prOK y := by
  have h : y = 144 ∨ y = 145 ∨ y = 146 ∨ y = 147 ∨ y = 148 ∨ y = 149 ∨ y = 150 ∨ y = 151 ∨ y = 152 ∨ y = 153 ∨ y = 154 ∨ y = 155 ∨ y = 156 ∨ y = 157 ∨ y = 158 ∨ y = 159 := by omega
  rcases h with rfl | rfl | rfl | rfl | rfl | rfl | rfl | rfl | rfl | rfl | rfl | rfl | rfl | rfl | rfl | rfl
  · exact e_pm_144
  · exact e_pm_145
  · exact e_pm_146
  · exact e_pm_147
  · exact e_pm_148
  · exact e_pm_149
  · exact e_pm_150
  · exact e_pm_151
  · exact e_pm_152
  · exact e_pm_153
  · exact e_pm_154
  · exact e_pm_155
  · exact e_pm_156
  · exact e_pm_157
  · exact e_pm_158
  · exact e_pm_159
theorem e_pmc_10 {y : Nat} (h1 : 160 ≤ y) (h2 : y < 176) : e_prOK y := by
  have h : y = 160 ∨ y = 161 ∨ y = 162 ∨ y = 163 ∨ y = 164 ∨ y = 165 ∨ y = 166 ∨ y = 167 ∨ y = 168 ∨ y = 169 ∨ y = 170 ∨ y = 171 ∨ y = 172 ∨ y = 173 ∨ y = 174 ∨ y = 175 := by omega
  rcases h with rfl | rfl | rfl | rfl | rfl | rfl | rfl | rfl | rfl | rfl | rfl | rfl | rfl | rfl | rfl | rfl
  · exact e_pm_160
  · exact e_pm_161
  · exact e_pm_162
  · exact e_pm_163
  · exact e_pm_164
  · exact e_pm_165
  · exact e_pm_166
  · exact e_pm_167
  · exact e_pm_168
  · exact e_pm_169
  · exact e_pm_170
  · exact e_pm_171
  · exact e_pm_172
  · exact e_pm_173
  · exact e_pm_174
  · exact e_pm_175
theorem e_pmc_11 {y : Nat} (h1 : 176 ≤ y) (h2 : y < 192) : e_prOK y := by
  have h : y = 176 ∨ y = 177 ∨ y = 178 ∨ y = 179 ∨ y = 180 ∨ y = 181 ∨ y = 182 ∨ y = 183 ∨ y = 184 ∨ y = 185 ∨ y = 186 ∨ y = 187 ∨ y = 188 ∨ y = 189 ∨ y = 190 ∨ y = 191 := by omega
  rcases h with rfl | rfl | rfl | rfl | rfl | rfl | rfl | rfl | rfl | rfl | rfl | rfl | rfl | rfl | rfl | rfl
  · exact e_pm_176
  · exact e_pm_177
  · exact e_pm_178
  · exact e_pm_179
  · exact e_pm_180
  · exact e_pm_181
  · exact e_pm_182
  · exact e_pm_183
  · exact e_pm_184
  · exact e_pm_185
  · exact e_pm_186
  · exact e_pm_187
  · exact e_pm_188
  · exact e_pm_189
  · exact e_pm_190
  · exact e_pm_191
theorem e_pmc_12 {y : Nat} (h1 : 192 ≤ y) (h2 : y < 208) : e_prOK y := by
  have h : y = 192 ∨ y = 193 ∨ y = 194 ∨ y = 195 ∨ y = 196 ∨ y = 197 ∨ y = 198 ∨ y = 199 ∨ y = 200 ∨ y = 201 ∨ y = 202 ∨ y = 203 ∨ y = 204 ∨ y = 205 ∨ y = 206 ∨ y = 207 := by omega
  rcases h with rfl | rfl | rfl | rfl | rfl | rfl | rfl | rfl | rfl | rfl | rfl | rfl | rfl | rfl | rfl | rfl
  · exact e_pm_192
  · exact e_pm_193
  · exact e_pm_194
  · exact e_pm_195
  · exact e_pm_196
  · exact e_pm_197
  · exact e_pm_198
  · exact e_pm_199
  · exact e_pm_200
  · exact e_pm_201
  · exact e_pm_202
  · exact e_pm_203
  · exact e_pm_204
  · exact e_pm_205
  · exact e_pm_206
  · exact e_pm_207
theorem e_pmc_13 {y : Nat} (h1 : 208 ≤ y) (h2 : y < 224) : e_prOK y := by
  have h : y = 208 ∨ y = 209 ∨ y = 210 ∨ y = 211 ∨ y = 212 ∨ y = 213 ∨ y = 214 ∨ y = 215 ∨ y = 216 ∨ y = 217 ∨ y = 218 ∨ y = 219 ∨ y = 220 ∨ y = 221 ∨ y = 222 ∨ y = 223 := by omega
  rcases h with rfl | rfl | rfl | rfl | rfl | rfl | rfl | rfl | rfl | rfl | rfl | rfl | rfl | rfl | rfl | rfl
  · exact e_pm_208
  · exact e_pm_209
  · exact e_pm_210
  · exact e_pm_211
  · exact e_pm_212
  · exact e_pm_213
  · exact e_pm_214
  · exact e_pm_215
  · exact e_pm_216
  · exact e_pm_217
  · exact e_pm_218
  · exact e_pm_219
  · exact e_pm_220
  · exact e_pm_221
  · exact e_pm_222
  · exact e_pm_223
theorem e_pmc_14 {y : Nat} (h1 : 224 ≤ y) (h2 : y < 240) : e_prOK y := by
  have h : y = 224 ∨ y = 225 ∨ y = 226 ∨ y = 227 ∨ y = 228 ∨ y = 229 ∨ y = 230 ∨ y = 231 ∨ y = 232 ∨ y = 233 ∨ y = 234 ∨ y = 235 ∨ y = 236 ∨ y = 237 ∨ y = 238 ∨ y = 239 := by omega
  rcases h with rfl | rfl | rfl | rfl | rfl | rfl | rfl | rfl | rfl | rfl | rfl | rfl | rfl | rfl | rfl | rfl
  · exact e_pm_224
  · exact e_pm_225
  · exact e_pm_226
  · exact e_pm_227
  · exact e_pm_228
  · exact e_pm_229
  · exact e_pm_230
  · exact e_pm_231
  · exact e_pm_232
  · exact e_pm_233
  · exact e_pm_234
  · exact e_pm_235
  · exact e_pm_236
  · exact e_pm_237
  · exact e_pm_238
  · exact e_pm_239
theorem e_pmc_15 {y : Nat} (h1 : 240 ≤ y) (h2 : y < 256) : e_prOK y := by
  have h : y = 240 ∨ y = 241 ∨ y = 242 ∨ y = 243 ∨ y = 244 ∨ y = 245 ∨ y = 246 ∨ y = 247 ∨ y = 248 ∨ y = 249 ∨ y = 250 ∨ y = 251 ∨ y = 252 ∨ y = 253 ∨ y = 254 ∨ y = 255 := by omega
  rcases h with rfl | rfl | rfl | rfl | rfl | rfl | rfl | rfl | rfl | rfl | rfl | rfl | rfl | rfl | rfl | rfl
  · exact e_pm_240
  · exact e_pm_241
  · exact e_pm_242
  · exact e_pm_243
  · exact e_pm_244
  · exact e_pm_245
  · exact e_pm_246
  · exact e_pm_247
  · exact e_pm_248
  · exact e_pm_249
  · exact e_pm_250
  · exact e_pm_251
  · exact e_pm_252
  · exact e_pm_253
  · exact e_pm_254
  · exact e_pm_255
theorem e_pmc_16 {y : Nat} (h1 : 256 ≤ y) (h2 : y < 269) : e_prOK y := by
  have h : y = 256 ∨ y = 257 ∨ y = 258 ∨ y = 259 ∨ y = 260 ∨ y = 261 ∨ y = 262 ∨ y = 263 ∨ y = 264 ∨ y = 265 ∨ y = 266 ∨ y = 267 ∨ y = 268 := by omega
  rcases h with rfl | rfl | rfl | rfl | rfl | rfl | rfl | rfl | rfl | rfl | rfl | rfl | rfl
  · exact e_pm_256
  · exact e_pm_257
  · exact e_pm_258
  · exact e_pm_259
  · exact e_pm_260
  · exact e_pm_261
  · exact e_pm_262
  · exact e_pm_263
  · exact e_pm_264
  · exact e_pm_265
  · exact e_pm_266
  · exact e_pm_267
  · exact e_pm_268
theorem e_pm_all {y : Nat} (h : y < 269) : e_prOK y := by
  rcases Nat.lt_or_ge y 16 with g0 | g0
  · exact e_pmc_0 (by omega) (by omega)
  rcases Nat.lt_or_ge y 32 with g16 | g16
  · exact e_pmc_1 (by omega) (by omega)
  rcases Nat.lt_or_ge y 48 with g32 | g32
  · exact e_pmc_2 (by omega) (by omega)
  rcases Nat.lt_or_ge y 64 with g48 | g48
  · exact e_pmc_3 (by omega) (by omega)
  rcases Nat.lt_or_ge y 80 with g64 | g64
  · exact e_pmc_4 (by omega) (by omega)
  rcases Nat.lt_or_ge y 96 with g80 | g80
  · exact e_pmc_5 (by omega) (by omega)
  rcases Nat.lt_or_ge y 112 with g96 | g96
  · exact e_pmc_6 (by omega) (by omega)
  rcases Nat.lt_or_ge y 128 with g112 | g112
  · exact e_pmc_7 (by omega) (by omega)
  rcases Nat.lt_or_ge y 144 with g128 | g128
  · exact e_pmc_8 (by omega) (by omega)
  rcases Nat.lt_or_ge y 160 with g144 | g144
  · exact e_pmc_9 (by omega) (by omega)
  rcases Nat.lt_or_ge y 176 with g160 | g160
  · exact e_pmc_10 (by omega) (by omega)
  rcases Nat.lt_or_ge y 192 with g176 | g176
  · exact e_pmc_11 (by omega) (by omega)
  rcases Nat.lt_or_ge y 208 with g192 | g192
  · exact e_pmc_12 (by omega) (by omega)
  rcases Nat.lt_or_ge y 224 with g208 | g208
  · exact e_pmc_13 (by omega) (by omega)
  rcases Nat.lt_or_ge y 240 with g224 | g224
  · exact e_pmc_14 (by omega) (by omega)
  rcases Nat.lt_or_ge y 256 with g240 | g240
  · exact e_pmc_15 (by omega) (by omega)
  rcases Nat.lt_or_ge y 269 with g256 | g256
  · exact e_pmc_16 (by omega) (by omega)
  omega
