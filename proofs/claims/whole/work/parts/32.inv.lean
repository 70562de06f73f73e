/-! what holds between the class and the reference -/
def bW (M : e_Me) (n t : Nat) (ld : Nat → Nat) : Prop := cW M n t ld ∧ M 182 0 = nI n ∧ M 182 1 = nI t ∧ ∀ c, c < 30 → M 185 c = nI (ld c)
def bG (M : e_Me) (w : Nat) (s d : Int32) : Prop := M 7 2 = nI w ∧ M 7 3 = s ∧ M 7 4 = d ∧ M 182 2 = nI w ∧ M 182 3 = s ∧ M 182 8 = d ∧ (d = 0 ∨ d = 1) ∧ w ≤ 10000
def bU (M : e_Me) (b h c p : Nat) : Prop := M 2 0 = nI b ∧ M 2 1 = nI h ∧ M 2 2 = nI c ∧ M 2 3 = nI p ∧ M 182 4 = nI b ∧ M 182 5 = nI h ∧ M 182 6 = nI c ∧ M 182 7 = nI p ∧ b ≤ 1000000 ∧ h ≤ 10000 ∧ c ≤ 500 ∧ p ≤ 20
def bN (M : e_Me) (k : Nat) (s q : Nat → Nat) : Prop := k ≤ 40 ∧ M 167 1 = nI k ∧ M 169 1 = nI k ∧ M 182 31 = nI k ∧ ∀ i, i < k → M 168 i = nI (s i) ∧ M 170 i = nI (q i) ∧ M 197 i = nI (s i) ∧ M 198 i = nI (q i) ∧ s i ≤ 2 ∧ q i ≤ 36 ∧ (s i = 2 → q i = 0)
def bR (M : e_Me) (n k : Nat) (r : Nat → Nat) (v : Nat → Int) (m : Nat → Nat) : Prop := k ≤ 12 ∧ M 176 1 = nI k ∧ M 178 1 = nI k ∧ M 180 1 = nI k ∧ M 182 38 = nI k ∧ ∀ i, i < k → M 177 i = nI (r i) ∧ M 179 i = iI (v i) ∧ M 181 i = nI (m i) ∧ M 203 i = nI (r i) ∧ M 204 i = iI (v i) ∧ M 205 i = nI (m i) ∧ r i < n ∧ -2000000 ≤ v i ∧ v i ≤ 2000000 ∧ m i ≤ 100000
def bH (M : e_Me) (lo hi : Nat → Nat) : Prop := ∀ c, c < 30 → M 172 c = nI (lo c) ∧ M 173 c = nI (hi c) ∧ M 201 c = nI (lo c) ∧ M 202 c = nI (hi c) ∧ lo c ≤ hi c ∧ hi c ≤ 900
def bO (M : e_Me) (k : Nat) : Prop := M 87 10 = nI k ∧ M 182 21 = nI k ∧ k ≤ 30 ∧ (∀ t, t < 30 → M 95 t = 0) ∧ M 160 0 = 0 ∧ M 161 0 = 0
/-- sums of naturals -/
def smN : Nat → (Nat → Nat) → Nat
  | 0, _ => 0
  | k + 1, f => smN k f + f k
/-- the class's PARTIES, LINE, CABINS -/
def cP (M : e_Me) (np : Nat) (pe we wi wh se : Nat → Nat) (pa : Nat → Int32) (l : Nat) (ln sc : Nat → Nat) (cb : Nat → Nat → Nat) : Prop :=
  (M 10 1 = nI np ∧ M 12 1 = nI np ∧ M 14 1 = nI np ∧ M 16 1 = nI np ∧ M 18 1 = nI np ∧ M 20 1 = nI np) ∧
  (∀ p, p < np → M 11 p = nI (pe p) ∧ M 13 p = nI (we p) ∧ M 15 p = nI (wi p) ∧ M 17 p = nI (wh p) ∧ M 19 p = nI (se p) ∧ M 21 p = pa p) ∧
  M 22 1 = nI l ∧ (∀ k, k < l → M 23 k = nI (ln k)) ∧ (∀ c, c < 30 → M (27 + 2 * c) 1 = nI (sc c)) ∧ (∀ c, c < 30 → ∀ i, i < sc c → M (27 + 2 * c + 1) i = nI (cb c i))
/-- the reference's -/
def mP (M : e_Me) (np : Nat) (pe we wi wh se : Nat → Nat) (pa : Nat → Int32) (l : Nat) (ln sc : Nat → Nat) (cb : Nat → Nat → Nat) : Prop :=
  M 182 12 = nI np ∧
  (∀ p, p < np → M 186 p = nI (pe p) ∧ M 187 p = nI (we p) ∧ M 188 p = nI (wi p) ∧ M 189 p = nI (wh p) ∧ M 190 p = nI (se p) ∧ M 191 p = pa p) ∧
  M 182 19 = nI l ∧ (∀ k, k < l → M 192 k = nI (ln k)) ∧ (∀ c, c < 30 → M 184 c = nI (sc c)) ∧ (∀ c, c < 30 → ∀ i, i < sc c → M 183 (6 * c + i) = nI (cb c i))
/-- that they are as PARTIES, LINE and CABINS are -/
def wP (n : Nat) (ld : Nat → Nat) (np : Nat) (pe we wi wh se : Nat → Nat) (l : Nat) (ln sc : Nat → Nat) (cb : Nat → Nat → Nat) : Prop :=
  np ≤ 200 ∧ l ≤ 30 ∧
  (∀ p, p < np → 1 ≤ pe p ∧ pe p ≤ 6 ∧ 1 ≤ we p ∧ we p ≤ 150 * pe p ∧ wi p ≤ 3 ∧ se p ≤ 1 ∧ wh p ≤ 101) ∧
  (∀ k, k < l → ln k < np ∧ wh (ln k) = 100) ∧ (∀ j k, j < l → k < l → ln j = ln k → j = k) ∧
  (∀ c, c < 30 → ∀ i, i < sc c → cb c i < np ∧ wh (cb c i) = c) ∧ (∀ c, c < 30 → ∀ i j, i < sc c → j < sc c → cb c i = cb c j → i = j) ∧
  (∀ p, p < np → wh p < 30 → ∃ i, i < sc (wh p) ∧ cb (wh p) i = p) ∧
  (∀ c, c < 30 → ld c = smN (sc c) (fun i => we (cb c i)) ∧ smN (sc c) (fun i => pe (cb c i)) ≤ 6) ∧
  (∀ c, n ≤ c → c < 30 → sc c = 0)
def Inv (M : e_Me) : Prop := ∃ (n t : Nat) (ld : Nat → Nat), bW M n t ld ∧ (∃ w s d, bG M w s d) ∧ (∃ b h c p, bU M b h c p) ∧ (∃ k s q, bN M k s q) ∧ (∃ k r v m, bR M n k r v m) ∧ (∃ lo hi, bH M lo hi) ∧ (∃ k, bO M k) ∧
  ∃ np pe we wi wh se pa l ln sc cb, cP M np pe we wi wh se pa l ln sc cb ∧ mP M np pe we wi wh se pa l ln sc cb ∧ wP n ld np pe we wi wh se l ln sc cb
/-- the cells that each speaks of -/
def kW (i j : Nat) : Prop := (3 ≤ i ∧ i ≤ 6) ∨ (i = 182 ∧ j ≤ 1) ∨ i = 185
def kG (i j : Nat) : Prop := i = 7 ∨ (i = 182 ∧ (j = 2 ∨ j = 3 ∨ j = 8))
def kU (i j : Nat) : Prop := i = 2 ∨ (i = 182 ∧ 4 ≤ j ∧ j ≤ 7)
def kN (i j : Nat) : Prop := (167 ≤ i ∧ i ≤ 170) ∨ (i = 182 ∧ j = 31) ∨ i = 197 ∨ i = 198
def kR (i j : Nat) : Prop := (176 ≤ i ∧ i ≤ 181) ∨ (i = 182 ∧ j = 38) ∨ (203 ≤ i ∧ i ≤ 205)
def kH (i _ : Nat) : Prop := i = 172 ∨ i = 173 ∨ i = 201 ∨ i = 202
def kO (i j : Nat) : Prop := (i = 87 ∧ j = 10) ∨ (i = 182 ∧ j = 21) ∨ i = 95 ∨ (i = 160 ∧ j = 0) ∨ (i = 161 ∧ j = 0)
def kP (i j : Nat) : Prop := (10 ≤ i ∧ i ≤ 86) ∨ (i = 182 ∧ (j = 12 ∨ j = 19)) ∨ i = 183 ∨ i = 184 ∨ (186 ≤ i ∧ i ≤ 192)
/-- all of them -/
def kp (i j : Nat) : Prop := kW i j ∨ kG i j ∨ kU i j ∨ kN i j ∨ kR i j ∨ kH i j ∨ kO i j ∨ kP i j
section
variable {M M' : e_Me}
theorem cW_same {n t : Nat} {ld : Nat → Nat} (h : ∀ i j, i ≤ 86 → M' i j = M i j) (g : cW M n t ld) : cW M' n t ld :=
  cW_frame g (funext fun j => h 3 j (by omega)) (funext fun j => h 4 j (by omega)) (funext fun j => h 5 j (by omega)) (funext fun j => h 6 j (by omega))
theorem bW_same {n t : Nat} {ld : Nat → Nat} (h : ∀ i j, kW i j → M' i j = M i j) (g : bW M n t ld) : bW M' n t ld := by
  obtain ⟨g1, g2, g3, g4⟩ := g
  refine ⟨cW_frame g1 (funext fun j => h 3 j (by unfold kW; omega)) (funext fun j => h 4 j (by unfold kW; omega)) (funext fun j => h 5 j (by unfold kW; omega)) (funext fun j => h 6 j (by unfold kW; omega)), ?_, ?_, fun c hc => ?_⟩
  · rw [h 182 0 (by unfold kW; omega), g2]
  · rw [h 182 1 (by unfold kW; omega), g3]
  · rw [h 185 c (by unfold kW; omega), g4 c hc]
theorem bG_same {w : Nat} {s d : Int32} (h : ∀ i j, kG i j → M' i j = M i j) (g : bG M w s d) : bG M' w s d := by
  unfold bG at g ⊢
  rw [h 182 2 (by unfold kG; omega), h 182 3 (by unfold kG; omega), h 182 8 (by unfold kG; omega), h 7 2 (by unfold kG; omega), h 7 3 (by unfold kG; omega), h 7 4 (by unfold kG; omega)]
  exact g
theorem bU_same {b x c p : Nat} (h : ∀ i j, kU i j → M' i j = M i j) (g : bU M b x c p) : bU M' b x c p := by
  unfold bU at g ⊢
  rw [h 2 0 (by unfold kU; omega), h 2 1 (by unfold kU; omega), h 2 2 (by unfold kU; omega), h 2 3 (by unfold kU; omega), h 182 4 (by unfold kU; omega), h 182 5 (by unfold kU; omega), h 182 6 (by unfold kU; omega), h 182 7 (by unfold kU; omega)]
  exact g
theorem bN_same {k : Nat} {s q : Nat → Nat} (h : ∀ i j, kN i j → M' i j = M i j) (g : bN M k s q) : bN M' k s q := by
  unfold bN at g ⊢
  rw [h 167 1 (by unfold kN; omega), h 169 1 (by unfold kN; omega), h 182 31 (by unfold kN; omega)]
  refine ⟨g.1, g.2.1, g.2.2.1, g.2.2.2.1, fun i hi => ?_⟩
  rw [h 168 i (by unfold kN; omega), h 170 i (by unfold kN; omega), h 197 i (by unfold kN; omega), h 198 i (by unfold kN; omega)]
  exact g.2.2.2.2 i hi
theorem bR_same {n k : Nat} {r : Nat → Nat} {v : Nat → Int} {m : Nat → Nat} (h : ∀ i j, kR i j → M' i j = M i j) (g : bR M n k r v m) : bR M' n k r v m := by
  unfold bR at g ⊢
  rw [h 176 1 (by unfold kR; omega), h 178 1 (by unfold kR; omega), h 180 1 (by unfold kR; omega), h 182 38 (by unfold kR; omega)]
  refine ⟨g.1, g.2.1, g.2.2.1, g.2.2.2.1, g.2.2.2.2.1, fun i hi => ?_⟩
  rw [h 177 i (by unfold kR; omega), h 179 i (by unfold kR; omega), h 181 i (by unfold kR; omega), h 203 i (by unfold kR; omega), h 204 i (by unfold kR; omega), h 205 i (by unfold kR; omega)]
  exact g.2.2.2.2.2 i hi
theorem bH_same {lo hi : Nat → Nat} (h : ∀ i j, kH i j → M' i j = M i j) (g : bH M lo hi) : bH M' lo hi := by
  intro c hc
  rw [h 172 c (by unfold kH; omega), h 173 c (by unfold kH; omega), h 201 c (by unfold kH; omega), h 202 c (by unfold kH; omega)]
  exact g c hc
theorem bO_same {k : Nat} (h : ∀ i j, kO i j → M' i j = M i j) (g : bO M k) : bO M' k := by
  obtain ⟨g1, g2, g3, g4, g5, g6⟩ := g
  refine ⟨?_, ?_, g3, fun t ht => ?_, ?_, ?_⟩
  · rw [h 87 10 (by unfold kO; omega), g1]
  · rw [h 182 21 (by unfold kO; omega), g2]
  · rw [h 95 t (by unfold kO; omega), g4 t ht]
  · rw [h 160 0 (by unfold kO; omega), g5]
  · rw [h 161 0 (by unfold kO; omega), g6]
section
variable {np : Nat} {pe we wi wh se : Nat → Nat} {pa : Nat → Int32} {l : Nat} {ln sc : Nat → Nat} {cb : Nat → Nat → Nat}
theorem cP_same (h : ∀ i j, 10 ≤ i → i ≤ 86 → M' i j = M i j) (g : cP M np pe we wi wh se pa l ln sc cb) : cP M' np pe we wi wh se pa l ln sc cb := by
  obtain ⟨g1, g2, g3, g4, g5, g6⟩ := g
  refine ⟨?_, fun p hp => ?_, ?_, fun k hk => ?_, fun c hc => ?_, fun c hc i hi => ?_⟩
  · rw [h 10 1 (by omega) (by omega), h 12 1 (by omega) (by omega), h 14 1 (by omega) (by omega), h 16 1 (by omega) (by omega), h 18 1 (by omega) (by omega), h 20 1 (by omega) (by omega)]
    exact g1
  · rw [h 11 p (by omega) (by omega), h 13 p (by omega) (by omega), h 15 p (by omega) (by omega), h 17 p (by omega) (by omega), h 19 p (by omega) (by omega), h 21 p (by omega) (by omega)]
    exact g2 p hp
  · rw [h 22 1 (by omega) (by omega)]
    exact g3
  · rw [h 23 k (by omega) (by omega)]
    exact g4 k hk
  · rw [h (27 + 2 * c) 1 (by omega) (by omega)]
    exact g5 c hc
  · rw [h (27 + 2 * c + 1) i (by omega) (by omega)]
    exact g6 c hc i hi
theorem mP_same (h : ∀ i j, (i = 182 ∧ (j = 12 ∨ j = 19)) ∨ i = 183 ∨ i = 184 ∨ (186 ≤ i ∧ i ≤ 192) → M' i j = M i j) (g : mP M np pe we wi wh se pa l ln sc cb) : mP M' np pe we wi wh se pa l ln sc cb := by
  obtain ⟨g1, g2, g3, g4, g5, g6⟩ := g
  refine ⟨?_, fun p hp => ?_, ?_, fun k hk => ?_, fun c hc => ?_, fun c hc i hi => ?_⟩
  · rw [h 182 12 (by omega)]
    exact g1
  · rw [h 186 p (by omega), h 187 p (by omega), h 188 p (by omega), h 189 p (by omega), h 190 p (by omega), h 191 p (by omega)]
    exact g2 p hp
  · rw [h 182 19 (by omega)]
    exact g3
  · rw [h 192 k (by omega)]
    exact g4 k hk
  · rw [h 184 c (by omega)]
    exact g5 c hc
  · rw [h 183 (6 * c + i) (by omega)]
    exact g6 c hc i hi
end
theorem Inv_same (h : ∀ i j, kp i j → M' i j = M i j) (g : Inv M) : Inv M' := by
  obtain ⟨n, t, ld, g1, ⟨w, s0, d, g2⟩, ⟨b, x, c, p, g3⟩, ⟨k, s, q, g4⟩, ⟨k2, r, v, m, g5⟩, ⟨lo, hi, g6⟩, ⟨k3, g7⟩, np, pe, we, wi, wh, se, pa, l, ln, sc, cb, g8, g9, g10⟩ := g
  unfold kp at h
  have hP : ∀ i j, kP i j → M' i j = M i j := fun i j q => h i j (by simp [q])
  exact ⟨n, t, ld, bW_same (fun i j q => h i j (by simp [q])) g1, ⟨w, s0, d, bG_same (fun i j q => h i j (by simp [q])) g2⟩, ⟨b, x, c, p, bU_same (fun i j q => h i j (by simp [q])) g3⟩, ⟨k, s, q, bN_same (fun i j q => h i j (by simp [q])) g4⟩, ⟨k2, r, v, m, bR_same (fun i j q => h i j (by simp [q])) g5⟩, ⟨lo, hi, bH_same (fun i j q => h i j (by simp [q])) g6⟩, ⟨k3, bO_same (fun i j q => h i j (by simp [q])) g7⟩, np, pe, we, wi, wh, se, pa, l, ln, sc, cb, cP_same (fun i j a1 a2 => hP i j (by unfold kP; omega)) g8, mP_same (fun i j a => hP i j (by unfold kP; omega)) g9, g10⟩
end
