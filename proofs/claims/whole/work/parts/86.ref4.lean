section R4
variable {σ β : zw_S} {T N y : Nat}
theorem Wf.wy1 (h : Wf T N y β) (p : Nat) : Wf T N y (y1 β p) := by
  rw [show y1 β p = if β 8 p < 7 then β else if β 7 p < 0 then β else sdo β (β 7 p) (β 9 p) from rfl]
  split
  · exact h
  · split
    · exact h
    · exact h.wdo _ _
theorem Wf.wy2 (h : Wf T N y β) (p : Nat) : Wf T N y (y2 β p) := by
  rw [show y2 β p = if β 8 p < 7 then β else shelp β p from rfl]
  split
  · exact h
  · unfold shelp
    split
    · exact h
    · split
      · exact h
      · split
        · exact h.wdo _ _
        · exact h
theorem Wf.wy3 (h : Wf T N y β) {t : Nat} (ht : t < T) : Wf T N y (y3 β t) := h.w5 (by have := h.T20; omega) (sheld_c _)
theorem Wf.wy4 (h : Wf T N y β) {p : Nat} (hp : p < N) : Wf T N y (y4 β p) := by
  have hN := h.N8
  refine h.w8 (by omega) ?_
  obtain ⟨a, ha, e⟩ := h.age hp
  rw [e]
  by_cases h40 : (40 : Int32) ≤ nI a
  · rw [if_pos h40]
    exact ⟨a, ha, rfl⟩
  · rw [if_neg h40]
    rw [show (40 : Int32) = nI 40 from rfl, nI_leI (by omega) (by omega)] at h40
    exact ⟨a + 1, by omega, nI_1 a⟩
theorem Wf.leave (h : Wf T N y β) {p : Nat} (hp : p < N) (h7 : ¬ β 7 p < 0) : ∃ T2, T ≤ T2 ∧ Wf T2 N y (sleave β p) := by
  have hN := h.N8
  have hT := h.T20
  rcases h.name hp with h1 | ⟨o, ho, h1⟩
  · exact absurd (by rw [h1]; decide) h7
  · have hg : sgone β p = zw_wr (zw_wr β 7 p (-1)) 2 o (β 2 o + 1) := by
      unfold sgone
      rw [h1, nI_clamp (by omega)]
    have hW : Wf T N y (sgone β p) := by
      rw [hg]
      exact (h.w7 (by omega)).w2 ho
    unfold sleave
    split
    · split
      · exact ⟨T, by omega, hW⟩
      · rename_i h20
        rw [h.eT, show (20 : Int32) = nI 20 from rfl, nI_leI (by omega) (by omega)] at h20
        rw [h1]
        exact ⟨T + 1, by omega, hW.come (by omega) (k := 0) (hh := 5) (by omega) ho (by omega) (Or.inl rfl)⟩
    · exact ⟨T, by omega, hW⟩
theorem Wf.wy5 (h : Wf T N y β) {p : Nat} (hp : p < N) : ∃ T2, T ≤ T2 ∧ Wf T2 N y (y5 β p) := by
  unfold y5
  split
  · split
    · exact ⟨T, by omega, h⟩
    · exact h.leave hp ‹_›
  · exact ⟨T, by omega, h⟩
/-- a loop over persons or tasks that keeps T and N -/
theorem Wf.fold {f : zw_S → Nat → zw_S} {M : Nat} (hf : ∀ (b : zw_S) (p : Nat), p < M → Wf T N y b → Wf T N y (f b p)) : ∀ (k i : Nat) (b : zw_S), i + k ≤ M → Wf T N y b → Wf T N y (sfold f b i k) := by
  intro k
  induction k with
  | zero => intro i b _ h; exact h
  | succ k ih =>
    intro i b hi h
    rw [sfold_s]
    exact ih (i + 1) (f b i) (by omega) (hf b i (by omega) h)
theorem Wf.fold5 : ∀ (k i T : Nat) (b : zw_S), i + k ≤ N → Wf T N y b → ∃ T2, T ≤ T2 ∧ Wf T2 N y (sfold y5 b i k) := by
  intro k
  induction k with
  | zero => intro i T b _ h; exact ⟨T, by omega, h⟩
  | succ k ih =>
    intro i T b hi h
    rw [sfold_s]
    obtain ⟨T2, h1, h2⟩ := h.wy5 (p := i) (by omega)
    obtain ⟨T3, h3, h4⟩ := ih (i + 1) T2 (y5 b i) (by omega) h2
    exact ⟨T3, by omega, h4⟩
theorem ry_1 : ∀ (k n i : Nat) (b : zw_S), Wf T N y b → i + k = N → k < n → m_X7_year_2 n (pm σ b) (nI i) = m_X7_year_56 200 (pm σ (sfold y1 b i k)) 0 := by
  intro k
  induction k with
  | zero =>
    intro n i b h hi hn
    have hN := h.N8
    obtain ⟨n, rfl⟩ : ∃ m, n = m + 1 := ⟨n - 1, by omega⟩
    unfold m_X7_year_2
    rw [r_N, h.eN, if_pos (nI_le (by omega) (by omega)), sfold_0]
  | succ k ih =>
    intro n i b h hi hn
    have hN := h.N8
    obtain ⟨n, rfl⟩ : ∃ m, n = m + 1 := ⟨n - 1, by omega⟩
    unfold m_X7_year_2
    rw [r_N, h.eN, if_neg (nI_ge (by omega) (by omega)), r_p1 (by omega), cl_ok, sfold_s]
    have hy : y1 b i = if b 8 i < 7 then b else if b 7 i < 0 then b else sdo b (b 7 i) (b 9 i) := rfl
    by_cases h8 : b 8 i < 7
    · rw [if_pos h8, nm_ok, nI_1, hy, if_pos h8]
      exact ih n (i + 1) b h (by omega) (by omega)
    · rw [if_neg h8, r_p0 (by omega), cl_ok, hy, if_neg h8]
      by_cases h7 : b 7 i < 0
      · rw [if_pos h7, nm_ok, nI_1, if_pos h7]
        exact ih n (i + 1) b h (by omega) (by omega)
      · rw [if_neg h7, r_p0 (by omega), cl_ok, r_p2 (by omega), cl_ok, r_does h, cv_ok, nm_ok, nI_1, if_neg h7]
        exact ih n (i + 1) _ (h.wdo _ _) (by omega) (by omega)
theorem ry_2 : ∀ (k n i : Nat) (b : zw_S), Wf T N y b → i + k = N → k < n → m_X7_year_56 n (pm σ b) (nI i) = m_X7_year_90 200 (pm σ (sfold y2 b i k)) 0 := by
  intro k
  induction k with
  | zero =>
    intro n i b h hi hn
    have hN := h.N8
    obtain ⟨n, rfl⟩ : ∃ m, n = m + 1 := ⟨n - 1, by omega⟩
    unfold m_X7_year_56
    rw [r_N, h.eN, if_pos (nI_le (by omega) (by omega)), sfold_0]
  | succ k ih =>
    intro n i b h hi hn
    have hN := h.N8
    obtain ⟨n, rfl⟩ : ∃ m, n = m + 1 := ⟨n - 1, by omega⟩
    unfold m_X7_year_56
    rw [r_N, h.eN, if_neg (nI_ge (by omega) (by omega)), r_p1 (by omega), cl_ok, sfold_s]
    have hy : y2 b i = if b 8 i < 7 then b else shelp b i := rfl
    by_cases h8 : b 8 i < 7
    · rw [if_pos h8, nm_ok, nI_1, hy, if_pos h8]
      exact ih n (i + 1) b h (by omega) (by omega)
    · rw [if_neg h8, r_helpsNow h (by omega), cv_ok, nm_ok, nI_1]
      have := h.wy2 i
      rw [hy, if_neg h8] at this ⊢
      exact ih n (i + 1) _ this (by omega) (by omega)
theorem ry_3 : ∀ (k n i : Nat) (b : zw_S), Wf T N y b → i + k = T → k < n → m_X7_year_90 n (pm σ b) (nI i) = m_X7_year_136 200 (pm σ (sfold y3 b i k)) 0 := by
  intro k
  induction k with
  | zero =>
    intro n i b h hi hn
    have hT := h.T20
    obtain ⟨n, rfl⟩ : ∃ m, n = m + 1 := ⟨n - 1, by omega⟩
    unfold m_X7_year_90
    rw [r_T, h.eT, if_pos (nI_le (by omega) (by omega)), sfold_0]
  | succ k ih =>
    intro n i b h hi hn
    have hT := h.T20
    obtain ⟨n, rfl⟩ : ∃ m, n = m + 1 := ⟨n - 1, by omega⟩
    unfold m_X7_year_90
    rw [r_T, h.eT, if_neg (nI_ge (by omega) (by omega)), r_t2 (by omega), cl_ok, r_grows h (by omega), cl_ok, r_held, cl_ok, ix_t2, show 20 + 4 * i + 2 = ec 5 i from rfl, wt_i (ec_lt (f := 5) (show i < 20 by omega)) (by omega), pm_wr (f := 5) (show i < 20 by omega), nm_ok, nI_1, sfold_s]
    exact ih n (i + 1) _ (h.wy3 (by omega)) (by omega) (by omega)
theorem ix_p1 {t : Nat} : (100 + 4 * nI t) + 1 = nI (ec 8 t) := ix_p (w := 1)
theorem ry_4 : ∀ (k n i : Nat) (b : zw_S), Wf T N y b → i + k = N → k < n → m_X7_year_136 n (pm σ b) (nI i) = m_X7_year_186 200 (pm σ (sfold y4 b i k)) 0 := by
  intro k
  induction k with
  | zero =>
    intro n i b h hi hn
    have hN := h.N8
    obtain ⟨n, rfl⟩ : ∃ m, n = m + 1 := ⟨n - 1, by omega⟩
    unfold m_X7_year_136
    rw [r_N, h.eN, if_pos (nI_le (by omega) (by omega)), sfold_0]
  | succ k ih =>
    intro n i b h hi hn
    have hN := h.N8
    obtain ⟨n, rfl⟩ : ∃ m, n = m + 1 := ⟨n - 1, by omega⟩
    have hi8 : i < 8 := by omega
    unfold m_X7_year_136
    rw [r_N, h.eN, if_neg (nI_ge (by omega) (by omega)), nm_ok, ix_p1, rd_i (ec_lt (f := 8) hi8) (by omega), pm_rd (f := 8) hi8, r_p1 hi8, cl_ok, sfold_s]
    have hW := h.wy4 (p := i) (by omega)
    have hy : y4 b i = zw_wr b 8 i (if 40 ≤ b 8 i then b 8 i else b 8 i + 1) := rfl
    rw [hy] at hW ⊢
    by_cases h40 : 40 ≤ b 8 i
    · rw [if_pos h40, wt_i (ec_lt (f := 8) hi8) (by omega), pm_wr (f := 8) hi8, nm_ok, nI_1, Int32.add_zero]
      rw [if_pos h40] at hW ⊢
      exact ih n (i + 1) _ hW (by omega) (by omega)
    · rw [if_neg h40, wt_i (ec_lt (f := 8) hi8) (by omega), pm_wr (f := 8) hi8, nm_ok, nI_1]
      rw [if_neg h40] at hW ⊢
      exact ih n (i + 1) _ hW (by omega) (by omega)
theorem ry_5 : ∀ (k n i T : Nat) (b : zw_S), Wf T N y b → i + k = N → k < n → m_X7_year_186 n (pm σ b) (nI i) = m_X7_year_227 (pm σ (sfold y5 b i k)) := by
  intro k
  induction k with
  | zero =>
    intro n i T b h hi hn
    have hN := h.N8
    obtain ⟨n, rfl⟩ : ∃ m, n = m + 1 := ⟨n - 1, by omega⟩
    unfold m_X7_year_186
    rw [r_N, h.eN, if_pos (nI_le (by omega) (by omega)), sfold_0]
  | succ k ih =>
    intro n i T b h hi hn
    have hN := h.N8
    obtain ⟨n, rfl⟩ : ∃ m, n = m + 1 := ⟨n - 1, by omega⟩
    unfold m_X7_year_186
    rw [r_N, h.eN, if_neg (nI_ge (by omega) (by omega)), r_p1 (by omega), cl_ok, sfold_s]
    obtain ⟨T2, h1, h2⟩ := h.wy5 (p := i) (by omega)
    have hy : y5 b i = if b 8 i = 40 then (if b 7 i < 0 then b else sleave b i) else b := rfl
    rw [hy] at h2 ⊢
    by_cases h8 : b 8 i = 40
    · rw [if_pos h8, r_p0 (by omega), cl_ok]
      rw [if_pos h8] at h2 ⊢
      by_cases h7 : b 7 i < 0
      · rw [if_pos h7, nm_ok, nI_1]
        rw [if_pos h7] at h2 ⊢
        exact ih n (i + 1) T2 _ h2 (by omega) (by omega)
      · rw [if_neg h7, r_leaves h (by omega) h7, cv_ok, nm_ok, nI_1]
        rw [if_neg h7] at h2 ⊢
        exact ih n (i + 1) T2 _ h2 (by omega) (by omega)
    · rw [if_neg h8, nm_ok, nI_1]
      rw [if_neg h8] at h2 ⊢
      exact ih n (i + 1) T2 _ h2 (by omega) (by omega)
theorem r_year (h : Wf T N y β) : m_X7_year (pm σ β) = some (pm σ (syear β)) := by
  have hN := h.N8
  have hT := h.T20
  unfold m_X7_year syear
  dsimp only
  rw [h.hN, h.hT]
  have w1 : Wf T N y (sfold y1 β 0 N) := Wf.fold (M := N) (fun b p _ hb => hb.wy1 p) N 0 β (by omega) h
  have w2 : Wf T N y (sfold y2 (sfold y1 β 0 N) 0 N) := Wf.fold (M := N) (fun b p _ hb => hb.wy2 p) N 0 _ (by omega) w1
  have w3 : Wf T N y (sfold y3 (sfold y2 (sfold y1 β 0 N) 0 N) 0 T) := Wf.fold (M := T) (fun b p hp hb => hb.wy3 hp) T 0 _ (by omega) w2
  have w4 : Wf T N y (sfold y4 (sfold y3 (sfold y2 (sfold y1 β 0 N) 0 N) 0 T) 0 N) := Wf.fold (M := N) (fun b p hp hb => hb.wy4 hp) N 0 _ (by omega) w3
  obtain ⟨T2, h1, w5⟩ := Wf.fold5 N 0 T _ (by omega) w4
  rw [show (0 : Int32) = nI 0 from rfl, ry_1 N 200 0 β h (by omega) (by omega), show (0 : Int32) = nI 0 from rfl, ry_2 N 200 0 _ w1 (by omega) (by omega), show (0 : Int32) = nI 0 from rfl, ry_3 T 200 0 _ w2 (by omega) (by omega), show (0 : Int32) = nI 0 from rfl, ry_4 N 200 0 _ w3 (by omega) (by omega), show (0 : Int32) = nI 0 from rfl, ry_5 N 200 0 T _ w4 (by omega) (by omega)]
  unfold m_X7_year_227 y6
  rw [r_y, show (0 : Int32) = nI (ec 0 0) from rfl, wt_i (by decide) (by omega), pm_wr (f := 0) (by decide)]
theorem Wf.year (h : Wf T N y β) (hy : y < 5000) : ∃ T2, T ≤ T2 ∧ Wf T2 N (y + 1) (syear β) := by
  unfold syear
  dsimp only
  rw [h.hN, h.hT]
  have w1 : Wf T N y (sfold y1 β 0 N) := Wf.fold (M := N) (fun b p _ hb => hb.wy1 p) N 0 β (by omega) h
  have w2 : Wf T N y (sfold y2 (sfold y1 β 0 N) 0 N) := Wf.fold (M := N) (fun b p _ hb => hb.wy2 p) N 0 _ (by omega) w1
  have w3 : Wf T N y (sfold y3 (sfold y2 (sfold y1 β 0 N) 0 N) 0 T) := Wf.fold (M := T) (fun b p hp hb => hb.wy3 hp) T 0 _ (by omega) w2
  have w4 : Wf T N y (sfold y4 (sfold y3 (sfold y2 (sfold y1 β 0 N) 0 N) 0 T) 0 N) := Wf.fold (M := N) (fun b p hp hb => hb.wy4 hp) N 0 _ (by omega) w3
  obtain ⟨T2, h1, w5⟩ := Wf.fold5 N 0 T _ (by omega) w4
  exact ⟨T2, h1, w5.w0 hy⟩
end R4
