section C3
variable {σ β : zw_S} {T N y k : Nat} {hd : Nat → Int32}
theorem shand_congr {γ : zw_S} (h1 : ∀ j, se β j = se γ j) (h2 : β 4 = γ 4) (h3 : β 6 = γ 6) (h4 : β 0 2 = γ 0 2) (x : Int32) : shand β x = shand γ x := by
  unfold shand sat tn
  rw [h2, h3, h4]
  simp only [h1]
theorem hands_congr {γ : zw_S} (h1 : ∀ j, se β j = se γ j) (h2 : β 4 = γ 4) (h3 : β 6 = γ 6) (h4 : β 0 2 = γ 0 2) : hands β = hands γ := by
  funext o
  exact shand_congr h1 h2 h3 h4 _
theorem se_wr {t j : Nat} {v : Int32} (h0 : β 5 t ≠ 0) (hv : v ≠ 0) : se (zw_wr β 5 t v) j = se β j := by
  unfold se
  rw [wr_ap]
  by_cases h : j = t
  · subst h
    simp [h0, hv]
  · simp [h]
theorem hands_w5 {t : Nat} {v : Int32} (h0 : β 5 t ≠ 0) (hv : v ≠ 0) : hands (zw_wr β 5 t v) = hands β := hands_congr (fun _ => se_wr h0 hv) rfl rfl rfl
theorem half {a : Nat} (h : a < 1000) : nI a / 2 = nI (a / 2) := pk_div (d := 2) (by omega) (by decide) (by decide)
theorem tenth {a : Nat} (h : a < 1000) : nI a / 10 = nI (a / 10) := pk_div (d := 10) (by omega) (by decide) (by decide)
theorem dbl {a : Nat} : 2 * nI a = nI (2 * a) := by rw [show (2 : Int32) = nI 2 from rfl, pk_mul]
theorem swork_b {t a : Nat} (ha : a ≤ 100) : ∃ w, w ≤ 201 ∧ swork β t (nI a) = nI w := by
  unfold swork
  rw [half (by omega), dbl, nI_1]
  split
  · split
    · exact ⟨a / 2, by omega, rfl⟩
    · exact ⟨a, by omega, rfl⟩
  · split
    · split
      · exact ⟨a, by omega, rfl⟩
      · split
        · exact ⟨0, by omega, rfl⟩
        · exact ⟨a, by omega, rfl⟩
    · split
      · exact ⟨2 * a, by omega, rfl⟩
      · split
        · exact ⟨2 * a + 1, by omega, rfl⟩
        · split
          · have hw : ∃ w, w ≤ 100 ∧ (if sodd β = true then nI (a / 2) else nI a) = nI w := by
              split
              · exact ⟨a / 2, by omega, rfl⟩
              · exact ⟨a, by omega, rfl⟩
            obtain ⟨w, hw, e⟩ := hw
            rw [e]
            split
            · rename_i h1
              rw [show (1 : Int32) = nI 1 from rfl, nI_leI (by omega) (by omega)] at h1
              exact ⟨w - 1, by omega, pk_sub h1⟩
            · exact ⟨0, by omega, rfl⟩
          · exact ⟨a, by omega, rfl⟩
theorem zmax_held {h w : Nat} (hh : h < 1000) (hw : w ≤ 201) : zmax 0 (nI h - nI w) = sheld (nI h - nI w) := by
  unfold zmax sheld
  have h1 : (nI h - nI w).toInt = (h : Int) - w := pk_sub_toInt (by omega) (by omega)
  have e0 : (0 : Int32).toInt = 0 := by decide
  have e9 : (999 : Int32).toInt = 999 := by decide
  by_cases hz : (0 : Int32) < nI h - nI w
  · rw [if_pos hz]
    rw [Int32.lt_iff_toInt_lt, h1, e0] at hz
    rw [if_pos (by rw [Int32.le_iff_toInt_le, h1, e0]; omega), if_pos (by rw [Int32.le_iff_toInt_le, h1, e9]; omega)]
  · rw [if_neg hz]
    rw [Int32.lt_iff_toInt_lt, h1, e0] at hz
    by_cases h2 : (0 : Int32) ≤ nI h - nI w
    · rw [if_pos h2]
      rw [Int32.le_iff_toInt_le, h1, e0] at h2
      have h3 : nI h - nI w = 0 := Int32.toInt_inj.mp (by rw [h1, e0]; omega)
      rw [h3]
      decide
    · rw [if_neg h2]
theorem c_workOn (hk : k + 12 ≤ 38) (h : Wf T N y β) (x : Int32) {a : Nat} (ha : a ≤ 100) : m_X5_workOn k (pk σ k β (hands β)) (shand β x) (nI a) = some (pk σ k (sdo β x (nI a)) (hands (sdo β x (nI a)))) := by
  have hT := h.T20
  unfold m_X5_workOn
  have hW := h.wdo x (nI a)
  have hsd : sdo β x (nI a) = if shand β x < 0 then β else zw_wr β 5 (shand β x).toNatClampNeg (sheld (β 5 (shand β x).toNatClampNeg - swork β (shand β x).toNatClampNeg (nI a))) := rfl
  rcases shand_c h x with h1 | ⟨t, ht, -, hs, h1⟩
  · rw [hsd, h1, if_neg (by decide), if_pos (by decide)]
  · rw [h1, if_neg (nI_pos (by omega)), nI_clamp (by omega)] at hsd
    rw [hsd] at hW ⊢
    obtain ⟨hh, hhb, e5⟩ := h.hrs ht
    obtain ⟨w, hwb, ew⟩ := swork_b (β := β) (t := t) ha
    rw [h1, if_pos (nI_pos' (by omega)), c_r5 hk (by omega), c_workOf hk h ht, cl_ok, c_w5 hk (by omega), e5, ew, zmax_held hhb hwb, c_r5 hk (by omega), wr_at]
    rw [e5, ew] at hW
    by_cases h0 : sheld (nI hh - nI w) = 0
    · rw [if_pos h0, c_findHands hk hW, cv_ok]
    · rw [if_neg h0]
      have hne : β 5 t ≠ 0 := by
        intro z
        simp [sat, se, z] at hs
      rw [hands_w5 hne h0]
theorem c_bearersWork (hk : k + 12 ≤ 38) (h : Wf T N y β) : m_X5_bearersWork k (pk σ k β (hands β)) = some (pk σ k (sfold y1 β 0 N) (hands (sfold y1 β 0 N))) := by
  have hN := h.N8
  have key : ∀ q n i (b : zw_S), Wf T N y b → i + q = N → q < n → m_X5_bearersWork_2 k n (pk σ k b (hands b)) (nI i) = some (pk σ k (sfold y1 b i q) (hands (sfold y1 b i q))) := by
    intro q
    induction q with
    | zero =>
      intro n i b hb hi hn
      obtain ⟨n, rfl⟩ : ∃ m, n = m + 1 := ⟨n - 1, by omega⟩
      unfold m_X5_bearersWork_2
      rw [pk_s hk (by omega), hb.eN, if_pos (nI_le (by omega) (by omega)), sfold_0]
    | succ q ih =>
      intro n i b hb hi hn
      obtain ⟨n, rfl⟩ : ∃ m, n = m + 1 := ⟨n - 1, by omega⟩
      unfold m_X5_bearersWork_2
      have hy : y1 b i = if b 8 i < 7 then b else if b 7 i < 0 then b else sdo b (b 7 i) (b 9 i) := rfl
      rw [pk_s hk (by omega), hb.eN, if_neg (nI_ge (by omega) (by omega)), c_r7 hk (by omega), sfold_s, hy]
      rcases hb.name (p := i) (by omega) with h7 | ⟨o, ho, h7⟩
      · rw [h7, if_pos (by decide), nm_ok, nI_1]
        have e : (if b 8 i < 7 then b else if (-1 : Int32) < 0 then b else sdo b (-1) (b 9 i)) = b := by grind
        rw [e]
        exact ih n (i + 1) b hb (by omega) (by omega)
      · rw [h7, if_neg (nI_pos (by omega)), c_r8 hk (by omega), if_neg (nI_pos (by omega))]
        by_cases h8 : b 8 i < 7
        · rw [if_pos h8, if_pos h8, nm_ok, nI_1]
          exact ih n (i + 1) b hb (by omega) (by omega)
        · obtain ⟨a, ha1, ha2, e9⟩ := hb.hnd (p := i) (by omega)
          rw [if_neg h8, if_neg h8, c_r7 hk (by omega), h7, c_hrd ho, c_r9 hk (by omega), e9]
          unfold hands
          rw [show (fun o => shand b (nI o)) = hands b from rfl, c_workOn hk hb (nI o) (by omega), cv_ok, nm_ok, nI_1]
          exact ih n (i + 1) _ (hb.wdo _ _) (by omega) (by omega)
  unfold m_X5_bearersWork
  exact key N 200 0 β h (by omega) (by omega)
theorem c_helpersWork (hk : k + 12 ≤ 38) (h : Wf T N y β) : m_X5_helpersWork k (pk σ k β (hands β)) = some (pk σ k (sfold y2 β 0 N) (hands (sfold y2 β 0 N))) := by
  have hN := h.N8
  have key : ∀ q n i (b : zw_S), Wf T N y b → i + q = N → q < n → m_X5_helpersWork_2 k n (pk σ k b (hands b)) (nI i) = some (pk σ k (sfold y2 b i q) (hands (sfold y2 b i q))) := by
    intro q
    induction q with
    | zero =>
      intro n i b hb hi hn
      obtain ⟨n, rfl⟩ : ∃ m, n = m + 1 := ⟨n - 1, by omega⟩
      unfold m_X5_helpersWork_2
      rw [pk_s hk (by omega), hb.eN, if_pos (nI_le (by omega) (by omega)), sfold_0]
    | succ q ih =>
      intro n i b hb hi hn
      obtain ⟨n, rfl⟩ : ∃ m, n = m + 1 := ⟨n - 1, by omega⟩
      unfold m_X5_helpersWork_2
      have hy : y2 b i = if b 8 i < 7 then b else shelp b i := rfl
      have hW := hb.wy2 i
      rw [pk_s hk (by omega), hb.eN, if_neg (nI_ge (by omega) (by omega)), c_r10 hk (by omega), sfold_s]
      rcases hb.help (p := i) (by omega) with h10 | ⟨u, hu, h10⟩
      · rw [h10, if_pos (by decide), nm_ok, nI_1]
        have e : y2 b i = b := by
          rw [hy]
          unfold shelp
          rw [h10]
          grind
        rw [e]
        exact ih n (i + 1) b hb (by omega) (by omega)
      · rw [h10, if_neg (nI_pos (by omega)), c_r8 hk (by omega)]
        by_cases h8 : b 8 i < 7
        · rw [if_pos h8, nm_ok, nI_1, hy, if_pos h8]
          exact ih n (i + 1) b hb (by omega) (by omega)
        · rw [hy, if_neg h8] at hW ⊢
          rw [if_neg h8, c_r7 hk (by omega)]
          have hs : shelp b i = if b 7 u < 0 then b else if b 7 i < 0 ∨ shand b (b 7 i) < 0 then sdo b (b 7 u) (b 9 i / 2) else b := by
            unfold shelp
            rw [h10, if_neg (nI_pos (by omega)), nI_clamp (by omega)]
          rcases hb.name (p := u) (by omega) with h7u | ⟨ou, hou, h7u⟩
          · rw [h7u, if_neg (by decide), nm_ok, nI_1]
            rw [h7u, if_pos (by decide)] at hs
            rw [hs]
            exact ih n (i + 1) b hb (by omega) (by omega)
          · obtain ⟨a, ha1, ha2, e9⟩ := hb.hnd (p := i) (by omega)
            have h67 : b 7 i < 0 ∨ shand b (b 7 i) < 0 → m_X5_helpersWork_67 k (m_X5_helpersWork_2 k n) (pk σ k b (hands b)) (nI i) (nI u) = some (pk σ k (sfold y2 (shelp b i) (i + 1) q) (hands (sfold y2 (shelp b i) (i + 1) q))) := by
              intro hf
              unfold m_X5_helpersWork_67
              rw [h7u, if_neg (nI_pos (by omega)), if_pos hf, e9, half (by omega)] at hs
              rw [c_r7 hk (by omega), h7u, c_hrd hou, c_r9 hk (by omega), e9, half (by omega)]
              rw [show hands b ou = shand b (nI ou) from rfl, c_workOn hk hb (nI ou) (by omega), cv_ok, nm_ok, nI_1, ← hs]
              exact ih n (i + 1) _ hW (by omega) (by omega)
            rw [h7u, if_pos (nI_pos' (by omega)), c_r7 hk (by omega)]
            rcases hb.name (p := i) (by omega) with h7 | ⟨o, ho, h7⟩
            · rw [h7, if_pos (by decide)]
              exact h67 (Or.inl (by rw [h7]; decide))
            · rw [h7, if_neg (nI_pos (by omega)), c_r7 hk (by omega), h7, c_hrd ho, show hands b o = shand b (nI o) from rfl]
              by_cases hz : 0 ≤ shand b (nI o)
              · rw [if_pos hz, nm_ok, nI_1]
                have e : shelp b i = b := by
                  rw [hs, h7u, if_neg (nI_pos (by omega)), h7, if_neg (by have : ¬ nI o < 0 := nI_pos (by omega); grind)]
                rw [e]
                exact ih n (i + 1) b hb (by omega) (by omega)
              · rw [if_neg hz]
                exact h67 (Or.inr (by rw [h7]; grind))
  unfold m_X5_helpersWork
  exact key N 200 0 β h (by omega) (by omega)
end C3
