theorem sfind_none {q : Nat → Bool} : ∀ {k i : Nat}, sfind q i k = -1 → i + k ≤ 1000 → ∀ t, i ≤ t → t < i + k → q t = false := by
  intro k
  induction k with
  | zero => intro i _ _ t h1 h2; omega
  | succ k ih =>
    intro i e hb t h1 h2
    rw [sfind_s] at e
    by_cases h : q i = true
    · rw [if_pos h] at e
      have := nI_pos' (n := i) (by omega)
      rw [e] at this
      exact absurd this (by decide)
    · rw [if_neg h] at e
      by_cases hti : t = i
      · subst hti
        simpa using h
      · exact ih e (by omega) t (by omega) (by omega)
section O4
variable {σ β : zw_S} {T N y k : Nat} {hd : Nat → Int32}
theorem op_status (h : Iv β σ) (a1 : Int32) : Ok (m_X6_status σ a1) (fun τ => m_X7_status τ a1) := by
  obtain ⟨T, N, y, hW, hy, h40⟩ := id h.2.2.1
  have hto := h.2.2.2.2.1
  by_cases h1 : -1 ≤ a1 ∧ a1 ≤ 6
  · have kX : ∀ (q n i : Nat) (s : Int32), i + q = 7 → q < n → m_X6_status_32 n σ s (nI i) = some (sacc (σ 56) s i q, σ) := by
      intro q
      induction q with
      | zero =>
        intro n i s hi hn
        obtain ⟨n, rfl⟩ : ∃ m, n = m + 1 := ⟨n - 1, by omega⟩
        unfold m_X6_status_32
        rw [show (7 : Int32) = nI 7 from rfl, if_pos (nI_le (by omega) (by omega))]
        rfl
      | succ q ih =>
        intro n i s hi hn
        obtain ⟨n, rfl⟩ : ∃ m, n = m + 1 := ⟨n - 1, by omega⟩
        unfold m_X6_status_32
        rw [show (7 : Int32) = nI 7 from rfl, if_neg (nI_ge (by omega) (by omega)), rd_i (by omega) (by omega), nm_ok, nm_ok, nI_1, sacc_s]
        exact ih n (i + 1) _ (by omega) (by omega)
    have kM : ∀ (q n i : Nat) (s : Int32), i + q = 7 → q < n → m_X7_status_25 n σ a1 s (nI i) = some (sacc (fun j => if a1 < 0 ∨ a1 = nI j then σ 62 j else 0) s i q, σ) := by
      intro q
      induction q with
      | zero =>
        intro n i s hi hn
        obtain ⟨n, rfl⟩ : ∃ m, n = m + 1 := ⟨n - 1, by omega⟩
        unfold m_X7_status_25
        rw [show (7 : Int32) = nI 7 from rfl, if_pos (nI_le (by omega) (by omega))]
        rfl
      | succ q ih =>
        intro n i s hi hn
        obtain ⟨n, rfl⟩ : ∃ m, n = m + 1 := ⟨n - 1, by omega⟩
        unfold m_X7_status_25 m_X7_status_41
        rw [show (7 : Int32) = nI 7 from rfl, if_neg (nI_ge (by omega) (by omega)), rd_i (by omega) (by omega), nm_ok, nm_ok, nI_1, nm_ok, nm_ok, sacc_s]
        by_cases c1 : a1 < 0
        · rw [if_pos c1, if_pos (Or.inl c1)]
          exact ih n (i + 1) _ (by omega) (by omega)
        · rw [if_neg c1]
          by_cases c2 : a1 = nI i
          · rw [if_pos c2, if_pos (Or.inr c2)]
            exact ih n (i + 1) _ (by omega) (by omega)
          · rw [if_neg c2, if_neg (by rintro (z | z); exact c1 z; exact c2 z)]
            exact ih n (i + 1) _ (by omega) (by omega)
    have eM : m_X7_status σ a1 = some (sacc (fun j => if a1 < 0 ∨ a1 = nI j then σ 62 j else 0) 0 0 7, σ) := by
      simp only [m_X7_status, ri_m1_6, cl_ok, if1 h1, z10]
      exact kM 7 200 0 0 (by omega) (by omega)
    by_cases c1 : a1 < 0
    · refine ⟨sacc (σ 56) 0 0 7, σ, σ, ?_, ?_, β, h⟩
      · simp only [m_X6_status, c_isIn, cl_ok, if1 h1, z10, if_pos c1]
        exact kX 7 200 0 0 (by omega) (by omega)
      · refine eM.trans ?_
        rw [sacc_congr (g := fun j => if a1 < 0 ∨ a1 = nI j then σ 62 j else 0) (g2 := σ 56) 7 0 0 (fun t _ ht => by rw [if_pos (Or.inl c1), hto t (by omega)])]
    · obtain ⟨w, hw, rfl⟩ := in_nI (x := a1) (M := 6) (m := 6) (by decide) (by grind)
      refine ⟨σ 56 w, σ, σ, ?_, ?_, β, h⟩
      · simp only [m_X6_status, c_isIn, cl_ok, if1 h1, z10, if_neg c1]
        rw [rd_i (by omega) (by omega)]
      · refine eM.trans ?_
        have e : ∀ (q i : Nat) (s : Int32), i + q = 7 → sacc (fun j => if nI w < 0 ∨ nI w = nI j then σ 62 j else 0) s i q = if i ≤ w then s + σ 62 w else s := by
          intro q
          induction q with
          | zero => intro i s hi; rw [if_neg (by omega)]; rfl
          | succ q ih =>
            intro i s hi
            rw [sacc_s, ih (i + 1) _ (by omega)]
            by_cases hiw : i = w
            · subst hiw
              rw [if_neg (by omega), if_pos (Or.inr rfl), if_pos (by omega)]
            · have hne : ¬ (nI w < 0 ∨ nI w = nI i) := by
                rintro (z | z)
                · exact c1 z
                · exact hiw ((nI_eq (by omega) (by omega)).mp z).symm
              rw [if_neg hne, Int32.add_zero]
              by_cases hl : i ≤ w
              · rw [if_pos (by omega), if_pos hl]
              · rw [if_neg (by omega), if_neg hl]
        rw [e 7 0 0 (by omega), if_pos (by omega), hto w (by omega), Int32.zero_add]
  · skip
    refine ok_F (mX := fun s => m_X6_status s a1) (w := 0) (by decide) h (fun hd => ?_) (fun τ => ?_)
    · simp only [m_X6_status, c_isName, c_isKind, c_isSheet, c_isIn, c_hasTask (k := 1) (by decide) hW, c_hasPerson (k := 1) (by decide) hW, cl_ok, cv_ok, nm_ok, z00, z10, if_true, if_false, Fw0, Fw1, Fw2, Fw3, Fw4, Fw5, Fw6, c_found (w := 0) (by decide), c_found (w := 1) (by decide), c_found (w := 2) (by decide), c_found (w := 3) (by decide), c_found (w := 4) (by decide), c_found (w := 5) (by decide), c_found (w := 6) (by decide), if0 h1]
    · simp only [m_X7_status, r_isName, r_isKind, r_isSheet, r_areHands, ri_m1_6, ri_0_100, ri_0_3, ri_0_39, ri_0_4, ri_0_5, ri_0_6, ri_0_60, ri_0_7, ri_0_9, ri_0_99, ri_1_4, ri_1_40, ri_1_60, ri_1_8, ri_1_9, ri_1_999, r_isTask hW, r_isPerson hW, cl_ok, cv_ok, nm_ok, z00, z10, if_true, if_false, Fw0, Fw1, Fw2, Fw3, Fw4, Fw5, Fw6, r_finds (w := 0) (by decide), r_finds (w := 1) (by decide), r_finds (w := 2) (by decide), r_finds (w := 3) (by decide), r_finds (w := 4) (by decide), r_finds (w := 5) (by decide), r_finds (w := 6) (by decide), if0 h1]
theorem Bk.come (hB : Bk β) (hT : β 0 2 < 20) {a b c d : Int32} (ha : 0 ≤ a ∧ a ≤ 6) (hb : 0 ≤ b ∧ b ≤ 7) (hc : 0 ≤ c ∧ c ≤ 999) (hd : d = -1 ∨ (0 ≤ d ∧ d < β 0 2)) : Bk (scome β a b c d) := by
  obtain ⟨T, N, y, hW, hy, h40⟩ := hB
  have hT20 := hW.T20
  have hT2 : T < 20 := by
    rw [hW.eT, show (20 : Int32) = nI 20 from rfl, nI_ltI (by omega) (by omega)] at hT
    exact hT
  obtain ⟨a1, h1, rfl⟩ := in_nI (M := 6) (m := 6) (by decide) ha
  obtain ⟨b1, h2, rfl⟩ := in_nI (M := 7) (m := 7) (by decide) hb
  obtain ⟨c1, h3, rfl⟩ := in_nI (M := 999) (m := 999) (by decide) hc
  refine ⟨T + 1, N, y, hW.come hT2 (by omega) (by omega) (by omega) ?_, hy, h40⟩
  rcases hd with hd | hd
  · exact Or.inl hd
  · rw [hW.eT] at hd
    exact Or.inr (isT_o (by omega) hd)
theorem come_T (h : Wf T N y β) {a b c d : Int32} : scome β a b c d 0 2 = nI (T + 1) := by
  unfold scome
  rw [wr_at, h.eT, nI_1]
theorem op_task (h : Iv β σ) (a1 a2 a3 : Int32) : Ok (m_X6_task σ a1 a2 a3) (fun τ => m_X7_task τ a1 a2 a3) := by
  obtain ⟨T, N, y, hW, hy, h40⟩ := id h.2.2.1
  have hT := h_T20 hW
  have hN := h_N8 hW
  by_cases h1 : 0 ≤ a1 ∧ a1 ≤ 6
  · by_cases h2 : 0 ≤ a2 ∧ a2 ≤ 7
    · by_cases h3 : 1 ≤ a3 ∧ a3 ≤ 999
      · by_cases h4 : T < 20
        · have e20 : β 0 2 < 20 := by rw [hW.eT, show (20 : Int32) = nI 20 from rfl]; exact nI_lt h4 (by omega)
          have en : ¬ (nI T = 20) := by rw [show (20 : Int32) = nI 20 from rfl, nI_eq (by omega) (by omega)]; omega
          have em1 : nI (T + 1) - 1 = nI T := nI_pred T
          refine ok_V (mX := fun s => m_X6_task s a1 a2 a3) (r := nI T) (γ := scome β a1 a2 a3 (-1)) h ?_ (fun hd => ⟨hd, ?_⟩) (fun τ => ?_)
          · exact h.2.2.1.come e20 h1 h2 (by grind) (Or.inl rfl)
          · simp only [m_X6_task, c_isName, c_isKind, c_isSheet, c_isIn, c_hasTask (k := 1) (by decide) hW, c_hasPerson (k := 1) (by decide) hW, cl_ok, cv_ok, nm_ok, z00, z10, if_true, if_false, Fw0, Fw1, Fw2, Fw3, Fw4, Fw5, Fw6, c_found (w := 0) (by decide), c_found (w := 1) (by decide), c_found (w := 2) (by decide), c_found (w := 3) (by decide), c_found (w := 4) (by decide), c_found (w := 5) (by decide), c_found (w := 6) (by decide), if1 h1, if1 h2, if1 h3, pk1_s (show 2 < 4 by decide), if_pos e20, c_addTask (k := 1) (by decide) hW, if_pos h4]
          · simp only [m_X7_task, r_isName, r_isKind, r_isSheet, r_areHands, ri_m1_6, ri_0_100, ri_0_3, ri_0_39, ri_0_4, ri_0_5, ri_0_6, ri_0_60, ri_0_7, ri_0_9, ri_0_99, ri_1_4, ri_1_40, ri_1_60, ri_1_8, ri_1_9, ri_1_999, r_isTask hW, r_isPerson hW, cl_ok, cv_ok, nm_ok, z00, z10, if_true, if_false, Fw0, Fw1, Fw2, Fw3, Fw4, Fw5, Fw6, r_finds (w := 0) (by decide), r_finds (w := 1) (by decide), r_finds (w := 2) (by decide), r_finds (w := 3) (by decide), r_finds (w := 4) (by decide), r_finds (w := 5) (by decide), r_finds (w := 6) (by decide), if1 h1, if1 h2, if1 h3, r_T, hW.eT, if_neg en, r_comes hW h4, come_T hW, em1]
        · have e20 : ¬ β 0 2 < 20 := by rw [hW.eT, show (20 : Int32) = nI 20 from rfl]; exact nI_nlt (by omega) (by omega)
          have en : nI T = 20 := by rw [show T = 20 by omega]; rfl
          refine ok_F (mX := fun s => m_X6_task s a1 a2 a3) (w := 1) (by decide) h (fun hd => ?_) (fun τ => ?_)
          · simp only [m_X6_task, c_isName, c_isKind, c_isSheet, c_isIn, c_hasTask (k := 1) (by decide) hW, c_hasPerson (k := 1) (by decide) hW, cl_ok, cv_ok, nm_ok, z00, z10, if_true, if_false, Fw0, Fw1, Fw2, Fw3, Fw4, Fw5, Fw6, c_found (w := 0) (by decide), c_found (w := 1) (by decide), c_found (w := 2) (by decide), c_found (w := 3) (by decide), c_found (w := 4) (by decide), c_found (w := 5) (by decide), c_found (w := 6) (by decide), if1 h1, if1 h2, if1 h3, pk1_s (show 2 < 4 by decide), if_neg e20]
          · simp only [m_X7_task, r_isName, r_isKind, r_isSheet, r_areHands, ri_m1_6, ri_0_100, ri_0_3, ri_0_39, ri_0_4, ri_0_5, ri_0_6, ri_0_60, ri_0_7, ri_0_9, ri_0_99, ri_1_4, ri_1_40, ri_1_60, ri_1_8, ri_1_9, ri_1_999, r_isTask hW, r_isPerson hW, cl_ok, cv_ok, nm_ok, z00, z10, if_true, if_false, Fw0, Fw1, Fw2, Fw3, Fw4, Fw5, Fw6, r_finds (w := 0) (by decide), r_finds (w := 1) (by decide), r_finds (w := 2) (by decide), r_finds (w := 3) (by decide), r_finds (w := 4) (by decide), r_finds (w := 5) (by decide), r_finds (w := 6) (by decide), if1 h1, if1 h2, if1 h3, r_T, hW.eT, if_pos en]
      · skip
        refine ok_F (mX := fun s => m_X6_task s a1 a2 a3) (w := 0) (by decide) h (fun hd => ?_) (fun τ => ?_)
        · simp only [m_X6_task, c_isName, c_isKind, c_isSheet, c_isIn, c_hasTask (k := 1) (by decide) hW, c_hasPerson (k := 1) (by decide) hW, cl_ok, cv_ok, nm_ok, z00, z10, if_true, if_false, Fw0, Fw1, Fw2, Fw3, Fw4, Fw5, Fw6, c_found (w := 0) (by decide), c_found (w := 1) (by decide), c_found (w := 2) (by decide), c_found (w := 3) (by decide), c_found (w := 4) (by decide), c_found (w := 5) (by decide), c_found (w := 6) (by decide), if1 h1, if1 h2, if0 h3]
        · simp only [m_X7_task, r_isName, r_isKind, r_isSheet, r_areHands, ri_m1_6, ri_0_100, ri_0_3, ri_0_39, ri_0_4, ri_0_5, ri_0_6, ri_0_60, ri_0_7, ri_0_9, ri_0_99, ri_1_4, ri_1_40, ri_1_60, ri_1_8, ri_1_9, ri_1_999, r_isTask hW, r_isPerson hW, cl_ok, cv_ok, nm_ok, z00, z10, if_true, if_false, Fw0, Fw1, Fw2, Fw3, Fw4, Fw5, Fw6, r_finds (w := 0) (by decide), r_finds (w := 1) (by decide), r_finds (w := 2) (by decide), r_finds (w := 3) (by decide), r_finds (w := 4) (by decide), r_finds (w := 5) (by decide), r_finds (w := 6) (by decide), if1 h1, if1 h2, if0 h3]
    · skip
      refine ok_F (mX := fun s => m_X6_task s a1 a2 a3) (w := 0) (by decide) h (fun hd => ?_) (fun τ => ?_)
      · simp only [m_X6_task, c_isName, c_isKind, c_isSheet, c_isIn, c_hasTask (k := 1) (by decide) hW, c_hasPerson (k := 1) (by decide) hW, cl_ok, cv_ok, nm_ok, z00, z10, if_true, if_false, Fw0, Fw1, Fw2, Fw3, Fw4, Fw5, Fw6, c_found (w := 0) (by decide), c_found (w := 1) (by decide), c_found (w := 2) (by decide), c_found (w := 3) (by decide), c_found (w := 4) (by decide), c_found (w := 5) (by decide), c_found (w := 6) (by decide), if1 h1, if0 h2]
      · simp only [m_X7_task, r_isName, r_isKind, r_isSheet, r_areHands, ri_m1_6, ri_0_100, ri_0_3, ri_0_39, ri_0_4, ri_0_5, ri_0_6, ri_0_60, ri_0_7, ri_0_9, ri_0_99, ri_1_4, ri_1_40, ri_1_60, ri_1_8, ri_1_9, ri_1_999, r_isTask hW, r_isPerson hW, cl_ok, cv_ok, nm_ok, z00, z10, if_true, if_false, Fw0, Fw1, Fw2, Fw3, Fw4, Fw5, Fw6, r_finds (w := 0) (by decide), r_finds (w := 1) (by decide), r_finds (w := 2) (by decide), r_finds (w := 3) (by decide), r_finds (w := 4) (by decide), r_finds (w := 5) (by decide), r_finds (w := 6) (by decide), if1 h1, if0 h2]
  · skip
    refine ok_F (mX := fun s => m_X6_task s a1 a2 a3) (w := 0) (by decide) h (fun hd => ?_) (fun τ => ?_)
    · simp only [m_X6_task, c_isName, c_isKind, c_isSheet, c_isIn, c_hasTask (k := 1) (by decide) hW, c_hasPerson (k := 1) (by decide) hW, cl_ok, cv_ok, nm_ok, z00, z10, if_true, if_false, Fw0, Fw1, Fw2, Fw3, Fw4, Fw5, Fw6, c_found (w := 0) (by decide), c_found (w := 1) (by decide), c_found (w := 2) (by decide), c_found (w := 3) (by decide), c_found (w := 4) (by decide), c_found (w := 5) (by decide), c_found (w := 6) (by decide), if0 h1]
    · simp only [m_X7_task, r_isName, r_isKind, r_isSheet, r_areHands, ri_m1_6, ri_0_100, ri_0_3, ri_0_39, ri_0_4, ri_0_5, ri_0_6, ri_0_60, ri_0_7, ri_0_9, ri_0_99, ri_1_4, ri_1_40, ri_1_60, ri_1_8, ri_1_9, ri_1_999, r_isTask hW, r_isPerson hW, cl_ok, cv_ok, nm_ok, z00, z10, if_true, if_false, Fw0, Fw1, Fw2, Fw3, Fw4, Fw5, Fw6, r_finds (w := 0) (by decide), r_finds (w := 1) (by decide), r_finds (w := 2) (by decide), r_finds (w := 3) (by decide), r_finds (w := 4) (by decide), r_finds (w := 5) (by decide), r_finds (w := 6) (by decide), if0 h1]
def sborn (β : zw_S) (a b c : Int32) : zw_S := zw_wr (zw_wr (zw_wr (zw_wr (zw_wr β 9 (pn β) a) 8 (pn β) b) 7 (pn β) c) 10 (pn β) (-1)) 0 3 (β 0 3 + 1)
theorem Wf.born (h : Wf T N y β) (hN : N < 8) {a b : Nat} {c : Int32} (ha : 1 ≤ a ∧ a ≤ 9) (hb : b ≤ 39) (hc : c = -1 ∨ ∃ o, o < 8 ∧ c = nI o ∧ ∀ p, p < N → β 7 p ≠ c) : Wf T (N + 1) y (sborn β (nI a) (nI b) c) := by
  have hNn := h.hN
  obtain ⟨h1, h2, h3, h4, h5, h6, h7, h8, h9, h10, h11, h12⟩ := h
  unfold sborn
  rw [hNn]
  refine ⟨h1, by omega, h3, h4, ?_, h6, h7, h8, fun q hq => ?_, fun p q hp hq => ?_, h11, Cp_wr (Cp_wr (Cp_wr (Cp_wr (Cp_wr h12 hN) hN) hN) hN) (by decide)⟩
  · rw [wr_at, h5, nI_1]
  · by_cases hqN : q = N
    · subst hqN
      refine ⟨?_, ⟨b, by omega, ?_⟩, ⟨a, ha.1, ha.2, ?_⟩, Or.inl ?_⟩
      · simp only [wr_ap]
        rcases hc with hc | ⟨z, hz, hc, -⟩
        · left; simp [hc]
        · right; exact ⟨z, hz, by simp [hc]⟩
      · simp [wr_ap]
      · simp [wr_ap]
      · simp [wr_ap]
    · obtain ⟨a1, a2, a3, a4⟩ := h9 q (by omega)
      refine ⟨?_, ?_, ?_, ?_⟩
      · simpa [wr_ap, hqN] using a1
      · simpa [wr_ap, hqN] using a2
      · simpa [wr_ap, hqN] using a3
      · simp only [wr_ap]
        rcases a4 with a4 | ⟨z, hz, a4⟩
        · left; simp [hqN, a4]
        · right; exact ⟨z, by omega, by simp [hqN, a4]⟩
  · simp only [wr_ap]
    by_cases hpN : p = N <;> by_cases hqN : q = N
    · intro _ _; omega
    · subst hpN
      have e2 : β 7 q ≠ c ∨ c = -1 := by
        rcases hc with hc | ⟨z, hz, hc, hne⟩
        · exact Or.inr hc
        · exact Or.inl (hne q (by omega))
      simp [hqN]
      intro e n
      rcases e2 with e2 | e2
      · exact absurd e.symm e2
      · exact absurd e2 n
    · subst hqN
      have e2 : β 7 p ≠ c ∨ c = -1 := by
        rcases hc with hc | ⟨z, hz, hc, hne⟩
        · exact Or.inr hc
        · exact Or.inl (hne p (by omega))
      simp [hpN]
      intro e
      rcases e2 with e2 | e2
      · exact absurd e e2
      · rw [e, e2]
    · simp [hpN, hqN]
      exact h10 p q (by omega) (by omega)
theorem Bk.born (hB : Bk β) (hN : β 0 3 < 8) {a b c : Int32} (ha : 1 ≤ a ∧ a ≤ 9) (hb : 0 ≤ b ∧ b ≤ 39) (hc : c = -1 ∨ (0 ≤ c ∧ c ≤ 7 ∧ sbear β c < 0)) : Bk (sborn β a b c) := by
  obtain ⟨T, N, y, hW, hy, h40⟩ := hB
  have hN8 := hW.N8
  have hN2 : N < 8 := by
    rw [hW.eN, show (8 : Int32) = nI 8 from rfl, nI_ltI (by omega) (by omega)] at hN
    exact hN
  obtain ⟨a1, h1, rfl⟩ := in_nI (x := a) (M := 9) (m := 9) (by decide) (by grind)
  obtain ⟨b1, h2, rfl⟩ := in_nI (M := 39) (m := 39) (by decide) hb
  have ha1 : 1 ≤ a1 := by
    rcases Nat.eq_zero_or_pos a1 with h0 | h0
    · rw [h0] at ha
      exact absurd ha.1 (by decide)
    · exact h0
  refine ⟨T, N + 1, y, hW.born hN2 ⟨ha1, h1⟩ h2 ?_, hy, fun p hp => ?_⟩
  · rcases hc with hc | ⟨c1, c2, c3⟩
    · exact Or.inl hc
    · obtain ⟨z, hz, rfl⟩ := in_nI (M := 7) (m := 7) (by decide) ⟨c1, c2⟩
      refine Or.inr ⟨z, by omega, rfl, fun p hp e => ?_⟩
      unfold sbear at c3
      rw [hW.hN] at c3
      rcases sfind_c (fun p => decide (β 7 p = nI z)) N 0 with q | ⟨t, -, q2, -, q⟩
      · have := sfind_none q (by omega) p (by omega) (by omega)
        simp [e] at this
      · rw [q] at c3
        exact absurd c3 (nI_pos (by omega))
  · unfold sborn
    rw [hW.hN]
    simp only [wr_ap]
    by_cases hpN : p = N
    · subst hpN
      simp
      intro e
      have : nI b1 = nI 40 := e
      rw [nI_eq (by omega) (by omega)] at this
      omega
    · simp [hpN]
      exact h40 p (by omega)
theorem c_addPerson (hk : k + 12 ≤ 38) (h : Wf T N y β) (a b c : Int32) : m_X0_addPerson k (pk σ k β hd) a b c = if N < 8 then some (nI N, pk σ k (sborn β a b c) hd) else some (-1, pk σ k β hd) := by
  unfold m_X0_addPerson
  rw [pk_s hk (by omega), h.eN]
  by_cases hN : N < 8
  · rw [if_pos (by rw [show (8 : Int32) = nI 8 from rfl]; exact nI_lt hN (by omega)), if_pos hN, c_w9 hk hN, pk_s hk (by omega), wr_f (show (0 : Nat) ≠ 9 by decide), h.eN, c_w8 hk hN, pk_s hk (by omega), wr_f (show (0 : Nat) ≠ 8 by decide), wr_f (show (0 : Nat) ≠ 9 by decide), h.eN, c_w7 hk hN, pk_s hk (by omega), wr_f (show (0 : Nat) ≠ 7 by decide), wr_f (show (0 : Nat) ≠ 8 by decide), wr_f (show (0 : Nat) ≠ 9 by decide), h.eN, c_w10 hk hN, pk_s hk (by omega), wr_f (show (0 : Nat) ≠ 10 by decide), wr_f (show (0 : Nat) ≠ 7 by decide), wr_f (show (0 : Nat) ≠ 8 by decide), wr_f (show (0 : Nat) ≠ 9 by decide), h.eN, nm_ok, nm_ok, pk_ws hk (by omega)]
    unfold sborn
    rw [h.hN, h.eN]
  · have hN8 := h.N8
    rw [if_neg (by rw [show (8 : Int32) = nI 8 from rfl]; exact nI_nlt (by omega) (by omega)), if_neg hN]
theorem r_isBorn (h : Wf T N y β) (hN : N < 8) (a b c : Int32) : m_X7_isBorn (pm σ β) a b c = some (pm σ (sborn β a b c)) := by
  unfold m_X7_isBorn sborn
  have e1 : nI (ec 7 N) + 1 = nI (ec 8 N) := nI_add (ec 7 N) 1
  have e2 : nI (ec 7 N) + 2 = nI (ec 9 N) := nI_add (ec 7 N) 2
  have e3 : nI (ec 7 N) + 3 = nI (ec 10 N) := nI_add (ec 7 N) 3
  rw [r_N, h.eN, nm_ok, xp0, e1, e2, e3, h.hN]
  rw [r_wt (f := 7) hN, r_wt (f := 8) hN, r_wt (f := 9) hN, r_wt (f := 10) hN, r_N, show (3 : Int32) = nI (ec 0 3) from rfl, r_wt (f := 0) (by decide)]
  congr 2
  funext f j
  simp only [wr_ap]
  have := h.eN
  grind
theorem born_N (h : Wf T N y β) {a b c : Int32} : sborn β a b c 0 3 = nI (N + 1) := by
  unfold sborn
  rw [wr_at, h.eN, nI_1]
theorem op_person (h : Iv β σ) (a1 : Int32) : Ok (m_X6_person σ a1) (fun τ => m_X7_person τ a1) := by
  obtain ⟨T, N, y, hW, hy, h40⟩ := id h.2.2.1
  have hT := h_T20 hW
  have hN := h_N8 hW
  by_cases h1 : 1 ≤ a1 ∧ a1 ≤ 9
  · by_cases h4 : N < 8
    · have e20 : β 0 3 < 8 := by rw [hW.eN, show (8 : Int32) = nI 8 from rfl]; exact nI_lt h4 (by omega)
      have en : ¬ (nI N = 8) := by rw [show (8 : Int32) = nI 8 from rfl, nI_eq (by omega) (by omega)]; omega
      have em1 : nI (N + 1) - 1 = nI N := nI_pred N
      refine ok_V (mX := fun s => m_X6_person s a1) (r := nI N) (γ := sborn β a1 0 (-1)) h ?_ (fun hd => ⟨hd, ?_⟩) (fun τ => ?_)
      · exact h.2.2.1.born e20 h1 (by decide) (Or.inl rfl)
      · simp only [m_X6_person, c_isName, c_isKind, c_isSheet, c_isIn, c_hasTask (k := 1) (by decide) hW, c_hasPerson (k := 1) (by decide) hW, cl_ok, cv_ok, nm_ok, z00, z10, if_true, if_false, Fw0, Fw1, Fw2, Fw3, Fw4, Fw5, Fw6, c_found (w := 0) (by decide), c_found (w := 1) (by decide), c_found (w := 2) (by decide), c_found (w := 3) (by decide), c_found (w := 4) (by decide), c_found (w := 5) (by decide), c_found (w := 6) (by decide), if1 h1, pk1_s (show 3 < 4 by decide), if_pos e20, c_addPerson (k := 1) (by decide) hW, if_pos h4]
      · simp only [m_X7_person, r_isName, r_isKind, r_isSheet, r_areHands, ri_m1_6, ri_0_100, ri_0_3, ri_0_39, ri_0_4, ri_0_5, ri_0_6, ri_0_60, ri_0_7, ri_0_9, ri_0_99, ri_1_4, ri_1_40, ri_1_60, ri_1_8, ri_1_9, ri_1_999, r_isTask hW, r_isPerson hW, cl_ok, cv_ok, nm_ok, z00, z10, if_true, if_false, Fw0, Fw1, Fw2, Fw3, Fw4, Fw5, Fw6, r_finds (w := 0) (by decide), r_finds (w := 1) (by decide), r_finds (w := 2) (by decide), r_finds (w := 3) (by decide), r_finds (w := 4) (by decide), r_finds (w := 5) (by decide), r_finds (w := 6) (by decide), if1 h1, r_N, hW.eN, if_neg en, r_isBorn hW h4, born_N hW, em1]
    · have e20 : ¬ β 0 3 < 8 := by rw [hW.eN, show (8 : Int32) = nI 8 from rfl]; exact nI_nlt (by omega) (by omega)
      have en : nI N = 8 := by rw [show N = 8 by omega]; rfl
      refine ok_F (mX := fun s => m_X6_person s a1) (w := 1) (by decide) h (fun hd => ?_) (fun τ => ?_)
      · simp only [m_X6_person, c_isName, c_isKind, c_isSheet, c_isIn, c_hasTask (k := 1) (by decide) hW, c_hasPerson (k := 1) (by decide) hW, cl_ok, cv_ok, nm_ok, z00, z10, if_true, if_false, Fw0, Fw1, Fw2, Fw3, Fw4, Fw5, Fw6, c_found (w := 0) (by decide), c_found (w := 1) (by decide), c_found (w := 2) (by decide), c_found (w := 3) (by decide), c_found (w := 4) (by decide), c_found (w := 5) (by decide), c_found (w := 6) (by decide), if1 h1, pk1_s (show 3 < 4 by decide), if_neg e20]
      · simp only [m_X7_person, r_isName, r_isKind, r_isSheet, r_areHands, ri_m1_6, ri_0_100, ri_0_3, ri_0_39, ri_0_4, ri_0_5, ri_0_6, ri_0_60, ri_0_7, ri_0_9, ri_0_99, ri_1_4, ri_1_40, ri_1_60, ri_1_8, ri_1_9, ri_1_999, r_isTask hW, r_isPerson hW, cl_ok, cv_ok, nm_ok, z00, z10, if_true, if_false, Fw0, Fw1, Fw2, Fw3, Fw4, Fw5, Fw6, r_finds (w := 0) (by decide), r_finds (w := 1) (by decide), r_finds (w := 2) (by decide), r_finds (w := 3) (by decide), r_finds (w := 4) (by decide), r_finds (w := 5) (by decide), r_finds (w := 6) (by decide), if1 h1, r_N, hW.eN, if_pos en]
  · skip
    refine ok_F (mX := fun s => m_X6_person s a1) (w := 0) (by decide) h (fun hd => ?_) (fun τ => ?_)
    · simp only [m_X6_person, c_isName, c_isKind, c_isSheet, c_isIn, c_hasTask (k := 1) (by decide) hW, c_hasPerson (k := 1) (by decide) hW, cl_ok, cv_ok, nm_ok, z00, z10, if_true, if_false, Fw0, Fw1, Fw2, Fw3, Fw4, Fw5, Fw6, c_found (w := 0) (by decide), c_found (w := 1) (by decide), c_found (w := 2) (by decide), c_found (w := 3) (by decide), c_found (w := 4) (by decide), c_found (w := 5) (by decide), c_found (w := 6) (by decide), if0 h1]
    · simp only [m_X7_person, r_isName, r_isKind, r_isSheet, r_areHands, ri_m1_6, ri_0_100, ri_0_3, ri_0_39, ri_0_4, ri_0_5, ri_0_6, ri_0_60, ri_0_7, ri_0_9, ri_0_99, ri_1_4, ri_1_40, ri_1_60, ri_1_8, ri_1_9, ri_1_999, r_isTask hW, r_isPerson hW, cl_ok, cv_ok, nm_ok, z00, z10, if_true, if_false, Fw0, Fw1, Fw2, Fw3, Fw4, Fw5, Fw6, r_finds (w := 0) (by decide), r_finds (w := 1) (by decide), r_finds (w := 2) (by decide), r_finds (w := 3) (by decide), r_finds (w := 4) (by decide), r_finds (w := 5) (by decide), r_finds (w := 6) (by decide), if0 h1]
end O4
