theorem sany_iff {q : Nat → Bool} {i k : Nat} : sany q i k = true ↔ ∃ t, i ≤ t ∧ t < i + k ∧ q t = true := by
  unfold sany
  rw [List.any_eq_true]
  constructor
  · rintro ⟨t, h1, h2⟩
    rw [List.mem_range'_1] at h1
    exact ⟨t, h1.1, h1.2, h2⟩
  · rintro ⟨t, h1, h2, h3⟩
    exact ⟨t, List.mem_range'_1.mpr ⟨h1, h2⟩, h3⟩
theorem sopen_iff {β : zw_S} {x : Int32} : sopen β x = true ↔ ∃ t, t < tn β ∧ β 4 t = x ∧ β 5 t ≠ 0 := by
  unfold sopen
  rw [sany_iff]
  constructor
  · rintro ⟨t, -, h2, h3⟩
    simp only [Bool.and_eq_true, decide_eq_true_eq, Bool.not_eq_true', se, decide_eq_false_iff_not] at h3
    exact ⟨t, by omega, h3.1, h3.2⟩
  · rintro ⟨t, h2, h3, h4⟩
    refine ⟨t, by omega, by omega, ?_⟩
    simp only [Bool.and_eq_true, decide_eq_true_eq, Bool.not_eq_true', se, decide_eq_false_iff_not]
    exact ⟨h3, h4⟩
/-- what is open in the later book was open in the earlier one -/
def mo (β γ : zw_S) : Prop := ∀ x, sopen γ x = true → sopen β x = true
theorem mo.refl {β : zw_S} : mo β β := fun _ h => h
theorem mo.trans {a b c : zw_S} (h1 : mo a b) (h2 : mo b c) : mo a c := fun x h => h1 x (h2 x h)
section M1
variable {σ τ β γ : zw_S} {T N y k : Nat} {hd : Nat → Int32}
theorem mo_w5 {t : Nat} {v : Int32} (h : β 5 t ≠ 0 ∨ v = 0) : mo β (zw_wr β 5 t v) := by
  intro x hx
  rw [sopen_iff] at hx ⊢
  obtain ⟨i, h1, h2, h3⟩ := hx
  refine ⟨i, h1, h2, ?_⟩
  rw [wr_ap] at h3
  by_cases hi : i = t
  · subst hi
    rw [if_pos ⟨rfl, rfl⟩] at h3
    rcases h with h | h
    · exact h
    · exact absurd h h3
  · rw [if_neg (fun z => hi z.2)] at h3
    exact h3
theorem sat_ne {t : Nat} (h : sat β t = true) : β 5 t ≠ 0 := by
  unfold sat se at h
  intro e
  simp [e] at h
theorem mo_sdo (h : Wf T N y β) (x v : Int32) : mo β (sdo β x v) := by
  unfold sdo
  rcases shand_c h x with e | ⟨t, ht, h4, hs, e⟩
  · rw [if_pos (by rw [e]; decide)]
    exact mo.refl
  · have := h.T20
    rw [if_neg (by rw [e]; exact nI_pos (by omega)), e, nI_clamp (by omega)]
    exact mo_w5 (Or.inl (sat_ne hs))
theorem mo_y1 (h : Wf T N y β) (p : Nat) : mo β (y1 β p) := by
  unfold y1
  split
  · exact mo.refl
  · split
    · exact mo.refl
    · exact mo_sdo h _ _
theorem mo_y2 (h : Wf T N y β) (p : Nat) : mo β (y2 β p) := by
  unfold y2 shelp
  split
  · exact mo.refl
  · split
    · exact mo.refl
    · split
      · exact mo.refl
      · split
        · exact mo_sdo h _ _
        · exact mo.refl
theorem mo_y3 (t : Nat) : mo β (y3 β t) := by
  unfold y3
  by_cases h : β 5 t = 0
  · refine mo_w5 (Or.inr ?_)
    unfold sgrow se
    rw [h]
    simp
    decide
  · exact mo_w5 (Or.inl h)
theorem mo_y4 (p : Nat) : mo β (y4 β p) := fun _ h => h
theorem mo_leave (h : Wf T N y β) (p : Nat) : mo β (sleave β p) := by
  have e1 : mo β (sgone β p) := fun _ h => h
  unfold sleave
  split
  · rename_i ho
    split
    · exact e1
    · intro x hx
      rw [sopen_iff] at hx
      obtain ⟨i, h1, h2, h3⟩ := hx
      have hT2 : tn (sgone β p) = tn β := rfl
      unfold scome at h1 h2 h3
      have h1' : i < (β 0 2 + 1).toNatClampNeg := h1
      rw [h.eT, nI_1, nI_clamp (by have := h.T20; omega)] at h1'
      rw [hT2, h.hT] at h2 h3
      by_cases hi : i = T
      · subst hi
        have : x = β 7 p := by
          simp [wr_ap] at h2
          exact h2.symm
        subst this
        exact e1 _ ho
      · rw [sopen_iff]
        refine ⟨i, by rw [h.hT]; omega, ?_, ?_⟩
        · simpa [wr_ap, hi, sgone] using h2
        · simpa [wr_ap, hi, sgone] using h3
  · exact e1
theorem mo_y5 (h : Wf T N y β) (p : Nat) : mo β (y5 β p) := by
  unfold y5
  split
  · split
    · exact mo.refl
    · exact mo_leave h p
  · exact mo.refl
theorem mo_fold {P : zw_S → Prop} {f : zw_S → Nat → zw_S} {M : Nat} (hP : ∀ b p, p < M → P b → P (f b p) ∧ mo b (f b p)) : ∀ (q i : Nat) (b : zw_S), i + q ≤ M → P b → P (sfold f b i q) ∧ mo b (sfold f b i q) := by
  intro q
  induction q with
  | zero => intro i b hi hb; exact ⟨hb, mo.refl⟩
  | succ q ih =>
    intro i b hi hb
    rw [sfold_s]
    obtain ⟨h1, h2⟩ := hP b i (by omega) hb
    obtain ⟨h3, h4⟩ := ih (i + 1) (f b i) (by omega) h1
    exact ⟨h3, h2.trans h4⟩
theorem mo_year (h : Wf T N y β) : mo β (syear β) := by
  have hN := h.hN
  have hT := h.hT
  unfold syear
  rw [hN, hT]
  obtain ⟨w1, m1⟩ := mo_fold (P := Wf T N y) (f := y1) (M := N) (fun b p _ hb => ⟨hb.wy1 p, mo_y1 hb p⟩) N 0 β (by omega) h
  obtain ⟨w2, m2⟩ := mo_fold (P := Wf T N y) (f := y2) (M := N) (fun b p _ hb => ⟨hb.wy2 p, mo_y2 hb p⟩) N 0 _ (by omega) w1
  obtain ⟨w3, m3⟩ := mo_fold (P := Wf T N y) (f := y3) (M := T) (fun b p hp hb => ⟨hb.wy3 hp, mo_y3 p⟩) T 0 _ (by omega) w2
  obtain ⟨w4, m4⟩ := mo_fold (P := Wf T N y) (f := y4) (M := N) (fun b p hp hb => ⟨hb.wy4 hp, mo_y4 p⟩) N 0 _ (by omega) w3
  obtain ⟨w5, m5⟩ := mo_fold (P := fun b => ∃ T2, Wf T2 N y b) (f := y5) (M := N) (fun b p hp hb => by
    obtain ⟨T2, hb⟩ := hb
    obtain ⟨T3, -, h3⟩ := hb.wy5 hp
    exact ⟨⟨T3, h3⟩, mo_y5 hb p⟩) N 0 _ (by omega) ⟨T, w4⟩
  exact ((m1.trans m2).trans (m3.trans m4)).trans (m5.trans (fun _ h => h))
theorem mo_years : ∀ (n T y : Nat) (β : zw_S), Wf T N y β → y + n ≤ 5000 → mo β (syears n β) := by
  intro n
  induction n with
  | zero => intro T y β h hy; exact mo.refl
  | succ n ih =>
    intro T y β h hy
    obtain ⟨T2, -, h2⟩ := h.year (by omega)
    exact (mo_year h).trans (ih T2 (y + 1) (syear β) h2 (by omega))
/-! behind how many years -/
def sover (q : zw_S → Bool) : Nat → zw_S → Nat
  | 0, β => if q β = true then 1 else 0
  | L + 1, β => if q β = true then 1 + sover q L (syear β) else 0
theorem sover_le {q : zw_S → Bool} : ∀ (L : Nat) (β : zw_S), sover q L β ≤ L + 1 := by
  intro L
  induction L with
  | zero => intro β; unfold sover; split <;> omega
  | succ L ih =>
    intro β
    unfold sover
    have := ih (syear β)
    split <;> omega
theorem sover_open {x : Int32} : ∀ (L T y : Nat) (β : zw_S), Wf T N y β → y + L ≤ 5000 → (sover (fun b => sopen b x) L β ≤ L ↔ ¬ sopen (syears L β) x = true) := by
  intro L
  induction L with
  | zero =>
    intro T y β h hy
    unfold sover syears
    by_cases ho : sopen β x = true
    · simp [ho]
    · simp [ho]
  | succ L ih =>
    intro T y β h hy
    obtain ⟨T2, -, h2⟩ := h.year (by omega)
    have := ih T2 (y + 1) (syear β) h2 (by omega)
    by_cases ho : sopen β x = true
    · unfold sover syears
      rw [if_pos ho, ← this]
      omega
    · unfold sover
      rw [if_neg ho]
      refine ⟨fun _ z => ho (mo_years (L + 1) T y β h hy x z), fun _ => by omega⟩
theorem ct_isOpen (h : Wf T N y γ) {o : Nat} (ho : o < 8) : m_X0_isOpen 25 (tr σ β γ hd) (nI o) = some (if sopen γ (nI o) = true then 1 else 0, tr σ β γ hd) := c_isOpen (by decide) h ho
theorem ct_ended {t : Nat} (ht : t < 20) : m_X0_isEnded 25 (tr σ β γ hd) (nI t) = some (if se γ t = true then 1 else 0, tr σ β γ hd) := c_ended (by decide) ht
theorem ct_endedTasks (h : Wf T N y γ) : m_X0_endedTasks 25 (tr σ β γ hd) = some (sended γ, tr σ β γ hd) := c_endedTasks (by decide) h
theorem ct_hours (h : Wf T N y γ) : m_X0_hoursOfAll 25 (tr σ β γ hd) = some (shours γ, tr σ β γ hd) := c_hoursOfAll (by decide) h
theorem ct_opens (h : Wf T N y γ) : m_X0_openNames 25 (tr σ β γ hd) = some (sopens γ, tr σ β γ hd) := c_openNames (by decide) h
theorem ct_worth (h : Wf T N y γ) : m_X0_endedWorth 25 (tr σ β γ hd) = some (sworth γ, tr σ β γ hd) := c_endedWorth (by decide) h
theorem ct_gone : m_X0_goneOfAll 25 (tr σ β γ hd) = some (slives γ, tr σ β γ hd) := c_goneOfAll (by decide)
theorem ct_s {j : Nat} (hj : j < 4) : tr σ β γ hd 25 j = γ 0 j := pk_s (by decide) hj
theorem c_look (h : Wf T N y β) {n : Nat} (hn : n ≤ 150) (hy : y + n ≤ 5000) : m_X6_lookAhead (pk σ 1 β hd) (nI n) = some (tr σ β (syears n β) (hands (syears n β))) := by
  unfold m_X6_lookAhead
  rw [c_trial h.cp, cv_ok, c_tgo h hn hy, cv_ok]
theorem c_shutl {o : Nat} (ho : o < 8) : ∀ (L n i T y : Nat) (b : zw_S) (hd : Nat → Int32), Wf T N y b → i + L = 100 → L + 1 < n → y + L + 1 ≤ 5000 → ∃ b2 hd2, m_X6_shut_37 n (tr σ β b hd) (nI o) (nI i) = if sover (fun b => sopen b (nI o)) L b ≤ L then some (nI (i + sover (fun b => sopen b (nI o)) L b), tr σ β b2 hd2) else m_X6_shut_74 (tr σ β b2 hd2) := by
  intro L
  induction L with
  | zero =>
    intro n i T y b hd hb hi hn hy
    obtain ⟨n, rfl⟩ : ∃ m, n = m + 2 := ⟨n - 2, by omega⟩
    unfold m_X6_shut_37 sover
    rw [show (100 : Int32) = nI 100 from rfl, if_neg (nI_nlt (by omega) (by omega)), ct_isOpen hb ho, cl_ok]
    by_cases hq : sopen b (nI o) = true
    · refine ⟨syears 1 b, hands (syears 1 b), ?_⟩
      rw [if1 hq, z10, if_pos hq, if_neg (by omega), show (1 : Int32) = nI 1 from rfl, c_tgo hb (by omega) (by omega), cv_ok, nm_ok, nI_add]
      unfold m_X6_shut_37
      rw [show (100 : Int32) = nI 100 from rfl, if_pos (nI_lt (by omega) (by omega))]
    · refine ⟨b, hd, ?_⟩
      rw [if0 hq, z00, if_neg hq, if_pos (by omega)]
      rfl
  | succ L ih =>
    intro n i T y b hd hb hi hn hy
    obtain ⟨n, rfl⟩ : ∃ m, n = m + 1 := ⟨n - 1, by omega⟩
    obtain ⟨T2, -, hWy⟩ := hb.year (by omega)
    by_cases hq : sopen b (nI o) = true
    · obtain ⟨b2, hd2, e⟩ := ih n (i + 1) T2 (y + 1) (syear b) (hands (syear b)) hWy (by omega) (by omega) (by omega)
      refine ⟨b2, hd2, ?_⟩
      unfold m_X6_shut_37
      rw [show (100 : Int32) = nI 100 from rfl, if_neg (nI_nlt (by omega) (by omega)), ct_isOpen hb ho, cl_ok, if1 hq, z10, show (1 : Int32) = nI 1 from rfl, c_tgo hb (by omega) (by omega), cv_ok, nm_ok, nI_add]
      refine Eq.trans e ?_
      rw [show sover (fun b => sopen b (nI o)) (L + 1) b = 1 + sover (fun b => sopen b (nI o)) L (syear b) from if_pos hq]
      by_cases hl : sover (fun b => sopen b (nI o)) L (syear b) ≤ L
      · rw [if_pos hl, if_pos (by omega), Nat.add_assoc]
      · rw [if_neg hl, if_neg (by omega)]
    · refine ⟨b, hd, ?_⟩
      unfold m_X6_shut_37
      rw [show (100 : Int32) = nI 100 from rfl, if_neg (nI_nlt (by omega) (by omega)), ct_isOpen hb ho, cl_ok, if0 hq, z00, show sover (fun b => sopen b (nI o)) (L + 1) b = 0 from if_neg hq, if_pos (by omega)]
      rfl
theorem c_endl {t : Nat} (ht : t < 20) : ∀ (L n i T y : Nat) (b : zw_S) (hd : Nat → Int32), Wf T N y b → i + L = 100 → L + 1 < n → y + L + 1 ≤ 5000 → ∃ b2 hd2, m_X6_ends_41 n (tr σ β b hd) (nI t) (nI i) = if sover (fun b => !se b t) L b ≤ L then some (nI (i + sover (fun b => !se b t) L b), tr σ β b2 hd2) else m_X6_ends_78 (tr σ β b2 hd2) := by
  intro L
  induction L with
  | zero =>
    intro n i T y b hd hb hi hn hy
    obtain ⟨n, rfl⟩ : ∃ m, n = m + 2 := ⟨n - 2, by omega⟩
    unfold m_X6_ends_41
    rw [show (100 : Int32) = nI 100 from rfl, if_neg (nI_nlt (by omega) (by omega)), ct_ended ht, cl_ok]
    by_cases hq : se b t = true
    · refine ⟨b, hd, ?_⟩
      rw [if1 hq, z10, show sover (fun b => !se b t) 0 b = 0 from if_neg (by simp [hq]), if_pos (by omega)]
      rfl
    · refine ⟨syears 1 b, hands (syears 1 b), ?_⟩
      rw [if0 hq, z00, show sover (fun b => !se b t) 0 b = 1 from if_pos (by simp [hq]), if_neg (by omega), show (1 : Int32) = nI 1 from rfl, c_tgo hb (by omega) (by omega), cv_ok, nm_ok, nI_add]
      unfold m_X6_ends_41
      rw [show (100 : Int32) = nI 100 from rfl, if_pos (nI_lt (by omega) (by omega))]
  | succ L ih =>
    intro n i T y b hd hb hi hn hy
    obtain ⟨n, rfl⟩ : ∃ m, n = m + 1 := ⟨n - 1, by omega⟩
    obtain ⟨T2, -, hWy⟩ := hb.year (by omega)
    by_cases hq : se b t = true
    · refine ⟨b, hd, ?_⟩
      unfold m_X6_ends_41
      rw [show (100 : Int32) = nI 100 from rfl, if_neg (nI_nlt (by omega) (by omega)), ct_ended ht, cl_ok, if1 hq, z10, show sover (fun b => !se b t) (L + 1) b = 0 from if_neg (by simp [hq]), if_pos (by omega)]
      rfl
    · obtain ⟨b2, hd2, e⟩ := ih n (i + 1) T2 (y + 1) (syear b) (hands (syear b)) hWy (by omega) (by omega) (by omega)
      refine ⟨b2, hd2, ?_⟩
      unfold m_X6_ends_41
      rw [show (100 : Int32) = nI 100 from rfl, if_neg (nI_nlt (by omega) (by omega)), ct_ended ht, cl_ok, if0 hq, z00, show (1 : Int32) = nI 1 from rfl, c_tgo hb (by omega) (by omega), cv_ok, nm_ok, nI_add]
      refine Eq.trans e ?_
      rw [show sover (fun b => !se b t) (L + 1) b = 1 + sover (fun b => !se b t) L (syear b) from if_pos (by simp [hq])]
      by_cases hl : sover (fun b => !se b t) L (syear b) ≤ L
      · rw [if_pos hl, if_pos (by omega), Nat.add_assoc]
      · rw [if_neg hl, if_neg (by omega)]
theorem r_overl {q : zw_S → Bool} {x1 x2 : Int32} {M : Nat} (hM : M ≤ 150) (hq : ∀ (n i y : Nat) (b : zw_S), (∃ T2, T ≤ T2 ∧ Wf T2 N y b) → i ≤ M → m_X7_overIn_14 (n + 1) (pm τ b) x1 x2 (nI M) (nI i) = if q b = true then m_X7_overIn_43 (m_X7_overIn_14 n) (pm τ b) x1 x2 (nI M) (nI i) else m_X7_overIn_59 (pm τ b) (nI i)) : ∀ (L n i y : Nat) (b : zw_S), (∃ T2, T ≤ T2 ∧ Wf T2 N y b) → i + L = M → L + 1 < n → y + L ≤ 5000 → ∃ b2, m_X7_overIn_14 n (pm τ b) x1 x2 (nI M) (nI i) = m_X7_overIn_59 (pm τ b2) (nI (i + sover q L b)) := by
  intro L
  induction L with
  | zero =>
    intro n i y b hb hi hn hy
    obtain ⟨n, rfl⟩ : ∃ m, n = m + 2 := ⟨n - 2, by omega⟩
    refine ⟨b, ?_⟩
    rw [hq (n + 1) i y b hb (by omega)]
    unfold sover
    by_cases h : q b = true
    · rw [if_pos h, if_pos h]
      unfold m_X7_overIn_43
      rw [if_pos (nI_le (by omega) (by omega)), nm_ok, nI_1]
      unfold m_X7_overIn_14
      rw [if_pos (nI_lt (by omega) (by omega))]
    · rw [if_neg h, if_neg h]
      rfl
  | succ L ih =>
    intro n i y b hb hi hn hy
    obtain ⟨n, rfl⟩ : ∃ m, n = m + 1 := ⟨n - 1, by omega⟩
    obtain ⟨T2, hT2, hW⟩ := id hb
    obtain ⟨T3, hT3, hWy⟩ := hW.year (by omega)
    rw [hq n i y b hb (by omega)]
    by_cases h : q b = true
    · obtain ⟨b2, e⟩ := ih n (i + 1) (y + 1) (syear b) ⟨T3, by omega, hWy⟩ (by omega) (by omega) (by omega)
      refine ⟨b2, ?_⟩
      rw [if_pos h]
      unfold m_X7_overIn_43
      rw [if_neg (nI_ge (by omega) (by omega)), r_year hW, cv_ok, nm_ok, nI_1, e, show sover q (L + 1) b = 1 + sover q L (syear b) from if_pos h, Nat.add_assoc]
    · refine ⟨b, ?_⟩
      rw [if_neg h, show sover q (L + 1) b = 0 from if_neg h]
      rfl
theorem r_overN (h : Wf T N y β) {M o : Nat} (hM : M ≤ 150) (hy : y + M ≤ 5000) (ho : o < 8) (x2 : Int32) : m_X7_overIn (pm τ β) (nI o) x2 (nI M) = some (nI (sover (fun b => sopen b (nI o)) M β), pm (sv 60 τ β) β) := by
  unfold m_X7_overIn
  rw [r_save (by decide), cv_ok]
  obtain ⟨b2, e⟩ := r_overl (τ := sv 60 τ β) (T := T) (N := N) (q := fun b => sopen b (nI o)) (x1 := nI o) (x2 := x2) hM (fun n i y b hb hi => by
    obtain ⟨T2, -, hW⟩ := hb
    rw [m_X7_overIn_14, if_neg (nI_nlt (by omega) (by omega)), if_neg (nI_pos (by omega)), r_open hW, cl_ok]
    by_cases hq : sopen b (nI o) = true
    · rw [if1 hq, z10, if_pos hq]
    · rw [if0 hq, z00, if_neg hq]) M 200 0 y β ⟨T, by omega, h⟩ (by omega) (by omega) hy
  refine Eq.trans e ?_
  unfold m_X7_overIn_59
  rw [r_back (by decide) _ β _ sv_c, cv_ok, Nat.zero_add]
theorem r_overT (h : Wf T N y β) {M t : Nat} (hM : M ≤ 150) (hy : y + M ≤ 5000) (ht : t < T) : m_X7_overIn (pm τ β) (-1) (nI t) (nI M) = some (nI (sover (fun b => !se b t) M β), pm (sv 60 τ β) β) := by
  unfold m_X7_overIn
  rw [r_save (by decide), cv_ok]
  obtain ⟨b2, e⟩ := r_overl (τ := sv 60 τ β) (T := T) (N := N) (q := fun b => !se b t) (x1 := -1) (x2 := nI t) hM (fun n i y b hb hi => by
    obtain ⟨T2, hT2, hW⟩ := hb
    have := hW.T20
    rw [m_X7_overIn_14, if_neg (nI_nlt (by omega) (by omega)), if_pos (by decide), r_ended (by omega), cl_ok]
    by_cases hq : se b t = true
    · rw [if1 hq, z10, if_neg (by simp [hq])]
    · rw [if0 hq, z00, if_pos (by simp [hq])]) M 200 0 y β ⟨T, by omega, h⟩ (by omega) (by omega) hy
  refine Eq.trans e ?_
  unfold m_X7_overIn_59
  rw [r_back (by decide) _ β _ sv_c, cv_ok, Nat.zero_add]
theorem un_ended (h : Wf T N y β) : nI T - sended β = sunended β := by
  rw [← ended_un h]
  grind
end M1
section O6
variable {σ τ β γ : zw_S} {T N y k : Nat} {hd : Nat → Int32}
theorem op_years (h : Iv β σ) (a1 : Int32) : Ok (m_X6_years σ a1) (fun τ => m_X7_years τ a1) := by
  obtain ⟨T, N, y, hW, hy, h40⟩ := id h.2.2.1
  have hT := h_T20 hW
  have hN := h_N8 hW
  by_cases h1 : 1 ≤ a1 ∧ a1 ≤ 60
  · obtain ⟨n, hn, rfl⟩ := in_nI (x := a1) (M := 60) (m := 60) (by decide) (by grind)
    by_cases h2 : y + n ≤ 999
    · obtain ⟨T2, -, hW2⟩ := Wf.years n T y β hW (by omega)
      refine ok_V (mX := fun s => m_X6_years s (nI n)) (r := sended (syears n β) - sended β) (γ := syears n β) h (h.2.2.1.years (by rw [hW.eY, nI_add, show (999 : Int32) = nI 999 from rfl]; exact nI_le h2 (by omega)) (by omega)) (fun hd => ⟨hands (syears n β), ?_⟩) (fun τ => ?_)
      · show m_X6_years (pk σ 1 β hd) (nI n) = _
        unfold m_X6_years
        rw [c_isIn, cl_ok, if1 h1, z10, c_late hW hy (by omega), cl_ok, if_pos h2, z00, c_endedTasks (by decide) hW, cl_ok, c_go (by decide) hW (by omega) (by omega), cv_ok, c_endedTasks (by decide) hW2, cl_ok]
      · show m_X7_years (pm τ β) (nI n) = _
        unfold m_X7_years
        rw [ri_1_60, cl_ok, if1 h1, z10, r_far hW hy (by omega), cl_ok, if_pos h2, z00, r_ended2 hW, cl_ok, r_yearsGo hW (by omega) (by omega), cv_ok, r_ended2 hW2, cl_ok]
    · refine ok_F (mX := fun s => m_X6_years s (nI n)) (w := 4) (by decide) h (fun hd => ?_) (fun τ => ?_)
      · show m_X6_years (pk σ 1 β hd) (nI n) = _
        unfold m_X6_years
        rw [c_isIn, cl_ok, if1 h1, z10, c_late hW hy (by omega), cl_ok, if_neg h2, z10, Fw4, c_found (by decide), cl_ok]
      · show m_X7_years (pm τ β) (nI n) = _
        unfold m_X7_years
        rw [ri_1_60, cl_ok, if1 h1, z10, r_far hW hy (by omega), cl_ok, if_neg h2, z10, Fw4, r_finds (by decide), cl_ok]
  · skip
    refine ok_F (mX := fun s => m_X6_years s a1) (w := 0) (by decide) h (fun hd => ?_) (fun τ => ?_)
    · simp only [m_X6_years, c_isName, c_isKind, c_isSheet, c_isIn, c_hasTask (k := 1) (by decide) hW, c_hasPerson (k := 1) (by decide) hW, cl_ok, cv_ok, nm_ok, z00, z10, if_true, if_false, Fw0, Fw1, Fw2, Fw3, Fw4, Fw5, Fw6, c_found (w := 0) (by decide), c_found (w := 1) (by decide), c_found (w := 2) (by decide), c_found (w := 3) (by decide), c_found (w := 4) (by decide), c_found (w := 5) (by decide), c_found (w := 6) (by decide), if0 h1]
    · simp only [m_X7_years, r_isName, r_isKind, r_isSheet, r_areHands, ri_m1_6, ri_0_100, ri_0_3, ri_0_39, ri_0_4, ri_0_5, ri_0_6, ri_0_60, ri_0_7, ri_0_9, ri_0_99, ri_1_4, ri_1_40, ri_1_60, ri_1_8, ri_1_9, ri_1_999, r_isTask hW, r_isPerson hW, cl_ok, cv_ok, nm_ok, z00, z10, if_true, if_false, Fw0, Fw1, Fw2, Fw3, Fw4, Fw5, Fw6, r_finds (w := 0) (by decide), r_finds (w := 1) (by decide), r_finds (w := 2) (by decide), r_finds (w := 3) (by decide), r_finds (w := 4) (by decide), r_finds (w := 5) (by decide), r_finds (w := 6) (by decide), if0 h1]
theorem op_ahead (h : Iv β σ) (a1 a2 : Int32) : Ok (m_X6_ahead σ a1 a2) (fun τ => m_X7_ahead τ a1 a2) := by
  obtain ⟨T, N, y, hW, hy, h40⟩ := id h.2.2.1
  have hT := h_T20 hW
  have hN := h_N8 hW
  by_cases h1 : 0 ≤ a1 ∧ a1 ≤ 100
  · by_cases h2 : 0 ≤ a2 ∧ a2 ≤ 4
    · obtain ⟨n, hn, rfl⟩ := in_nI (x := a1) (M := 100) (m := 100) (by decide) h1
      by_cases h3 : y + n ≤ 999
      · obtain ⟨T2, -, hW2⟩ := Wf.years n T y β hW (by omega)
        have gX : ∀ (hd : Nat → Int32) (r : Int32), m_X6_ahead (pk σ 1 β hd) (nI n) a2 = some (r, tr σ β (syears n β) (hands (syears n β))) → ∃ s, m_X6_ahead (pk σ 1 β hd) (nI n) a2 = some (r, s) ∧ FX σ s ∧ gb s 1 = β := fun hd r e => ⟨_, e, FX.ftr, gb_tr hW.cp⟩
        have gM : ∀ (τ : zw_S) (r : Int32), m_X7_ahead (pm τ β) (nI n) a2 = some (r, pm (sv 60 τ β) β) → ∃ τ2, m_X7_ahead (pm τ β) (nI n) a2 = some (r, pm τ2 β) ∧ FM τ τ2 := fun τ r e => ⟨_, e, FM.fsv (Or.inl rfl)⟩
        have pX : ∀ hd, m_X6_ahead (pk σ 1 β hd) (nI n) a2 = _ := fun hd => by
          unfold m_X6_ahead
          rw [c_isIn, cl_ok, if1 h1, z10, c_isIn, cl_ok, if1 h2, z10, c_late hW hy (by omega), cl_ok, if_pos h3, z00, c_look hW (by omega) (by omega), cv_ok, ct_endedTasks hW2, cl_ok, ct_hours hW2, cl_ok, ct_opens hW2, cl_ok, ct_worth hW2, cl_ok, ct_gone, cl_ok, ct_s (by omega), hW2.eT, un_ended hW2]
        have pM : ∀ τ, m_X7_ahead (pm τ β) (nI n) a2 = _ := fun τ => by
          unfold m_X7_ahead
          rw [ri_0_100, cl_ok, if1 h1, z10, ri_0_4, cl_ok, if1 h2, z10, r_far hW hy (by omega), cl_ok, if_pos h3, z00, r_save (by decide), cv_ok, r_yearsGo hW (by omega) (by omega), cv_ok, r_unended hW2, cl_ok, r_hours hW2, cl_ok, r_openNames hW2, cl_ok, r_endedWorth hW2, cl_ok, r_allLives, cl_ok, r_back (by decide) _ β _ sv_c, cv_ok, cv_ok, cv_ok, cv_ok, cv_ok]
        by_cases e0 : a2 = 0
        · exact ok_T (mX := fun s => m_X6_ahead s (nI n) a2) (r := sunended (syears n β)) h (fun hd => gX hd _ (by rw [pX, if_pos e0])) (fun τ => gM τ _ (by rw [pM, if_pos e0])) h.2.2.1
        · by_cases e1 : a2 = 1
          · exact ok_T (mX := fun s => m_X6_ahead s (nI n) a2) (r := shours (syears n β)) h (fun hd => gX hd _ (by rw [pX, if_neg e0, if_pos e1])) (fun τ => gM τ _ (by rw [pM, if_neg e0, if_pos e1])) h.2.2.1
          · by_cases e2 : a2 = 2
            · exact ok_T (mX := fun s => m_X6_ahead s (nI n) a2) (r := sopens (syears n β)) h (fun hd => gX hd _ (by rw [pX, if_neg e0, if_neg e1, if_pos e2])) (fun τ => gM τ _ (by rw [pM, if_neg e0, if_neg e1, if_pos e2])) h.2.2.1
            · by_cases e3 : a2 = 3
              · exact ok_T (mX := fun s => m_X6_ahead s (nI n) a2) (r := sworth (syears n β)) h (fun hd => gX hd _ (by rw [pX, if_neg e0, if_neg e1, if_neg e2, if_pos e3])) (fun τ => gM τ _ (by rw [pM, if_neg e0, if_neg e1, if_neg e2, if_pos e3])) h.2.2.1
              · exact ok_T (mX := fun s => m_X6_ahead s (nI n) a2) (r := slives (syears n β)) h (fun hd => gX hd _ (by rw [pX, if_neg e0, if_neg e1, if_neg e2, if_neg e3])) (fun τ => gM τ _ (by rw [pM, if_neg e0, if_neg e1, if_neg e2, if_neg e3])) h.2.2.1
      · refine ok_F (mX := fun s => m_X6_ahead s (nI n) a2) (w := 4) (by decide) h (fun hd => ?_) (fun τ => ?_)
        · show m_X6_ahead (pk σ 1 β hd) (nI n) a2 = _
          unfold m_X6_ahead
          rw [c_isIn, cl_ok, if1 h1, z10, c_isIn, cl_ok, if1 h2, z10, c_late hW hy (by omega), cl_ok, if_neg h3, z10, Fw4, c_found (by decide), cl_ok]
        · show m_X7_ahead (pm τ β) (nI n) a2 = _
          unfold m_X7_ahead
          rw [ri_0_100, cl_ok, if1 h1, z10, ri_0_4, cl_ok, if1 h2, z10, r_far hW hy (by omega), cl_ok, if_neg h3, z10, Fw4, r_finds (by decide), cl_ok]
    · skip
      refine ok_F (mX := fun s => m_X6_ahead s a1 a2) (w := 0) (by decide) h (fun hd => ?_) (fun τ => ?_)
      · simp only [m_X6_ahead, c_isName, c_isKind, c_isSheet, c_isIn, c_hasTask (k := 1) (by decide) hW, c_hasPerson (k := 1) (by decide) hW, cl_ok, cv_ok, nm_ok, z00, z10, if_true, if_false, Fw0, Fw1, Fw2, Fw3, Fw4, Fw5, Fw6, c_found (w := 0) (by decide), c_found (w := 1) (by decide), c_found (w := 2) (by decide), c_found (w := 3) (by decide), c_found (w := 4) (by decide), c_found (w := 5) (by decide), c_found (w := 6) (by decide), if1 h1, if0 h2]
      · simp only [m_X7_ahead, r_isName, r_isKind, r_isSheet, r_areHands, ri_m1_6, ri_0_100, ri_0_3, ri_0_39, ri_0_4, ri_0_5, ri_0_6, ri_0_60, ri_0_7, ri_0_9, ri_0_99, ri_1_4, ri_1_40, ri_1_60, ri_1_8, ri_1_9, ri_1_999, r_isTask hW, r_isPerson hW, cl_ok, cv_ok, nm_ok, z00, z10, if_true, if_false, Fw0, Fw1, Fw2, Fw3, Fw4, Fw5, Fw6, r_finds (w := 0) (by decide), r_finds (w := 1) (by decide), r_finds (w := 2) (by decide), r_finds (w := 3) (by decide), r_finds (w := 4) (by decide), r_finds (w := 5) (by decide), r_finds (w := 6) (by decide), if1 h1, if0 h2]
  · skip
    refine ok_F (mX := fun s => m_X6_ahead s a1 a2) (w := 0) (by decide) h (fun hd => ?_) (fun τ => ?_)
    · simp only [m_X6_ahead, c_isName, c_isKind, c_isSheet, c_isIn, c_hasTask (k := 1) (by decide) hW, c_hasPerson (k := 1) (by decide) hW, cl_ok, cv_ok, nm_ok, z00, z10, if_true, if_false, Fw0, Fw1, Fw2, Fw3, Fw4, Fw5, Fw6, c_found (w := 0) (by decide), c_found (w := 1) (by decide), c_found (w := 2) (by decide), c_found (w := 3) (by decide), c_found (w := 4) (by decide), c_found (w := 5) (by decide), c_found (w := 6) (by decide), if0 h1]
    · simp only [m_X7_ahead, r_isName, r_isKind, r_isSheet, r_areHands, ri_m1_6, ri_0_100, ri_0_3, ri_0_39, ri_0_4, ri_0_5, ri_0_6, ri_0_60, ri_0_7, ri_0_9, ri_0_99, ri_1_4, ri_1_40, ri_1_60, ri_1_8, ri_1_9, ri_1_999, r_isTask hW, r_isPerson hW, cl_ok, cv_ok, nm_ok, z00, z10, if_true, if_false, Fw0, Fw1, Fw2, Fw3, Fw4, Fw5, Fw6, r_finds (w := 0) (by decide), r_finds (w := 1) (by decide), r_finds (w := 2) (by decide), r_finds (w := 3) (by decide), r_finds (w := 4) (by decide), r_finds (w := 5) (by decide), r_finds (w := 6) (by decide), if0 h1]
theorem op_shut (h : Iv β σ) (a1 : Int32) : Ok (m_X6_shut σ a1) (fun τ => m_X7_shut τ a1) := by
  obtain ⟨T, N, y, hW, hy, h40⟩ := id h.2.2.1
  have hT := h_T20 hW
  have hN := h_N8 hW
  by_cases h1 : 0 ≤ a1 ∧ a1 ≤ 7
  · obtain ⟨o, ho, rfl⟩ := in_nI (M := 7) (m := 7) (by decide) h1
    have ho2 : o < 8 := by omega
    by_cases h2 : y + 100 ≤ 999
    · have e100 : (100 : Int32) = nI 100 := rfl
      have eX : ∀ hd, ∃ b2 hd2, m_X6_shut (pk σ 1 β hd) (nI o) = if sover (fun b => sopen b (nI o)) 100 β ≤ 100 then some (nI (sover (fun b => sopen b (nI o)) 100 β), tr σ β b2 hd2) else m_X6_shut_74 (tr σ β b2 hd2) := fun hd => by
        obtain ⟨b2, hd2, e⟩ := c_shutl (σ := σ) (β := β) ho2 100 200 0 T y β (hands β) hW (by omega) (by omega) (by omega)
        refine ⟨b2, hd2, ?_⟩
        unfold m_X6_shut
        rw [c_isName, cl_ok, if1 h1, z10, e100, c_late hW hy (by omega), cl_ok, if_pos h2, z00, show (0 : Int32) = nI 0 from rfl, c_look hW (n := 0) (by omega) (by omega), cv_ok]
        rw [Nat.zero_add] at e
        exact e
      have eM : ∀ τ, m_X7_shut (pm τ β) (nI o) = if nI (sover (fun b => sopen b (nI o)) 100 β) ≤ nI 100 then some (nI (sover (fun b => sopen b (nI o)) 100 β), pm (sv 60 τ β) β) else cl (m_X7_finds (pm (sv 60 τ β) β) (-1000004)) fun r s => some (r, s) := fun τ => by
        unfold m_X7_shut
        rw [r_isName, cl_ok, if1 h1, z10, e100, r_far hW hy (by omega), cl_ok, if_pos h2, z00, r_overN hW (by omega) (by omega) ho2, cl_ok]
      have hb := sover_le (q := (fun b => sopen b (nI o))) 100 β
      by_cases h3 : sover (fun b => sopen b (nI o)) 100 β ≤ 100
      · refine ok_T (mX := fun s => m_X6_shut s (nI o)) (r := nI (sover (fun b => sopen b (nI o)) 100 β)) h (fun hd => ?_) (fun τ => ?_) h.2.2.1
        · obtain ⟨b2, hd2, e⟩ := eX hd
          exact ⟨tr σ β b2 hd2, by rw [e, if_pos h3], FX.ftr, gb_tr hW.cp⟩
        · exact ⟨sv 60 τ β, by rw [eM, if_pos (nI_le h3 (by omega))], FM.fsv (Or.inl rfl)⟩
      · refine ok_TF (mX := fun s => m_X6_shut s (nI o)) (w := 3) (by decide) h (fun hd => ?_) (fun τ => ?_)
        · obtain ⟨b2, hd2, e⟩ := eX hd
          refine ⟨tr σ β b2 hd2, ?_, FX.ftr, gb_tr hW.cp⟩
          rw [e, if_neg h3]
          unfold m_X6_shut_74
          rw [Fw3, c_found (by decide), cl_ok]
        · refine ⟨sv 60 τ β, ?_, FM.fsv (Or.inl rfl)⟩
          rw [eM, if_neg (nI_ge (by omega) (by omega)), Fw3, r_finds (by decide), cl_ok]
    · refine ok_F (mX := fun s => m_X6_shut s (nI o)) (w := 4) (by decide) h (fun hd => ?_) (fun τ => ?_)
      · show m_X6_shut (pk σ 1 β hd) (nI o) = _
        unfold m_X6_shut
        rw [c_isName, cl_ok, if1 h1, z10, show (100 : Int32) = nI 100 from rfl, c_late hW hy (by omega), cl_ok, if_neg h2, z10, Fw4, c_found (by decide), cl_ok]
      · show m_X7_shut (pm τ β) (nI o) = _
        unfold m_X7_shut
        rw [r_isName, cl_ok, if1 h1, z10, show (100 : Int32) = nI 100 from rfl, r_far hW hy (by omega), cl_ok, if_neg h2, z10, Fw4, r_finds (by decide), cl_ok]
  · skip
    refine ok_F (mX := fun s => m_X6_shut s a1) (w := 0) (by decide) h (fun hd => ?_) (fun τ => ?_)
    · simp only [m_X6_shut, c_isName, c_isKind, c_isSheet, c_isIn, c_hasTask (k := 1) (by decide) hW, c_hasPerson (k := 1) (by decide) hW, cl_ok, cv_ok, nm_ok, z00, z10, if_true, if_false, Fw0, Fw1, Fw2, Fw3, Fw4, Fw5, Fw6, c_found (w := 0) (by decide), c_found (w := 1) (by decide), c_found (w := 2) (by decide), c_found (w := 3) (by decide), c_found (w := 4) (by decide), c_found (w := 5) (by decide), c_found (w := 6) (by decide), if0 h1]
    · simp only [m_X7_shut, r_isName, r_isKind, r_isSheet, r_areHands, ri_m1_6, ri_0_100, ri_0_3, ri_0_39, ri_0_4, ri_0_5, ri_0_6, ri_0_60, ri_0_7, ri_0_9, ri_0_99, ri_1_4, ri_1_40, ri_1_60, ri_1_8, ri_1_9, ri_1_999, r_isTask hW, r_isPerson hW, cl_ok, cv_ok, nm_ok, z00, z10, if_true, if_false, Fw0, Fw1, Fw2, Fw3, Fw4, Fw5, Fw6, r_finds (w := 0) (by decide), r_finds (w := 1) (by decide), r_finds (w := 2) (by decide), r_finds (w := 3) (by decide), r_finds (w := 4) (by decide), r_finds (w := 5) (by decide), r_finds (w := 6) (by decide), if0 h1]
theorem op_ends (h : Iv β σ) (a1 : Int32) : Ok (m_X6_ends σ a1) (fun τ => m_X7_ends τ a1) := by
  obtain ⟨T, N, y, hW, hy, h40⟩ := id h.2.2.1
  have hT := h_T20 hW
  have hN := h_N8 hW
  by_cases h1 : 0 ≤ a1 ∧ a1 < nI T
  · obtain ⟨o, ho, rfl⟩ := isT_o (by omega) h1
    have ho2 : o < 20 := by omega
    by_cases h2 : y + 100 ≤ 999
    · have e100 : (100 : Int32) = nI 100 := rfl
      have eX : ∀ hd, ∃ b2 hd2, m_X6_ends (pk σ 1 β hd) (nI o) = if sover (fun b => !se b o) 100 β ≤ 100 then some (nI (sover (fun b => !se b o) 100 β), tr σ β b2 hd2) else m_X6_ends_78 (tr σ β b2 hd2) := fun hd => by
        obtain ⟨b2, hd2, e⟩ := c_endl (σ := σ) (β := β) ho2 100 200 0 T y β (hands β) hW (by omega) (by omega) (by omega)
        refine ⟨b2, hd2, ?_⟩
        unfold m_X6_ends
        rw [c_hasTask (by decide) hW, cl_ok, if1 h1, z10, e100, c_late hW hy (by omega), cl_ok, if_pos h2, z00, show (0 : Int32) = nI 0 from rfl, c_look hW (n := 0) (by omega) (by omega), cv_ok]
        rw [Nat.zero_add] at e
        exact e
      have eM : ∀ τ, m_X7_ends (pm τ β) (nI o) = if nI (sover (fun b => !se b o) 100 β) ≤ nI 100 then some (nI (sover (fun b => !se b o) 100 β), pm (sv 60 τ β) β) else cl (m_X7_finds (pm (sv 60 τ β) β) (-1000004)) fun r s => some (r, s) := fun τ => by
        unfold m_X7_ends
        rw [r_isTask hW, cl_ok, if1 h1, z10, e100, r_far hW hy (by omega), cl_ok, if_pos h2, z00, r_overT hW (by omega) (by omega) ho, cl_ok]
      have hb := sover_le (q := (fun b => !se b o)) 100 β
      by_cases h3 : sover (fun b => !se b o) 100 β ≤ 100
      · refine ok_T (mX := fun s => m_X6_ends s (nI o)) (r := nI (sover (fun b => !se b o) 100 β)) h (fun hd => ?_) (fun τ => ?_) h.2.2.1
        · obtain ⟨b2, hd2, e⟩ := eX hd
          exact ⟨tr σ β b2 hd2, by rw [e, if_pos h3], FX.ftr, gb_tr hW.cp⟩
        · exact ⟨sv 60 τ β, by rw [eM, if_pos (nI_le h3 (by omega))], FM.fsv (Or.inl rfl)⟩
      · refine ok_TF (mX := fun s => m_X6_ends s (nI o)) (w := 3) (by decide) h (fun hd => ?_) (fun τ => ?_)
        · obtain ⟨b2, hd2, e⟩ := eX hd
          refine ⟨tr σ β b2 hd2, ?_, FX.ftr, gb_tr hW.cp⟩
          rw [e, if_neg h3]
          unfold m_X6_ends_78
          rw [Fw3, c_found (by decide), cl_ok]
        · refine ⟨sv 60 τ β, ?_, FM.fsv (Or.inl rfl)⟩
          rw [eM, if_neg (nI_ge (by omega) (by omega)), Fw3, r_finds (by decide), cl_ok]
    · refine ok_F (mX := fun s => m_X6_ends s (nI o)) (w := 4) (by decide) h (fun hd => ?_) (fun τ => ?_)
      · show m_X6_ends (pk σ 1 β hd) (nI o) = _
        unfold m_X6_ends
        rw [c_hasTask (by decide) hW, cl_ok, if1 h1, z10, show (100 : Int32) = nI 100 from rfl, c_late hW hy (by omega), cl_ok, if_neg h2, z10, Fw4, c_found (by decide), cl_ok]
      · show m_X7_ends (pm τ β) (nI o) = _
        unfold m_X7_ends
        rw [r_isTask hW, cl_ok, if1 h1, z10, show (100 : Int32) = nI 100 from rfl, r_far hW hy (by omega), cl_ok, if_neg h2, z10, Fw4, r_finds (by decide), cl_ok]
  · skip
    refine ok_F (mX := fun s => m_X6_ends s a1) (w := 0) (by decide) h (fun hd => ?_) (fun τ => ?_)
    · simp only [m_X6_ends, c_isName, c_isKind, c_isSheet, c_isIn, c_hasTask (k := 1) (by decide) hW, c_hasPerson (k := 1) (by decide) hW, cl_ok, cv_ok, nm_ok, z00, z10, if_true, if_false, Fw0, Fw1, Fw2, Fw3, Fw4, Fw5, Fw6, c_found (w := 0) (by decide), c_found (w := 1) (by decide), c_found (w := 2) (by decide), c_found (w := 3) (by decide), c_found (w := 4) (by decide), c_found (w := 5) (by decide), c_found (w := 6) (by decide), if0 h1]
    · simp only [m_X7_ends, r_isName, r_isKind, r_isSheet, r_areHands, ri_m1_6, ri_0_100, ri_0_3, ri_0_39, ri_0_4, ri_0_5, ri_0_6, ri_0_60, ri_0_7, ri_0_9, ri_0_99, ri_1_4, ri_1_40, ri_1_60, ri_1_8, ri_1_9, ri_1_999, r_isTask hW, r_isPerson hW, cl_ok, cv_ok, nm_ok, z00, z10, if_true, if_false, Fw0, Fw1, Fw2, Fw3, Fw4, Fw5, Fw6, r_finds (w := 0) (by decide), r_finds (w := 1) (by decide), r_finds (w := 2) (by decide), r_finds (w := 3) (by decide), r_finds (w := 4) (by decide), r_finds (w := 5) (by decide), r_finds (w := 6) (by decide), if0 h1]
end O6
