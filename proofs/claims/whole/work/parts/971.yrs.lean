/-! years: books copied, rows saved, years gone -/
theorem pk_bx {σ β γ : zw_S} {k : Nat} {h : Nat → Int32} (e : ∀ f j, j < cap f → β f j = γ f j) : pk σ k β h = pk σ k γ h := by
  funext i j
  rw [pk_ap, pk_ap]
  by_cases h1 : i = 38
  · rw [if_pos h1, if_pos h1]
  · rw [if_neg h1, if_neg h1]
    by_cases h2 : k ≤ i ∧ i < k + 12
    · rw [if_pos h2, if_pos h2]
      by_cases h3 : j < cap (i - k)
      · rw [if_pos h3, if_pos h3, e _ _ h3]
      · rw [if_neg h3, if_neg h3]
    · rw [if_neg h2, if_neg h2]
theorem pk_hi {σ β : zw_S} {k f j : Nat} {h : Nat → Int32} (hk : k + 12 ≤ 38) (hf : f < 12) (hj : ¬ j < cap f) : pk σ k β h (k + f) j = σ (k + f) j := by
  rw [pk_ap, if_neg (show ¬ k + f = 38 by omega), if_pos (show k ≤ k + f ∧ k + f < k + 12 by omega), Nat.add_sub_cancel_left, if_neg hj]
theorem pk_uf {σ β : zw_S} {k b f n : Nat} {h : Nat → Int32} (hk : k + 12 ≤ 38) (hb : b + 12 ≤ 38) (hd : b + 12 ≤ k ∨ k + 12 ≤ b) (hf : f < 12) (hn : cap f = n) : zw_us (pk σ k β h) (k + f) (va_cpy (pk σ k β h (b + f)) (pk σ k β h (k + f)) 0 0 n) = pk σ k (zw_us β f (σ (b + f))) h := by
  funext i j
  by_cases h1 : i = k + f
  · subst h1
    show (if k + f = k + f then va_cpy (pk σ k β h (b + f)) (pk σ k β h (k + f)) 0 0 n else pk σ k β h (k + f)) j = _
    rw [if_pos rfl]
    unfold va_cpy
    by_cases h2 : j < n
    · rw [if_pos ⟨by omega, by omega⟩, pk_b hk (by rw [hn]; exact h2), pk_o (i := b + f) (by omega) (by omega), show 0 + (j - 0) = j by omega]
      unfold zw_us
      rw [if_pos rfl]
    · rw [if_neg (by omega), pk_hi hk hf (by rw [hn]; exact h2), pk_hi hk hf (by rw [hn]; exact h2)]
  · show (if i = k + f then va_cpy (pk σ k β h (b + f)) (pk σ k β h (k + f)) 0 0 n else pk σ k β h i) j = _
    rw [if_neg h1, pk_ap, pk_ap]
    by_cases h2 : i = 38
    · rw [if_pos h2, if_pos h2]
    · rw [if_neg h2, if_neg h2]
      by_cases h3 : k ≤ i ∧ i < k + 12
      · rw [if_pos h3, if_pos h3]
        unfold zw_us
        rw [if_neg (show ¬ i - k = f by omega)]
      · rw [if_neg h3, if_neg h3]
theorem c_setTo {σ : zw_S} {k b : Nat} (hk : k + 12 ≤ 38) (hb : b + 12 ≤ 38) (hd : b + 12 ≤ k ∨ k + 12 ≤ b) : m_X0_setTo k b σ = some (pk σ k (gb σ b) (σ 38)) := by
  have e0 : σ = pk σ k (gb σ k) (σ 38) := (pk_gb σ k hk).symm
  have key : m_X0_setTo k b (pk σ k (gb σ k) (σ 38)) = some (pk σ k (gb σ b) (σ 38)) := by
    unfold m_X0_setTo
    have rb : ∀ (β : zw_S) (j : Nat), pk σ k β (σ 38) b j = σ b j := fun β j => by rw [pk_o (by omega) (by omega)]
    simp only [show (0 : Int32).toNatClampNeg = 0 from by decide, show (8 : Int32).toNatClampNeg = 8 from by decide, show (20 : Int32).toNatClampNeg = 20 from by decide, show (10 : Int32).toNatClampNeg = 10 from by decide]
    rw [rb _ 0, pk_ws hk (by omega), nm_ok, rb _ 1, pk_ws hk (by omega), nm_ok, rb _ 2, pk_ws hk (by omega), nm_ok, rb _ 3, pk_ws hk (by omega), nm_ok]
    rw [tt_ok (by decide), pk_uf (f := 1) (n := 8) hk hb hd (by omega) rfl, nm_ok, tt_ok (by decide), pk_uf (f := 2) (n := 8) hk hb hd (by omega) rfl, nm_ok, tt_ok (by decide), pk_uf (f := 3) (n := 20) hk hb hd (by omega) rfl, nm_ok, tt_ok (by decide), pk_uf (f := 4) (n := 20) hk hb hd (by omega) rfl, nm_ok, tt_ok (by decide), pk_uf (f := 5) (n := 20) hk hb hd (by omega) rfl, nm_ok, tt_ok (by decide), pk_uf (f := 6) (n := 20) hk hb hd (by omega) rfl, nm_ok, tt_ok (by decide), pk_uf (f := 7) (n := 8) hk hb hd (by omega) rfl, nm_ok, tt_ok (by decide), pk_uf (f := 8) (n := 8) hk hb hd (by omega) rfl, nm_ok, tt_ok (by decide), pk_uf (f := 9) (n := 8) hk hb hd (by omega) rfl, nm_ok, tt_ok (by decide), pk_uf (f := 10) (n := 8) hk hb hd (by omega) rfl, nm_ok, tt_ok (by decide), pk_uf (f := 11) (n := 10) hk hb hd (by omega) rfl, nm_ok]
    congr 1
    apply pk_bx
    intro f j hj
    have hf := cap_lt hj
    unfold gb
    rw [if_pos hj]
    rcases (show f = 0 ∨ f = 1 ∨ f = 2 ∨ f = 3 ∨ f = 4 ∨ f = 5 ∨ f = 6 ∨ f = 7 ∨ f = 8 ∨ f = 9 ∨ f = 10 ∨ f = 11 by omega) with rfl | rfl | rfl | rfl | rfl | rfl | rfl | rfl | rfl | rfl | rfl | rfl
    · have h4 : j < 4 := hj
      rcases (show j = 0 ∨ j = 1 ∨ j = 2 ∨ j = 3 by omega) with rfl | rfl | rfl | rfl <;> simp [zw_us, wr_ap]
    all_goals simp [zw_us]
  exact (congrArg (m_X0_setTo k b) e0).trans key
theorem r_row {a b : Nat} (hab : a ≠ b) (σ : zw_S) : m_X7_row a b σ = some (zw_us σ b (fun j => if j < 142 then σ a j else σ b j)) := by
  have key : ∀ q n i (s : zw_S), i + q = 142 → q < n → s a = σ a → m_X7_row_2 a b n s (nI i) = some (zw_us s b (fun j => if i ≤ j ∧ j < 142 then σ a j else s b j)) := by
    intro q
    induction q with
    | zero =>
      intro n i s hi hn hs
      obtain ⟨n, rfl⟩ : ∃ m, n = m + 1 := ⟨n - 1, by omega⟩
      unfold m_X7_row_2
      rw [show (142 : Int32) = nI 142 from rfl, if_pos (nI_le (by omega) (by omega))]
      congr 1
      funext c j
      unfold zw_us
      by_cases hc : c = b
      · subst hc
        rw [if_pos rfl, if_neg (by omega)]
      · rw [if_neg hc]
    | succ q ih =>
      intro n i s hi hn hs
      obtain ⟨n, rfl⟩ : ∃ m, n = m + 1 := ⟨n - 1, by omega⟩
      unfold m_X7_row_2
      rw [show (142 : Int32) = nI 142 from rfl, if_neg (nI_ge (by omega) (by omega)), rd_i (by omega) (by omega), wt_i (by omega) (by omega), nm_ok, nI_1, ih n (i + 1) _ (by omega) (by omega) (by rw [wr_f hab]; exact hs)]
      congr 1
      funext c j
      unfold zw_us
      by_cases hc : c = b
      · subst hc
        rw [if_pos rfl, if_pos rfl, wr_ap, hs]
        grind
      · rw [if_neg hc, if_neg hc, wr_f hc]
  unfold m_X7_row
  rw [show (0 : Int32) = nI 0 from rfl, key 142 200 0 σ (by omega) (by omega) rfl]
  congr 2
  funext j
  by_cases hj : j < 142
  · rw [if_pos ⟨by omega, hj⟩, if_pos hj]
  · rw [if_neg (by omega), if_neg hj]
/-- the row kept aside at c -/
def sv (c : Nat) (τ β : zw_S) : zw_S := zw_us τ c (em β (τ c))
theorem em_if {β : zw_S} {o o2 : Nat → Int32} : (fun j => if j < 142 then em β o j else o2 j) = em β o2 := by
  funext j
  by_cases h : j < 142
  · rw [if_pos h]
    obtain ⟨f, i, hi, rfl⟩ := ec_on h
    rw [em_ec hi, em_ec hi]
  · rw [if_neg h, em_hi h]
theorem r_save {c : Nat} (hc : c ≠ 58) (τ β : zw_S) : m_X7_row 58 c (pm τ β) = some (pm (sv c τ β) β) := by
  rw [r_row (Ne.symm hc)]
  congr 1
  have e1 : (fun j => if j < 142 then pm τ β 58 j else pm τ β c j) = em β (τ c) := by
    rw [pm_o hc]
    have : pm τ β 58 = em β (τ 58) := by simp [pm]
    rw [this]
    exact em_if
  rw [e1]
  funext i
  unfold zw_us pm sv zw_us
  by_cases h1 : i = c
  · subst h1
    simp [hc]
  · by_cases h2 : i = 58
    · subst h2
      simp [Ne.symm hc]
    · simp [h1, h2]
theorem r_back {c : Nat} (hc : c ≠ 58) (τ β γ : zw_S) (ht : τ c = em β (τ c)) : m_X7_row c 58 (pm τ γ) = some (pm τ β) := by
  rw [r_row hc]
  congr 1
  have e1 : (fun j => if j < 142 then pm τ γ c j else pm τ γ 58 j) = em β (τ 58) := by
    funext j
    rw [pm_o hc, pm_at]
    by_cases h : j < 142
    · rw [if_pos h, ht]
      obtain ⟨f, i, hi, rfl⟩ := ec_on h
      rw [em_ec hi, em_ec hi]
    · rw [if_neg h, em_hi h, em_hi h]
  rw [e1]
  funext i
  unfold zw_us pm
  by_cases h2 : i = 58
  · subst h2; simp
  · simp [h2]
theorem sv_c {c : Nat} {τ β : zw_S} : sv c τ β c = em β (sv c τ β c) := by
  unfold sv zw_us
  simp only [if_true]
  funext j
  by_cases h : j < 142
  · obtain ⟨f, i, hi, rfl⟩ := ec_on h
    rw [em_ec hi, em_ec hi]
  · rw [em_hi h, em_hi h, em_hi h]
theorem FM.fsv {c : Nat} {τ β : zw_S} (hc : c = 60 ∨ c = 61) : FM τ (sv c τ β) := by
  intro i h1 h2 h3 h4 h5
  unfold sv zw_us
  rw [if_neg (by omega)]
theorem sv_o {c d : Nat} {τ β : zw_S} (h : d ≠ c) : sv c τ β d = τ d := by
  unfold sv zw_us
  rw [if_neg h]
theorem sv_sv {c : Nat} {τ β γ : zw_S} : sv c (sv c τ β) γ = sv c τ γ := by
  funext i
  by_cases h : i = c
  · subst h
    unfold sv zw_us
    simp only [if_true]
    funext j
    by_cases h : j < 142
    · obtain ⟨f, a, ha, rfl⟩ := ec_on h
      rw [em_ec ha, em_ec ha]
    · rw [em_hi h, em_hi h, em_hi h]
  · rw [sv_o h, sv_o h, sv_o h]
section Y1
variable {σ τ β γ : zw_S} {T N y k : Nat} {hd : Nat → Int32}
theorem Wf.years : ∀ (n T y : Nat) (β : zw_S), Wf T N y β → y + n ≤ 5000 → ∃ T2, T ≤ T2 ∧ Wf T2 N (y + n) (syears n β) := by
  intro n
  induction n with
  | zero => intro T y β h hy; exact ⟨T, by omega, h⟩
  | succ n ih =>
    intro T y β h hy
    obtain ⟨T2, h1, h2⟩ := h.year (by omega)
    obtain ⟨T3, h3, h4⟩ := ih T2 (y + 1) (syear β) h2 (by omega)
    exact ⟨T3, by omega, by rw [show y + (n + 1) = y + 1 + n by omega]; exact h4⟩
theorem r_yearsGo (h : Wf T N y β) {n : Nat} (hn : n ≤ 150) (hy : y + n ≤ 5000) : m_X7_yearsGo (pm σ β) (nI n) = some (pm σ (syears n β)) := by
  have key : ∀ q m i T y (b : zw_S), Wf T N y b → i + q = n → q < m → y + q ≤ 5000 → m_X7_yearsGo_2 m (pm σ b) (nI n) (nI i) = some (pm σ (syears q b)) := by
    intro q
    induction q with
    | zero =>
      intro m i T y b hb hi hm hy
      obtain ⟨m, rfl⟩ : ∃ z, m = z + 1 := ⟨m - 1, by omega⟩
      unfold m_X7_yearsGo_2
      rw [if_pos (nI_le (by omega) (by omega))]
      rfl
    | succ q ih =>
      intro m i T y b hb hi hm hy
      obtain ⟨m, rfl⟩ : ∃ z, m = z + 1 := ⟨m - 1, by omega⟩
      obtain ⟨T2, -, hWy⟩ := hb.year (by omega)
      unfold m_X7_yearsGo_2
      rw [if_neg (nI_ge (by omega) (by omega)), r_year hb, cv_ok, nm_ok, nI_1]
      exact ih m (i + 1) T2 (y + 1) (syear b) hWy (by omega) (by omega) (by omega)
  unfold m_X7_yearsGo
  exact key n 200 0 T y β h (by omega) (by omega) hy
/-! whoever is forty bears no name when the year is over -/
theorem leave_8 {p : Nat} : sleave β p 8 = β 8 := by
  unfold sleave sgone scome
  split
  · split <;> simp [wr_f]
  · simp [wr_f]
theorem leave_7 {p q : Nat} : sleave β p 7 q = if q = p then -1 else β 7 q := by
  have e : ∀ g : zw_S, zw_wr (zw_wr β 7 p (-1)) 2 (β 7 p).toNatClampNeg (β 2 (β 7 p).toNatClampNeg + 1) 7 q = if q = p then -1 else β 7 q := by
    intro g
    simp [wr_ap]
  unfold sleave sgone scome
  split
  · split
    · exact e β
    · simp only [wr_f (show (7 : Nat) ≠ 0 by decide), wr_f (show (7 : Nat) ≠ 6 by decide), wr_f (show (7 : Nat) ≠ 5 by decide), wr_f (show (7 : Nat) ≠ 4 by decide), wr_f (show (7 : Nat) ≠ 3 by decide)]
      exact e β
  · exact e β
theorem y5_8 {p : Nat} : y5 β p 8 = β 8 := by
  unfold y5
  split
  · split
    · rfl
    · exact leave_8
  · rfl
theorem y5_7 {p q : Nat} (h : q ≠ p) : y5 β p 7 q = β 7 q := by
  unfold y5
  split
  · split
    · rfl
    · rw [leave_7, if_neg h]
  · rfl
theorem y5_40 (h : Wf T N y β) {p : Nat} (hp : p < N) (h8 : β 8 p = 40) : y5 β p 7 p = -1 := by
  unfold y5
  rw [if_pos h8]
  by_cases h7 : β 7 p < 0
  · rw [if_pos h7]
    rcases h.name hp with e | ⟨o, ho, e⟩
    · exact e
    · rw [e] at h7
      exact absurd h7 (nI_pos (by omega))
  · rw [if_neg h7, leave_7, if_pos rfl]
theorem fold5_40 : ∀ (q i T : Nat) (b : zw_S), Wf T N y b → i + q = N → (∀ p, p < i → b 8 p = 40 → b 7 p = -1) → ∀ p, p < N → sfold y5 b i q 8 p = 40 → sfold y5 b i q 7 p = -1 := by
  intro q
  induction q with
  | zero =>
    intro i T b hb hi hl p hp h8
    exact hl p (by omega) h8
  | succ q ih =>
    intro i T b hb hi hl p hp h8
    rw [sfold_s] at h8 ⊢
    obtain ⟨T2, -, hW2⟩ := hb.wy5 (show i < N by omega)
    refine ih (i + 1) T2 (y5 b i) hW2 (by omega) (fun r hr h8r => ?_) p hp h8
    rw [y5_8] at h8r
    by_cases hri : r = i
    · subst hri
      exact y5_40 hb (by omega) h8r
    · rw [y5_7 hri]
      exact hl r (by omega) h8r
theorem year_40 (h : Wf T N y β) : ∀ p, p < N → syear β 8 p = 40 → syear β 7 p = -1 := by
  intro p hp
  have hN := h.hN
  have hT := h.hT
  unfold syear
  rw [hN, hT]
  have w1 : Wf T N y (sfold y1 β 0 N) := Wf.fold (M := N) (fun b p _ hb => hb.wy1 p) N 0 β (by omega) h
  have w2 : Wf T N y (sfold y2 (sfold y1 β 0 N) 0 N) := Wf.fold (M := N) (fun b p _ hb => hb.wy2 p) N 0 _ (by omega) w1
  have w3 : Wf T N y (sfold y3 (sfold y2 (sfold y1 β 0 N) 0 N) 0 T) := Wf.fold (M := T) (fun b p hp hb => hb.wy3 hp) T 0 _ (by omega) w2
  have w4 : Wf T N y (sfold y4 (sfold y3 (sfold y2 (sfold y1 β 0 N) 0 N) 0 T) 0 N) := Wf.fold (M := N) (fun b p hp hb => hb.wy4 hp) N 0 _ (by omega) w3
  have := fold5_40 N 0 T _ w4 (by omega) (fun p hp => absurd hp (by omega)) p hp
  unfold y6
  rw [wr_f (by decide), wr_f (by decide)]
  exact this
theorem Bk.years {n : Nat} (hB : Bk β) (hy : β 0 0 + nI n ≤ 999) (hn : n ≤ 1000) : Bk (syears n β) := by
  obtain ⟨T, N, y, hW, hy9, h40⟩ := hB
  have hyn : y + n ≤ 999 := by
    rw [hW.eY, nI_add, show (999 : Int32) = nI 999 from rfl, nI_leI (by omega) (by omega)] at hy
    exact hy
  have key : ∀ (n T y : Nat) (β : zw_S), Wf T N y β → y + n ≤ 999 → (∀ p, p < N → β 8 p = 40 → β 7 p = -1) → Bk (syears n β) := by
    intro n
    induction n with
    | zero => intro T y β h hy h40; exact ⟨T, N, y, h, by omega, h40⟩
    | succ n ih =>
      intro T y β h hy h40
      obtain ⟨T2, -, h2⟩ := h.year (by omega)
      exact ih T2 (y + 1) (syear β) h2 (by omega) (year_40 h)
  exact key n T y β hW hyn h40
theorem c_late (h : Wf T N y β) (hy : y ≤ 999) {n : Nat} (hn : n ≤ 1000) : m_X6_isTooLate (pk σ 1 β hd) (nI n) = some (if y + n ≤ 999 then 0 else 1, pk σ 1 β hd) := by
  unfold m_X6_isTooLate
  rw [pk1_s (by omega), h.eY, nI_add, show (999 : Int32) = nI 999 from rfl]
  by_cases h1 : y + n ≤ 999
  · rw [if_pos (nI_le h1 (by omega)), if_pos h1]
  · rw [if_neg (nI_ge (by omega) (by omega)), if_neg h1]
theorem r_far (h : Wf T N y β) (hy : y ≤ 999) {n : Nat} (hn : n ≤ 1000) : m_X7_isFarOn (pm σ β) (nI n) = some (if y + n ≤ 999 then 0 else 1, pm σ β) := by
  unfold m_X7_isFarOn
  rw [r_y, h.eY, nI_add, show (999 : Int32) = nI 999 from rfl]
  by_cases h1 : y + n ≤ 999
  · rw [if_pos (nI_le h1 (by omega)), if_pos h1]
  · rw [if_neg (nI_ge (by omega) (by omega)), if_neg h1]
/-- the trial as β2 has it, the book as β -/
def tr (σ β β2 : zw_S) (hd : Nat → Int32) : zw_S := pk (pk σ 1 β hd) 25 β2 hd
theorem tr_e {hd2 : Nat → Int32} : pk (pk σ 1 β hd) 25 γ hd2 = tr σ β γ hd2 := by
  unfold tr
  funext i j
  rw [pk_ap, pk_ap _ 25 γ hd2]
  by_cases h1 : i = 38
  · rw [if_pos h1, if_pos h1]
    by_cases h2 : j < 8
    · rw [if_pos h2, if_pos h2]
    · rw [if_neg h2, if_neg h2, pk_ap, pk_ap, if_pos rfl, if_neg h2, if_pos rfl, if_neg h2]
  · rw [if_neg h1, if_neg h1]
    by_cases h3 : 25 ≤ i ∧ i < 25 + 12
    · rw [if_pos h3, if_pos h3]
      by_cases h4 : j < cap (i - 25)
      · rw [if_pos h4, if_pos h4]
      · rw [if_neg h4, if_neg h4, pk_o h1 (by omega), pk_o h1 (by omega)]
    · rw [if_neg h3, if_neg h3, pk_ap, pk_ap, if_neg h1, if_neg h1]
theorem tr_1 {f j : Nat} (hj : j < cap f) : tr σ β γ hd (1 + f) j = β f j := by
  have hf := cap_lt hj
  unfold tr
  rw [pk_o (by omega) (by omega), pk_b (by decide) hj]
theorem tr_pk : tr σ β γ hd = pk (tr σ β γ hd) 1 β hd := by
  unfold tr
  funext i j
  rw [pk_ap _ 1]
  by_cases h1 : i = 38
  · subst h1
    rw [if_pos rfl, pk_ap, if_pos rfl]
    by_cases h2 : j < 8
    · rw [if_pos h2, if_pos h2]
    · rw [if_neg h2, if_neg h2, pk_ap, if_pos rfl, if_neg h2]
  · rw [if_neg h1]
    by_cases h3 : 1 ≤ i ∧ i < 1 + 12
    · rw [if_pos h3, pk_o h1 (by omega), pk_ap, if_neg h1, if_pos h3]
      by_cases h4 : j < cap (i - 1)
      · rw [if_pos h4, if_pos h4]
      · rw [if_neg h4, if_neg h4]
    · rw [if_neg h3]
theorem c_trial (hc : Cp β) : m_X0_setTo 25 1 (pk σ 1 β hd) = some (tr σ β β hd) := by
  rw [c_setTo (by decide) (by decide) (by decide), gb_pk (by decide) hc, tr_e]
  unfold tr
  congr 1
  rw [tr_e, tr_e]
  unfold tr
  have e : pk σ 1 β (pk σ 1 β hd 38) = pk σ 1 β hd := by
    apply pk_hx
    intro j hj
    exact pk_h hj
  rw [e]
  apply pk_hx
  intro j hj
  exact pk_h hj
theorem c_trial2 (hc : Cp β) : m_X0_setTo 25 1 (tr σ β γ hd) = some (tr σ β β hd) := by
  have e1 : gb (tr σ β γ hd) 1 = β := by
    funext f j
    unfold gb
    by_cases hj : j < cap f
    · rw [if_pos hj, tr_1 hj]
    · rw [if_neg hj, hc f j (by omega)]
  rw [c_setTo (by decide) (by decide) (by decide), e1]
  congr 1
  unfold tr
  rw [pk_pk]
  apply pk_hx
  intro j hj
  exact pk_h hj
theorem c_tgo (h : Wf T N y γ) {n : Nat} (hn : n ≤ 150) (hy : y + n ≤ 5000) : m_X5_go 25 (tr σ β γ hd) (nI n) = some (tr σ β (syears n γ) (hands (syears n γ))) := by
  unfold tr
  rw [c_go (by decide) h hn hy, tr_e, tr_e]
theorem FX.ftr : FX σ (tr σ β γ hd) := by
  unfold tr
  exact FX.trans FX.pk1 FX.pk25
theorem gb_tr (hc : Cp β) : gb (tr σ β γ hd) 1 = β := by
  unfold tr
  rw [gb_o (by decide) (by decide), gb_pk (by decide) hc]
/-- a look by way of the trial, or by way of the row kept aside -/
theorem ok_T {mX mM : zw_S → Option (Int32 × zw_S)} {r : Int32} (h : Iv β σ) (hX : ∀ hd, ∃ s, mX (pk σ 1 β hd) = some (r, s) ∧ FX σ s ∧ gb s 1 = γ) (hM : ∀ τ, ∃ τ2, mM (pm τ β) = some (r, pm τ2 γ) ∧ FM τ τ2) (hB : Bk γ) : Ok (mX σ) mM := by
  obtain ⟨s, e1, e2, e3⟩ := hX (σ 38)
  rw [← h.X] at e1
  obtain ⟨T, N, y, hW, -⟩ := id hB
  refine ok_U h e1 e3 e2 (fun τ ht => ?_) hB
  obtain ⟨τ2, e4, e5⟩ := hM τ
  refine ⟨pm τ2 γ, ?_, ?_, FM.trans e5 FM.pm⟩
  · rw [show mM τ = mM (pm τ β) from congrArg mM (pm_of ht)]
    exact e4
  · rw [show pm τ2 γ 58 = em γ (τ2 58) from by simp [pm], gm_em hW.cp]
theorem ok_TF {mX mM : zw_S → Option (Int32 × zw_S)} {w : Nat} (hw : w < 7) (h : Iv β σ) (hX : ∀ hd, ∃ s, mX (pk σ 1 β hd) = some (fw w, fnd s w) ∧ FX σ s ∧ gb s 1 = β) (hM : ∀ τ, ∃ τ2, mM (pm τ β) = some (fw w, fdm (pm τ2 β) w) ∧ FM τ τ2) : Ok (mX σ) mM := by
  obtain ⟨s, e1, e2, e3⟩ := hX (σ 38)
  rw [← h.X] at e1
  obtain ⟨h1, h2, h3, h4, h5, h6, h7⟩ := h
  obtain ⟨T, N, y, hW, -⟩ := id h3
  have o1 : ∀ i, i ≠ 56 → fnd s w i = s i := fun i hi => wr_f hi
  obtain ⟨τ2, e4, e5⟩ := hM (fnd s w)
  rw [← pm_of (by rw [o1 58 (by omega), e2 58 (by omega)]; exact h2)] at e4
  have o2 : ∀ i, i ≠ 56 → i ≠ 62 → i ≠ 58 → i ≠ 60 → i ≠ 61 → i ≠ 63 → i ≠ 64 → fdm (pm τ2 β) w i = s i := fun i a1 a2 a3 a4 a5 a6 a7 => by
    rw [show fdm (pm τ2 β) w i = pm τ2 β i from wr_f a2, pm_o a3, e5 i a3 a4 a5 a6 a7, o1 i a1]
  have o3 : ∀ i, (i = 0 ∨ (13 ≤ i ∧ i ≤ 24) ∨ 45 ≤ i) → i ≠ 56 → i ≠ 62 → i ≠ 58 → i ≠ 60 → i ≠ 61 → i ≠ 63 → i ≠ 64 → fdm (pm τ2 β) w i = σ i := fun i a0 a1 a2 a3 a4 a5 a6 a7 => by
    rw [o2 i a1 a2 a3 a4 a5 a6 a7, e2 i a0]
  refine ⟨fw w, _, _, e1, e4, β, ?_, ?_, h3, ?_, ?_, ?_, ?_⟩
  · refine Eq.trans ?_ e3
    funext f j
    unfold gb
    by_cases hj : j < cap f
    · have hf := cap_lt hj
      rw [if_pos hj, if_pos hj, o2 (1 + f) (by omega) (by omega) (by omega) (by omega) (by omega) (by omega) (by omega)]
    · rw [if_neg hj, if_neg hj]
  · rw [show fdm (pm τ2 β) w 58 = pm τ2 β 58 from wr_f (by decide), show pm τ2 β 58 = em β (τ2 58) from by simp [pm], gm_em hW.cp]
  · have e13 : gb (fdm (pm τ2 β) w) 13 = gb σ 13 := by
      funext f j
      unfold gb
      by_cases hj : j < cap f
      · have hf := cap_lt hj
        rw [if_pos hj, if_pos hj, o3 (13 + f) (by omega) (by omega) (by omega) (by omega) (by omega) (by omega) (by omega) (by omega)]
      · rw [if_neg hj, if_neg hj]
    unfold Ik at h4 ⊢
    rw [e13, o3 0 (by omega) (by omega) (by omega) (by omega) (by omega) (by omega) (by omega) (by omega), o3 57 (by omega) (by omega) (by omega) (by omega) (by omega) (by omega) (by omega) (by omega), o3 59 (by omega) (by omega) (by omega) (by omega) (by omega) (by omega) (by omega) (by omega)]
    exact h4
  · intro j hj
    have t1 := h5 j hj
    have t2 := h5 w hw
    have c56 : τ2 56 = fnd s w 56 := e5 56 (by omega) (by omega) (by omega) (by omega) (by omega)
    have c62 : τ2 62 = s 62 := by rw [e5 62 (by omega) (by omega) (by omega) (by omega) (by omega), o1 62 (by omega)]
    have d56 : s 56 = σ 56 := e2 56 (by omega)
    have d62 : s 62 = σ 62 := e2 62 (by omega)
    unfold fdm
    rw [wr_f (show (56 : Nat) ≠ 62 by decide), pm_o (show (56 : Nat) ≠ 58 by decide), pm_o (show (62 : Nat) ≠ 58 by decide), c56, c62, d62]
    unfold fnd
    rw [wr_ap, wr_ap, d56, pm_o (show (62 : Nat) ≠ 58 by decide), c62, d62]
    grind
  · obtain ⟨n, hn, a1, a2, a3⟩ := h6
    refine ⟨n, hn, by rw [o3 45 (by omega) (by omega) (by omega) (by omega) (by omega) (by omega) (by omega) (by omega)]; exact a1, by rw [o3 57 (by omega) (by omega) (by omega) (by omega) (by omega) (by omega) (by omega) (by omega)]; exact a2, fun j hj => ?_⟩
    rw [o3 46 (by omega) (by omega) (by omega) (by omega) (by omega) (by omega) (by omega) (by omega), o3 65 (by omega) (by omega) (by omega) (by omega) (by omega) (by omega) (by omega) (by omega)]
    exact a3 j hj
  · intro s hs
    rw [o3 (48 + 2 * s) (by omega) (by omega) (by omega) (by omega) (by omega) (by omega) (by omega) (by omega), o3 66 (by omega) (by omega) (by omega) (by omega) (by omega) (by omega) (by omega) (by omega), o3 67 (by omega) (by omega) (by omega) (by omega) (by omega) (by omega) (by omega) (by omega), o3 (49 + 2 * s) (by omega) (by omega) (by omega) (by omega) (by omega) (by omega) (by omega) (by omega), o3 68 (by omega) (by omega) (by omega) (by omega) (by omega) (by omega) (by omega) (by omega)]
    exact h7 s hs
end Y1
