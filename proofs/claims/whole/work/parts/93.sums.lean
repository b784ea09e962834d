/-! sums -/
def sacc (g : Nat → Int32) (s : Int32) (i q : Nat) : Int32 := (List.range' i q).foldl (fun s t => s + g t) s
theorem sacc_s {g : Nat → Int32} {s : Int32} {i q : Nat} : sacc g s i (q + 1) = sacc g (s + g i) (i + 1) q := by
  unfold sacc
  rw [List.range'_succ, List.foldl_cons]
theorem sacc_congr {g g2 : Nat → Int32} : ∀ (q i : Nat) (s : Int32), (∀ t, i ≤ t → t < i + q → g t = g2 t) → sacc g s i q = sacc g2 s i q := by
  intro q
  induction q with
  | zero => intro i s _; rfl
  | succ q ih =>
    intro i s h
    rw [sacc_s, sacc_s, h i (by omega) (by omega)]
    exact ih (i + 1) _ (fun t h1 h2 => h t (by omega) (by omega))
section S1
variable {σ β : zw_S} {T N y k : Nat} {hd : Nat → Int32}
def gT (β : zw_S) (x : Int32) (t : Nat) : Int32 := if β 4 t = x then 1 else 0
def gH (β : zw_S) (x : Int32) (t : Nat) : Int32 := if β 4 t = x then β 5 t else 0
def gE (β : zw_S) (t : Nat) : Int32 := if β 5 t = 0 then 1 else 0
def gU (β : zw_S) (t : Nat) : Int32 := if β 5 t = 0 then 0 else 1
def stasks (β : zw_S) (x : Int32) : Int32 := sacc (gT β x) 0 0 (tn β)
def shoursOf (β : zw_S) (x : Int32) : Int32 := sacc (gH β x) 0 0 (tn β)
def sended (β : zw_S) : Int32 := sacc (gE β) 0 0 (tn β)
def sunended (β : zw_S) : Int32 := sacc (gU β) 0 0 (tn β)
def shours (β : zw_S) : Int32 := sacc (β 5) 0 0 (tn β)
def slives (β : zw_S) : Int32 := sacc (β 2) 0 0 8
def gW (β : zw_S) (i : Nat) : Int32 := if 0 < stasks β (nI i) ∧ ¬ sopen β (nI i) = true then β 1 i else 0
def sworth (β : zw_S) : Int32 := sacc (gW β) 0 0 8
theorem cl_tasksOf (hT : T ≤ 20) (hk : k + 12 ≤ 38) (h : Wf T N y β) (x : Int32) : ∀ (q n i : Nat) (s : Int32), i + q = T → q < n → m_X0_tasksOf_4 k n (pk σ k β hd) x s (nI i) = some (sacc (gT β x) s i q, pk σ k β hd) := by
  intro q
  induction q with
  | zero =>
    intro n i s hi hn
    obtain ⟨n, rfl⟩ : ∃ m, n = m + 1 := ⟨n - 1, by omega⟩
    unfold m_X0_tasksOf_4
    rw [pk_s hk (by omega), h.eT, if_pos (nI_le (by omega) (by omega))]
    rfl
  | succ q ih =>
    intro n i s hi hn
    obtain ⟨n, rfl⟩ : ∃ m, n = m + 1 := ⟨n - 1, by omega⟩
    unfold m_X0_tasksOf_4
    rw [pk_s hk (by omega), h.eT, if_neg (nI_ge (by omega) (by omega)), c_r4 hk (by omega), sacc_s]
    unfold gT
    by_cases hb : β 4 i = x
    · rw [if_pos hb, if_pos hb, nm_ok, nm_ok, nI_1]
      exact ih n (i + 1) _ (by omega) (by omega)
    · rw [if_neg hb, if_neg hb, nm_ok, nI_1, Int32.add_zero]
      exact ih n (i + 1) _ (by omega) (by omega)
theorem c_tasksOf (hk : k + 12 ≤ 38) (h : Wf T N y β) (x : Int32) : m_X0_tasksOf k (pk σ k β hd) x = some (stasks β x, pk σ k β hd) := by
  have hT := h.T20
  unfold m_X0_tasksOf stasks
  rw [h.hT]
  exact cl_tasksOf hT hk h x T 200 0 0 (by omega) (by omega)
theorem cl_hoursOf (hT : T ≤ 20) (hk : k + 12 ≤ 38) (h : Wf T N y β) (x : Int32) : ∀ (q n i : Nat) (s : Int32), i + q = T → q < n → m_X0_hoursOf_4 k n (pk σ k β hd) x s (nI i) = some (sacc (gH β x) s i q, pk σ k β hd) := by
  intro q
  induction q with
  | zero =>
    intro n i s hi hn
    obtain ⟨n, rfl⟩ : ∃ m, n = m + 1 := ⟨n - 1, by omega⟩
    unfold m_X0_hoursOf_4
    rw [pk_s hk (by omega), h.eT, if_pos (nI_le (by omega) (by omega))]
    rfl
  | succ q ih =>
    intro n i s hi hn
    obtain ⟨n, rfl⟩ : ∃ m, n = m + 1 := ⟨n - 1, by omega⟩
    unfold m_X0_hoursOf_4
    rw [pk_s hk (by omega), h.eT, if_neg (nI_ge (by omega) (by omega)), c_r4 hk (by omega), sacc_s]
    unfold gH
    by_cases hb : β 4 i = x
    · rw [if_pos hb, if_pos hb, c_r5 hk (by omega), nm_ok, nm_ok, nI_1]
      exact ih n (i + 1) _ (by omega) (by omega)
    · rw [if_neg hb, if_neg hb, nm_ok, nI_1, Int32.add_zero]
      exact ih n (i + 1) _ (by omega) (by omega)
theorem c_hoursOf (hk : k + 12 ≤ 38) (h : Wf T N y β) (x : Int32) : m_X0_hoursOf k (pk σ k β hd) x = some (shoursOf β x, pk σ k β hd) := by
  have hT := h.T20
  unfold m_X0_hoursOf shoursOf
  rw [h.hT]
  exact cl_hoursOf hT hk h x T 200 0 0 (by omega) (by omega)
theorem cl_ended (hT : T ≤ 20) (hk : k + 12 ≤ 38) (h : Wf T N y β) : ∀ (q n i : Nat) (s : Int32), i + q = T → q < n → m_X0_endedTasks_4 k n (pk σ k β hd) s (nI i) = some (sacc (gE β) s i q, pk σ k β hd) := by
  intro q
  induction q with
  | zero =>
    intro n i s hi hn
    obtain ⟨n, rfl⟩ : ∃ m, n = m + 1 := ⟨n - 1, by omega⟩
    unfold m_X0_endedTasks_4
    rw [pk_s hk (by omega), h.eT, if_pos (nI_le (by omega) (by omega))]
    rfl
  | succ q ih =>
    intro n i s hi hn
    obtain ⟨n, rfl⟩ : ∃ m, n = m + 1 := ⟨n - 1, by omega⟩
    unfold m_X0_endedTasks_4
    rw [pk_s hk (by omega), h.eT, if_neg (nI_ge (by omega) (by omega)), c_r5 hk (by omega), sacc_s]
    unfold gE
    by_cases hb : β 5 i = 0
    · rw [if_pos hb, if_pos hb, nm_ok, nm_ok, nI_1]
      exact ih n (i + 1) _ (by omega) (by omega)
    · rw [if_neg hb, if_neg hb, nm_ok, nI_1, Int32.add_zero]
      exact ih n (i + 1) _ (by omega) (by omega)
theorem c_endedTasks (hk : k + 12 ≤ 38) (h : Wf T N y β) : m_X0_endedTasks k (pk σ k β hd) = some (sended β, pk σ k β hd) := by
  have hT := h.T20
  unfold m_X0_endedTasks sended
  rw [h.hT]
  exact cl_ended hT hk h T 200 0 0 (by omega) (by omega)
theorem cl_hoursAll (hT : T ≤ 20) (hk : k + 12 ≤ 38) (h : Wf T N y β) : ∀ (q n i : Nat) (s : Int32), i + q = T → q < n → m_X0_hoursOfAll_4 k n (pk σ k β hd) s (nI i) = some (sacc (β 5) s i q, pk σ k β hd) := by
  intro q
  induction q with
  | zero =>
    intro n i s hi hn
    obtain ⟨n, rfl⟩ : ∃ m, n = m + 1 := ⟨n - 1, by omega⟩
    unfold m_X0_hoursOfAll_4
    rw [pk_s hk (by omega), h.eT, if_pos (nI_le (by omega) (by omega))]
    rfl
  | succ q ih =>
    intro n i s hi hn
    obtain ⟨n, rfl⟩ : ∃ m, n = m + 1 := ⟨n - 1, by omega⟩
    unfold m_X0_hoursOfAll_4
    rw [pk_s hk (by omega), h.eT, if_neg (nI_ge (by omega) (by omega)), c_r5 hk (by omega), nm_ok, nm_ok, nI_1, sacc_s]
    exact ih n (i + 1) _ (by omega) (by omega)
theorem c_hoursOfAll (hk : k + 12 ≤ 38) (h : Wf T N y β) : m_X0_hoursOfAll k (pk σ k β hd) = some (shours β, pk σ k β hd) := by
  have hT := h.T20
  unfold m_X0_hoursOfAll shours
  rw [h.hT]
  exact cl_hoursAll hT hk h T 200 0 0 (by omega) (by omega)
theorem cl_gone (hk : k + 12 ≤ 38) : ∀ (q n i : Nat) (s : Int32), i + q = 8 → q < n → m_X0_goneOfAll_4 k n (pk σ k β hd) s (nI i) = some (sacc (β 2) s i q, pk σ k β hd) := by
  intro q
  induction q with
  | zero =>
    intro n i s hi hn
    obtain ⟨n, rfl⟩ : ∃ m, n = m + 1 := ⟨n - 1, by omega⟩
    unfold m_X0_goneOfAll_4
    rw [show (8 : Int32) = nI 8 from rfl, if_pos (nI_le (by omega) (by omega))]
    rfl
  | succ q ih =>
    intro n i s hi hn
    obtain ⟨n, rfl⟩ : ∃ m, n = m + 1 := ⟨n - 1, by omega⟩
    unfold m_X0_goneOfAll_4
    rw [show (8 : Int32) = nI 8 from rfl, if_neg (nI_ge (by omega) (by omega)), c_r2 hk (by omega), nm_ok, nm_ok, nI_1, sacc_s]
    exact ih n (i + 1) _ (by omega) (by omega)
theorem c_goneOfAll (hk : k + 12 ≤ 38) : m_X0_goneOfAll k (pk σ k β hd) = some (slives β, pk σ k β hd) := by
  unfold m_X0_goneOfAll slives
  exact cl_gone hk 8 200 0 0 (by omega) (by omega)
theorem rl_sumOf0 (hT : T ≤ 20) (h : Wf T N y β) (x : Int32) : ∀ (q n i : Nat) (s : Int32), i + q = T → q < n → m_X7_sumOf_5 n (pm σ β) x 0 s (nI i) = some (sacc (gT β x) s i q, pm σ β) := by
  intro q
  induction q with
  | zero =>
    intro n i s hi hn
    obtain ⟨n, rfl⟩ : ∃ m, n = m + 1 := ⟨n - 1, by omega⟩
    unfold m_X7_sumOf_5
    rw [r_T, h.eT, if_pos (nI_le (by omega) (by omega))]
    rfl
  | succ q ih =>
    intro n i s hi hn
    obtain ⟨n, rfl⟩ : ∃ m, n = m + 1 := ⟨n - 1, by omega⟩
    unfold m_X7_sumOf_5
    rw [r_T, h.eT, if_neg (nI_ge (by omega) (by omega)), r_t1 (by omega), cl_ok, sacc_s]
    unfold gT
    by_cases hb : β 4 i = x
    · rw [if_pos hb, if_pos hb, if_pos rfl, nm_ok, nm_ok, nI_1]
      exact ih n (i + 1) _ (by omega) (by omega)
    · rw [if_neg hb, if_neg hb, nm_ok, nm_ok, nI_1]
      exact ih n (i + 1) _ (by omega) (by omega)
theorem r_sumOf0 (h : Wf T N y β) (x : Int32) : m_X7_sumOf (pm σ β) x 0 = some (stasks β x, pm σ β) := by
  have hT := h.T20
  unfold m_X7_sumOf stasks
  rw [h.hT]
  exact rl_sumOf0 hT h x T 200 0 0 (by omega) (by omega)
theorem rl_sumOf1 (hT : T ≤ 20) (h : Wf T N y β) (x : Int32) : ∀ (q n i : Nat) (s : Int32), i + q = T → q < n → m_X7_sumOf_5 n (pm σ β) x 1 s (nI i) = some (sacc (gH β x) s i q, pm σ β) := by
  intro q
  induction q with
  | zero =>
    intro n i s hi hn
    obtain ⟨n, rfl⟩ : ∃ m, n = m + 1 := ⟨n - 1, by omega⟩
    unfold m_X7_sumOf_5
    rw [r_T, h.eT, if_pos (nI_le (by omega) (by omega))]
    rfl
  | succ q ih =>
    intro n i s hi hn
    obtain ⟨n, rfl⟩ : ∃ m, n = m + 1 := ⟨n - 1, by omega⟩
    unfold m_X7_sumOf_5
    rw [r_T, h.eT, if_neg (nI_ge (by omega) (by omega)), r_t1 (by omega), cl_ok, sacc_s]
    unfold gH
    by_cases hb : β 4 i = x
    · rw [if_pos hb, if_pos hb, if_neg n10, r_t2 (by omega), cl_ok, nm_ok, nm_ok, nI_1]
      exact ih n (i + 1) _ (by omega) (by omega)
    · rw [if_neg hb, if_neg hb, nm_ok, nm_ok, nI_1]
      exact ih n (i + 1) _ (by omega) (by omega)
theorem r_sumOf1 (h : Wf T N y β) (x : Int32) : m_X7_sumOf (pm σ β) x 1 = some (shoursOf β x, pm σ β) := by
  have hT := h.T20
  unfold m_X7_sumOf shoursOf
  rw [h.hT]
  exact rl_sumOf1 hT h x T 200 0 0 (by omega) (by omega)
theorem rl_unended (hT : T ≤ 20) (h : Wf T N y β) : ∀ (q n i : Nat) (s : Int32), i + q = T → q < n → m_X7_unended_4 n (pm σ β) s (nI i) = some (sacc (gU β) s i q, pm σ β) := by
  intro q
  induction q with
  | zero =>
    intro n i s hi hn
    obtain ⟨n, rfl⟩ : ∃ m, n = m + 1 := ⟨n - 1, by omega⟩
    unfold m_X7_unended_4
    rw [r_T, h.eT, if_pos (nI_le (by omega) (by omega))]
    rfl
  | succ q ih =>
    intro n i s hi hn
    obtain ⟨n, rfl⟩ : ∃ m, n = m + 1 := ⟨n - 1, by omega⟩
    unfold m_X7_unended_4
    rw [r_T, h.eT, if_neg (nI_ge (by omega) (by omega)), r_ended (by omega), cl_ok, sacc_s]
    unfold gU
    by_cases hb : β 5 i = 0
    · rw [if_pos (show se β i = true by simp [se, hb]), if_neg n10, if_pos hb, nm_ok, nm_ok, nI_1]
      exact ih n (i + 1) _ (by omega) (by omega)
    · rw [if_neg (show ¬ se β i = true by simp [se, hb]), if_pos rfl, if_neg hb, nm_ok, nm_ok, nI_1]
      exact ih n (i + 1) _ (by omega) (by omega)
theorem r_unended (h : Wf T N y β) : m_X7_unended (pm σ β) = some (sunended β, pm σ β) := by
  have hT := h.T20
  unfold m_X7_unended sunended
  rw [h.hT]
  exact rl_unended hT h T 200 0 0 (by omega) (by omega)
theorem rl_hours (hT : T ≤ 20) (h : Wf T N y β) : ∀ (q n i : Nat) (s : Int32), i + q = T → q < n → m_X7_hours_4 n (pm σ β) s (nI i) = some (sacc (β 5) s i q, pm σ β) := by
  intro q
  induction q with
  | zero =>
    intro n i s hi hn
    obtain ⟨n, rfl⟩ : ∃ m, n = m + 1 := ⟨n - 1, by omega⟩
    unfold m_X7_hours_4
    rw [r_T, h.eT, if_pos (nI_le (by omega) (by omega))]
    rfl
  | succ q ih =>
    intro n i s hi hn
    obtain ⟨n, rfl⟩ : ∃ m, n = m + 1 := ⟨n - 1, by omega⟩
    unfold m_X7_hours_4
    rw [r_T, h.eT, if_neg (nI_ge (by omega) (by omega)), r_t2 (by omega), cl_ok, nm_ok, nm_ok, nI_1, sacc_s]
    exact ih n (i + 1) _ (by omega) (by omega)
theorem r_hours (h : Wf T N y β) : m_X7_hours (pm σ β) = some (shours β, pm σ β) := by
  have hT := h.T20
  unfold m_X7_hours shours
  rw [h.hT]
  exact rl_hours hT h T 200 0 0 (by omega) (by omega)
theorem rl_lives  : ∀ (q n i : Nat) (s : Int32), i + q = 8 → q < n → m_X7_allLives_4 n (pm σ β) s (nI i) = some (sacc (β 2) s i q, pm σ β) := by
  intro q
  induction q with
  | zero =>
    intro n i s hi hn
    obtain ⟨n, rfl⟩ : ∃ m, n = m + 1 := ⟨n - 1, by omega⟩
    unfold m_X7_allLives_4
    rw [show (8 : Int32) = nI 8 from rfl, if_pos (nI_le (by omega) (by omega))]
    rfl
  | succ q ih =>
    intro n i s hi hn
    obtain ⟨n, rfl⟩ : ∃ m, n = m + 1 := ⟨n - 1, by omega⟩
    unfold m_X7_allLives_4
    rw [show (8 : Int32) = nI 8 from rfl, if_neg (nI_ge (by omega) (by omega)), xn1, r_rd (f := 2) (show i < 8 by omega), nm_ok, nm_ok, nI_1, sacc_s]
    exact ih n (i + 1) _ (by omega) (by omega)
theorem r_allLives : m_X7_allLives (pm σ β) = some (slives β, pm σ β) := by
  unfold m_X7_allLives slives
  exact rl_lives 8 200 0 0 (by omega) (by omega)
theorem rl_worth (h : Wf T N y β) : ∀ (q n i : Nat) (s : Int32), i + q = 8 → q < n → m_X7_endedWorth_4 n (pm σ β) s (nI i) = some (sacc (gW β) s i q, pm σ β) := by
  intro q
  induction q with
  | zero =>
    intro n i s hi hn
    obtain ⟨n, rfl⟩ : ∃ m, n = m + 1 := ⟨n - 1, by omega⟩
    unfold m_X7_endedWorth_4
    rw [show (8 : Int32) = nI 8 from rfl, if_pos (nI_le (by omega) (by omega))]
    rfl
  | succ q ih =>
    intro n i s hi hn
    obtain ⟨n, rfl⟩ : ∃ m, n = m + 1 := ⟨n - 1, by omega⟩
    unfold m_X7_endedWorth_4
    rw [show (8 : Int32) = nI 8 from rfl, if_neg (nI_ge (by omega) (by omega)), r_sumOf0 h, cl_ok, sacc_s]
    unfold gW
    by_cases h0 : stasks β (nI i) ≤ 0
    · rw [if_pos h0, if_neg (by grind), nm_ok, nm_ok, nI_1]
      exact ih n (i + 1) _ (by omega) (by omega)
    · rw [if_neg h0, r_open h, cl_ok]
      by_cases ho : sopen β (nI i) = true
      · rw [if_pos ho, if_neg n10, if_neg (by grind), nm_ok, nm_ok, nI_1]
        exact ih n (i + 1) _ (by omega) (by omega)
      · rw [if_neg ho, if_pos rfl, xn0, r_rd (f := 1) (show i < 8 by omega), if_pos (by grind), nm_ok, nm_ok, nI_1]
        exact ih n (i + 1) _ (by omega) (by omega)
theorem r_endedWorth (h : Wf T N y β) : m_X7_endedWorth (pm σ β) = some (sworth β, pm σ β) := by
  unfold m_X7_endedWorth sworth
  exact rl_worth h 8 200 0 0 (by omega) (by omega)
theorem sum_eu : ∀ (q i : Nat) (a b : Int32), sacc (gE β) a i q + sacc (gU β) b i q = a + b + nI q := by
  intro q
  induction q with
  | zero => intro i a b; show a + b = a + b + 0; grind
  | succ q ih =>
    intro i a b
    rw [sacc_s, sacc_s, ih, ← nI_1]
    unfold gE gU
    by_cases h : β 5 i = 0
    · rw [if_pos h, if_pos h]
      grind
    · rw [if_neg h, if_neg h]
      grind
theorem ended_un (h : Wf T N y β) : nI T - sunended β = sended β := by
  have := sum_eu (β := β) T 0 0 0
  unfold sunended sended
  rw [h.hT]
  grind
theorem r_ended2 (h : Wf T N y β) : m_X7_ended (pm σ β) = some (sended β, pm σ β) := by
  unfold m_X7_ended
  rw [r_T, r_unended h, cl_ok, h.eT, ended_un h]
/-- the count of a name's tasks, as a number -/
theorem sacc_cnt {g : Nat → Bool} : ∀ (q i a : Nat), ∃ c, c ≤ q ∧ sacc (fun t => if g t = true then 1 else 0) (nI a) i q = nI (a + c) ∧ (0 < c ↔ sany g i q = true) := by
  intro q
  induction q with
  | zero => intro i a; exact ⟨0, by omega, rfl, by simp [sany]⟩
  | succ q ih =>
    intro i a
    rw [sacc_s]
    by_cases h : g i = true
    · rw [if_pos h, nI_1]
      obtain ⟨c, h1, h2, h3⟩ := ih (i + 1) (a + 1)
      exact ⟨c + 1, by omega, by rw [h2]; congr 1; omega, by rw [sany_t h]; simp⟩
    · rw [if_neg h, Int32.add_zero]
      obtain ⟨c, h1, h2, h3⟩ := ih (i + 1) a
      exact ⟨c, by omega, h2, by rw [sany_f (by simpa using h)]; exact h3⟩
def sowns (β : zw_S) (x : Int32) : Bool := sany (fun t => decide (β 4 t = x)) 0 (tn β)
theorem stasks_pos (h : Wf T N y β) (x : Int32) : 0 < stasks β x ↔ sowns β x = true := by
  have hT := h.T20
  obtain ⟨c, h1, h2, h3⟩ := sacc_cnt (g := fun t => decide (β 4 t = x)) T 0 0
  unfold stasks sowns
  rw [h.hT, ← h3]
  have e : sacc (gT β x) 0 0 T = sacc (fun t => if (decide (β 4 t = x)) = true then 1 else 0) (nI 0) 0 T := sacc_congr T 0 0 (fun t _ _ => by simp [gT])
  rw [e, h2, Nat.zero_add, show (0 : Int32) = nI 0 from rfl, nI_ltI (by omega) (by omega)]
/-- the set of names that have a task -/
def sownset (β : zw_S) (s : Int32) (i q : Nat) : Int32 := (List.range' i q).foldl (fun s t => s ||| (1 <<< (β 4 t &&& 31))) s
theorem sownset_s {s : Int32} {i q : Nat} : sownset β s i (q + 1) = sownset β (s ||| (1 <<< (β 4 i &&& 31))) (i + 1) q := by
  unfold sownset
  rw [List.range'_succ, List.foldl_cons]
theorem sownset_bt (h : Wf T N y β) {o : Nat} (ho : o < 32) : ∀ q i s, i + q = T → bt (sownset β s i q) o = (bt s o || sany (fun t => decide (β 4 t = nI o)) i q) := by
  intro q
  induction q with
  | zero => intro i s _; simp [sownset, sany]
  | succ q ih =>
    intro i s hi
    obtain ⟨a, ha, e⟩ := h.own (t := i) (by omega)
    rw [sownset_s, ih (i + 1) _ (by omega), sany_s, b_or, e, b_one (by omega) ho]
    have : (decide (nI a = nI o)) = decide (o = a) := by
      by_cases hq : o = a
      · subst hq; simp
      · rw [decide_eq_false hq, decide_eq_false (fun z => hq ((nI_eq (by omega) (by omega)).mp z).symm)]
    rw [this, Bool.or_assoc]
theorem cl_worthOf (hk : k + 12 ≤ 38) (S : Int32) : ∀ (q n i : Nat) (s : Int32), i + q = 8 → q < n → m_X0_worthOf_4 k n (pk σ k β hd) S s (nI i) = some (sacc (fun j => if bt S j = true then β 1 j else 0) s i q, pk σ k β hd) := by
  intro q
  induction q with
  | zero =>
    intro n i s hi hn
    obtain ⟨n, rfl⟩ : ∃ m, n = m + 1 := ⟨n - 1, by omega⟩
    unfold m_X0_worthOf_4
    rw [show (8 : Int32) = nI 8 from rfl, if_pos (nI_le (by omega) (by omega))]
    rfl
  | succ q ih =>
    intro n i s hi hn
    obtain ⟨n, rfl⟩ : ∃ m, n = m + 1 := ⟨n - 1, by omega⟩
    unfold m_X0_worthOf_4
    rw [show (8 : Int32) = nI 8 from rfl, if_neg (nI_ge (by omega) (by omega)), sacc_s]
    by_cases hb : bt S i = true
    · rw [if_pos ((b_is (by omega)).mpr hb), if_pos hb, c_r1 hk (by omega), nm_ok, nm_ok, nI_1]
      exact ih n (i + 1) _ (by omega) (by omega)
    · rw [if_neg (fun z => hb ((b_is (by omega)).mp z)), if_neg hb, nm_ok, nI_1, Int32.add_zero]
      exact ih n (i + 1) _ (by omega) (by omega)
theorem b_not {x : Int32} {i : Nat} (hi : i < 32) : bt (x ^^^ (-1)) i = !bt x i := by
  rw [b_xor, b_m1 i hi, Bool.xor_true]
theorem c_endedWorth (hk : k + 12 ≤ 38) (h : Wf T N y β) : m_X0_endedWorth k (pk σ k β hd) = some (sworth β, pk σ k β hd) := by
  have hT := h.T20
  have key : ∀ (q n i : Nat) (s : Int32), i + q = T → q < n → m_X0_endedWorth_4 k n (pk σ k β hd) s (nI i) = m_X0_endedWorth_29 k (pk σ k β hd) (sownset β s i q) := by
    intro q
    induction q with
    | zero =>
      intro n i s hi hn
      obtain ⟨n, rfl⟩ : ∃ m, n = m + 1 := ⟨n - 1, by omega⟩
      unfold m_X0_endedWorth_4
      rw [pk_s hk (by omega), h.eT, if_pos (nI_le (by omega) (by omega))]
      rfl
    | succ q ih =>
      intro n i s hi hn
      obtain ⟨n, rfl⟩ : ∃ m, n = m + 1 := ⟨n - 1, by omega⟩
      unfold m_X0_endedWorth_4
      rw [pk_s hk (by omega), h.eT, if_neg (nI_ge (by omega) (by omega)), c_r4 hk (by omega), nm_ok, nm_ok, nI_1, sownset_s]
      exact ih n (i + 1) _ (by omega) (by omega)
  unfold m_X0_endedWorth
  have hw : ∀ S, m_X0_worthOf k (pk σ k β hd) S = some (sacc (fun j => if bt S j = true then β 1 j else 0) 0 0 8, pk σ k β hd) := fun S => by
    unfold m_X0_worthOf
    exact cl_worthOf hk S 8 200 0 0 (by omega) (by omega)
  have hk2 : m_X0_endedWorth_4 k 200 (pk σ k β hd) 0 0 = m_X0_endedWorth_29 k (pk σ k β hd) (sownset β 0 0 T) := key T 200 0 0 (by omega) (by omega)
  rw [hk2]
  unfold m_X0_endedWorth_29
  have hs : sacc (fun j => if bt (sownset β 0 0 T &&& (sopens β ^^^ (-1))) j = true then β 1 j else 0) 0 0 8 = sacc (gW β) 0 0 8 := by
    refine sacc_congr 8 0 0 (fun o _ ho => ?_)
    unfold gW
    have hb : bt (sownset β 0 0 T &&& (sopens β ^^^ (-1))) o = (sowns β (nI o) && !sopen β (nI o)) := by
      rw [b_and, b_not (by omega), sopens_bt h (by omega), sownset_bt h (by omega) T 0 0 (by omega), b_0, Bool.false_or]
      unfold sowns
      rw [h.hT]
    rw [hb]
    by_cases h1 : sowns β (nI o) = true
    · have := (stasks_pos h (nI o)).mpr h1
      by_cases h2 : sopen β (nI o) = true
      · simp [h1, h2]
      · simp [h1, h2, this]
    · have : ¬ 0 < stasks β (nI o) := fun z => h1 ((stasks_pos h (nI o)).mp z)
      simp [h1, this]
  rw [c_openNames hk h, cl_ok, hw, cl_ok, hs]
  rfl
theorem c_handOf (hk : k + 12 ≤ 38) (h : Wf T N y β) (x : Int32) : m_X0_handOf k (pk σ k β hd) x = some (shand β x, pk σ k β hd) := by
  have hT := h.T20
  have key : ∀ (q n i : Nat), i + q = T → q < n → m_X0_handOf_2 k n (pk σ k β hd) x (nI i) = some (sfind (fun t => decide (β 4 t = x) && sat β t) i q, pk σ k β hd) := by
    intro q
    induction q with
    | zero =>
      intro n i hi hn
      obtain ⟨n, rfl⟩ : ∃ m, n = m + 1 := ⟨n - 1, by omega⟩
      unfold m_X0_handOf_2
      rw [pk_s hk (by omega), h.eT, if_pos (nI_le (by omega) (by omega)), sfind_0]
    | succ q ih =>
      intro n i hi hn
      obtain ⟨n, rfl⟩ : ∃ m, n = m + 1 := ⟨n - 1, by omega⟩
      unfold m_X0_handOf_2
      rw [pk_s hk (by omega), h.eT, if_neg (nI_ge (by omega) (by omega)), c_r4 hk (by omega), sfind_s]
      by_cases hb : β 4 i = x
      · rw [if_pos hb, c_atHand hk h (by omega), cl_ok]
        by_cases hs : sat β i = true
        · rw [if_pos hs, if_neg n10, if_pos (by simp [hb, hs])]
        · rw [if_neg hs, if_pos rfl, if_neg (by simp [hs]), nm_ok, nI_1]
          exact ih n (i + 1) (by omega) (by omega)
      · rw [if_neg hb, if_neg (by simp [hb]), nm_ok, nI_1]
        exact ih n (i + 1) (by omega) (by omega)
  unfold m_X0_handOf shand
  rw [h.hT]
  exact key T 200 0 (by omega) (by omega)
theorem or0 {x : Int32} : x ||| 0 = x := by
  apply b_ext
  intro i hi
  rw [b_or, b_0, Bool.or_false]
theorem r_openNames (h : Wf T N y β) : m_X7_openNames (pm σ β) = some (sopens β, pm σ β) := by
  have key : ∀ (q n i : Nat) (s : Int32), i + q = 8 → q < n → ∃ S, m_X7_openNames_4 n (pm σ β) s (nI i) = some (S, pm σ β) ∧ ∀ o, o < 32 → bt S o = (bt s o || (decide (i ≤ o ∧ o < 8) && sopen β (nI o))) := by
    intro q
    induction q with
    | zero =>
      intro n i s hi hn
      obtain ⟨n, rfl⟩ : ∃ m, n = m + 1 := ⟨n - 1, by omega⟩
      refine ⟨s, ?_, fun o ho => ?_⟩
      · unfold m_X7_openNames_4
        rw [show (8 : Int32) = nI 8 from rfl, if_pos (nI_le (by omega) (by omega))]
      · rw [decide_eq_false (by omega), Bool.false_and, Bool.or_false]
    | succ q ih =>
      intro n i s hi hn
      obtain ⟨n, rfl⟩ : ∃ m, n = m + 1 := ⟨n - 1, by omega⟩
      unfold m_X7_openNames_4
      rw [show (8 : Int32) = nI 8 from rfl, if_neg (nI_ge (by omega) (by omega)), r_open h, cl_ok]
      by_cases ho : sopen β (nI i) = true
      · rw [if_pos ho, if_neg n10, nm_ok, nm_ok, nI_1]
        obtain ⟨S, e1, e2⟩ := ih n (i + 1) (s ||| (1 <<< (nI i &&& 31))) (by omega) (by omega)
        refine ⟨S, e1, fun o ho2 => ?_⟩
        rw [e2 o ho2, b_or, b_one (by omega) ho2]
        by_cases hoi : o = i
        · subst hoi
          simp [ho, show o < 8 by omega]
        · have : decide (i + 1 ≤ o ∧ o < 8) = decide (i ≤ o ∧ o < 8) := by
            rw [decide_eq_decide]
            omega
          rw [this]
          simp [hoi]
      · rw [if_neg ho, if_pos rfl, nm_ok, nm_ok, nI_1, or0]
        obtain ⟨S, e1, e2⟩ := ih n (i + 1) s (by omega) (by omega)
        refine ⟨S, e1, fun o ho2 => ?_⟩
        rw [e2 o ho2]
        by_cases hoi : o = i
        · subst hoi
          simp [ho]
        · have : decide (i + 1 ≤ o ∧ o < 8) = decide (i ≤ o ∧ o < 8) := by
            rw [decide_eq_decide]
            omega
          rw [this]
  obtain ⟨S, e1, e2⟩ := key 8 200 0 0 (by omega) (by omega)
  unfold m_X7_openNames
  rw [show (0 : Int32) = nI 0 from rfl] at e1 ⊢
  rw [e1]
  congr 2
  apply b_ext
  intro o ho
  rw [e2 o ho, sopens_bt h ho, b_0, Bool.false_or]
  by_cases h8 : o < 8
  · simp [h8]
  · rw [decide_eq_false (by omega), Bool.false_and]
    have : sopen β (nI o) = false := by
      unfold sopen sany
      rw [List.any_eq_false]
      intro t ht
      rw [h.hT, List.mem_range'_1] at ht
      obtain ⟨a, ha, e⟩ := h.own (t := t) (by omega)
      rw [e]
      simp
      intro z
      exact absurd ((nI_eq (by omega) (by omega)).mp z) (by omega)
    rw [this]
end S1
