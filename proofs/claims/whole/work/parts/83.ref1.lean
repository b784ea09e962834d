/-! reads and writes at places that are numbers -/
theorem zi_nI {i n : Nat} (h : i < n) (hn : n ≤ 1000) : zi (nI i) n = true := by
  simp only [zi, Bool.and_eq_true, Bool.not_eq_true', decide_eq_false_iff_not, decide_eq_true_eq]
  exact ⟨nI_pos (by omega), by rw [nI_clamp (by omega)]; exact h⟩
theorem rd_i {α : Type} {σ : zw_S} {k n i : Nat} {F : Int32 → Option α} (h : i < n) (hn : n ≤ 1000) : rd σ k n (nI i) F = F (σ k i) := by
  unfold rd
  rw [if_pos (zi_nI h hn), nI_clamp (by omega)]
theorem wt_i {α : Type} {σ : zw_S} {k n i : Nat} {v : Int32} {F : zw_S → Option α} (h : i < n) (hn : n ≤ 1000) : wt σ k n (nI i) v F = F (zw_wr σ k i v) := by
  unfold wt
  rw [if_pos (zi_nI h hn), nI_clamp (by omega)]
theorem cl_ok {α : Type} {r : Int32} {σ : zw_S} {f : Int32 → zw_S → Option α} : cl (some (r, σ)) f = f r σ := rfl
theorem cv_ok {α : Type} {σ : zw_S} {f : zw_S → Option α} : cv (some σ) f = f σ := rfl
theorem nm_ok {α β : Type} {x : α} {f : α → Option β} : nm x f = f x := rfl
theorem tt_ok {α : Type} {b : Bool} {o : Option α} (h : b = true) : tt b o = o := by rw [h]; rfl
/-- a book that is as it should be: T tasks, N persons, year y -/
def Wf (T N y : Nat) (β : zw_S) : Prop :=
  T ≤ 20 ∧ N ≤ 8 ∧ y ≤ 5000 ∧ β 0 2 = nI T ∧ β 0 3 = nI N ∧ β 0 0 = nI y ∧ (∀ i, i < 8 → 0 ≤ β 1 i ∧ β 1 i ≤ 99)
  ∧ (∀ t, t < T → (∃ k, k < 7 ∧ β 3 t = nI k) ∧ (∃ o, o < 8 ∧ β 4 t = nI o) ∧ (∃ h, h < 1000 ∧ β 5 t = nI h) ∧ (β 6 t = -1 ∨ ∃ n, n < T ∧ β 6 t = nI n))
  ∧ (∀ p, p < N → (β 7 p = -1 ∨ ∃ o, o < 8 ∧ β 7 p = nI o) ∧ (∃ a, a ≤ 40 ∧ β 8 p = nI a) ∧ (∃ h, 1 ≤ h ∧ h ≤ 9 ∧ β 9 p = nI h) ∧ (β 10 p = -1 ∨ ∃ q, q < N ∧ β 10 p = nI q))
  ∧ (∀ p q, p < N → q < N → β 7 p = β 7 q → β 7 p ≠ -1 → p = q)
  ∧ (∀ i, i < 10 → β 11 i = -1 ∨ ∃ t, t < T ∧ β 11 i = nI t) ∧ Cp β
def tn (β : zw_S) : Nat := (β 0 2).toNatClampNeg
def pn (β : zw_S) : Nat := (β 0 3).toNatClampNeg
theorem Wf.T20 {T N y : Nat} {β : zw_S} (h : Wf T N y β) : T ≤ 20 := h.1
theorem Wf.N8 {T N y : Nat} {β : zw_S} (h : Wf T N y β) : N ≤ 8 := h.2.1
theorem Wf.hy5 {T N y : Nat} {β : zw_S} (h : Wf T N y β) : y ≤ 5000 := h.2.2.1
theorem Wf.eT {T N y : Nat} {β : zw_S} (h : Wf T N y β) : β 0 2 = nI T := h.2.2.2.1
theorem Wf.eN {T N y : Nat} {β : zw_S} (h : Wf T N y β) : β 0 3 = nI N := h.2.2.2.2.1
theorem Wf.eY {T N y : Nat} {β : zw_S} (h : Wf T N y β) : β 0 0 = nI y := h.2.2.2.2.2.1
theorem Wf.worth {T N y : Nat} {β : zw_S} (h : Wf T N y β) {i : Nat} (hi : i < 8) : 0 ≤ β 1 i ∧ β 1 i ≤ 99 := h.2.2.2.2.2.2.1 i hi
theorem Wf.kind {T N y : Nat} {β : zw_S} (h : Wf T N y β) {t : Nat} (ht : t < T) : ∃ k, k < 7 ∧ β 3 t = nI k := (h.2.2.2.2.2.2.2.1 t ht).1
theorem Wf.own {T N y : Nat} {β : zw_S} (h : Wf T N y β) {t : Nat} (ht : t < T) : ∃ k, k < 8 ∧ β 4 t = nI k := (h.2.2.2.2.2.2.2.1 t ht).2.1
theorem Wf.hrs {T N y : Nat} {β : zw_S} (h : Wf T N y β) {t : Nat} (ht : t < T) : ∃ k, k < 1000 ∧ β 5 t = nI k := (h.2.2.2.2.2.2.2.1 t ht).2.2.1
theorem Wf.need {T N y : Nat} {β : zw_S} (h : Wf T N y β) {t : Nat} (ht : t < T) : β 6 t = -1 ∨ ∃ n, n < T ∧ β 6 t = nI n := (h.2.2.2.2.2.2.2.1 t ht).2.2.2
theorem Wf.name {T N y : Nat} {β : zw_S} (h : Wf T N y β) {p : Nat} (hp : p < N) : β 7 p = -1 ∨ ∃ o, o < 8 ∧ β 7 p = nI o := (h.2.2.2.2.2.2.2.2.1 p hp).1
theorem Wf.age {T N y : Nat} {β : zw_S} (h : Wf T N y β) {p : Nat} (hp : p < N) : ∃ a, a ≤ 40 ∧ β 8 p = nI a := (h.2.2.2.2.2.2.2.2.1 p hp).2.1
theorem Wf.hnd {T N y : Nat} {β : zw_S} (h : Wf T N y β) {p : Nat} (hp : p < N) : ∃ a, 1 ≤ a ∧ a ≤ 9 ∧ β 9 p = nI a := (h.2.2.2.2.2.2.2.2.1 p hp).2.2.1
theorem Wf.help {T N y : Nat} {β : zw_S} (h : Wf T N y β) {p : Nat} (hp : p < N) : β 10 p = -1 ∨ ∃ q, q < N ∧ β 10 p = nI q := (h.2.2.2.2.2.2.2.2.1 p hp).2.2.2
theorem Wf.inj {T N y : Nat} {β : zw_S} (h : Wf T N y β) {p q : Nat} (hp : p < N) (hq : q < N) (e : β 7 p = β 7 q) (n : β 7 p ≠ -1) : p = q := h.2.2.2.2.2.2.2.2.2.1 p q hp hq e n
theorem Wf.spot {T N y : Nat} {β : zw_S} (h : Wf T N y β) {i : Nat} (hi : i < 10) : β 11 i = -1 ∨ ∃ t, t < T ∧ β 11 i = nI t := h.2.2.2.2.2.2.2.2.2.2.1 i hi
theorem Wf.cp {T N y : Nat} {β : zw_S} (h : Wf T N y β) : Cp β := h.2.2.2.2.2.2.2.2.2.2.2
theorem Wf.hT {T N y : Nat} {β : zw_S} (h : Wf T N y β) : tn β = T := by
  unfold tn
  rw [h.eT, nI_clamp (by have := h.1; omega)]
theorem Wf.hN {T N y : Nat} {β : zw_S} (h : Wf T N y β) : pn β = N := by
  unfold pn
  rw [h.eN, nI_clamp (by have := h.2.1; omega)]
/-! what the words mean -/
def sfind (q : Nat → Bool) (i k : Nat) : Int32 := match (List.range' i k).find? q with
  | some p => nI p
  | none => -1
theorem sfind_0 {q : Nat → Bool} {i : Nat} : sfind q i 0 = -1 := rfl
theorem sfind_s {q : Nat → Bool} {i k : Nat} : sfind q i (k + 1) = if q i = true then nI i else sfind q (i + 1) k := by
  unfold sfind
  rw [List.range'_succ, List.find?_cons]
  cases q i <;> rfl
def sany (q : Nat → Bool) (i k : Nat) : Bool := (List.range' i k).any q
theorem sany_0 {q : Nat → Bool} {i : Nat} : sany q i 0 = false := rfl
theorem sany_s {q : Nat → Bool} {i k : Nat} : sany q i (k + 1) = (q i || sany q (i + 1) k) := by
  unfold sany
  rw [List.range'_succ, List.any_cons]
theorem sany_t {q : Nat → Bool} {i k : Nat} (h : q i = true) : sany q i (k + 1) = true := by rw [sany_s, h, Bool.true_or]
theorem sany_f {q : Nat → Bool} {i k : Nat} (h : q i = false) : sany q i (k + 1) = sany q (i + 1) k := by rw [sany_s, h, Bool.false_or]
def se (β : zw_S) (t : Nat) : Bool := decide (β 5 t = 0)
def sbear (β : zw_S) (x : Int32) : Int32 := sfind (fun p => decide (β 7 p = x)) 0 (pn β)
def sopen (β : zw_S) (x : Int32) : Bool := sany (fun t => decide (β 4 t = x) && !se β t) 0 (tn β)
def sat (β : zw_S) (t : Nat) : Bool := !se β t && (decide (β 6 t < 0) || se β (β 6 t).toNatClampNeg)
def shand (β : zw_S) (x : Int32) : Int32 := sfind (fun t => decide (β 4 t = x) && sat β t) 0 (tn β)
/-! the reference's small methods -/
section R1
variable {σ β : zw_S} {T N y : Nat}
theorem ix_t {t w : Nat} : (20 + 4 * nI t) + nI w = nI (20 + 4 * t + w) := by
  rw [show (20 : Int32) = nI 20 from rfl, show (4 : Int32) = nI 4 from rfl, pk_mul, nI_add, nI_add]
theorem ix_p {t w : Nat} : (100 + 4 * nI t) + nI w = nI (100 + 4 * t + w) := by
  rw [show (100 : Int32) = nI 100 from rfl, show (4 : Int32) = nI 4 from rfl, pk_mul, nI_add, nI_add]
theorem r_task0 {t w : Nat} (ht : t < 20) (hw : w < 4) : m_X7_task0 (pm σ β) (nI t) (nI w) = some (β (3 + w) t, pm σ β) := by
  unfold m_X7_task0
  rw [ix_t, rd_i (by omega) (by omega), pm_at, em_t ht hw]
theorem r_person0 {p w : Nat} (hp : p < 8) (hw : w < 4) : m_X7_person0 (pm σ β) (nI p) (nI w) = some (β (7 + w) p, pm σ β) := by
  unfold m_X7_person0
  rw [ix_p, rd_i (by omega) (by omega), pm_at, em_p hp hw]
theorem r_t0 {t : Nat} (ht : t < 20) : m_X7_task0 (pm σ β) (nI t) 0 = some (β 3 t, pm σ β) := r_task0 (w := 0) ht (by omega)
theorem r_t1 {t : Nat} (ht : t < 20) : m_X7_task0 (pm σ β) (nI t) 1 = some (β 4 t, pm σ β) := r_task0 (w := 1) ht (by omega)
theorem r_t2 {t : Nat} (ht : t < 20) : m_X7_task0 (pm σ β) (nI t) 2 = some (β 5 t, pm σ β) := r_task0 (w := 2) ht (by omega)
theorem r_t3 {t : Nat} (ht : t < 20) : m_X7_task0 (pm σ β) (nI t) 3 = some (β 6 t, pm σ β) := r_task0 (w := 3) ht (by omega)
theorem r_p0 {p : Nat} (hp : p < 8) : m_X7_person0 (pm σ β) (nI p) 0 = some (β 7 p, pm σ β) := r_person0 (w := 0) hp (by omega)
theorem r_p1 {p : Nat} (hp : p < 8) : m_X7_person0 (pm σ β) (nI p) 1 = some (β 8 p, pm σ β) := r_person0 (w := 1) hp (by omega)
theorem r_p2 {p : Nat} (hp : p < 8) : m_X7_person0 (pm σ β) (nI p) 2 = some (β 9 p, pm σ β) := r_person0 (w := 2) hp (by omega)
theorem r_p3 {p : Nat} (hp : p < 8) : m_X7_person0 (pm σ β) (nI p) 3 = some (β 10 p, pm σ β) := r_person0 (w := 3) hp (by omega)
theorem r_y {α : Type} {F : Int32 → Option α} : rd (pm σ β) 58 142 0 F = F (β 0 0) := by
  rw [show (0 : Int32) = nI 0 from rfl, rd_i (by omega) (by omega), pm_at, em_0 (by omega)]
theorem r_z {α : Type} {F : Int32 → Option α} : rd (pm σ β) 58 142 1 F = F (β 0 1) := by
  rw [show (1 : Int32) = nI 1 from rfl, rd_i (by omega) (by omega), pm_at, em_0 (by omega)]
theorem r_T {α : Type} {F : Int32 → Option α} : rd (pm σ β) 58 142 2 F = F (β 0 2) := by
  rw [show (2 : Int32) = nI 2 from rfl, rd_i (by omega) (by omega), pm_at, em_0 (by omega)]
theorem r_N {α : Type} {F : Int32 → Option α} : rd (pm σ β) 58 142 3 F = F (β 0 3) := by
  rw [show (3 : Int32) = nI 3 from rfl, rd_i (by omega) (by omega), pm_at, em_0 (by omega)]
theorem r_ended {t : Nat} (ht : t < 20) : m_X7_isEnded (pm σ β) (nI t) = some (if se β t = true then 1 else 0, pm σ β) := by
  unfold m_X7_isEnded
  rw [r_t2 ht, cl_ok]
  by_cases h : β 5 t = 0
  · simp [se, h]
  · simp [se, h]
theorem r_bearer (h : Wf T N y β) (x : Int32) : m_X7_bearer (pm σ β) x = some (sbear β x, pm σ β) := by
  have hN := h.2.1
  have key : ∀ k n i, i + k = N → k < n → m_X7_bearer_2 n (pm σ β) x (nI i) = some (sfind (fun p => decide (β 7 p = x)) i k, pm σ β) := by
    intro k
    induction k with
    | zero =>
      intro n i hi hn
      obtain ⟨n, rfl⟩ : ∃ m, n = m + 1 := ⟨n - 1, by omega⟩
      unfold m_X7_bearer_2
      rw [r_N, h.eN, if_pos (nI_le (by omega) (by omega)), sfind_0]
    | succ k ih =>
      intro n i hi hn
      obtain ⟨n, rfl⟩ : ∃ m, n = m + 1 := ⟨n - 1, by omega⟩
      unfold m_X7_bearer_2
      rw [r_N, h.eN, if_neg (nI_ge (by omega) (by omega)), r_p0 (by omega), cl_ok, sfind_s]
      by_cases hb : β 7 i = x
      · rw [if_pos hb, if_pos (by simp [hb])]
      · rw [if_neg hb, if_neg (by simp [hb]), nm_ok, nI_1]
        exact ih n (i + 1) (by omega) (by omega)
  unfold m_X7_bearer sbear
  rw [h.hN]
  exact key N 200 0 (by omega) (by omega)
theorem r_open (h : Wf T N y β) (x : Int32) : m_X7_isOpen (pm σ β) x = some (if sopen β x = true then 1 else 0, pm σ β) := by
  have hT := h.1
  have key : ∀ k n i, i + k = T → k < n → m_X7_isOpen_2 n (pm σ β) x (nI i) = some (if sany (fun t => decide (β 4 t = x) && !se β t) i k = true then 1 else 0, pm σ β) := by
    intro k
    induction k with
    | zero =>
      intro n i hi hn
      obtain ⟨n, rfl⟩ : ∃ m, n = m + 1 := ⟨n - 1, by omega⟩
      unfold m_X7_isOpen_2
      rw [r_T, h.eT, if_pos (nI_le (by omega) (by omega)), sany_0]
      rfl
    | succ k ih =>
      intro n i hi hn
      obtain ⟨n, rfl⟩ : ∃ m, n = m + 1 := ⟨n - 1, by omega⟩
      unfold m_X7_isOpen_2
      rw [r_T, h.eT, if_neg (nI_ge (by omega) (by omega)), r_t1 (by omega), cl_ok]
      by_cases hb : β 4 i = x
      · rw [if_pos hb, r_ended (by omega), cl_ok]
        by_cases he : se β i = true
        · rw [if_pos he, if_neg (by decide), nm_ok, nI_1, ih n (i + 1) (by omega) (by omega), sany_f (by simp [he])]
        · rw [if_neg he, if_pos rfl, sany_t (by simp [hb, he])]
          rfl
      · rw [if_neg hb, nm_ok, nI_1, ih n (i + 1) (by omega) (by omega), sany_f (by simp [hb])]
  unfold m_X7_isOpen sopen
  rw [h.hT]
  exact key T 200 0 (by omega) (by omega)
theorem r_waitsFor (h : Wf T N y β) {t : Nat} (ht : t < T) : m_X7_waitsFor (pm σ β) (nI t) = some (if se β t = true then -1 else if β 6 t < 0 then -1 else if se β (β 6 t).toNatClampNeg = true then -1 else β 6 t, pm σ β) := by
  have hT := h.1
  unfold m_X7_waitsFor
  rw [r_t3 (by omega), cl_ok, r_ended (by omega), cl_ok]
  by_cases he : se β t = true
  · rw [if_pos he, if_neg (by decide), if_pos he]
  · rw [if_neg he, if_pos rfl, if_neg he]
    by_cases hn : β 6 t < 0
    · rw [if_pos hn, if_pos hn]
    · rw [if_neg hn, if_neg hn]
      rcases h.need ht with h6 | ⟨n, hn2, h6⟩
      · exact absurd (by rw [h6]; decide) hn
      · rw [h6, r_ended (by omega), cl_ok, nI_clamp (by omega)]
        by_cases he2 : se β n = true
        · rw [if_pos he2, if_neg (by decide), if_pos he2]
        · rw [if_neg he2, if_pos rfl, if_neg he2]
theorem r_hand (h : Wf T N y β) (x : Int32) : m_X7_atHand (pm σ β) x = some (shand β x, pm σ β) := by
  have hT := h.1
  have key : ∀ k n i, i + k = T → k < n → m_X7_atHand_2 n (pm σ β) x (nI i) = some (sfind (fun t => decide (β 4 t = x) && sat β t) i k, pm σ β) := by
    intro k
    induction k with
    | zero =>
      intro n i hi hn
      obtain ⟨n, rfl⟩ : ∃ m, n = m + 1 := ⟨n - 1, by omega⟩
      unfold m_X7_atHand_2
      rw [r_T, h.eT, if_pos (nI_le (by omega) (by omega)), sfind_0]
    | succ k ih =>
      intro n i hi hn
      obtain ⟨n, rfl⟩ : ∃ m, n = m + 1 := ⟨n - 1, by omega⟩
      unfold m_X7_atHand_2
      rw [r_T, h.eT, if_neg (nI_ge (by omega) (by omega)), r_t1 (by omega), cl_ok, sfind_s]
      by_cases hb : β 4 i = x
      · rw [if_pos hb, r_ended (by omega), cl_ok]
        by_cases he : se β i = true
        · rw [if_pos he, if_neg (by decide), nm_ok, nI_1, ih n (i + 1) (by omega) (by omega), if_neg (by simp [sat, he])]
        · rw [if_neg he, if_pos rfl, r_waitsFor h (by omega), cl_ok, if_neg he]
          by_cases hn6 : β 6 i < 0
          · rw [if_pos hn6, if_neg (by decide), if_pos (by simp [sat, he, hb, hn6])]
          · rw [if_neg hn6]
            by_cases he2 : se β (β 6 i).toNatClampNeg = true
            · rw [if_pos he2, if_neg (by decide), if_pos (by simp [sat, he, hb, he2])]
            · rw [if_neg he2, if_pos (by grind), nm_ok, nI_1, ih n (i + 1) (by omega) (by omega), if_neg (by simp [sat, hn6, he2])]
      · rw [if_neg hb, nm_ok, nI_1, ih n (i + 1) (by omega) (by omega), if_neg (by simp [hb])]
  unfold m_X7_atHand shand
  rw [h.hT]
  exact key T 200 0 (by omega) (by omega)
end R1
