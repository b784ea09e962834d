/-! who waits for whom -/
def nx (β : zw_S) (t : Nat) : Option Nat := if se β t = true then none else if β 6 t < 0 then none else if se β (β 6 t).toNatClampNeg = true then none else some (β 6 t).toNatClampNeg
def rch (β : zw_S) : Nat → Nat → Nat → Bool
  | 0, _, _ => false
  | f + 1, t, u => match nx β t with
    | none => false
    | some n => decide (n = u) || rch β f n u
section RG
variable {σ β : zw_S} {T N y k : Nat} {hd : Nat → Int32}
theorem nx_lt (h : Wf T N y β) {t n : Nat} (ht : t < T) (e : nx β t = some n) : n < T ∧ β 6 t = nI n := by
  have hT := h.T20
  unfold nx at e
  split at e
  · cases e
  · split at e
    · cases e
    · split at e
      · cases e
      · cases e
        rcases h.need ht with h6 | ⟨m, hm, h6⟩
        · rename_i q _
          exact absurd (by rw [h6]; decide) q
        · rw [h6, nI_clamp (by omega)]
          exact ⟨hm, rfl⟩
def it (β : zw_S) (t : Nat) : Nat → Option Nat
  | 0 => some t
  | j + 1 => (it β t j).bind (nx β)
theorem it_add {t : Nat} : ∀ (b a : Nat), it β t (a + b) = (it β t a).bind (fun x => it β x b) := by
  intro b
  induction b with
  | zero => intro a; show it β t a = _; cases it β t a <;> rfl
  | succ b ih =>
    intro a
    show (it β t (a + b)).bind (nx β) = _
    rw [ih a]
    cases it β t a <;> rfl
theorem it_some {t : Nat} : ∀ (d a : Nat), (∃ x, it β t (a + d) = some x) → ∃ x, it β t a = some x := by
  intro d a h
  rw [it_add] at h
  cases e : it β t a with
  | none => rw [e] at h; obtain ⟨x, h⟩ := h; cases h
  | some x => exact ⟨x, rfl⟩
theorem it_lt (h : Wf T N y β) {t : Nat} (ht : t < T) : ∀ (j x : Nat), it β t j = some x → x < T := by
  intro j
  induction j with
  | zero => intro x e; cases e; exact ht
  | succ j ih =>
    intro x e
    obtain ⟨z, e1, e2⟩ := Option.bind_eq_some_iff.mp e
    exact (nx_lt h (ih z e1) e2).1
theorem rch_it : ∀ (f t u : Nat), rch β f t u = true ↔ ∃ j, j < f ∧ it β t (j + 1) = some u := by
  intro f
  induction f with
  | zero => intro t u; simp [rch]
  | succ f ih =>
    intro t u
    unfold rch
    cases e : nx β t with
    | none =>
      simp only [Bool.false_eq_true, false_iff]
      rintro ⟨j, -, h⟩
      rw [Nat.add_comm, it_add] at h
      simp [it, e] at h
    | some n =>
      have hs : ∀ j, it β t (j + 1 + 1) = it β n (j + 1) := by
        intro j
        rw [show j + 1 + 1 = 1 + (j + 1) by omega, it_add]
        simp [it, e]
      simp only [Bool.or_eq_true, decide_eq_true_eq, ih]
      constructor
      · rintro (rfl | ⟨j, hj, h⟩)
        · exact ⟨0, by omega, by simp [it, e]⟩
        · exact ⟨j + 1, by omega, by rw [hs]; exact h⟩
      · rintro ⟨j, hj, h⟩
        cases j with
        | zero =>
          left
          simp [it, e] at h
          exact h
        | succ j =>
          right
          exact ⟨j, by omega, by rw [← hs]; exact h⟩
theorem ph : ∀ (T : Nat) (l : List Nat), l.Nodup → (∀ x ∈ l, x < T) → l.length ≤ T := by
  intro T
  induction T with
  | zero =>
    intro l _ h
    cases l with
    | nil => simp
    | cons a l => exact absurd (h a List.mem_cons_self) (by omega)
  | succ T ih =>
    intro l hn h
    by_cases hT : T ∈ l
    · have h1 := ih (l.erase T) (hn.erase T) (fun x hx => by
        have := (hn.mem_erase_iff).mp hx
        have := h x this.2
        omega)
      rw [List.length_erase_of_mem hT] at h1
      omega
    · have := ih l hn (fun x hx => by
        have h2 := h x hx
        have : x ≠ T := fun z => hT (z ▸ hx)
        omega)
      omega
theorem rch_T (h : Wf T N y β) {t u : Nat} (ht : t < T) : rch β T t u = rch β 20 t u := by
  have hT := h.T20
  have key : rch β 20 t u = true → rch β T t u = true := by
    intro hr
    obtain ⟨j0, -, e0⟩ := (rch_it 20 t u).mp hr
    obtain ⟨j, e, hmin⟩ := pk_least (fun j => it β t (j + 1) = some u) ⟨j0, e0⟩
    refine (rch_it T t u).mpr ⟨j, ?_, e⟩
    have hex : ∀ i, i < j + 1 → ∃ x, it β t i = some x := fun i hi => it_some (j + 1 - i) i ⟨u, by rw [show i + (j + 1 - i) = j + 1 by omega]; exact e⟩
    have hnod : ((List.range (j + 1)).map (fun i => (it β t i).getD 0)).Nodup := by
      rw [List.Nodup, List.pairwise_map]
      refine List.Pairwise.imp_of_mem ?_ List.pairwise_lt_range
      intro a b ha hb hab heq
      rw [List.mem_range] at ha hb
      obtain ⟨xa, ea⟩ := hex a ha
      obtain ⟨xb, eb⟩ := hex b hb
      rw [ea, eb] at heq
      have heq : xa = xb := heq
      subst heq
      have e2 : it β t (b + (j + 1 - b)) = some u := by rw [show b + (j + 1 - b) = j + 1 by omega]; exact e
      rw [it_add, eb] at e2
      have e3 : it β t (a + (j + 1 - b)) = some u := by rw [it_add, ea]; exact e2
      exact hmin (a + (j - b)) (by omega) (by rw [show a + (j - b) + 1 = a + (j + 1 - b) by omega]; exact e3)
    have := ph T _ hnod (fun x hx => by
      rw [List.mem_map] at hx
      obtain ⟨i, hi, rfl⟩ := hx
      rw [List.mem_range] at hi
      obtain ⟨z, ez⟩ := hex i hi
      rw [ez]
      exact it_lt h ht i z ez)
    simp at this
    omega
  cases e : rch β 20 t u with
  | true => exact key e
  | false =>
    cases e2 : rch β T t u with
    | false => rfl
    | true =>
      obtain ⟨j, hj, e3⟩ := (rch_it T t u).mp e2
      rw [(rch_it 20 t u).mpr ⟨j, by omega, e3⟩] at e
      cases e
theorem r_waits2 (h : Wf T N y β) {t : Nat} (ht : t < T) : m_X7_waitsFor (pm σ β) (nI t) = some (match nx β t with | none => -1 | some n => nI n, pm σ β) := by
  have hT := h.T20
  rw [r_waitsFor h ht]
  unfold nx
  by_cases h1 : se β t = true
  · rw [if_pos h1, if_pos h1]
  · rw [if_neg h1, if_neg h1]
    by_cases h2 : β 6 t < 0
    · rw [if_pos h2, if_pos h2]
    · rw [if_neg h2, if_neg h2]
      by_cases h3 : se β (β 6 t).toNatClampNeg = true
      · rw [if_pos h3, if_pos h3]
      · rw [if_neg h3, if_neg h3]
        rcases h.need ht with q | ⟨m, hm, q⟩
        · exact absurd (by rw [q]; decide) h2
        · rw [q, nI_clamp (by omega)]
theorem r_comesTo (h : Wf T N y β) {t u : Nat} (ht : t < T) (hu : u < T) : m_X7_comesTo (pm σ β) (nI t) (nI u) = some (if rch β 20 t u = true then 1 else 0, pm σ β) := by
  have hT := h.T20
  have hneg : ∀ (n i : Nat), 0 < n → m_X7_comesTo_5 n (pm σ β) (nI u) (-1) (nI i) = some (0, pm σ β) := by
    intro n i hn
    obtain ⟨n, rfl⟩ : ∃ m, n = m + 1 := ⟨n - 1, by omega⟩
    unfold m_X7_comesTo_5
    rw [if_pos (show (-1 : Int32) < 0 by decide), ite_self]
  have key : ∀ (f n i t : Nat), t < T → i + f = 20 → f < n → m_X7_comesTo_5 n (pm σ β) (nI u) (nI t) (nI i) = some (if rch β f t u = true then 1 else 0, pm σ β) := by
    intro f
    induction f with
    | zero =>
      intro n i t ht hi hn
      obtain ⟨n, rfl⟩ : ∃ m, n = m + 1 := ⟨n - 1, by omega⟩
      unfold m_X7_comesTo_5
      rw [if_pos (show (20 : Int32) ≤ nI i by rw [show (20 : Int32) = nI 20 from rfl]; exact nI_le (by omega) (by omega))]
      rfl
    | succ f ih =>
      intro n i t ht hi hn
      obtain ⟨n, rfl⟩ : ∃ m, n = m + 1 := ⟨n - 1, by omega⟩
      unfold m_X7_comesTo_5
      rw [if_neg (show ¬ (20 : Int32) ≤ nI i by rw [show (20 : Int32) = nI 20 from rfl]; exact nI_ge (by omega) (by omega)), if_neg (nI_pos (by omega)), r_waits2 h ht, cl_ok]
      unfold rch
      cases e : nx β t with
      | none =>
        have hne : ¬ ((-1 : Int32) = nI u) := by
          have := nI_pos' (n := u) (by omega)
          grind
        simp only [Bool.false_eq_true, if_false]
        rw [if_neg hne, nm_ok, nI_1, hneg n (i + 1) (by omega)]
      | some m =>
        have hm := (nx_lt h ht e).1
        simp only
        by_cases hmu : m = u
        · subst hmu
          rw [if_pos rfl]
          simp
        · rw [if_neg (fun z => hmu ((nI_eq (by omega) (by omega)).mp z)), nm_ok, nI_1, ih n (i + 1) m hm (by omega) (by omega)]
          simp [hmu]
  unfold m_X7_comesTo
  exact key 20 200 0 t ht (by omega) (by omega)
theorem c_isWaiting (hk : k + 12 ≤ 38) (h : Wf T N y β) {t u : Nat} (ht : t < T) (hu : u < T) : m_X0_isWaiting k (pk σ k β hd) (nI t) (nI u) = some (if rch β 20 t u = true then 1 else 0, pk σ k β hd) := by
  have hT := h.T20
  have hend : ∀ (n i : Nat) (x : Int32), 0 < n → (x = -1 ∨ ∃ m, m < T ∧ x = nI m ∧ se β m = true) → m_X0_isWaiting_5 k n (pk σ k β hd) (nI u) x (nI i) = some (0, pk σ k β hd) := by
    intro n i x hn hx
    obtain ⟨n, rfl⟩ : ∃ m, n = m + 1 := ⟨n - 1, by omega⟩
    unfold m_X0_isWaiting_5
    split
    · rfl
    · rw [c_hasTask hk h, cl_ok]
      rcases hx with rfl | ⟨m, hm, rfl, he⟩
      · rw [if0 (fun z => absurd z.1 (by decide)), if_pos rfl]
      · rw [if1 ⟨nI_pos' (by omega), nI_lt hm (by omega)⟩, if_neg n10, c_r5 hk (by omega), if_pos ((hrs_le h hm).mpr he)]
  have key : ∀ (f n i t : Nat), t < T → i + f = T → f < n → m_X0_isWaiting_5 k n (pk σ k β hd) (nI u) (nI t) (nI i) = some (if rch β f t u = true then 1 else 0, pk σ k β hd) := by
    intro f
    induction f with
    | zero =>
      intro n i t ht hi hn
      obtain ⟨n, rfl⟩ : ∃ m, n = m + 1 := ⟨n - 1, by omega⟩
      unfold m_X0_isWaiting_5
      rw [pk_s hk (by omega), h.eT, if_pos (nI_le (by omega) (by omega))]
      rfl
    | succ f ih =>
      intro n i t ht hi hn
      obtain ⟨n, rfl⟩ : ∃ m, n = m + 1 := ⟨n - 1, by omega⟩
      unfold m_X0_isWaiting_5
      rw [pk_s hk (by omega), h.eT, if_neg (nI_ge (by omega) (by omega)), c_hasTask hk h, cl_ok, if1 ⟨nI_pos' (by omega), nI_lt ht (by omega)⟩, if_neg n10, c_r5 hk (by omega)]
      unfold rch nx
      by_cases he : se β t = true
      · rw [if_pos ((hrs_le h ht).mpr he), if_pos he]
        rfl
      · rw [if_neg (fun z => he ((hrs_le h ht).mp z)), if_neg he, c_r6 hk (by omega)]
        rcases h.need ht with q | ⟨m, hm, q⟩
        · rw [q, if_pos (show (-1 : Int32) < 0 by decide)]
          have hne : ¬ ((-1 : Int32) = nI u) := by
            have := nI_pos' (n := u) (by omega)
            grind
          rw [if_neg hne, nm_ok, nI_1, hend n (i + 1) (-1) (by omega) (Or.inl rfl)]
          rfl
        · rw [q, if_neg (nI_pos (by omega)), nI_clamp (by omega)]
          by_cases hmu : m = u
          · subst hmu
            rw [if_pos rfl]
            unfold m_X0_isWaiting_43
            rw [c_r5 hk (by omega)]
            by_cases hem : se β m = true
            · rw [if_pos ((hrs_le h hm).mpr hem), if_pos hem]
              rfl
            · rw [if_neg (fun z => hem ((hrs_le h hm).mp z)), if_neg hem]
              simp
          · rw [if_neg (fun z => hmu ((nI_eq (by omega) (by omega)).mp z)), nm_ok, nI_1]
            by_cases hem : se β m = true
            · rw [if_pos hem, hend n (i + 1) (nI m) (by omega) (Or.inr ⟨m, hm, rfl, hem⟩)]
              rfl
            · rw [if_neg hem, ih n (i + 1) m hm (by omega) (by omega)]
              simp [hmu]
  unfold m_X0_isWaiting
  rw [← rch_T h ht]
  exact key T 200 0 t ht (by omega) (by omega)
/-- the set of the tasks that do -/
def sbit (g : Nat → Bool) (s : Int32) (i q : Nat) : Int32 := (List.range' i q).foldl (fun s t => if g t = true then s ||| (1 <<< (nI t &&& 31)) else s) s
theorem sbit_s {g : Nat → Bool} {s : Int32} {i q : Nat} : sbit g s i (q + 1) = sbit g (if g i = true then s ||| (1 <<< (nI i &&& 31)) else s) (i + 1) q := by
  unfold sbit
  rw [List.range'_succ, List.foldl_cons]
theorem c_rings (h : Wf T N y β) : m_X6_rings (pk σ 1 β hd) = some (sbit (fun t => rch β 20 t t) 0 0 T, pk σ 1 β hd) := by
  have hT := h.T20
  have key : ∀ (q n i : Nat) (s : Int32), i + q = T → q < n → m_X6_rings_4 n (pk σ 1 β hd) s (nI i) = some (sbit (fun t => rch β 20 t t) s i q, pk σ 1 β hd) := by
    intro q
    induction q with
    | zero =>
      intro n i s hi hn
      obtain ⟨n, rfl⟩ : ∃ m, n = m + 1 := ⟨n - 1, by omega⟩
      unfold m_X6_rings_4
      rw [pk1_s (by omega), h.eT, if_pos (nI_le (by omega) (by omega))]
      rfl
    | succ q ih =>
      intro n i s hi hn
      obtain ⟨n, rfl⟩ : ∃ m, n = m + 1 := ⟨n - 1, by omega⟩
      unfold m_X6_rings_4
      rw [pk1_s (by omega), h.eT, if_neg (nI_ge (by omega) (by omega)), c_isWaiting (by decide) h (by omega) (by omega), cl_ok, sbit_s]
      by_cases hr : rch β 20 i i = true
      · rw [if_pos hr, if_neg n10, if_pos hr, nm_ok, nm_ok, nI_1]
        exact ih n (i + 1) _ (by omega) (by omega)
      · rw [if_neg hr, if_pos rfl, if_neg hr, nm_ok, nI_1]
        exact ih n (i + 1) _ (by omega) (by omega)
  unfold m_X6_rings
  exact key T 200 0 0 (by omega) (by omega)
theorem r_rings (h : Wf T N y β) : m_X7_rings (pm σ β) = some (sbit (fun t => rch β 20 t t) 0 0 T, pm σ β) := by
  have hT := h.T20
  have key : ∀ (q n i : Nat) (s : Int32), i + q = T → q < n → m_X7_rings_4 n (pm σ β) s (nI i) = some (sbit (fun t => rch β 20 t t) s i q, pm σ β) := by
    intro q
    induction q with
    | zero =>
      intro n i s hi hn
      obtain ⟨n, rfl⟩ : ∃ m, n = m + 1 := ⟨n - 1, by omega⟩
      unfold m_X7_rings_4
      rw [r_T, h.eT, if_pos (nI_le (by omega) (by omega))]
      rfl
    | succ q ih =>
      intro n i s hi hn
      obtain ⟨n, rfl⟩ : ∃ m, n = m + 1 := ⟨n - 1, by omega⟩
      unfold m_X7_rings_4
      rw [r_T, h.eT, if_neg (nI_ge (by omega) (by omega)), r_comesTo h (by omega) (by omega), cl_ok, sbit_s]
      by_cases hr : rch β 20 i i = true
      · rw [if_pos hr, if_neg n10, if_pos hr, nm_ok, nm_ok, nI_1]
        exact ih n (i + 1) _ (by omega) (by omega)
      · rw [if_neg hr, if_pos rfl, if_neg hr, nm_ok, nm_ok, nI_1, or0]
        exact ih n (i + 1) _ (by omega) (by omega)
  unfold m_X7_rings
  exact key T 200 0 0 (by omega) (by omega)
theorem c_waits (h : Wf T N y β) {u : Nat} (hu : u < T) : m_X6_waits_22 200 (pk σ 1 β hd) (nI u) 0 0 = some (sbit (fun t => rch β 20 t u) 0 0 T, pk σ 1 β hd) := by
  have hT := h.T20
  have key : ∀ (q n i : Nat) (s : Int32), i + q = T → q < n → m_X6_waits_22 n (pk σ 1 β hd) (nI u) s (nI i) = some (sbit (fun t => rch β 20 t u) s i q, pk σ 1 β hd) := by
    intro q
    induction q with
    | zero =>
      intro n i s hi hn
      obtain ⟨n, rfl⟩ : ∃ m, n = m + 1 := ⟨n - 1, by omega⟩
      unfold m_X6_waits_22
      rw [pk1_s (by omega), h.eT, if_pos (nI_le (by omega) (by omega))]
      rfl
    | succ q ih =>
      intro n i s hi hn
      obtain ⟨n, rfl⟩ : ∃ m, n = m + 1 := ⟨n - 1, by omega⟩
      unfold m_X6_waits_22
      rw [pk1_s (by omega), h.eT, if_neg (nI_ge (by omega) (by omega)), c_isWaiting (by decide) h (by omega) hu, cl_ok, sbit_s]
      by_cases hr : rch β 20 i u = true
      · rw [if_pos hr, if_neg n10, if_pos hr, nm_ok, nm_ok, nI_1]
        exact ih n (i + 1) _ (by omega) (by omega)
      · rw [if_neg hr, if_pos rfl, if_neg hr, nm_ok, nI_1]
        exact ih n (i + 1) _ (by omega) (by omega)
  exact key T 200 0 0 (by omega) (by omega)
theorem r_waits (h : Wf T N y β) {u : Nat} (hu : u < T) : m_X7_waits_19 200 (pm σ β) (nI u) 0 0 = some (sbit (fun t => rch β 20 t u) 0 0 T, pm σ β) := by
  have hT := h.T20
  have key : ∀ (q n i : Nat) (s : Int32), i + q = T → q < n → m_X7_waits_19 n (pm σ β) (nI u) s (nI i) = some (sbit (fun t => rch β 20 t u) s i q, pm σ β) := by
    intro q
    induction q with
    | zero =>
      intro n i s hi hn
      obtain ⟨n, rfl⟩ : ∃ m, n = m + 1 := ⟨n - 1, by omega⟩
      unfold m_X7_waits_19
      rw [r_T, h.eT, if_pos (nI_le (by omega) (by omega))]
      rfl
    | succ q ih =>
      intro n i s hi hn
      obtain ⟨n, rfl⟩ : ∃ m, n = m + 1 := ⟨n - 1, by omega⟩
      unfold m_X7_waits_19
      rw [r_T, h.eT, if_neg (nI_ge (by omega) (by omega)), r_comesTo h (by omega) hu, cl_ok, sbit_s]
      by_cases hr : rch β 20 i u = true
      · rw [if_pos hr, if_neg n10, if_pos hr, nm_ok, nm_ok, nI_1]
        exact ih n (i + 1) _ (by omega) (by omega)
      · rw [if_neg hr, if_pos rfl, if_neg hr, nm_ok, nm_ok, nI_1, or0]
        exact ih n (i + 1) _ (by omega) (by omega)
  exact key T 200 0 0 (by omega) (by omega)
end RG
