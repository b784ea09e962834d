/-! the small calls -/
section O1
variable {σ β : zw_S} {T N y : Nat} {hd : Nat → Int32}
theorem c_isName {x : Int32} : m_X6_isName σ x = some (if 0 ≤ x ∧ x ≤ 7 then 1 else 0, σ) := by
  unfold m_X6_isName
  grind
theorem c_isKind {x : Int32} : m_X2_isKind σ x = some (if 0 ≤ x ∧ x ≤ 6 then 1 else 0, σ) := by
  unfold m_X2_isKind
  grind
theorem c_isSheet {x : Int32} : m_X6_isSheet σ x = some (if 0 ≤ x ∧ x ≤ 3 then 1 else 0, σ) := by
  unfold m_X6_isSheet
  grind
theorem zz01 {p : Prop} [Decidable p] : zz (if p then 1 else 0) = true := by
  by_cases h : p
  · rw [if_pos h]; decide
  · rw [if_neg h]; decide
theorem r_isName {x : Int32} : m_X7_isName σ x = some (if 0 ≤ x ∧ x ≤ 7 then 1 else 0, σ) := by
  unfold m_X7_isName
  rw [show (0 : Int64) = (0 : Int32).toInt64 from rfl, show (7 : Int64) = (7 : Int32).toInt64 from rfl, r_in, cl_ok, tt_ok zz01]
theorem r_isKind {x : Int32} : m_X7_isKind σ x = some (if 0 ≤ x ∧ x ≤ 6 then 1 else 0, σ) := by
  unfold m_X7_isKind
  rw [show (0 : Int64) = (0 : Int32).toInt64 from rfl, show (6 : Int64) = (6 : Int32).toInt64 from rfl, r_in, cl_ok, tt_ok zz01]
theorem r_isSheet {x : Int32} : m_X7_isSheet σ x = some (if 0 ≤ x ∧ x ≤ 3 then 1 else 0, σ) := by
  unfold m_X7_isSheet
  rw [show (0 : Int64) = (0 : Int32).toInt64 from rfl, show (3 : Int64) = (3 : Int32).toInt64 from rfl, r_in, cl_ok, tt_ok zz01]
theorem r_areHands {x : Int32} : m_X7_areHands σ x = some (if 1 ≤ x ∧ x ≤ 9 then 1 else 0, σ) := by
  unfold m_X7_areHands
  rw [show (1 : Int64) = (1 : Int32).toInt64 from rfl, show (9 : Int64) = (9 : Int32).toInt64 from rfl, r_in, cl_ok, tt_ok zz01]
/-- a number of a task, of a person -/
def isT (T : Nat) (x : Int32) : Prop := 0 ≤ x ∧ x < nI T
theorem isT_c {T : Nat} (hT : T ≤ 1000) {x : Int32} : (¬ isT T x) ∨ ∃ t, t < T ∧ x = nI t := by
  by_cases h : isT T x
  · obtain ⟨j, hj, rfl⟩ := nI_of (x := x) (by unfold isT at h; grind)
    refine Or.inr ⟨j, ?_, rfl⟩
    exact (nI_ltI (by omega) (by omega)).mp h.2
  · exact Or.inl h
theorem isT_n {T t : Nat} (hT : T ≤ 1000) (h : t < T) : isT T (nI t) := ⟨nI_pos' (by omega), nI_lt h (by omega)⟩
theorem c_hasTask {k : Nat} (hk : k + 12 ≤ 38) (h : Wf T N y β) (x : Int32) : m_X0_hasTask k (pk σ k β hd) x = some (if 0 ≤ x ∧ x < nI T then 1 else 0, pk σ k β hd) := by
  unfold m_X0_hasTask
  rw [pk_s hk (by omega), h.eT]
  grind
theorem c_hasPerson {k : Nat} (hk : k + 12 ≤ 38) (h : Wf T N y β) (x : Int32) : m_X0_hasPerson k (pk σ k β hd) x = some (if 0 ≤ x ∧ x < nI N then 1 else 0, pk σ k β hd) := by
  unfold m_X0_hasPerson
  rw [pk_s hk (by omega), h.eN]
  grind
theorem le_pred {T : Nat} (hT : T ≤ 1000) {x : Int32} : (0 ≤ x ∧ x ≤ nI T - 1) ↔ (0 ≤ x ∧ x < nI T) := by
  have h0 : 0 ≤ nI T := nI_pos' (by omega)
  have h1 : nI T ≤ 1000 := by rw [show (1000 : Int32) = nI 1000 from rfl]; exact nI_le hT (by omega)
  grind
theorem r_isTask (h : Wf T N y β) (x : Int32) : m_X7_isTask (pm σ β) x = some (if 0 ≤ x ∧ x < nI T then 1 else 0, pm σ β) := by
  unfold m_X7_isTask
  rw [r_T, h.eT, show (0 : Int64) = (0 : Int32).toInt64 from rfl, r_in, cl_ok, tt_ok zz01]
  simp only [le_pred (show T ≤ 1000 by have := h.T20; omega)]
theorem r_isPerson (h : Wf T N y β) (x : Int32) : m_X7_isPerson (pm σ β) x = some (if 0 ≤ x ∧ x < nI N then 1 else 0, pm σ β) := by
  unfold m_X7_isPerson
  rw [r_N, h.eN, show (0 : Int64) = (0 : Int32).toInt64 from rfl, r_in, cl_ok, tt_ok zz01]
  simp only [le_pred (show N ≤ 1000 by have := h.N8; omega)]
theorem r_becomes {f i : Nat} {v : Int32} {x : Int32} (h : i < cap f) (e : x = nI (ec f i)) : m_X7_becomes (pm σ β) x v = some (β f i, pm σ (zw_wr β f i v)) := by
  unfold m_X7_becomes
  rw [e, rd_i (ec_lt h) (by omega), pm_rd h, wt_i (ec_lt h) (by omega), pm_wr h]
theorem if1 {p : Prop} [Decidable p] (h : p) : (if p then (1 : Int32) else 0) = 1 := if_pos h
theorem if0 {p : Prop} [Decidable p] (h : ¬ p) : (if p then (1 : Int32) else 0) = 0 := if_neg h
theorem n10 : ¬ ((1 : Int32) = 0) := by decide
theorem z00 {α : Type} {a b : α} : (if (0 : Int32) = 0 then a else b) = a := if_pos rfl
theorem z10 {α : Type} {a b : α} : (if (1 : Int32) = 0 then a else b) = b := if_neg n10
theorem h_T20 (h : Wf T N y β) : T ≤ 20 := h.T20
theorem h_N8 (h : Wf T N y β) : N ≤ 8 := h.N8
theorem ri_m1_6 {x : Int32} : m_X7_in σ x.toInt64 (-1) 6 = some (if -1 ≤ x ∧ x ≤ 6 then 1 else 0, σ) := r_in (lo := -1) (hi := 6)
theorem ri_0_100 {x : Int32} : m_X7_in σ x.toInt64 0 100 = some (if 0 ≤ x ∧ x ≤ 100 then 1 else 0, σ) := r_in (lo := 0) (hi := 100)
theorem ri_0_3 {x : Int32} : m_X7_in σ x.toInt64 0 3 = some (if 0 ≤ x ∧ x ≤ 3 then 1 else 0, σ) := r_in (lo := 0) (hi := 3)
theorem ri_0_39 {x : Int32} : m_X7_in σ x.toInt64 0 39 = some (if 0 ≤ x ∧ x ≤ 39 then 1 else 0, σ) := r_in (lo := 0) (hi := 39)
theorem ri_0_4 {x : Int32} : m_X7_in σ x.toInt64 0 4 = some (if 0 ≤ x ∧ x ≤ 4 then 1 else 0, σ) := r_in (lo := 0) (hi := 4)
theorem ri_0_5 {x : Int32} : m_X7_in σ x.toInt64 0 5 = some (if 0 ≤ x ∧ x ≤ 5 then 1 else 0, σ) := r_in (lo := 0) (hi := 5)
theorem ri_0_6 {x : Int32} : m_X7_in σ x.toInt64 0 6 = some (if 0 ≤ x ∧ x ≤ 6 then 1 else 0, σ) := r_in (lo := 0) (hi := 6)
theorem ri_0_60 {x : Int32} : m_X7_in σ x.toInt64 0 60 = some (if 0 ≤ x ∧ x ≤ 60 then 1 else 0, σ) := r_in (lo := 0) (hi := 60)
theorem ri_0_7 {x : Int32} : m_X7_in σ x.toInt64 0 7 = some (if 0 ≤ x ∧ x ≤ 7 then 1 else 0, σ) := r_in (lo := 0) (hi := 7)
theorem ri_0_9 {x : Int32} : m_X7_in σ x.toInt64 0 9 = some (if 0 ≤ x ∧ x ≤ 9 then 1 else 0, σ) := r_in (lo := 0) (hi := 9)
theorem ri_0_99 {x : Int32} : m_X7_in σ x.toInt64 0 99 = some (if 0 ≤ x ∧ x ≤ 99 then 1 else 0, σ) := r_in (lo := 0) (hi := 99)
theorem ri_1_4 {x : Int32} : m_X7_in σ x.toInt64 1 4 = some (if 1 ≤ x ∧ x ≤ 4 then 1 else 0, σ) := r_in (lo := 1) (hi := 4)
theorem ri_1_40 {x : Int32} : m_X7_in σ x.toInt64 1 40 = some (if 1 ≤ x ∧ x ≤ 40 then 1 else 0, σ) := r_in (lo := 1) (hi := 40)
theorem ri_1_60 {x : Int32} : m_X7_in σ x.toInt64 1 60 = some (if 1 ≤ x ∧ x ≤ 60 then 1 else 0, σ) := r_in (lo := 1) (hi := 60)
theorem ri_1_8 {x : Int32} : m_X7_in σ x.toInt64 1 8 = some (if 1 ≤ x ∧ x ≤ 8 then 1 else 0, σ) := r_in (lo := 1) (hi := 8)
theorem ri_1_9 {x : Int32} : m_X7_in σ x.toInt64 1 9 = some (if 1 ≤ x ∧ x ≤ 9 then 1 else 0, σ) := r_in (lo := 1) (hi := 9)
theorem ri_1_999 {x : Int32} : m_X7_in σ x.toInt64 1 999 = some (if 1 ≤ x ∧ x ≤ 999 then 1 else 0, σ) := r_in (lo := 1) (hi := 999)
theorem xn0 {i : Nat} : (4 + 2 * nI i : Int32) = nI (ec 1 i) := by
  rw [show (4 : Int32) = nI 4 from rfl, show (2 : Int32) = nI 2 from rfl, pk_mul, nI_add]
  rfl
theorem xn1 {i : Nat} : (4 + 2 * nI i + 1 : Int32) = nI (ec 2 i) := ix_n (w := 1)
theorem xt0 {t : Nat} : (20 + 4 * nI t : Int32) = nI (ec 3 t) := by
  rw [show (20 : Int32) = nI 20 from rfl, show (4 : Int32) = nI 4 from rfl, pk_mul, nI_add]
  rfl
theorem xt2 {t : Nat} : (20 + 4 * nI t + 2 : Int32) = nI (ec 5 t) := ix_t (w := 2)
theorem xt3 {t : Nat} : (20 + 4 * nI t + 3 : Int32) = nI (ec 6 t) := ix_t (w := 3)
theorem xp0 {t : Nat} : (100 + 4 * nI t : Int32) = nI (ec 7 t) := by
  rw [show (100 : Int32) = nI 100 from rfl, show (4 : Int32) = nI 4 from rfl, pk_mul, nI_add]
  rfl
theorem xp1 {t : Nat} : (100 + 4 * nI t + 1 : Int32) = nI (ec 8 t) := ix_p (w := 1)
theorem xp2 {t : Nat} : (100 + 4 * nI t + 2 : Int32) = nI (ec 9 t) := ix_p (w := 2)
theorem xp3 {t : Nat} : (100 + 4 * nI t + 3 : Int32) = nI (ec 10 t) := ix_p (w := 3)
theorem xs0 {i : Nat} : (132 + nI i : Int32) = nI (ec 11 i) := by
  rw [show (132 : Int32) = nI 132 from rfl, nI_add]
  rfl
theorem r_be {f i : Nat} {v : Int32} (h : i < cap f) : m_X7_becomes (pm σ β) (nI (ec f i)) v = some (β f i, pm σ (zw_wr β f i v)) := r_becomes h rfl
theorem r_rd {α : Type} {f i : Nat} {F : Int32 → Option α} (h : i < cap f) : rd (pm σ β) 58 142 (nI (ec f i)) F = F (β f i) := by rw [rd_i (ec_lt h) (by omega), pm_rd h]
theorem r_wt {α : Type} {f i : Nat} {v : Int32} {F : zw_S → Option α} (h : i < cap f) : wt (pm σ β) 58 142 (nI (ec f i)) v F = F (pm σ (zw_wr β f i v)) := by rw [wt_i (ec_lt h) (by omega), pm_wr h]
theorem pk1_s {j : Nat} (hj : j < 4) : pk σ 1 β hd 1 j = β 0 j := pk_s (by decide) hj
theorem in_nI {x M : Int32} {m : Nat} (hM : M.toInt = m) (h : 0 ≤ x ∧ x ≤ M) : ∃ j, j ≤ m ∧ x = nI j := nI_of2 hM (by grind) h.2
theorem isT_o {T : Nat} (hT : T ≤ 1000) {x : Int32} (h : 0 ≤ x ∧ x < nI T) : ∃ t, t < T ∧ x = nI t := by
  rcases isT_c hT (x := x) with h1 | h1
  · exact absurd h h1
  · exact h1
/-! how a book stays as it should be under one writing -/
theorem Bk.w1 (hB : Bk β) {i : Nat} {v : Int32} (hi : i < 8) (hv : 0 ≤ v ∧ v ≤ 99) : Bk (zw_wr β 1 i v) := by
  obtain ⟨T, N, y, ⟨w1, w2, w3, w4, w5, w6, w7, w8, w9, w10, w11, w12⟩, hy, h40⟩ := hB
  refine ⟨T, N, y, ⟨w1, w2, w3, w4, w5, w6, fun j hj => ?_, w8, w9, w10, w11, Cp_wr w12 hi⟩, hy, h40⟩
  rw [wr_ap]
  have := w7 j hj
  grind
theorem Bk.w3 (hB : Bk β) {t : Nat} {v : Int32} (ht : t < 20) (hv : 0 ≤ v ∧ v ≤ 6) : Bk (zw_wr β 3 t v) := by
  obtain ⟨T, N, y, ⟨w1, w2, w3, w4, w5, w6, w7, w8, w9, w10, w11, w12⟩, hy, h40⟩ := hB
  refine ⟨T, N, y, ⟨w1, w2, w3, w4, w5, w6, w7, fun q hq => ?_, w9, w10, w11, Cp_wr w12 ht⟩, hy, h40⟩
  obtain ⟨a1, a2, a3, a4⟩ := w8 q hq
  refine ⟨?_, a2, a3, a4⟩
  rw [wr_ap]
  by_cases hqt : q = t
  · rw [if_pos ⟨rfl, hqt⟩]
    obtain ⟨j, hj, e⟩ := in_nI (M := 6) (m := 6) (by decide) hv
    exact ⟨j, by omega, e⟩
  · rw [if_neg (fun z => hqt z.2)]; exact a1
theorem Bk.w5 (hB : Bk β) {t : Nat} {v : Int32} (ht : t < 20) (hv : ∃ a, a < 1000 ∧ v = nI a) : Bk (zw_wr β 5 t v) := by
  obtain ⟨T, N, y, hW, hy, h40⟩ := hB
  exact ⟨T, N, y, hW.w5 ht hv, hy, h40⟩
theorem Bk.w6 (hB : Bk β) {t : Nat} {v : Int32} (ht : t < 20) (hv : v = -1 ∨ (0 ≤ v ∧ v < β 0 2)) : Bk (zw_wr β 6 t v) := by
  obtain ⟨T, N, y, ⟨w1, w2, w3, w4, w5, w6, w7, w8, w9, w10, w11, w12⟩, hy, h40⟩ := hB
  refine ⟨T, N, y, ⟨w1, w2, w3, w4, w5, w6, w7, fun q hq => ?_, w9, w10, w11, Cp_wr w12 ht⟩, hy, h40⟩
  obtain ⟨a1, a2, a3, a4⟩ := w8 q hq
  refine ⟨a1, a2, a3, ?_⟩
  rw [wr_ap]
  by_cases hqt : q = t
  · rw [if_pos ⟨rfl, hqt⟩]
    rcases hv with hv | hv
    · exact Or.inl hv
    · rw [w4] at hv
      exact Or.inr (isT_o (by omega) hv)
  · rw [if_neg (fun z => hqt z.2)]; exact a4
theorem Bk.w9 (hB : Bk β) {p : Nat} {v : Int32} (hp : p < 8) (hv : 1 ≤ v ∧ v ≤ 9) : Bk (zw_wr β 9 p v) := by
  obtain ⟨T, N, y, ⟨w1, w2, w3, w4, w5, w6, w7, w8, w9, w10, w11, w12⟩, hy, h40⟩ := hB
  refine ⟨T, N, y, ⟨w1, w2, w3, w4, w5, w6, w7, w8, fun q hq => ?_, w10, w11, Cp_wr w12 hp⟩, hy, h40⟩
  obtain ⟨a1, a2, a3, a4⟩ := w9 q hq
  refine ⟨a1, a2, ?_, a4⟩
  rw [wr_ap]
  by_cases hqt : q = p
  · rw [if_pos ⟨rfl, hqt⟩]
    obtain ⟨j, hj, e⟩ := in_nI (M := 9) (m := 9) (x := v) (by decide) (by grind)
    refine ⟨j, ?_, by omega, e⟩
    rcases Nat.eq_zero_or_pos j with h0 | h0
    · rw [e, h0] at hv
      exact absurd hv.1 (by decide)
    · exact h0
  · rw [if_neg (fun z => hqt z.2)]; exact a3
theorem Bk.w8 (hB : Bk β) {p : Nat} {v : Int32} (hp : p < 8) (hv : 0 ≤ v ∧ v ≤ 39) : Bk (zw_wr β 8 p v) := by
  obtain ⟨T, N, y, hW, hy, h40⟩ := hB
  obtain ⟨j, hj, e⟩ := in_nI (M := 39) (m := 39) (by decide) hv
  refine ⟨T, N, y, hW.w8 hp ⟨j, by omega, e⟩, hy, fun q hq => ?_⟩
  rw [wr_ap, wr_f (show (7 : Nat) ≠ 8 by decide)]
  have := h40 q hq
  grind
theorem Bk.w10 (hB : Bk β) {p : Nat} {v : Int32} (hp : p < 8) (hv : v = -1 ∨ (0 ≤ v ∧ v < β 0 3)) : Bk (zw_wr β 10 p v) := by
  obtain ⟨T, N, y, ⟨w1, w2, w3, w4, w5, w6, w7, w8, w9, w10, w11, w12⟩, hy, h40⟩ := hB
  refine ⟨T, N, y, ⟨w1, w2, w3, w4, w5, w6, w7, w8, fun q hq => ?_, w10, w11, Cp_wr w12 hp⟩, hy, h40⟩
  obtain ⟨a1, a2, a3, a4⟩ := w9 q hq
  refine ⟨a1, a2, a3, ?_⟩
  rw [wr_ap]
  by_cases hqt : q = p
  · rw [if_pos ⟨rfl, hqt⟩]
    rcases hv with hv | hv
    · exact Or.inl hv
    · rw [w5] at hv
      exact Or.inr (isT_o (by omega) hv)
  · rw [if_neg (fun z => hqt z.2)]; exact a4
theorem Bk.w11 (hB : Bk β) {i : Nat} {v : Int32} (hi : i < 10) (hv : v = -1 ∨ (0 ≤ v ∧ v < β 0 2)) : Bk (zw_wr β 11 i v) := by
  obtain ⟨T, N, y, ⟨w1, w2, w3, w4, w5, w6, w7, w8, w9, w10, w11, w12⟩, hy, h40⟩ := hB
  refine ⟨T, N, y, ⟨w1, w2, w3, w4, w5, w6, w7, w8, w9, w10, fun q hq => ?_, Cp_wr w12 hi⟩, hy, h40⟩
  rw [wr_ap]
  by_cases hqt : q = i
  · rw [if_pos ⟨rfl, hqt⟩]
    rcases hv with hv | hv
    · exact Or.inl hv
    · rw [w4] at hv
      exact Or.inr (isT_o (by omega) hv)
  · rw [if_neg (fun z => hqt z.2)]; exact w11 q hq
theorem Bk.wz (hB : Bk β) {v : Int32} : Bk (zw_wr β 0 1 v) := by
  obtain ⟨T, N, y, ⟨w1, w2, w3, w4, w5, w6, w7, w8, w9, w10, w11, w12⟩, hy, h40⟩ := hB
  exact ⟨T, N, y, ⟨w1, w2, w3, w4, w5, w6, w7, w8, w9, w10, w11, Cp_wr w12 (by decide)⟩, hy, h40⟩
theorem op_worth (h : Iv β σ) (a1 a2 : Int32) : Ok (m_X6_worth σ a1 a2) (fun τ => m_X7_worth τ a1 a2) := by
  obtain ⟨T, N, y, hW, hy, h40⟩ := id h.2.2.1
  have hT := h_T20 hW
  have hN := h_N8 hW
  by_cases h1 : 0 ≤ a1 ∧ a1 ≤ 7
  · by_cases h2 : 0 ≤ a2 ∧ a2 ≤ 99
    · obtain ⟨o, ho, rfl⟩ := in_nI (M := 7) (m := 7) (by decide) h1
      refine ok_V (mX := fun s => m_X6_worth s (nI o) a2) (r := β 1 o) (γ := zw_wr β 1 o a2) h ?_ (fun hd => ⟨hd, ?_⟩) (fun τ => ?_)
      · exact h.2.2.1.w1 (by omega) h2
      · simp only [m_X6_worth, c_isName, c_isKind, c_isSheet, c_isIn, c_hasTask (k := 1) (by decide) hW, c_hasPerson (k := 1) (by decide) hW, cl_ok, cv_ok, nm_ok, z00, z10, if_true, if_false, Fw0, Fw1, Fw2, Fw3, Fw4, Fw5, Fw6, c_found (w := 0) (by decide), c_found (w := 1) (by decide), c_found (w := 2) (by decide), c_found (w := 3) (by decide), c_found (w := 4) (by decide), c_found (w := 5) (by decide), c_found (w := 6) (by decide), if1 h1, if1 h2, ca_r1 (show o < 8 by omega), ca_w1 (show o < 8 by omega)]
      · simp only [m_X7_worth, r_isName, r_isKind, r_isSheet, r_areHands, ri_m1_6, ri_0_100, ri_0_3, ri_0_39, ri_0_4, ri_0_5, ri_0_6, ri_0_60, ri_0_7, ri_0_9, ri_0_99, ri_1_4, ri_1_40, ri_1_60, ri_1_8, ri_1_9, ri_1_999, r_isTask hW, r_isPerson hW, cl_ok, cv_ok, nm_ok, z00, z10, if_true, if_false, Fw0, Fw1, Fw2, Fw3, Fw4, Fw5, Fw6, r_finds (w := 0) (by decide), r_finds (w := 1) (by decide), r_finds (w := 2) (by decide), r_finds (w := 3) (by decide), r_finds (w := 4) (by decide), r_finds (w := 5) (by decide), r_finds (w := 6) (by decide), if1 h1, if1 h2, xn0, r_be (f := 1) (show o < 8 by omega)]
    · skip
      refine ok_F (mX := fun s => m_X6_worth s a1 a2) (w := 0) (by decide) h (fun hd => ?_) (fun τ => ?_)
      · simp only [m_X6_worth, c_isName, c_isKind, c_isSheet, c_isIn, c_hasTask (k := 1) (by decide) hW, c_hasPerson (k := 1) (by decide) hW, cl_ok, cv_ok, nm_ok, z00, z10, if_true, if_false, Fw0, Fw1, Fw2, Fw3, Fw4, Fw5, Fw6, c_found (w := 0) (by decide), c_found (w := 1) (by decide), c_found (w := 2) (by decide), c_found (w := 3) (by decide), c_found (w := 4) (by decide), c_found (w := 5) (by decide), c_found (w := 6) (by decide), if1 h1, if0 h2]
      · simp only [m_X7_worth, r_isName, r_isKind, r_isSheet, r_areHands, ri_m1_6, ri_0_100, ri_0_3, ri_0_39, ri_0_4, ri_0_5, ri_0_6, ri_0_60, ri_0_7, ri_0_9, ri_0_99, ri_1_4, ri_1_40, ri_1_60, ri_1_8, ri_1_9, ri_1_999, r_isTask hW, r_isPerson hW, cl_ok, cv_ok, nm_ok, z00, z10, if_true, if_false, Fw0, Fw1, Fw2, Fw3, Fw4, Fw5, Fw6, r_finds (w := 0) (by decide), r_finds (w := 1) (by decide), r_finds (w := 2) (by decide), r_finds (w := 3) (by decide), r_finds (w := 4) (by decide), r_finds (w := 5) (by decide), r_finds (w := 6) (by decide), if1 h1, if0 h2]
  · skip
    refine ok_F (mX := fun s => m_X6_worth s a1 a2) (w := 0) (by decide) h (fun hd => ?_) (fun τ => ?_)
    · simp only [m_X6_worth, c_isName, c_isKind, c_isSheet, c_isIn, c_hasTask (k := 1) (by decide) hW, c_hasPerson (k := 1) (by decide) hW, cl_ok, cv_ok, nm_ok, z00, z10, if_true, if_false, Fw0, Fw1, Fw2, Fw3, Fw4, Fw5, Fw6, c_found (w := 0) (by decide), c_found (w := 1) (by decide), c_found (w := 2) (by decide), c_found (w := 3) (by decide), c_found (w := 4) (by decide), c_found (w := 5) (by decide), c_found (w := 6) (by decide), if0 h1]
    · simp only [m_X7_worth, r_isName, r_isKind, r_isSheet, r_areHands, ri_m1_6, ri_0_100, ri_0_3, ri_0_39, ri_0_4, ri_0_5, ri_0_6, ri_0_60, ri_0_7, ri_0_9, ri_0_99, ri_1_4, ri_1_40, ri_1_60, ri_1_8, ri_1_9, ri_1_999, r_isTask hW, r_isPerson hW, cl_ok, cv_ok, nm_ok, z00, z10, if_true, if_false, Fw0, Fw1, Fw2, Fw3, Fw4, Fw5, Fw6, r_finds (w := 0) (by decide), r_finds (w := 1) (by decide), r_finds (w := 2) (by decide), r_finds (w := 3) (by decide), r_finds (w := 4) (by decide), r_finds (w := 5) (by decide), r_finds (w := 6) (by decide), if0 h1]
theorem op_turn (h : Iv β σ) (a1 a2 : Int32) : Ok (m_X6_turn σ a1 a2) (fun τ => m_X7_turn τ a1 a2) := by
  obtain ⟨T, N, y, hW, hy, h40⟩ := id h.2.2.1
  have hT := h_T20 hW
  have hN := h_N8 hW
  by_cases h1 : 0 ≤ a1 ∧ a1 < nI T
  · by_cases h2 : 0 ≤ a2 ∧ a2 ≤ 6
    · obtain ⟨t, ht, rfl⟩ := isT_o (by omega) h1
      refine ok_V (mX := fun s => m_X6_turn s (nI t) a2) (r := β 3 t) (γ := zw_wr β 3 t a2) h ?_ (fun hd => ⟨hd, ?_⟩) (fun τ => ?_)
      · exact h.2.2.1.w3 (by omega) h2
      · simp only [m_X6_turn, c_isName, c_isKind, c_isSheet, c_isIn, c_hasTask (k := 1) (by decide) hW, c_hasPerson (k := 1) (by decide) hW, cl_ok, cv_ok, nm_ok, z00, z10, if_true, if_false, Fw0, Fw1, Fw2, Fw3, Fw4, Fw5, Fw6, c_found (w := 0) (by decide), c_found (w := 1) (by decide), c_found (w := 2) (by decide), c_found (w := 3) (by decide), c_found (w := 4) (by decide), c_found (w := 5) (by decide), c_found (w := 6) (by decide), if1 h1, if1 h2, ca_r3 (show t < 20 by omega), ca_w3 (show t < 20 by omega)]
      · simp only [m_X7_turn, r_isName, r_isKind, r_isSheet, r_areHands, ri_m1_6, ri_0_100, ri_0_3, ri_0_39, ri_0_4, ri_0_5, ri_0_6, ri_0_60, ri_0_7, ri_0_9, ri_0_99, ri_1_4, ri_1_40, ri_1_60, ri_1_8, ri_1_9, ri_1_999, r_isTask hW, r_isPerson hW, cl_ok, cv_ok, nm_ok, z00, z10, if_true, if_false, Fw0, Fw1, Fw2, Fw3, Fw4, Fw5, Fw6, r_finds (w := 0) (by decide), r_finds (w := 1) (by decide), r_finds (w := 2) (by decide), r_finds (w := 3) (by decide), r_finds (w := 4) (by decide), r_finds (w := 5) (by decide), r_finds (w := 6) (by decide), if1 h1, if1 h2, xt0, r_be (f := 3) (show t < 20 by omega)]
    · skip
      refine ok_F (mX := fun s => m_X6_turn s a1 a2) (w := 0) (by decide) h (fun hd => ?_) (fun τ => ?_)
      · simp only [m_X6_turn, c_isName, c_isKind, c_isSheet, c_isIn, c_hasTask (k := 1) (by decide) hW, c_hasPerson (k := 1) (by decide) hW, cl_ok, cv_ok, nm_ok, z00, z10, if_true, if_false, Fw0, Fw1, Fw2, Fw3, Fw4, Fw5, Fw6, c_found (w := 0) (by decide), c_found (w := 1) (by decide), c_found (w := 2) (by decide), c_found (w := 3) (by decide), c_found (w := 4) (by decide), c_found (w := 5) (by decide), c_found (w := 6) (by decide), if1 h1, if0 h2]
      · simp only [m_X7_turn, r_isName, r_isKind, r_isSheet, r_areHands, ri_m1_6, ri_0_100, ri_0_3, ri_0_39, ri_0_4, ri_0_5, ri_0_6, ri_0_60, ri_0_7, ri_0_9, ri_0_99, ri_1_4, ri_1_40, ri_1_60, ri_1_8, ri_1_9, ri_1_999, r_isTask hW, r_isPerson hW, cl_ok, cv_ok, nm_ok, z00, z10, if_true, if_false, Fw0, Fw1, Fw2, Fw3, Fw4, Fw5, Fw6, r_finds (w := 0) (by decide), r_finds (w := 1) (by decide), r_finds (w := 2) (by decide), r_finds (w := 3) (by decide), r_finds (w := 4) (by decide), r_finds (w := 5) (by decide), r_finds (w := 6) (by decide), if1 h1, if0 h2]
  · skip
    refine ok_F (mX := fun s => m_X6_turn s a1 a2) (w := 0) (by decide) h (fun hd => ?_) (fun τ => ?_)
    · simp only [m_X6_turn, c_isName, c_isKind, c_isSheet, c_isIn, c_hasTask (k := 1) (by decide) hW, c_hasPerson (k := 1) (by decide) hW, cl_ok, cv_ok, nm_ok, z00, z10, if_true, if_false, Fw0, Fw1, Fw2, Fw3, Fw4, Fw5, Fw6, c_found (w := 0) (by decide), c_found (w := 1) (by decide), c_found (w := 2) (by decide), c_found (w := 3) (by decide), c_found (w := 4) (by decide), c_found (w := 5) (by decide), c_found (w := 6) (by decide), if0 h1]
    · simp only [m_X7_turn, r_isName, r_isKind, r_isSheet, r_areHands, ri_m1_6, ri_0_100, ri_0_3, ri_0_39, ri_0_4, ri_0_5, ri_0_6, ri_0_60, ri_0_7, ri_0_9, ri_0_99, ri_1_4, ri_1_40, ri_1_60, ri_1_8, ri_1_9, ri_1_999, r_isTask hW, r_isPerson hW, cl_ok, cv_ok, nm_ok, z00, z10, if_true, if_false, Fw0, Fw1, Fw2, Fw3, Fw4, Fw5, Fw6, r_finds (w := 0) (by decide), r_finds (w := 1) (by decide), r_finds (w := 2) (by decide), r_finds (w := 3) (by decide), r_finds (w := 4) (by decide), r_finds (w := 5) (by decide), r_finds (w := 6) (by decide), if0 h1]
theorem op_strike (h : Iv β σ) (a1 : Int32) : Ok (m_X6_strike σ a1) (fun τ => m_X7_strike τ a1) := by
  obtain ⟨T, N, y, hW, hy, h40⟩ := id h.2.2.1
  have hT := h_T20 hW
  have hN := h_N8 hW
  by_cases h1 : 0 ≤ a1 ∧ a1 < nI T
  · obtain ⟨t, ht, rfl⟩ := isT_o (by omega) h1
    refine ok_V (mX := fun s => m_X6_strike s (nI t)) (r := β 5 t) (γ := zw_wr β 5 t 0) h ?_ (fun hd => ⟨hd, ?_⟩) (fun τ => ?_)
    · exact h.2.2.1.w5 (by omega) ⟨0, by omega, rfl⟩
    · simp only [m_X6_strike, c_isName, c_isKind, c_isSheet, c_isIn, c_hasTask (k := 1) (by decide) hW, c_hasPerson (k := 1) (by decide) hW, cl_ok, cv_ok, nm_ok, z00, z10, if_true, if_false, Fw0, Fw1, Fw2, Fw3, Fw4, Fw5, Fw6, c_found (w := 0) (by decide), c_found (w := 1) (by decide), c_found (w := 2) (by decide), c_found (w := 3) (by decide), c_found (w := 4) (by decide), c_found (w := 5) (by decide), c_found (w := 6) (by decide), if1 h1, ca_r5 (show t < 20 by omega), ca_w5 (show t < 20 by omega)]
    · simp only [m_X7_strike, r_isName, r_isKind, r_isSheet, r_areHands, ri_m1_6, ri_0_100, ri_0_3, ri_0_39, ri_0_4, ri_0_5, ri_0_6, ri_0_60, ri_0_7, ri_0_9, ri_0_99, ri_1_4, ri_1_40, ri_1_60, ri_1_8, ri_1_9, ri_1_999, r_isTask hW, r_isPerson hW, cl_ok, cv_ok, nm_ok, z00, z10, if_true, if_false, Fw0, Fw1, Fw2, Fw3, Fw4, Fw5, Fw6, r_finds (w := 0) (by decide), r_finds (w := 1) (by decide), r_finds (w := 2) (by decide), r_finds (w := 3) (by decide), r_finds (w := 4) (by decide), r_finds (w := 5) (by decide), r_finds (w := 6) (by decide), if1 h1, xt2, r_be (f := 5) (show t < 20 by omega)]
  · skip
    refine ok_F (mX := fun s => m_X6_strike s a1) (w := 0) (by decide) h (fun hd => ?_) (fun τ => ?_)
    · simp only [m_X6_strike, c_isName, c_isKind, c_isSheet, c_isIn, c_hasTask (k := 1) (by decide) hW, c_hasPerson (k := 1) (by decide) hW, cl_ok, cv_ok, nm_ok, z00, z10, if_true, if_false, Fw0, Fw1, Fw2, Fw3, Fw4, Fw5, Fw6, c_found (w := 0) (by decide), c_found (w := 1) (by decide), c_found (w := 2) (by decide), c_found (w := 3) (by decide), c_found (w := 4) (by decide), c_found (w := 5) (by decide), c_found (w := 6) (by decide), if0 h1]
    · simp only [m_X7_strike, r_isName, r_isKind, r_isSheet, r_areHands, ri_m1_6, ri_0_100, ri_0_3, ri_0_39, ri_0_4, ri_0_5, ri_0_6, ri_0_60, ri_0_7, ri_0_9, ri_0_99, ri_1_4, ri_1_40, ri_1_60, ri_1_8, ri_1_9, ri_1_999, r_isTask hW, r_isPerson hW, cl_ok, cv_ok, nm_ok, z00, z10, if_true, if_false, Fw0, Fw1, Fw2, Fw3, Fw4, Fw5, Fw6, r_finds (w := 0) (by decide), r_finds (w := 1) (by decide), r_finds (w := 2) (by decide), r_finds (w := 3) (by decide), r_finds (w := 4) (by decide), r_finds (w := 5) (by decide), r_finds (w := 6) (by decide), if0 h1]
theorem op_needs (h : Iv β σ) (a1 a2 : Int32) : Ok (m_X6_needs σ a1 a2) (fun τ => m_X7_needs τ a1 a2) := by
  obtain ⟨T, N, y, hW, hy, h40⟩ := id h.2.2.1
  have hT := h_T20 hW
  have hN := h_N8 hW
  by_cases h1 : 0 ≤ a1 ∧ a1 < nI T
  · obtain ⟨t, ht, rfl⟩ := isT_o (by omega) h1
    by_cases h3 : a2 = -1
    · have h4 : ¬ a2 = nI t := by rw [h3]; have : ¬ nI t < 0 := nI_pos (by omega); grind
      refine ok_V (mX := fun s => m_X6_needs s (nI t) a2) (r := β 6 t) (γ := zw_wr β 6 t a2) h ?_ (fun hd => ⟨hd, ?_⟩) (fun τ => ?_)
      · exact h.2.2.1.w6 (by omega) (Or.inl h3)
      · simp only [m_X6_needs, c_isName, c_isKind, c_isSheet, c_isIn, c_hasTask (k := 1) (by decide) hW, c_hasPerson (k := 1) (by decide) hW, cl_ok, cv_ok, nm_ok, z00, z10, if_true, if_false, Fw0, Fw1, Fw2, Fw3, Fw4, Fw5, Fw6, c_found (w := 0) (by decide), c_found (w := 1) (by decide), c_found (w := 2) (by decide), c_found (w := 3) (by decide), c_found (w := 4) (by decide), c_found (w := 5) (by decide), c_found (w := 6) (by decide), m_X6_needs_39, if1 h1, if_neg h4, if_pos h3, ca_r6 (show t < 20 by omega), ca_w6 (show t < 20 by omega)]
      · simp only [m_X7_needs, r_isName, r_isKind, r_isSheet, r_areHands, ri_m1_6, ri_0_100, ri_0_3, ri_0_39, ri_0_4, ri_0_5, ri_0_6, ri_0_60, ri_0_7, ri_0_9, ri_0_99, ri_1_4, ri_1_40, ri_1_60, ri_1_8, ri_1_9, ri_1_999, r_isTask hW, r_isPerson hW, cl_ok, cv_ok, nm_ok, z00, z10, if_true, if_false, Fw0, Fw1, Fw2, Fw3, Fw4, Fw5, Fw6, r_finds (w := 0) (by decide), r_finds (w := 1) (by decide), r_finds (w := 2) (by decide), r_finds (w := 3) (by decide), r_finds (w := 4) (by decide), r_finds (w := 5) (by decide), r_finds (w := 6) (by decide), m_X7_needs_31, if1 h1, if_pos h3, xt3, r_be (f := 6) (show t < 20 by omega)]
    · by_cases h2 : 0 ≤ a2 ∧ a2 < nI T
      · by_cases h4 : a2 = nI t
        · skip
          refine ok_F (mX := fun s => m_X6_needs s (nI t) a2) (w := 0) (by decide) h (fun hd => ?_) (fun τ => ?_)
          · simp only [m_X6_needs, c_isName, c_isKind, c_isSheet, c_isIn, c_hasTask (k := 1) (by decide) hW, c_hasPerson (k := 1) (by decide) hW, cl_ok, cv_ok, nm_ok, z00, z10, if_true, if_false, Fw0, Fw1, Fw2, Fw3, Fw4, Fw5, Fw6, c_found (w := 0) (by decide), c_found (w := 1) (by decide), c_found (w := 2) (by decide), c_found (w := 3) (by decide), c_found (w := 4) (by decide), c_found (w := 5) (by decide), c_found (w := 6) (by decide), m_X6_needs_39, if1 h1, if_pos h4]
          · simp only [m_X7_needs, r_isName, r_isKind, r_isSheet, r_areHands, ri_m1_6, ri_0_100, ri_0_3, ri_0_39, ri_0_4, ri_0_5, ri_0_6, ri_0_60, ri_0_7, ri_0_9, ri_0_99, ri_1_4, ri_1_40, ri_1_60, ri_1_8, ri_1_9, ri_1_999, r_isTask hW, r_isPerson hW, cl_ok, cv_ok, nm_ok, z00, z10, if_true, if_false, Fw0, Fw1, Fw2, Fw3, Fw4, Fw5, Fw6, r_finds (w := 0) (by decide), r_finds (w := 1) (by decide), r_finds (w := 2) (by decide), r_finds (w := 3) (by decide), r_finds (w := 4) (by decide), r_finds (w := 5) (by decide), r_finds (w := 6) (by decide), m_X7_needs_31, if1 h1, if_neg h3, if1 h2, if_pos h4]
        · skip
          refine ok_V (mX := fun s => m_X6_needs s (nI t) a2) (r := β 6 t) (γ := zw_wr β 6 t a2) h ?_ (fun hd => ⟨hd, ?_⟩) (fun τ => ?_)
          · exact h.2.2.1.w6 (by omega) (Or.inr (by rw [hW.eT]; exact h2))
          · simp only [m_X6_needs, c_isName, c_isKind, c_isSheet, c_isIn, c_hasTask (k := 1) (by decide) hW, c_hasPerson (k := 1) (by decide) hW, cl_ok, cv_ok, nm_ok, z00, z10, if_true, if_false, Fw0, Fw1, Fw2, Fw3, Fw4, Fw5, Fw6, c_found (w := 0) (by decide), c_found (w := 1) (by decide), c_found (w := 2) (by decide), c_found (w := 3) (by decide), c_found (w := 4) (by decide), c_found (w := 5) (by decide), c_found (w := 6) (by decide), m_X6_needs_39, if1 h1, if1 h2, if_neg h4, if_neg h3, ca_r6 (show t < 20 by omega), ca_w6 (show t < 20 by omega)]
          · simp only [m_X7_needs, r_isName, r_isKind, r_isSheet, r_areHands, ri_m1_6, ri_0_100, ri_0_3, ri_0_39, ri_0_4, ri_0_5, ri_0_6, ri_0_60, ri_0_7, ri_0_9, ri_0_99, ri_1_4, ri_1_40, ri_1_60, ri_1_8, ri_1_9, ri_1_999, r_isTask hW, r_isPerson hW, cl_ok, cv_ok, nm_ok, z00, z10, if_true, if_false, Fw0, Fw1, Fw2, Fw3, Fw4, Fw5, Fw6, r_finds (w := 0) (by decide), r_finds (w := 1) (by decide), r_finds (w := 2) (by decide), r_finds (w := 3) (by decide), r_finds (w := 4) (by decide), r_finds (w := 5) (by decide), r_finds (w := 6) (by decide), m_X7_needs_31, if1 h1, if1 h2, if_neg h3, if_neg h4, xt3, r_be (f := 6) (show t < 20 by omega)]
      · have h4 : ¬ a2 = nI t := fun z => h2 (by rw [z]; exact h1)
        refine ok_F (mX := fun s => m_X6_needs s (nI t) a2) (w := 0) (by decide) h (fun hd => ?_) (fun τ => ?_)
        · simp only [m_X6_needs, c_isName, c_isKind, c_isSheet, c_isIn, c_hasTask (k := 1) (by decide) hW, c_hasPerson (k := 1) (by decide) hW, cl_ok, cv_ok, nm_ok, z00, z10, if_true, if_false, Fw0, Fw1, Fw2, Fw3, Fw4, Fw5, Fw6, c_found (w := 0) (by decide), c_found (w := 1) (by decide), c_found (w := 2) (by decide), c_found (w := 3) (by decide), c_found (w := 4) (by decide), c_found (w := 5) (by decide), c_found (w := 6) (by decide), m_X6_needs_39, if1 h1, if_neg h4, if_neg h3, if0 h2]
        · simp only [m_X7_needs, r_isName, r_isKind, r_isSheet, r_areHands, ri_m1_6, ri_0_100, ri_0_3, ri_0_39, ri_0_4, ri_0_5, ri_0_6, ri_0_60, ri_0_7, ri_0_9, ri_0_99, ri_1_4, ri_1_40, ri_1_60, ri_1_8, ri_1_9, ri_1_999, r_isTask hW, r_isPerson hW, cl_ok, cv_ok, nm_ok, z00, z10, if_true, if_false, Fw0, Fw1, Fw2, Fw3, Fw4, Fw5, Fw6, r_finds (w := 0) (by decide), r_finds (w := 1) (by decide), r_finds (w := 2) (by decide), r_finds (w := 3) (by decide), r_finds (w := 4) (by decide), r_finds (w := 5) (by decide), r_finds (w := 6) (by decide), m_X7_needs_31, if1 h1, if_neg h3, if0 h2]
  · skip
    refine ok_F (mX := fun s => m_X6_needs s a1 a2) (w := 0) (by decide) h (fun hd => ?_) (fun τ => ?_)
    · simp only [m_X6_needs, c_isName, c_isKind, c_isSheet, c_isIn, c_hasTask (k := 1) (by decide) hW, c_hasPerson (k := 1) (by decide) hW, cl_ok, cv_ok, nm_ok, z00, z10, if_true, if_false, Fw0, Fw1, Fw2, Fw3, Fw4, Fw5, Fw6, c_found (w := 0) (by decide), c_found (w := 1) (by decide), c_found (w := 2) (by decide), c_found (w := 3) (by decide), c_found (w := 4) (by decide), c_found (w := 5) (by decide), c_found (w := 6) (by decide), if0 h1]
    · simp only [m_X7_needs, r_isName, r_isKind, r_isSheet, r_areHands, ri_m1_6, ri_0_100, ri_0_3, ri_0_39, ri_0_4, ri_0_5, ri_0_6, ri_0_60, ri_0_7, ri_0_9, ri_0_99, ri_1_4, ri_1_40, ri_1_60, ri_1_8, ri_1_9, ri_1_999, r_isTask hW, r_isPerson hW, cl_ok, cv_ok, nm_ok, z00, z10, if_true, if_false, Fw0, Fw1, Fw2, Fw3, Fw4, Fw5, Fw6, r_finds (w := 0) (by decide), r_finds (w := 1) (by decide), r_finds (w := 2) (by decide), r_finds (w := 3) (by decide), r_finds (w := 4) (by decide), r_finds (w := 5) (by decide), r_finds (w := 6) (by decide), m_X7_needs_31, if0 h1]
theorem op_helps (h : Iv β σ) (a1 a2 : Int32) : Ok (m_X6_helps σ a1 a2) (fun τ => m_X7_helps τ a1 a2) := by
  obtain ⟨T, N, y, hW, hy, h40⟩ := id h.2.2.1
  have hT := h_T20 hW
  have hN := h_N8 hW
  by_cases h1 : 0 ≤ a1 ∧ a1 < nI N
  · obtain ⟨t, ht, rfl⟩ := isT_o (by omega) h1
    by_cases h3 : a2 = -1
    · have h4 : ¬ a2 = nI t := by rw [h3]; have : ¬ nI t < 0 := nI_pos (by omega); grind
      refine ok_V (mX := fun s => m_X6_helps s (nI t) a2) (r := β 10 t) (γ := zw_wr β 10 t a2) h ?_ (fun hd => ⟨hd, ?_⟩) (fun τ => ?_)
      · exact h.2.2.1.w10 (by omega) (Or.inl h3)
      · simp only [m_X6_helps, c_isName, c_isKind, c_isSheet, c_isIn, c_hasTask (k := 1) (by decide) hW, c_hasPerson (k := 1) (by decide) hW, cl_ok, cv_ok, nm_ok, z00, z10, if_true, if_false, Fw0, Fw1, Fw2, Fw3, Fw4, Fw5, Fw6, c_found (w := 0) (by decide), c_found (w := 1) (by decide), c_found (w := 2) (by decide), c_found (w := 3) (by decide), c_found (w := 4) (by decide), c_found (w := 5) (by decide), c_found (w := 6) (by decide), m_X6_helps_39, if1 h1, if_neg h4, if_pos h3, ca_r10 (show t < 8 by omega), ca_w10 (show t < 8 by omega)]
      · simp only [m_X7_helps, r_isName, r_isKind, r_isSheet, r_areHands, ri_m1_6, ri_0_100, ri_0_3, ri_0_39, ri_0_4, ri_0_5, ri_0_6, ri_0_60, ri_0_7, ri_0_9, ri_0_99, ri_1_4, ri_1_40, ri_1_60, ri_1_8, ri_1_9, ri_1_999, r_isTask hW, r_isPerson hW, cl_ok, cv_ok, nm_ok, z00, z10, if_true, if_false, Fw0, Fw1, Fw2, Fw3, Fw4, Fw5, Fw6, r_finds (w := 0) (by decide), r_finds (w := 1) (by decide), r_finds (w := 2) (by decide), r_finds (w := 3) (by decide), r_finds (w := 4) (by decide), r_finds (w := 5) (by decide), r_finds (w := 6) (by decide), m_X7_helps_31, if1 h1, if_pos h3, xp3, r_be (f := 10) (show t < 8 by omega)]
    · by_cases h2 : 0 ≤ a2 ∧ a2 < nI N
      · by_cases h4 : a2 = nI t
        · skip
          refine ok_F (mX := fun s => m_X6_helps s (nI t) a2) (w := 0) (by decide) h (fun hd => ?_) (fun τ => ?_)
          · simp only [m_X6_helps, c_isName, c_isKind, c_isSheet, c_isIn, c_hasTask (k := 1) (by decide) hW, c_hasPerson (k := 1) (by decide) hW, cl_ok, cv_ok, nm_ok, z00, z10, if_true, if_false, Fw0, Fw1, Fw2, Fw3, Fw4, Fw5, Fw6, c_found (w := 0) (by decide), c_found (w := 1) (by decide), c_found (w := 2) (by decide), c_found (w := 3) (by decide), c_found (w := 4) (by decide), c_found (w := 5) (by decide), c_found (w := 6) (by decide), m_X6_helps_39, if1 h1, if_pos h4]
          · simp only [m_X7_helps, r_isName, r_isKind, r_isSheet, r_areHands, ri_m1_6, ri_0_100, ri_0_3, ri_0_39, ri_0_4, ri_0_5, ri_0_6, ri_0_60, ri_0_7, ri_0_9, ri_0_99, ri_1_4, ri_1_40, ri_1_60, ri_1_8, ri_1_9, ri_1_999, r_isTask hW, r_isPerson hW, cl_ok, cv_ok, nm_ok, z00, z10, if_true, if_false, Fw0, Fw1, Fw2, Fw3, Fw4, Fw5, Fw6, r_finds (w := 0) (by decide), r_finds (w := 1) (by decide), r_finds (w := 2) (by decide), r_finds (w := 3) (by decide), r_finds (w := 4) (by decide), r_finds (w := 5) (by decide), r_finds (w := 6) (by decide), m_X7_helps_31, if1 h1, if_neg h3, if1 h2, if_pos h4]
        · skip
          refine ok_V (mX := fun s => m_X6_helps s (nI t) a2) (r := β 10 t) (γ := zw_wr β 10 t a2) h ?_ (fun hd => ⟨hd, ?_⟩) (fun τ => ?_)
          · exact h.2.2.1.w10 (by omega) (Or.inr (by rw [hW.eN]; exact h2))
          · simp only [m_X6_helps, c_isName, c_isKind, c_isSheet, c_isIn, c_hasTask (k := 1) (by decide) hW, c_hasPerson (k := 1) (by decide) hW, cl_ok, cv_ok, nm_ok, z00, z10, if_true, if_false, Fw0, Fw1, Fw2, Fw3, Fw4, Fw5, Fw6, c_found (w := 0) (by decide), c_found (w := 1) (by decide), c_found (w := 2) (by decide), c_found (w := 3) (by decide), c_found (w := 4) (by decide), c_found (w := 5) (by decide), c_found (w := 6) (by decide), m_X6_helps_39, if1 h1, if1 h2, if_neg h4, if_neg h3, ca_r10 (show t < 8 by omega), ca_w10 (show t < 8 by omega)]
          · simp only [m_X7_helps, r_isName, r_isKind, r_isSheet, r_areHands, ri_m1_6, ri_0_100, ri_0_3, ri_0_39, ri_0_4, ri_0_5, ri_0_6, ri_0_60, ri_0_7, ri_0_9, ri_0_99, ri_1_4, ri_1_40, ri_1_60, ri_1_8, ri_1_9, ri_1_999, r_isTask hW, r_isPerson hW, cl_ok, cv_ok, nm_ok, z00, z10, if_true, if_false, Fw0, Fw1, Fw2, Fw3, Fw4, Fw5, Fw6, r_finds (w := 0) (by decide), r_finds (w := 1) (by decide), r_finds (w := 2) (by decide), r_finds (w := 3) (by decide), r_finds (w := 4) (by decide), r_finds (w := 5) (by decide), r_finds (w := 6) (by decide), m_X7_helps_31, if1 h1, if1 h2, if_neg h3, if_neg h4, xp3, r_be (f := 10) (show t < 8 by omega)]
      · have h4 : ¬ a2 = nI t := fun z => h2 (by rw [z]; exact h1)
        refine ok_F (mX := fun s => m_X6_helps s (nI t) a2) (w := 0) (by decide) h (fun hd => ?_) (fun τ => ?_)
        · simp only [m_X6_helps, c_isName, c_isKind, c_isSheet, c_isIn, c_hasTask (k := 1) (by decide) hW, c_hasPerson (k := 1) (by decide) hW, cl_ok, cv_ok, nm_ok, z00, z10, if_true, if_false, Fw0, Fw1, Fw2, Fw3, Fw4, Fw5, Fw6, c_found (w := 0) (by decide), c_found (w := 1) (by decide), c_found (w := 2) (by decide), c_found (w := 3) (by decide), c_found (w := 4) (by decide), c_found (w := 5) (by decide), c_found (w := 6) (by decide), m_X6_helps_39, if1 h1, if_neg h4, if_neg h3, if0 h2]
        · simp only [m_X7_helps, r_isName, r_isKind, r_isSheet, r_areHands, ri_m1_6, ri_0_100, ri_0_3, ri_0_39, ri_0_4, ri_0_5, ri_0_6, ri_0_60, ri_0_7, ri_0_9, ri_0_99, ri_1_4, ri_1_40, ri_1_60, ri_1_8, ri_1_9, ri_1_999, r_isTask hW, r_isPerson hW, cl_ok, cv_ok, nm_ok, z00, z10, if_true, if_false, Fw0, Fw1, Fw2, Fw3, Fw4, Fw5, Fw6, r_finds (w := 0) (by decide), r_finds (w := 1) (by decide), r_finds (w := 2) (by decide), r_finds (w := 3) (by decide), r_finds (w := 4) (by decide), r_finds (w := 5) (by decide), r_finds (w := 6) (by decide), m_X7_helps_31, if1 h1, if_neg h3, if0 h2]
  · skip
    refine ok_F (mX := fun s => m_X6_helps s a1 a2) (w := 0) (by decide) h (fun hd => ?_) (fun τ => ?_)
    · simp only [m_X6_helps, c_isName, c_isKind, c_isSheet, c_isIn, c_hasTask (k := 1) (by decide) hW, c_hasPerson (k := 1) (by decide) hW, cl_ok, cv_ok, nm_ok, z00, z10, if_true, if_false, Fw0, Fw1, Fw2, Fw3, Fw4, Fw5, Fw6, c_found (w := 0) (by decide), c_found (w := 1) (by decide), c_found (w := 2) (by decide), c_found (w := 3) (by decide), c_found (w := 4) (by decide), c_found (w := 5) (by decide), c_found (w := 6) (by decide), if0 h1]
    · simp only [m_X7_helps, r_isName, r_isKind, r_isSheet, r_areHands, ri_m1_6, ri_0_100, ri_0_3, ri_0_39, ri_0_4, ri_0_5, ri_0_6, ri_0_60, ri_0_7, ri_0_9, ri_0_99, ri_1_4, ri_1_40, ri_1_60, ri_1_8, ri_1_9, ri_1_999, r_isTask hW, r_isPerson hW, cl_ok, cv_ok, nm_ok, z00, z10, if_true, if_false, Fw0, Fw1, Fw2, Fw3, Fw4, Fw5, Fw6, r_finds (w := 0) (by decide), r_finds (w := 1) (by decide), r_finds (w := 2) (by decide), r_finds (w := 3) (by decide), r_finds (w := 4) (by decide), r_finds (w := 5) (by decide), r_finds (w := 6) (by decide), m_X7_helps_31, if0 h1]
theorem op_seed (h : Iv β σ) (a1 : Int32) : Ok (m_X6_seed σ a1) (fun τ => m_X7_seed τ a1) := by
  obtain ⟨T, N, y, hW, hy, h40⟩ := id h.2.2.1
  have hT := h_T20 hW
  have hN := h_N8 hW
  refine ok_V (mX := fun s => m_X6_seed s a1) (r := β 0 1) (γ := zw_wr β 0 1 a1) h ?_ (fun hd => ⟨hd, ?_⟩) (fun τ => ?_)
  · exact h.2.2.1.wz
  · simp only [m_X6_seed, c_isName, c_isKind, c_isSheet, c_isIn, c_hasTask (k := 1) (by decide) hW, c_hasPerson (k := 1) (by decide) hW, cl_ok, cv_ok, nm_ok, z00, z10, if_true, if_false, Fw0, Fw1, Fw2, Fw3, Fw4, Fw5, Fw6, c_found (w := 0) (by decide), c_found (w := 1) (by decide), c_found (w := 2) (by decide), c_found (w := 3) (by decide), c_found (w := 4) (by decide), c_found (w := 5) (by decide), c_found (w := 6) (by decide), pk1_s (show 1 < 4 by decide), pk_ws (k := 1) (j := 1) (by decide) (by decide)]
  · simp only [m_X7_seed, r_isName, r_isKind, r_isSheet, r_areHands, ri_m1_6, ri_0_100, ri_0_3, ri_0_39, ri_0_4, ri_0_5, ri_0_6, ri_0_60, ri_0_7, ri_0_9, ri_0_99, ri_1_4, ri_1_40, ri_1_60, ri_1_8, ri_1_9, ri_1_999, r_isTask hW, r_isPerson hW, cl_ok, cv_ok, nm_ok, z00, z10, if_true, if_false, Fw0, Fw1, Fw2, Fw3, Fw4, Fw5, Fw6, r_finds (w := 0) (by decide), r_finds (w := 1) (by decide), r_finds (w := 2) (by decide), r_finds (w := 3) (by decide), r_finds (w := 4) (by decide), r_finds (w := 5) (by decide), r_finds (w := 6) (by decide), show (1 : Int32) = nI (ec 0 1) from rfl, r_be (f := 0) (i := 1) (by decide)]
theorem op_hold (h : Iv β σ) (a1 a2 : Int32) : Ok (m_X6_hold σ a1 a2) (fun τ => m_X7_hold τ a1 a2) := by
  obtain ⟨T, N, y, hW, hy, h40⟩ := id h.2.2.1
  have hT := h_T20 hW
  have hN := h_N8 hW
  by_cases h1 : 0 ≤ a1 ∧ a1 ≤ 9
  · obtain ⟨i, hi, rfl⟩ := in_nI (M := 9) (m := 9) (by decide) h1
    by_cases h3 : a2 = -1
    · skip
      refine ok_V (mX := fun s => m_X6_hold s (nI i) a2) (r := 1) (γ := zw_wr β 11 i a2) h ?_ (fun hd => ⟨hd, ?_⟩) (fun τ => ?_)
      · exact h.2.2.1.w11 (by omega) (Or.inl h3)
      · simp only [m_X6_hold, c_isName, c_isKind, c_isSheet, c_isIn, c_hasTask (k := 1) (by decide) hW, c_hasPerson (k := 1) (by decide) hW, cl_ok, cv_ok, nm_ok, z00, z10, if_true, if_false, Fw0, Fw1, Fw2, Fw3, Fw4, Fw5, Fw6, c_found (w := 0) (by decide), c_found (w := 1) (by decide), c_found (w := 2) (by decide), c_found (w := 3) (by decide), c_found (w := 4) (by decide), c_found (w := 5) (by decide), c_found (w := 6) (by decide), if1 h1, if_pos h3, ca_w11 (show i < 10 by omega)]
      · simp only [m_X7_hold, r_isName, r_isKind, r_isSheet, r_areHands, ri_m1_6, ri_0_100, ri_0_3, ri_0_39, ri_0_4, ri_0_5, ri_0_6, ri_0_60, ri_0_7, ri_0_9, ri_0_99, ri_1_4, ri_1_40, ri_1_60, ri_1_8, ri_1_9, ri_1_999, r_isTask hW, r_isPerson hW, cl_ok, cv_ok, nm_ok, z00, z10, if_true, if_false, Fw0, Fw1, Fw2, Fw3, Fw4, Fw5, Fw6, r_finds (w := 0) (by decide), r_finds (w := 1) (by decide), r_finds (w := 2) (by decide), r_finds (w := 3) (by decide), r_finds (w := 4) (by decide), r_finds (w := 5) (by decide), r_finds (w := 6) (by decide), m_X7_hold_32, if1 h1, if_pos h3, xs0, r_wt (f := 11) (show i < 10 by omega)]
    · by_cases h2 : 0 ≤ a2 ∧ a2 < nI T
      · skip
        refine ok_V (mX := fun s => m_X6_hold s (nI i) a2) (r := 1) (γ := zw_wr β 11 i a2) h ?_ (fun hd => ⟨hd, ?_⟩) (fun τ => ?_)
        · exact h.2.2.1.w11 (by omega) (Or.inr (by rw [hW.eT]; exact h2))
        · simp only [m_X6_hold, c_isName, c_isKind, c_isSheet, c_isIn, c_hasTask (k := 1) (by decide) hW, c_hasPerson (k := 1) (by decide) hW, cl_ok, cv_ok, nm_ok, z00, z10, if_true, if_false, Fw0, Fw1, Fw2, Fw3, Fw4, Fw5, Fw6, c_found (w := 0) (by decide), c_found (w := 1) (by decide), c_found (w := 2) (by decide), c_found (w := 3) (by decide), c_found (w := 4) (by decide), c_found (w := 5) (by decide), c_found (w := 6) (by decide), if1 h1, if_neg h3, if1 h2, ca_w11 (show i < 10 by omega)]
        · simp only [m_X7_hold, r_isName, r_isKind, r_isSheet, r_areHands, ri_m1_6, ri_0_100, ri_0_3, ri_0_39, ri_0_4, ri_0_5, ri_0_6, ri_0_60, ri_0_7, ri_0_9, ri_0_99, ri_1_4, ri_1_40, ri_1_60, ri_1_8, ri_1_9, ri_1_999, r_isTask hW, r_isPerson hW, cl_ok, cv_ok, nm_ok, z00, z10, if_true, if_false, Fw0, Fw1, Fw2, Fw3, Fw4, Fw5, Fw6, r_finds (w := 0) (by decide), r_finds (w := 1) (by decide), r_finds (w := 2) (by decide), r_finds (w := 3) (by decide), r_finds (w := 4) (by decide), r_finds (w := 5) (by decide), r_finds (w := 6) (by decide), m_X7_hold_32, if1 h1, if_neg h3, if1 h2, xs0, r_wt (f := 11) (show i < 10 by omega)]
      · skip
        refine ok_F (mX := fun s => m_X6_hold s (nI i) a2) (w := 0) (by decide) h (fun hd => ?_) (fun τ => ?_)
        · simp only [m_X6_hold, c_isName, c_isKind, c_isSheet, c_isIn, c_hasTask (k := 1) (by decide) hW, c_hasPerson (k := 1) (by decide) hW, cl_ok, cv_ok, nm_ok, z00, z10, if_true, if_false, Fw0, Fw1, Fw2, Fw3, Fw4, Fw5, Fw6, c_found (w := 0) (by decide), c_found (w := 1) (by decide), c_found (w := 2) (by decide), c_found (w := 3) (by decide), c_found (w := 4) (by decide), c_found (w := 5) (by decide), c_found (w := 6) (by decide), if1 h1, if_neg h3, if0 h2]
        · simp only [m_X7_hold, r_isName, r_isKind, r_isSheet, r_areHands, ri_m1_6, ri_0_100, ri_0_3, ri_0_39, ri_0_4, ri_0_5, ri_0_6, ri_0_60, ri_0_7, ri_0_9, ri_0_99, ri_1_4, ri_1_40, ri_1_60, ri_1_8, ri_1_9, ri_1_999, r_isTask hW, r_isPerson hW, cl_ok, cv_ok, nm_ok, z00, z10, if_true, if_false, Fw0, Fw1, Fw2, Fw3, Fw4, Fw5, Fw6, r_finds (w := 0) (by decide), r_finds (w := 1) (by decide), r_finds (w := 2) (by decide), r_finds (w := 3) (by decide), r_finds (w := 4) (by decide), r_finds (w := 5) (by decide), r_finds (w := 6) (by decide), if1 h1, if_neg h3, if0 h2]
  · skip
    refine ok_F (mX := fun s => m_X6_hold s a1 a2) (w := 0) (by decide) h (fun hd => ?_) (fun τ => ?_)
    · simp only [m_X6_hold, c_isName, c_isKind, c_isSheet, c_isIn, c_hasTask (k := 1) (by decide) hW, c_hasPerson (k := 1) (by decide) hW, cl_ok, cv_ok, nm_ok, z00, z10, if_true, if_false, Fw0, Fw1, Fw2, Fw3, Fw4, Fw5, Fw6, c_found (w := 0) (by decide), c_found (w := 1) (by decide), c_found (w := 2) (by decide), c_found (w := 3) (by decide), c_found (w := 4) (by decide), c_found (w := 5) (by decide), c_found (w := 6) (by decide), if0 h1]
    · simp only [m_X7_hold, r_isName, r_isKind, r_isSheet, r_areHands, ri_m1_6, ri_0_100, ri_0_3, ri_0_39, ri_0_4, ri_0_5, ri_0_6, ri_0_60, ri_0_7, ri_0_9, ri_0_99, ri_1_4, ri_1_40, ri_1_60, ri_1_8, ri_1_9, ri_1_999, r_isTask hW, r_isPerson hW, cl_ok, cv_ok, nm_ok, z00, z10, if_true, if_false, Fw0, Fw1, Fw2, Fw3, Fw4, Fw5, Fw6, r_finds (w := 0) (by decide), r_finds (w := 1) (by decide), r_finds (w := 2) (by decide), r_finds (w := 3) (by decide), r_finds (w := 4) (by decide), r_finds (w := 5) (by decide), r_finds (w := 6) (by decide), if0 h1]
theorem op_change (h : Iv β σ) (a1 a2 a3 : Int32) : Ok (m_X6_change σ a1 a2 a3) (fun τ => m_X7_change τ a1 a2 a3) := by
  obtain ⟨T, N, y, hW, hy, h40⟩ := id h.2.2.1
  have hT := h_T20 hW
  have hN := h_N8 hW
  by_cases h1 : 0 ≤ a1 ∧ a1 < nI N
  · obtain ⟨p, hp, rfl⟩ := isT_o (by omega) h1
    by_cases h2 : a2 = 2
    · subst h2
      by_cases h3 : 1 ≤ a3 ∧ a3 ≤ 9
      · skip
        refine ok_V (mX := fun s => m_X6_change s (nI p) 2 a3) (r := β 9 p) (γ := zw_wr β 9 p a3) h ?_ (fun hd => ⟨hd, ?_⟩) (fun τ => ?_)
        · exact h.2.2.1.w9 (by omega) h3
        · simp only [m_X6_change, c_isName, c_isKind, c_isSheet, c_isIn, c_hasTask (k := 1) (by decide) hW, c_hasPerson (k := 1) (by decide) hW, cl_ok, cv_ok, nm_ok, z00, z10, if_true, if_false, Fw0, Fw1, Fw2, Fw3, Fw4, Fw5, Fw6, c_found (w := 0) (by decide), c_found (w := 1) (by decide), c_found (w := 2) (by decide), c_found (w := 3) (by decide), c_found (w := 4) (by decide), c_found (w := 5) (by decide), c_found (w := 6) (by decide), if1 h1, if1 h3, if_pos rfl, if_true, ca_r9 (show p < 8 by omega), ca_w9 (show p < 8 by omega)]
        · simp only [m_X7_change, r_isName, r_isKind, r_isSheet, r_areHands, ri_m1_6, ri_0_100, ri_0_3, ri_0_39, ri_0_4, ri_0_5, ri_0_6, ri_0_60, ri_0_7, ri_0_9, ri_0_99, ri_1_4, ri_1_40, ri_1_60, ri_1_8, ri_1_9, ri_1_999, r_isTask hW, r_isPerson hW, cl_ok, cv_ok, nm_ok, z00, z10, if_true, if_false, Fw0, Fw1, Fw2, Fw3, Fw4, Fw5, Fw6, r_finds (w := 0) (by decide), r_finds (w := 1) (by decide), r_finds (w := 2) (by decide), r_finds (w := 3) (by decide), r_finds (w := 4) (by decide), r_finds (w := 5) (by decide), r_finds (w := 6) (by decide), m_X7_change_34, if_neg (show ¬ ((2 : Int32) = 1) by decide), if_true, if1 h1, if1 h3, xp2, r_be (f := 9) (show p < 8 by omega)]
      · skip
        refine ok_F (mX := fun s => m_X6_change s (nI p) 2 a3) (w := 0) (by decide) h (fun hd => ?_) (fun τ => ?_)
        · simp only [m_X6_change, c_isName, c_isKind, c_isSheet, c_isIn, c_hasTask (k := 1) (by decide) hW, c_hasPerson (k := 1) (by decide) hW, cl_ok, cv_ok, nm_ok, z00, z10, if_true, if_false, Fw0, Fw1, Fw2, Fw3, Fw4, Fw5, Fw6, c_found (w := 0) (by decide), c_found (w := 1) (by decide), c_found (w := 2) (by decide), c_found (w := 3) (by decide), c_found (w := 4) (by decide), c_found (w := 5) (by decide), c_found (w := 6) (by decide), m_X6_change_57, if1 h1, if0 h3, if_true, if_neg (show ¬ ((2 : Int32) = 1) by decide)]
        · simp only [m_X7_change, r_isName, r_isKind, r_isSheet, r_areHands, ri_m1_6, ri_0_100, ri_0_3, ri_0_39, ri_0_4, ri_0_5, ri_0_6, ri_0_60, ri_0_7, ri_0_9, ri_0_99, ri_1_4, ri_1_40, ri_1_60, ri_1_8, ri_1_9, ri_1_999, r_isTask hW, r_isPerson hW, cl_ok, cv_ok, nm_ok, z00, z10, if_true, if_false, Fw0, Fw1, Fw2, Fw3, Fw4, Fw5, Fw6, r_finds (w := 0) (by decide), r_finds (w := 1) (by decide), r_finds (w := 2) (by decide), r_finds (w := 3) (by decide), r_finds (w := 4) (by decide), r_finds (w := 5) (by decide), r_finds (w := 6) (by decide), m_X7_change_34, if_neg (show ¬ ((2 : Int32) = 1) by decide), if_true, if1 h1, if0 h3]
    · by_cases h2b : a2 = 1
      · subst h2b
        by_cases h3 : 0 ≤ a3 ∧ a3 ≤ 39
        · skip
          refine ok_V (mX := fun s => m_X6_change s (nI p) 1 a3) (r := β 8 p) (γ := zw_wr β 8 p a3) h ?_ (fun hd => ⟨hd, ?_⟩) (fun τ => ?_)
          · exact h.2.2.1.w8 (by omega) h3
          · simp only [m_X6_change, c_isName, c_isKind, c_isSheet, c_isIn, c_hasTask (k := 1) (by decide) hW, c_hasPerson (k := 1) (by decide) hW, cl_ok, cv_ok, nm_ok, z00, z10, if_true, if_false, Fw0, Fw1, Fw2, Fw3, Fw4, Fw5, Fw6, c_found (w := 0) (by decide), c_found (w := 1) (by decide), c_found (w := 2) (by decide), c_found (w := 3) (by decide), c_found (w := 4) (by decide), c_found (w := 5) (by decide), c_found (w := 6) (by decide), m_X6_change_57, if1 h1, if1 h3, if_true, if_neg (show ¬ ((1 : Int32) = 2) by decide), ca_r8 (show p < 8 by omega), ca_w8 (show p < 8 by omega)]
          · simp only [m_X7_change, r_isName, r_isKind, r_isSheet, r_areHands, ri_m1_6, ri_0_100, ri_0_3, ri_0_39, ri_0_4, ri_0_5, ri_0_6, ri_0_60, ri_0_7, ri_0_9, ri_0_99, ri_1_4, ri_1_40, ri_1_60, ri_1_8, ri_1_9, ri_1_999, r_isTask hW, r_isPerson hW, cl_ok, cv_ok, nm_ok, z00, z10, if_true, if_false, Fw0, Fw1, Fw2, Fw3, Fw4, Fw5, Fw6, r_finds (w := 0) (by decide), r_finds (w := 1) (by decide), r_finds (w := 2) (by decide), r_finds (w := 3) (by decide), r_finds (w := 4) (by decide), r_finds (w := 5) (by decide), r_finds (w := 6) (by decide), m_X7_change_34, if_true, if1 h1, if1 h3, xp1, r_be (f := 8) (show p < 8 by omega)]
        · skip
          refine ok_F (mX := fun s => m_X6_change s (nI p) 1 a3) (w := 0) (by decide) h (fun hd => ?_) (fun τ => ?_)
          · simp only [m_X6_change, c_isName, c_isKind, c_isSheet, c_isIn, c_hasTask (k := 1) (by decide) hW, c_hasPerson (k := 1) (by decide) hW, cl_ok, cv_ok, nm_ok, z00, z10, if_true, if_false, Fw0, Fw1, Fw2, Fw3, Fw4, Fw5, Fw6, c_found (w := 0) (by decide), c_found (w := 1) (by decide), c_found (w := 2) (by decide), c_found (w := 3) (by decide), c_found (w := 4) (by decide), c_found (w := 5) (by decide), c_found (w := 6) (by decide), m_X6_change_57, if1 h1, if0 h3, if_true, if_neg (show ¬ ((1 : Int32) = 2) by decide)]
          · simp only [m_X7_change, r_isName, r_isKind, r_isSheet, r_areHands, ri_m1_6, ri_0_100, ri_0_3, ri_0_39, ri_0_4, ri_0_5, ri_0_6, ri_0_60, ri_0_7, ri_0_9, ri_0_99, ri_1_4, ri_1_40, ri_1_60, ri_1_8, ri_1_9, ri_1_999, r_isTask hW, r_isPerson hW, cl_ok, cv_ok, nm_ok, z00, z10, if_true, if_false, Fw0, Fw1, Fw2, Fw3, Fw4, Fw5, Fw6, r_finds (w := 0) (by decide), r_finds (w := 1) (by decide), r_finds (w := 2) (by decide), r_finds (w := 3) (by decide), r_finds (w := 4) (by decide), r_finds (w := 5) (by decide), r_finds (w := 6) (by decide), m_X7_change_34, if_true, if1 h1, if0 h3]
      · skip
        refine ok_F (mX := fun s => m_X6_change s (nI p) a2 a3) (w := 0) (by decide) h (fun hd => ?_) (fun τ => ?_)
        · simp only [m_X6_change, c_isName, c_isKind, c_isSheet, c_isIn, c_hasTask (k := 1) (by decide) hW, c_hasPerson (k := 1) (by decide) hW, cl_ok, cv_ok, nm_ok, z00, z10, if_true, if_false, Fw0, Fw1, Fw2, Fw3, Fw4, Fw5, Fw6, c_found (w := 0) (by decide), c_found (w := 1) (by decide), c_found (w := 2) (by decide), c_found (w := 3) (by decide), c_found (w := 4) (by decide), c_found (w := 5) (by decide), c_found (w := 6) (by decide), m_X6_change_57, if1 h1, if_neg h2, if_neg h2b]
        · simp only [m_X7_change, r_isName, r_isKind, r_isSheet, r_areHands, ri_m1_6, ri_0_100, ri_0_3, ri_0_39, ri_0_4, ri_0_5, ri_0_6, ri_0_60, ri_0_7, ri_0_9, ri_0_99, ri_1_4, ri_1_40, ri_1_60, ri_1_8, ri_1_9, ri_1_999, r_isTask hW, r_isPerson hW, cl_ok, cv_ok, nm_ok, z00, z10, if_true, if_false, Fw0, Fw1, Fw2, Fw3, Fw4, Fw5, Fw6, r_finds (w := 0) (by decide), r_finds (w := 1) (by decide), r_finds (w := 2) (by decide), r_finds (w := 3) (by decide), r_finds (w := 4) (by decide), r_finds (w := 5) (by decide), r_finds (w := 6) (by decide), m_X7_change_34, if_neg h2, if_neg h2b, if1 h1]
  · refine ok_F (mX := fun s => m_X6_change s a1 a2 a3) (w := 0) (by decide) h (fun hd => ?_) (fun τ => ?_)
    · simp only [m_X6_change, c_isName, c_isKind, c_isSheet, c_isIn, c_hasTask (k := 1) (by decide) hW, c_hasPerson (k := 1) (by decide) hW, cl_ok, cv_ok, nm_ok, z00, z10, if_true, if_false, Fw0, Fw1, Fw2, Fw3, Fw4, Fw5, Fw6, c_found (w := 0) (by decide), c_found (w := 1) (by decide), c_found (w := 2) (by decide), c_found (w := 3) (by decide), c_found (w := 4) (by decide), c_found (w := 5) (by decide), c_found (w := 6) (by decide), if0 h1]
    · have hk : ∀ z : Int32, m_X7_change_34 (pm τ β) a1 a2 a3 z = some (fw 0, fdm (pm τ β) 0) := fun z => by simp only [m_X7_change_34, r_isName, r_isKind, r_isSheet, r_areHands, ri_m1_6, ri_0_100, ri_0_3, ri_0_39, ri_0_4, ri_0_5, ri_0_6, ri_0_60, ri_0_7, ri_0_9, ri_0_99, ri_1_4, ri_1_40, ri_1_60, ri_1_8, ri_1_9, ri_1_999, r_isTask hW, r_isPerson hW, cl_ok, cv_ok, nm_ok, z00, z10, if_true, if_false, Fw0, Fw1, Fw2, Fw3, Fw4, Fw5, Fw6, r_finds (w := 0) (by decide), r_finds (w := 1) (by decide), r_finds (w := 2) (by decide), r_finds (w := 3) (by decide), r_finds (w := 4) (by decide), r_finds (w := 5) (by decide), r_finds (w := 6) (by decide), if0 h1]
      simp only [m_X7_change, r_isName, r_isKind, r_isSheet, r_areHands, ri_m1_6, ri_0_100, ri_0_3, ri_0_39, ri_0_4, ri_0_5, ri_0_6, ri_0_60, ri_0_7, ri_0_9, ri_0_99, ri_1_4, ri_1_40, ri_1_60, ri_1_8, ri_1_9, ri_1_999, r_isTask hW, r_isPerson hW, cl_ok, cv_ok, nm_ok, z00, z10, if_true, if_false, Fw0, Fw1, Fw2, Fw3, Fw4, Fw5, Fw6, r_finds (w := 0) (by decide), r_finds (w := 1) (by decide), r_finds (w := 2) (by decide), r_finds (w := 3) (by decide), r_finds (w := 4) (by decide), r_finds (w := 5) (by decide), r_finds (w := 6) (by decide), hk, ite_self]
theorem op_of (h : Iv β σ) (a1 a2 : Int32) : Ok (m_X6_of σ a1 a2) (fun τ => m_X7_of τ a1 a2) := by
  obtain ⟨T, N, y, hW, hy, h40⟩ := id h.2.2.1
  have hT := h_T20 hW
  have hN := h_N8 hW
  by_cases h1 : 0 ≤ a1 ∧ a1 < nI N
  · obtain ⟨p, hp, rfl⟩ := isT_o (by omega) h1
    by_cases h2 : 0 ≤ a2 ∧ a2 ≤ 3
    · obtain ⟨w, hw, rfl⟩ := in_nI (M := 3) (m := 3) (by decide) h2
      rcases (show w = 0 ∨ w = 1 ∨ w = 2 ∨ w = 3 by omega) with rfl | rfl | rfl | rfl
      · skip
        refine ok_Q (mX := fun s => m_X6_of s (nI p) (nI 0)) (r := β 7 p) h (fun hd => ?_) (fun τ => ?_)
        · simp only [m_X6_of, c_isName, c_isKind, c_isSheet, c_isIn, c_hasTask (k := 1) (by decide) hW, c_hasPerson (k := 1) (by decide) hW, cl_ok, cv_ok, nm_ok, z00, z10, if_true, if_false, Fw0, Fw1, Fw2, Fw3, Fw4, Fw5, Fw6, c_found (w := 0) (by decide), c_found (w := 1) (by decide), c_found (w := 2) (by decide), c_found (w := 3) (by decide), c_found (w := 4) (by decide), c_found (w := 5) (by decide), c_found (w := 6) (by decide), if1 h1, if_pos (show nI 0 = 0 by decide), ca_r7 (show p < 8 by omega)]
        · simp only [m_X7_of, r_isName, r_isKind, r_isSheet, r_areHands, ri_m1_6, ri_0_100, ri_0_3, ri_0_39, ri_0_4, ri_0_5, ri_0_6, ri_0_60, ri_0_7, ri_0_9, ri_0_99, ri_1_4, ri_1_40, ri_1_60, ri_1_8, ri_1_9, ri_1_999, r_isTask hW, r_isPerson hW, cl_ok, cv_ok, nm_ok, z00, z10, if_true, if_false, Fw0, Fw1, Fw2, Fw3, Fw4, Fw5, Fw6, r_finds (w := 0) (by decide), r_finds (w := 1) (by decide), r_finds (w := 2) (by decide), r_finds (w := 3) (by decide), r_finds (w := 4) (by decide), r_finds (w := 5) (by decide), r_finds (w := 6) (by decide), if1 h1, if1 h2, r_person0 (w := 0) (show p < 8 by omega) (by decide)]
      · skip
        refine ok_Q (mX := fun s => m_X6_of s (nI p) (nI 1)) (r := β 8 p) h (fun hd => ?_) (fun τ => ?_)
        · simp only [m_X6_of, c_isName, c_isKind, c_isSheet, c_isIn, c_hasTask (k := 1) (by decide) hW, c_hasPerson (k := 1) (by decide) hW, cl_ok, cv_ok, nm_ok, z00, z10, if_true, if_false, Fw0, Fw1, Fw2, Fw3, Fw4, Fw5, Fw6, c_found (w := 0) (by decide), c_found (w := 1) (by decide), c_found (w := 2) (by decide), c_found (w := 3) (by decide), c_found (w := 4) (by decide), c_found (w := 5) (by decide), c_found (w := 6) (by decide), if1 h1, if_neg (show ¬ (nI 1 = 0) by decide), if_pos (show nI 1 = 1 by decide), ca_r8 (show p < 8 by omega)]
        · simp only [m_X7_of, r_isName, r_isKind, r_isSheet, r_areHands, ri_m1_6, ri_0_100, ri_0_3, ri_0_39, ri_0_4, ri_0_5, ri_0_6, ri_0_60, ri_0_7, ri_0_9, ri_0_99, ri_1_4, ri_1_40, ri_1_60, ri_1_8, ri_1_9, ri_1_999, r_isTask hW, r_isPerson hW, cl_ok, cv_ok, nm_ok, z00, z10, if_true, if_false, Fw0, Fw1, Fw2, Fw3, Fw4, Fw5, Fw6, r_finds (w := 0) (by decide), r_finds (w := 1) (by decide), r_finds (w := 2) (by decide), r_finds (w := 3) (by decide), r_finds (w := 4) (by decide), r_finds (w := 5) (by decide), r_finds (w := 6) (by decide), if1 h1, if1 h2, r_person0 (w := 1) (show p < 8 by omega) (by decide)]
      · skip
        refine ok_Q (mX := fun s => m_X6_of s (nI p) (nI 2)) (r := β 9 p) h (fun hd => ?_) (fun τ => ?_)
        · simp only [m_X6_of, c_isName, c_isKind, c_isSheet, c_isIn, c_hasTask (k := 1) (by decide) hW, c_hasPerson (k := 1) (by decide) hW, cl_ok, cv_ok, nm_ok, z00, z10, if_true, if_false, Fw0, Fw1, Fw2, Fw3, Fw4, Fw5, Fw6, c_found (w := 0) (by decide), c_found (w := 1) (by decide), c_found (w := 2) (by decide), c_found (w := 3) (by decide), c_found (w := 4) (by decide), c_found (w := 5) (by decide), c_found (w := 6) (by decide), if1 h1, if_neg (show ¬ (nI 2 = 0) by decide), if_neg (show ¬ (nI 2 = 1) by decide), if_pos (show nI 2 = 2 by decide), ca_r9 (show p < 8 by omega)]
        · simp only [m_X7_of, r_isName, r_isKind, r_isSheet, r_areHands, ri_m1_6, ri_0_100, ri_0_3, ri_0_39, ri_0_4, ri_0_5, ri_0_6, ri_0_60, ri_0_7, ri_0_9, ri_0_99, ri_1_4, ri_1_40, ri_1_60, ri_1_8, ri_1_9, ri_1_999, r_isTask hW, r_isPerson hW, cl_ok, cv_ok, nm_ok, z00, z10, if_true, if_false, Fw0, Fw1, Fw2, Fw3, Fw4, Fw5, Fw6, r_finds (w := 0) (by decide), r_finds (w := 1) (by decide), r_finds (w := 2) (by decide), r_finds (w := 3) (by decide), r_finds (w := 4) (by decide), r_finds (w := 5) (by decide), r_finds (w := 6) (by decide), if1 h1, if1 h2, r_person0 (w := 2) (show p < 8 by omega) (by decide)]
      · skip
        refine ok_Q (mX := fun s => m_X6_of s (nI p) (nI 3)) (r := β 10 p) h (fun hd => ?_) (fun τ => ?_)
        · simp only [m_X6_of, c_isName, c_isKind, c_isSheet, c_isIn, c_hasTask (k := 1) (by decide) hW, c_hasPerson (k := 1) (by decide) hW, cl_ok, cv_ok, nm_ok, z00, z10, if_true, if_false, Fw0, Fw1, Fw2, Fw3, Fw4, Fw5, Fw6, c_found (w := 0) (by decide), c_found (w := 1) (by decide), c_found (w := 2) (by decide), c_found (w := 3) (by decide), c_found (w := 4) (by decide), c_found (w := 5) (by decide), c_found (w := 6) (by decide), if1 h1, if_neg (show ¬ (nI 3 = 0) by decide), if_neg (show ¬ (nI 3 = 1) by decide), if_neg (show ¬ (nI 3 = 2) by decide), if_pos (show nI 3 = 3 by decide), ca_r10 (show p < 8 by omega)]
        · simp only [m_X7_of, r_isName, r_isKind, r_isSheet, r_areHands, ri_m1_6, ri_0_100, ri_0_3, ri_0_39, ri_0_4, ri_0_5, ri_0_6, ri_0_60, ri_0_7, ri_0_9, ri_0_99, ri_1_4, ri_1_40, ri_1_60, ri_1_8, ri_1_9, ri_1_999, r_isTask hW, r_isPerson hW, cl_ok, cv_ok, nm_ok, z00, z10, if_true, if_false, Fw0, Fw1, Fw2, Fw3, Fw4, Fw5, Fw6, r_finds (w := 0) (by decide), r_finds (w := 1) (by decide), r_finds (w := 2) (by decide), r_finds (w := 3) (by decide), r_finds (w := 4) (by decide), r_finds (w := 5) (by decide), r_finds (w := 6) (by decide), if1 h1, if1 h2, r_person0 (w := 3) (show p < 8 by omega) (by decide)]
    · have n0 : ¬ a2 = 0 := by grind
      have n1 : ¬ a2 = 1 := by grind
      have n2 : ¬ a2 = 2 := by grind
      have n3 : ¬ a2 = 3 := by grind
      refine ok_F (mX := fun s => m_X6_of s (nI p) a2) (w := 0) (by decide) h (fun hd => ?_) (fun τ => ?_)
      · simp only [m_X6_of, c_isName, c_isKind, c_isSheet, c_isIn, c_hasTask (k := 1) (by decide) hW, c_hasPerson (k := 1) (by decide) hW, cl_ok, cv_ok, nm_ok, z00, z10, if_true, if_false, Fw0, Fw1, Fw2, Fw3, Fw4, Fw5, Fw6, c_found (w := 0) (by decide), c_found (w := 1) (by decide), c_found (w := 2) (by decide), c_found (w := 3) (by decide), c_found (w := 4) (by decide), c_found (w := 5) (by decide), c_found (w := 6) (by decide), if1 h1, if_neg n0, if_neg n1, if_neg n2, if_neg n3]
      · simp only [m_X7_of, r_isName, r_isKind, r_isSheet, r_areHands, ri_m1_6, ri_0_100, ri_0_3, ri_0_39, ri_0_4, ri_0_5, ri_0_6, ri_0_60, ri_0_7, ri_0_9, ri_0_99, ri_1_4, ri_1_40, ri_1_60, ri_1_8, ri_1_9, ri_1_999, r_isTask hW, r_isPerson hW, cl_ok, cv_ok, nm_ok, z00, z10, if_true, if_false, Fw0, Fw1, Fw2, Fw3, Fw4, Fw5, Fw6, r_finds (w := 0) (by decide), r_finds (w := 1) (by decide), r_finds (w := 2) (by decide), r_finds (w := 3) (by decide), r_finds (w := 4) (by decide), r_finds (w := 5) (by decide), r_finds (w := 6) (by decide), if1 h1, if0 h2]
  · skip
    refine ok_F (mX := fun s => m_X6_of s a1 a2) (w := 0) (by decide) h (fun hd => ?_) (fun τ => ?_)
    · simp only [m_X6_of, c_isName, c_isKind, c_isSheet, c_isIn, c_hasTask (k := 1) (by decide) hW, c_hasPerson (k := 1) (by decide) hW, cl_ok, cv_ok, nm_ok, z00, z10, if_true, if_false, Fw0, Fw1, Fw2, Fw3, Fw4, Fw5, Fw6, c_found (w := 0) (by decide), c_found (w := 1) (by decide), c_found (w := 2) (by decide), c_found (w := 3) (by decide), c_found (w := 4) (by decide), c_found (w := 5) (by decide), c_found (w := 6) (by decide), if0 h1]
    · simp only [m_X7_of, r_isName, r_isKind, r_isSheet, r_areHands, ri_m1_6, ri_0_100, ri_0_3, ri_0_39, ri_0_4, ri_0_5, ri_0_6, ri_0_60, ri_0_7, ri_0_9, ri_0_99, ri_1_4, ri_1_40, ri_1_60, ri_1_8, ri_1_9, ri_1_999, r_isTask hW, r_isPerson hW, cl_ok, cv_ok, nm_ok, z00, z10, if_true, if_false, Fw0, Fw1, Fw2, Fw3, Fw4, Fw5, Fw6, r_finds (w := 0) (by decide), r_finds (w := 1) (by decide), r_finds (w := 2) (by decide), r_finds (w := 3) (by decide), r_finds (w := 4) (by decide), r_finds (w := 5) (by decide), r_finds (w := 6) (by decide), if0 h1]
end O1
