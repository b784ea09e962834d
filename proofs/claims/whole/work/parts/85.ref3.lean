section R3
variable {σ β : zw_S} {T N y : Nat}
theorem sodd_e (h : Wf T N y β) : sodd β = decide (y % 2 = 1) := by
  unfold sodd
  rw [h.eY, nI_clamp (by have := h.hy5; omega)]
theorem rem2 {n : Nat} (h : n < 2 ^ 31) : nI n - nI n / 2 * 2 = nI (n % 2) := pk_rem (d := 2) h (by decide) (by decide)
theorem r_held (x : Int32) : m_X7_held σ x = some (sheld x, σ) := by
  unfold m_X7_held sheld
  by_cases h1 : 0 ≤ x
  · rw [if_pos h1, if_pos h1]
    by_cases h2 : x ≤ 999
    · rw [if_pos h2, if_pos h2]
    · rw [if_neg h2, if_neg h2]
  · rw [if_neg h1, if_neg h1]
theorem r_grows (h : Wf T N y β) {t : Nat} (ht : t < T) : m_X7_grows (pm σ β) (nI t) = some (sgrow β t, pm σ β) := by
  have hT := h.T20
  unfold m_X7_grows sgrow
  rw [r_ended (by omega), cl_ok]
  by_cases he : se β t = true
  · rw [if_pos he, if_neg (by decide), if_pos he]
  · rw [if_neg he, if_pos rfl, if_neg he, r_t0 (by omega), cl_ok, r_t2 (by omega), cl_ok, nm_ok]
    by_cases h2 : β 3 t = 2
    · rw [if_pos h2, if_pos h2]
    · rw [if_neg h2, if_neg h2]
      by_cases h3 : β 3 t = 3
      · rw [if_pos h3, if_pos h3]
      · rw [if_neg h3, if_neg h3]
        by_cases h6 : β 3 t = 6
        · rw [if_pos h6, if_pos h6, r_y, h.eY, rem2 (by have := h.hy5; omega), sodd_e h]
          rcases Nat.mod_two_eq_zero_or_one y with h0 | h0
          · rw [h0, if_pos (by decide), if_neg (by decide)]
          · rw [h0, if_neg (by decide), if_pos (by decide)]
        · rw [if_neg h6, if_neg h6]
theorem r_borneThere (h : Wf T N y β) {t : Nat} (ht : t < T) : m_X7_isBorneThere (pm σ β) (nI t) = some (if β 6 t < 0 then 1 else if sbear β (β 4 (β 6 t).toNatClampNeg) < 0 then 0 else 1, pm σ β) := by
  have hT := h.T20
  unfold m_X7_isBorneThere
  rw [r_t3 (by omega), cl_ok]
  rcases h.need ht with h6 | ⟨n, hn, h6⟩
  · rw [h6, if_pos (by decide), if_pos (by decide)]
  · rw [h6, if_neg (nI_pos (by omega)), if_neg (nI_pos (by omega)), r_t1 (by omega), cl_ok, r_bearer h, cl_ok, nI_clamp (by omega)]
    by_cases hb : sbear β (β 4 n) < 0
    · rw [if_pos hb, if_pos hb]
    · rw [if_neg hb, if_neg hb]
theorem r_work (h : Wf T N y β) {t : Nat} (ht : t < T) (v : Int32) : m_X7_work (pm σ β) (nI t) v = some (swork β t v, pm σ β) := by
  have hT := h.T20
  have key : ∀ w : Int32, m_X7_work_19 (pm σ β) (nI t) v w = some (if β 3 t = 1 then w else if β 3 t = 3 then (if β 6 t < 0 then v else if sbear β (β 4 (β 6 t).toNatClampNeg) < 0 then 0 else v) else if β 3 t = 4 then 2 * v else if β 3 t = 5 then 2 * v + 1 else if β 3 t = 6 then (if 1 ≤ w then w - 1 else 0) else v, pm σ β) := by
    intro w
    unfold m_X7_work_19
    rw [r_t0 (by omega), cl_ok, r_borneThere h ht]
    simp only [cl_ok]
    grind
  unfold m_X7_work swork
  rw [r_y, h.eY, rem2 (by have := h.hy5; omega), sodd_e h]
  rcases Nat.mod_two_eq_zero_or_one y with h0 | h0
  · rw [h0, if_neg (by decide), key]
    simp
  · rw [h0, if_pos (by decide), key]
    simp
theorem ix_t2 {t : Nat} : (20 + 4 * nI t) + 2 = nI (20 + 4 * t + 2) := ix_t (w := 2)
theorem r_does (h : Wf T N y β) (x v : Int32) : m_X7_does (pm σ β) x v = some (pm σ (sdo β x v)) := by
  have hT := h.T20
  unfold m_X7_does sdo
  rw [r_hand h, cl_ok]
  rcases shand_c h x with h1 | ⟨t, ht, -, -, h1⟩
  · rw [h1, if_pos (by decide), if_pos (by decide)]
  · rw [h1, if_neg (nI_pos (by omega)), if_neg (nI_pos (by omega)), r_t2 (by omega), cl_ok, r_work h ht, cl_ok, r_held, cl_ok, ix_t2, wt_i (by omega) (by omega), nI_clamp (by omega)]
    rw [show 20 + 4 * t + 2 = ec 5 t from rfl, pm_wr (f := 5) (show t < 20 by omega)]
theorem r_free (h : Wf T N y β) {p : Nat} (hp : p < N) : m_X7_isFree (pm σ β) (nI p) = some (if β 7 p < 0 ∨ shand β (β 7 p) < 0 then 1 else 0, pm σ β) := by
  have hN := h.N8
  unfold m_X7_isFree
  rw [r_p0 (by omega), cl_ok]
  by_cases h7 : β 7 p < 0
  · rw [if_pos h7, if_pos (Or.inl h7)]
  · rw [if_neg h7, r_hand h, cl_ok]
    by_cases hh : 0 ≤ shand β (β 7 p)
    · rw [if_pos hh, if_neg (by grind)]
    · rw [if_neg hh, if_pos (by grind)]
theorem r_helpsNow (h : Wf T N y β) {p : Nat} (hp : p < N) : m_X7_helpsNow (pm σ β) (nI p) = some (pm σ (shelp β p)) := by
  have hN := h.N8
  unfold m_X7_helpsNow shelp
  rw [r_p3 (by omega), cl_ok]
  rcases h.help hp with h1 | ⟨q, hq, h1⟩
  · rw [h1, if_pos (by decide), if_pos (by decide)]
  · rw [h1, if_neg (nI_pos (by omega)), if_neg (nI_pos (by omega)), r_p0 (by omega), cl_ok, nI_clamp (by omega)]
    by_cases h7 : β 7 q < 0
    · rw [if_pos h7, if_pos h7]
    · rw [if_neg h7, if_neg h7, r_free h hp, cl_ok]
      by_cases hf : β 7 p < 0 ∨ shand β (β 7 p) < 0
      · rw [if_pos hf, if_pos hf, if_neg (by decide), r_p0 (by omega), cl_ok, r_p2 (by omega), cl_ok, r_does h, cv_ok]
      · rw [if_neg hf, if_neg hf, if_pos rfl]
theorem ix_n {i w : Nat} : (4 + 2 * nI i) + nI w = nI (4 + 2 * i + w) := by
  rw [show (4 : Int32) = nI 4 from rfl, show (2 : Int32) = nI 2 from rfl, pk_mul, nI_add, nI_add]
theorem r_comes (h : Wf T N y β) (hT : T < 20) (a b c d : Int32) : m_X7_comes (pm σ β) a b c d = some (pm σ (scome β a b c d)) := by
  unfold m_X7_comes scome
  have e0 : (20 + 4 * nI T : Int32) = nI (ec 3 T) := by rw [show (20 : Int32) = nI 20 from rfl, show (4 : Int32) = nI 4 from rfl, pk_mul, nI_add]; rfl
  have e1 : nI (ec 3 T) + 1 = nI (ec 4 T) := nI_add (ec 3 T) 1
  have e2 : nI (ec 3 T) + 2 = nI (ec 5 T) := nI_add (ec 3 T) 2
  have e3 : nI (ec 3 T) + 3 = nI (ec 6 T) := nI_add (ec 3 T) 3
  rw [r_T, h.eT, nm_ok, e0, e1, e2, e3, h.hT]
  rw [wt_i (ec_lt (f := 3) hT) (by omega), pm_wr (f := 3) hT, wt_i (ec_lt (f := 4) hT) (by omega), pm_wr (f := 4) hT, wt_i (ec_lt (f := 5) hT) (by omega), pm_wr (f := 5) hT, wt_i (ec_lt (f := 6) hT) (by omega), pm_wr (f := 6) hT]
  rw [r_T, show (2 : Int32) = nI (ec 0 2) from rfl, wt_i (by decide) (by omega), pm_wr (f := 0) (by decide)]
  simp only [wr_ap]
  simp [h.eT]
theorem r_leaves (h : Wf T N y β) {p : Nat} (hp : p < N) (h7 : ¬ β 7 p < 0) : m_X7_leaves (pm σ β) (nI p) = some (pm σ (sleave β p)) := by
  have hN := h.N8
  have hT := h.T20
  rcases h.name hp with h1 | ⟨o, ho, h1⟩
  · exact absurd (by rw [h1]; decide) h7
  · unfold m_X7_leaves sleave
    have hb : m_X7_becomes (pm σ β) (100 + 4 * nI p) (-1) = some (nI o, pm σ (zw_wr β 7 p (-1))) := by
      unfold m_X7_becomes
      have e0 : (100 + 4 * nI p : Int32) = nI (ec 7 p) := by rw [show (100 : Int32) = nI 100 from rfl, show (4 : Int32) = nI 4 from rfl, pk_mul, nI_add]; rfl
      rw [e0, rd_i (ec_lt (f := 7) (show p < 8 by omega)) (by omega), pm_rd (f := 7) (show p < 8 by omega), wt_i (ec_lt (f := 7) (show p < 8 by omega)) (by omega), pm_wr (f := 7) (show p < 8 by omega), h1]
    have e2 : (4 + 2 * nI o + 1 : Int32) = nI (ec 2 o) := ix_n (w := 1)
    have hg : sgone β p = zw_wr (zw_wr β 7 p (-1)) 2 o (β 2 o + 1) := by
      unfold sgone
      rw [h1, nI_clamp (by omega)]
    rw [hb, cl_ok, nm_ok, e2, rd_i (ec_lt (f := 2) ho) (by omega), pm_rd (f := 2) ho, wt_i (ec_lt (f := 2) ho) (by omega), pm_wr (f := 2) ho, wr_f (show (2 : Nat) ≠ 7 by decide), ← hg, h1]
    have hW : Wf T N y (sgone β p) := by
      rw [hg]
      exact (h.w7 (by omega)).w2 ho
    have e5 : sgone β p 0 2 = β 0 2 := by rw [hg]; rfl
    rw [r_open hW, cl_ok]
    by_cases ho2 : sopen (sgone β p) (nI o) = true
    · rw [if_pos ho2, if_pos ho2, if_neg (by decide), r_T, e5]
      by_cases h20 : 20 ≤ β 0 2
      · rw [if_pos h20, if_pos h20]
      · rw [if_neg h20, if_neg h20, r_comes hW (by
          rw [h.eT, show (20 : Int32) = nI 20 from rfl, nI_leI (by omega) (by omega)] at h20
          omega), cv_ok]
    · rw [if_neg ho2, if_neg ho2, if_pos rfl]
end R3
