section SH
variable {σ τ β γ : zw_S} {T N y k : Nat} {hd : Nat → Int32}
theorem Iv.sh {s : zw_S} (h : Iv β σ) (e : ∀ i, (i < 48 ∨ (56 ≤ i ∧ i ≤ 65)) → s i = σ i) (hs : Ish s) : Iv β s := by
  obtain ⟨h1, h2, h3, h4, h5, h6, h7⟩ := h
  refine ⟨(gb_e (fun i a b => e i (by omega))).trans h1, ?_, h3, ?_, ?_, ?_, hs⟩
  · rw [e 58 (by omega)]
    exact h2
  · unfold Ik at h4 ⊢
    rw [gb_e (σ := σ) (fun i a b => e i (by omega)), e 0 (by omega), e 57 (by omega), e 59 (by omega)]
    exact h4
  · intro j hj
    rw [e 56 (by omega), e 62 (by omega)]
    exact h5 j hj
  · obtain ⟨n, hn, a1, a2, a3⟩ := h6
    refine ⟨n, hn, by rw [e 45 (by omega)]; exact a1, by rw [e 57 (by omega)]; exact a2, fun j hj => ?_⟩
    rw [e 46 (by omega), e 65 (by omega)]
    exact a3 j hj
theorem us_at {s : zw_S} {k : Nat} {g : Nat → Int32} : zw_us s k g k = g := by unfold zw_us; rw [if_pos rfl]
theorem us_o {s : zw_S} {k i : Nat} {g : Nat → Int32} (h : i ≠ k) : zw_us s k g i = s i := by unfold zw_us; rw [if_neg h]
theorem x40 {s j : Nat} : (40 : Int32) * nI s + nI j = nI (40 * s + j) := by rw [show (40 : Int32) = nI 40 from rfl, pk_mul, nI_add]
theorem zi4 {s : Nat} (h : s < 4) : zi (nI s) 4 = true := zi_nI h (by decide)
theorem nc {s : Nat} (h : s < 1000) : (nI s).toNatClampNeg = s := nI_clamp (by omega)
theorem r_fill68 {s : Nat} (hs : s < 4) : ∀ (q n i : Nat) (t : zw_S), i + q = 40 → q < n → m_X7_sheet_85 n t (nI s) (nI i) = some (t 67 s, zw_us t 68 (fun a => if 40 * s + i ≤ a ∧ a < 40 * s + 40 then 0 else t 68 a)) := by
  intro q
  induction q with
  | zero =>
    intro n i t hi hn
    obtain ⟨n, rfl⟩ : ∃ m, n = m + 1 := ⟨n - 1, by omega⟩
    unfold m_X7_sheet_85 m_X7_sheet_111
    rw [show (40 : Int32) = nI 40 from rfl, if_pos (nI_le (by omega) (by omega)), rd_i hs (by decide)]
    congr 2
    funext a b
    by_cases ha : a = 68
    · subst ha
      rw [us_at, if_neg (by omega)]
    · rw [us_o ha]
  | succ q ih =>
    intro n i t hi hn
    obtain ⟨n, rfl⟩ : ∃ m, n = m + 1 := ⟨n - 1, by omega⟩
    unfold m_X7_sheet_85
    rw [x40, show (40 : Int32) = nI 40 from rfl, if_neg (nI_ge (by omega) (by omega)), wt_i (by omega) (by omega), nm_ok, nI_1, ih n (i + 1) _ (by omega) (by omega), wr_f (by decide)]
    congr 2
    funext a b
    by_cases ha : a = 68
    · subst ha
      rw [us_at, us_at, wr_ap]
      grind
    · rw [us_o ha, us_o ha, wr_f ha]
/-- the class's sheet, and then the reference's -/
def shX (σ : zw_S) (s : Nat) (b n : Int32) : zw_S := zw_us (zw_wr (zw_wr σ (48 + 2 * s) 1 b) (48 + 2 * s) 2 n) (48 + 2 * s + 1) (fun j => if j < 40 then 0 else σ (48 + 2 * s + 1) j)
def shM (t : zw_S) (s : Nat) (b n : Int32) : zw_S := zw_us (zw_wr (zw_wr t 66 s b) 67 s n) 68 (fun a => if 40 * s ≤ a ∧ a < 40 * s + 40 then 0 else t 68 a)
theorem Ish.sh (h : Ish σ) {s n : Nat} {b : Int32} (hs : s < 4) (hn : n ≤ 40) (hb : b = 0 ∨ b = 8 ∨ b = 16 ∨ b = 32) : Ish (shM (shX σ s b (nI n)) s b (nI n)) := by
  have e48 : ∀ r, r < 4 → shM (shX σ s b (nI n)) s b (nI n) (48 + 2 * r) = shX σ s b (nI n) (48 + 2 * r) := fun r hr => by
    unfold shM
    rw [us_o (by omega), wr_f (by omega), wr_f (by omega)]
  have e49 : ∀ r, r < 4 → shM (shX σ s b (nI n)) s b (nI n) (49 + 2 * r) = shX σ s b (nI n) (49 + 2 * r) := fun r hr => by
    unfold shM
    rw [us_o (by omega), wr_f (by omega), wr_f (by omega)]
  have x66 : ∀ i, 56 ≤ i → shX σ s b (nI n) i = σ i := fun i hi => by
    unfold shX
    rw [us_o (by omega), wr_f (by omega), wr_f (by omega)]
  have e66 : ∀ r, shM (shX σ s b (nI n)) s b (nI n) 66 r = if r = s then b else σ 66 r := fun r => by
    unfold shM
    rw [us_o (by decide), wr_f (by decide), wr_ap, x66 66 (by decide)]
    simp
  have e67 : ∀ r, shM (shX σ s b (nI n)) s b (nI n) 67 r = if r = s then nI n else σ 67 r := fun r => by
    unfold shM
    rw [us_o (by decide), wr_ap, wr_f (by decide), x66 67 (by decide)]
    simp
  have e68 : ∀ a, shM (shX σ s b (nI n)) s b (nI n) 68 a = if 40 * s ≤ a ∧ a < 40 * s + 40 then 0 else σ 68 a := fun a => by
    unfold shM
    rw [us_at, x66 68 (by decide)]
  intro r hr
  obtain ⟨a1, a2, a3, a4⟩ := h r hr
  by_cases hrs : r = s
  · subst hrs
    have s1 : shX σ r b (nI n) (48 + 2 * r) 1 = b := by
      unfold shX
      rw [us_o (by omega), wr_j (by decide), wr_at]
    have s2 : shX σ r b (nI n) (48 + 2 * r) 2 = nI n := by
      unfold shX
      rw [us_o (by omega), wr_at]
    refine ⟨?_, ?_, ⟨n, hn, ?_, ?_⟩, fun j hj => ?_⟩
    · rw [e48 r hr, e66, if_pos rfl, s1]
    · rw [e66, if_pos rfl]
      exact hb
    · rw [e48 r hr, s2]
    · rw [e67, if_pos rfl]
    · rw [e49 r hr, e68, if_pos (by omega)]
      unfold shX
      rw [show 49 + 2 * r = 48 + 2 * r + 1 by omega, us_at, if_pos hj]
  · have s48 : shX σ s b (nI n) (48 + 2 * r) = σ (48 + 2 * r) := by
      unfold shX
      rw [us_o (by omega), wr_f (by omega), wr_f (by omega)]
    have s49 : shX σ s b (nI n) (49 + 2 * r) = σ (49 + 2 * r) := by
      unfold shX
      rw [us_o (by omega), wr_f (by omega), wr_f (by omega)]
    refine ⟨?_, ?_, ?_, fun j hj => ?_⟩
    · rw [e48 r hr, e66, if_neg hrs, s48]
      exact a1
    · rw [e66, if_neg hrs]
      exact a2
    · rw [e48 r hr, e67, if_neg hrs, s48]
      exact a3
    · rw [e49 r hr, s49, e68, if_neg (by omega)]
      exact a4 j hj
theorem op_sheet (h : Iv β σ) (a1 a2 a3 : Int32) : Ok (m_X6_sheet σ a1 a2 a3) (fun τ => m_X7_sheet τ a1 a2 a3) := by
  by_cases h1 : 0 ≤ a1 ∧ a1 ≤ 3
  · obtain ⟨s, hs, rfl⟩ := in_nI (M := 3) (m := 3) (by decide) h1
    by_cases h2 : a2 = 0 ∨ a2 = 8 ∨ a2 = 16 ∨ a2 = 32
    · have eX : m_X6_sheet σ (nI s) a2 a3 = m_X6_sheet_36 σ (nI s) a2 a3 := by
        unfold m_X6_sheet
        rw [c_isSheet, cl_ok, if1 h1, z10]
        rcases h2 with rfl | rfl | rfl | rfl <;> rfl
      have eM : ∀ t, m_X7_sheet t (nI s) a2 a3 = m_X7_sheet_36 t (nI s) a2 a3 := fun t => by
        unfold m_X7_sheet
        rw [r_isSheet, cl_ok, if1 h1, z10]
        rcases h2 with rfl | rfl | rfl | rfl <;> rfl
      by_cases h3 : 0 ≤ a3
      · by_cases h4 : a3 ≤ 40
        · obtain ⟨m, hm, rfl⟩ := in_nI (M := 40) (m := 40) (by decide) ⟨h3, h4⟩
          obtain ⟨n, hn, en⟩ : ∃ n, n ≤ 40 ∧ nI n = if a2 = 0 then 0 else nI m := by
            by_cases h0 : a2 = 0
            · exact ⟨0, by omega, by rw [if_pos h0]; rfl⟩
            · exact ⟨m, hm, by rw [if_neg h0]⟩
          have cX : m_X6_sheet_36 σ (nI s) a2 (nI m) = some (nI n, shX σ s a2 (nI n)) := by
            have e1 : ∀ v, zw_wr (zw_wr σ (48 + 2 * s) 1 a2) (48 + 2 * s) 2 v (48 + 2 * s + 1) = σ (48 + 2 * s + 1) := fun v => by rw [wr_f (by omega), wr_f (by omega)]
            unfold m_X6_sheet_36 m_X3_become
            rw [if_pos h3, if_pos h4, tt_ok (zi4 (by omega)), nc (by omega), nm_ok, en]
            by_cases h0 : a2 = 0
            · rw [if_pos h0, if_pos h0, nm_ok, j_fill (by decide), cv_ok, cl_ok, us_o (by omega), wr_at, e1]
              rfl
            · rw [if_neg h0, if_neg h0, nm_ok, j_fill (by decide), cv_ok, cl_ok, us_o (by omega), wr_at, e1]
              rfl
          have cM : ∀ t, m_X7_sheet_36 t (nI s) a2 (nI m) = some (nI n, shM t s a2 (nI n)) := fun t => by
            have f := r_fill68 (s := s) (by omega) 40 200 0 (zw_wr (zw_wr t 66 s a2) 67 s (nI n)) (by omega) (by omega)
            rw [wr_at, wr_f (show (68 : Nat) ≠ 67 by decide), wr_f (show (68 : Nat) ≠ 66 by decide), Nat.add_zero] at f
            unfold m_X7_sheet_36
            rw [if_pos h3, if_pos h4, wt_i (by omega) (by decide)]
            by_cases h0 : a2 = 0
            · rw [if_pos h0] at en
              rw [if_pos h0, wt_i (by omega) (by decide)]
              rw [en] at f ⊢
              exact f
            · rw [if_neg h0] at en
              rw [if_neg h0, wt_i (by omega) (by decide)]
              rw [en] at f ⊢
              exact f
          refine ⟨nI n, _, _, eX.trans cX, (eM _).trans (cM _), β, ?_⟩
          refine h.sh (fun i hi => ?_) (Ish.sh h.2.2.2.2.2.2 (by omega) hn h2)
          unfold shM shX
          rw [us_o (by omega), wr_f (by omega), wr_f (by omega), us_o (by omega), wr_f (by omega), wr_f (by omega)]
        · refine ok_F2 (w := 0) (by decide) h (eX.trans ?_) ((eM _).trans ?_)
          · unfold m_X6_sheet_36
            rw [if_pos h3, if_neg h4, Fw0, c_found (by decide), cl_ok]
          · unfold m_X7_sheet_36
            rw [if_pos h3, if_neg h4, Fw0, r_finds (by decide), cl_ok]
      · refine ok_F2 (w := 6) (by decide) h (eX.trans ?_) ((eM _).trans ?_)
        · unfold m_X6_sheet_36
          rw [if_neg h3, Fw6, c_found (by decide), cl_ok]
        · unfold m_X7_sheet_36
          rw [if_neg h3, Fw6, r_finds (by decide), cl_ok]
    · have n1 : ¬ a2 = 0 := fun z => h2 (Or.inl z)
      have n2 : ¬ a2 = 8 := fun z => h2 (Or.inr (Or.inl z))
      have n3 : ¬ a2 = 16 := fun z => h2 (Or.inr (Or.inr (Or.inl z)))
      have n4 : ¬ a2 = 32 := fun z => h2 (Or.inr (Or.inr (Or.inr z)))
      refine ok_F2 (w := 0) (by decide) h ?_ ?_
      · unfold m_X6_sheet
        rw [c_isSheet, cl_ok, if1 h1, z10, if_neg n1, if_neg n2, if_neg n3, if_neg n4, Fw0, c_found (by decide), cl_ok]
      · show m_X7_sheet _ _ _ _ = _
        unfold m_X7_sheet
        rw [r_isSheet, cl_ok, if1 h1, z10, if_neg n1, if_neg n2, if_neg n3, if_neg n4, Fw0, r_finds (by decide), cl_ok]
  · refine ok_F2 (w := 0) (by decide) h ?_ ?_
    · unfold m_X6_sheet
      rw [c_isSheet, cl_ok, if0 h1, z00, Fw0, c_found (by decide), cl_ok]
    · show m_X7_sheet _ _ _ _ = _
      unfold m_X7_sheet
      rw [r_isSheet, cl_ok, if0 h1, z00, Fw0, r_finds (by decide), cl_ok]
/-! write -/
theorem Ish.put (h : Ish σ) {s i : Nat} {v : Int32} (hs : s < 4) (hi : i < 40) : Ish (zw_wr (zw_wr σ (49 + 2 * s) i v) 68 (40 * s + i) v) := by
  intro r hr
  obtain ⟨a1, a2, a3, a4⟩ := h r hr
  refine ⟨?_, ?_, ?_, fun j hj => ?_⟩
  · rw [wr_f (by omega), wr_f (by omega), wr_f (by decide), wr_f (by omega)]
    exact a1
  · rw [wr_f (by decide), wr_f (by omega)]
    exact a2
  · rw [wr_f (by omega), wr_f (by omega), wr_f (by decide), wr_f (by omega)]
    exact a3
  · rw [wr_f (by omega), wr_ap, wr_ap]
    by_cases hc : r = s ∧ j = i
    · obtain ⟨rfl, rfl⟩ := hc
      simp
    · rw [if_neg (by omega), if_neg (by omega), wr_f (by omega)]
      exact a4 j hj
theorem op_write (h : Iv β σ) (a1 a2 a3 : Int32) : Ok (m_X6_write σ a1 a2 a3) (fun τ => m_X7_write τ a1 a2 a3) := by
  by_cases h1 : 0 ≤ a1 ∧ a1 ≤ 3
  · obtain ⟨s, hs, rfl⟩ := in_nI (M := 3) (m := 3) (by decide) h1
    obtain ⟨b1, b2, ⟨n, hn, b3, b4⟩, b5⟩ := h.2.2.2.2.2.2 s (by omega)
    have pX : ∀ F : Int32 → zw_S → Option (Int32 × zw_S), (cl (m_X3_isMissing (48 + 2 * s) σ) F) = if σ 66 s = 0 then F 1 σ else F 0 σ := fun F => by
      unfold m_X3_isMissing
      rw [b1]
      by_cases h0 : σ 66 s = 0
      · rw [if_pos h0, if_pos h0, cl_ok]
      · rw [if_neg h0, if_neg h0, cl_ok]
    by_cases h2 : σ 66 s = 0
    · refine ok_F2 (w := 5) (by decide) h ?_ ?_
      · unfold m_X6_write
        rw [c_isSheet, cl_ok, if1 h1, z10, tt_ok (zi4 (by omega)), nc (by omega), pX, if_pos h2, z10, Fw5, c_found (by decide), cl_ok]
      · show m_X7_write _ _ _ _ = _
        unfold m_X7_write
        rw [r_isSheet, cl_ok, if1 h1, z10, rd_i (by omega) (by decide), fnd_o (by decide), if_pos h2, Fw5, r_finds (by decide), cl_ok]
    · have hin : ∀ (t : zw_S), m_X7_in t a2.toInt64 0 (nI n - 1).toInt64 = some (if 0 ≤ a2 ∧ a2 ≤ nI n - 1 then 1 else 0, t) := fun t => r_in (lo := 0) (hi := nI n - 1)
      by_cases h3 : 0 ≤ a2 ∧ a2 ≤ nI n - 1
      · obtain ⟨i, hi, rfl⟩ := isT_o (T := n) (by omega) ((le_pred (by omega)).mp h3)
        have hi40 : i < 40 := by omega
        obtain ⟨v, hv⟩ : ∃ v, v = if σ 66 s = 8 then a3.toInt8.toInt32 else if σ 66 s = 16 then a3.toInt16.toInt32 else a3 := ⟨_, rfl⟩
        refine ⟨1, zw_wr σ (49 + 2 * s) i v, zw_wr (zw_wr σ (49 + 2 * s) i v) 68 (40 * s + i) v, ?_, ?_, β, h.sh (fun i hi => by rw [wr_f (by omega), wr_f (by omega)]) (Ish.put h.2.2.2.2.2.2 (by omega) hi40)⟩
        · unfold m_X6_write m_X3_put
          rw [c_isSheet, cl_ok, if1 h1, z10, tt_ok (zi4 (by omega)), nc (by omega), pX, if_neg h2, z00, tt_ok (zi4 (by omega)), b3, c_isIn, cl_ok, if1 h3, z10, tt_ok (zi4 (by omega)), b1, hv, show 49 + 2 * s = 48 + 2 * s + 1 by omega]
          by_cases c1 : σ 66 s = 8
          · rw [if_pos c1, if_pos c1, wt_i hi40 (by decide), cv_ok]
          · rw [if_neg c1, if_neg c1]
            by_cases c2 : σ 66 s = 16
            · rw [if_pos c2, if_pos c2, wt_i hi40 (by decide), cv_ok]
            · rw [if_neg c2, if_neg c2, wt_i hi40 (by decide), cv_ok]
        · show m_X7_write _ _ _ _ = _
          unfold m_X7_write
          have f66 : zw_wr σ (49 + 2 * s) i v 66 = σ 66 := wr_f (by omega)
          have f67 : zw_wr σ (49 + 2 * s) i v 67 = σ 67 := wr_f (by omega)
          rw [r_isSheet, cl_ok, if1 h1, z10, rd_i (by omega) (by decide), f66, if_neg h2, rd_i (by omega) (by decide), f67, b4, hin, cl_ok, if1 h3, z10, rd_i (by omega) (by decide), f66, rd_i (by omega) (by decide), f66, x40]
          rw [wt_i (by omega) (by decide), wt_i (by omega) (by decide), wt_i (by omega) (by decide), hv]
          by_cases c1 : σ 66 s = 8
          · rw [if_pos c1, if_pos c1]
          · rw [if_neg c1, if_neg c1]
            by_cases c2 : σ 66 s = 16
            · rw [if_pos c2, if_pos c2]
            · rw [if_neg c2, if_neg c2]
      · refine ok_F2 (w := 0) (by decide) h ?_ ?_
        · unfold m_X6_write
          rw [c_isSheet, cl_ok, if1 h1, z10, tt_ok (zi4 (by omega)), nc (by omega), pX, if_neg h2, z00, tt_ok (zi4 (by omega)), b3, c_isIn, cl_ok, if0 h3, z00, Fw0, c_found (by decide), cl_ok]
        · show m_X7_write _ _ _ _ = _
          unfold m_X7_write
          rw [r_isSheet, cl_ok, if1 h1, z10, rd_i (by omega) (by decide), fnd_o (by decide), if_neg h2, rd_i (by omega) (by decide), fnd_o (by decide), b4, hin, cl_ok, if0 h3, z00, Fw0, r_finds (by decide), cl_ok]
  · refine ok_F2 (w := 0) (by decide) h ?_ ?_
    · unfold m_X6_write
      rw [c_isSheet, cl_ok, if0 h1, z00, Fw0, c_found (by decide), cl_ok]
    · show m_X7_write _ _ _ _ = _
      unfold m_X7_write
      rw [r_isSheet, cl_ok, if0 h1, z00, Fw0, r_finds (by decide), cl_ok]
end SH
