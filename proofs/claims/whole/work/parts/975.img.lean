section S9
variable {σ τ β γ : zw_S} {T N y k : Nat} {hd : Nat → Int32}
/-- one run each, told cell by cell -/
theorem ok_U3 {σ1 τ' : zw_S} {oX : Option (Int32 × zw_S)} {oM : zw_S → Option (Int32 × zw_S)} {r : Int32} (h : Iv β σ) (hX : oX = some (r, σ1)) (hg : gb σ1 1 = γ) (hF : FX σ σ1) (hM : oM σ1 = some (r, τ')) (hg2 : gm (τ' 58) = γ) (hm : FM σ1 τ') (hB : Bk γ) : Ok oX oM := by
  obtain ⟨h1, h2, h3, h4, h5, h6, h7⟩ := h
  have e : ∀ i, (i = 0 ∨ (13 ≤ i ∧ i ≤ 24) ∨ (45 ≤ i ∧ i ≠ 58 ∧ i ≠ 60 ∧ i ≠ 61 ∧ i ≠ 63 ∧ i ≠ 64)) → τ' i = σ i := fun i hi => (hm i (by omega) (by omega) (by omega) (by omega) (by omega)).trans (hF i (by omega))
  refine ⟨r, σ1, τ', hX, hM, γ, ?_, hg2, hB, ?_, ?_, ?_, ?_⟩
  · rw [← hg]
    funext f j
    unfold gb
    by_cases hj : j < cap f
    · have hf := cap_lt hj
      rw [if_pos hj, if_pos hj, hm (1 + f) (by omega) (by omega) (by omega) (by omega) (by omega)]
    · rw [if_neg hj, if_neg hj]
  · have e13 : gb τ' 13 = gb σ 13 := by
      funext f j
      unfold gb
      by_cases hj : j < cap f
      · have hf := cap_lt hj
        rw [if_pos hj, if_pos hj, e (13 + f) (by omega)]
      · rw [if_neg hj, if_neg hj]
    unfold Ik at h4 ⊢
    rw [e13, e 0 (by omega), e 57 (by omega), e 59 (by omega)]
    exact h4
  · intro j hj
    rw [e 56 (by omega), e 62 (by omega)]
    exact h5 j hj
  · obtain ⟨n, hn, a1, a2, a3⟩ := h6
    refine ⟨n, hn, by rw [e 45 (by omega)]; exact a1, by rw [e 57 (by omega)]; exact a2, fun j hj => ?_⟩
    rw [e 46 (by omega), e 65 (by omega)]
    exact a3 j hj
  · intro s hs
    rw [e (48 + 2 * s) (by omega), e 66 (by omega), e 67 (by omega), e (49 + 2 * s) (by omega), e 68 (by omega)]
    exact h7 s hs
theorem gb_e {s : zw_S} {k : Nat} (e : ∀ i, k ≤ i → i < k + 12 → s i = σ i) : gb s k = gb σ k := by
  funext f j
  unfold gb
  by_cases hj : j < cap f
  · have hf := cap_lt hj
    rw [if_pos hj, if_pos hj, e (k + f) (by omega) (by omega)]
  · rw [if_neg hj, if_neg hj]
theorem Iv.fnd2 {w : Nat} (hw : w < 7) (h : Iv β σ) : Iv β (fdm (fnd σ w) w) := by
  obtain ⟨h1, h2, h3, h4, h5, h6, h7⟩ := h
  have o2 : ∀ i, i ≠ 56 → i ≠ 62 → fdm (fnd σ w) w i = σ i := fun i hi hj => (wr_f hj).trans (wr_f hi)
  refine ⟨(gb_e (fun i a b => o2 i (by omega) (by omega))).trans h1, ?_, h3, ?_, ?_, ?_, ?_⟩
  · rw [o2 58 (by omega) (by omega)]
    exact h2
  · unfold Ik at h4 ⊢
    rw [gb_e (σ := σ) (fun i a b => o2 i (by omega) (by omega)), o2 0 (by omega) (by omega), o2 57 (by omega) (by omega), o2 59 (by omega) (by omega)]
    exact h4
  · intro j hj
    have := h5 j hj
    have hw2 := h5 w hw
    unfold fdm fnd
    simp only [wr_ap]
    grind
  · obtain ⟨n, hn, a1, a2, a3⟩ := h6
    refine ⟨n, hn, by rw [o2 45 (by omega) (by omega)]; exact a1, by rw [o2 57 (by omega) (by omega)]; exact a2, fun j hj => ?_⟩
    rw [o2 46 (by omega) (by omega), o2 65 (by omega) (by omega)]
    exact a3 j hj
  · intro s hs
    rw [o2 (48 + 2 * s) (by omega) (by omega), o2 66 (by omega) (by omega), o2 67 (by omega) (by omega), o2 (49 + 2 * s) (by omega) (by omega), o2 68 (by omega) (by omega)]
    exact h7 s hs
theorem ok_F2 {oX : Option (Int32 × zw_S)} {oM : zw_S → Option (Int32 × zw_S)} {w : Nat} (hw : w < 7) (h : Iv β σ) (hX : oX = some (fw w, fnd σ w)) (hM : oM (fnd σ w) = some (fw w, fdm (fnd σ w) w)) : Ok oX oM := ⟨fw w, _, _, hX, hM, β, h.fnd2 hw⟩
theorem fnd_o {w i : Nat} (h : i ≠ 56) : fnd σ w i = σ i := wr_f h
/-! images -/
theorem op_image (h : Iv β σ) : Ok (m_X6_image σ) (fun τ => m_X7_image τ) := by
  obtain ⟨h1, h2, h3, h4, h5, h6, h7⟩ := h
  obtain ⟨T, N, y, hW, hy, h40⟩ := id h3
  have eX : m_X6_image σ = some (1, zw_wr (pk σ 13 β (σ 38)) 0 8 1) := by
    unfold m_X6_image
    rw [c_setTo (by decide) (by decide) (by decide), cv_ok, nm_ok, h1]
  have oX : ∀ i, ¬ (i = 0) → ¬ (13 ≤ i ∧ i ≤ 24) → i ≠ 38 → zw_wr (pk σ 13 β (σ 38)) 0 8 1 i = σ i := fun i a b c => by rw [wr_f a, pk_o c (by omega)]
  have eM : m_X7_image (zw_wr (pk σ 13 β (σ 38)) 0 8 1) = some (1, zw_wr (zw_us (zw_wr (pk σ 13 β (σ 38)) 0 8 1) 59 (fun j => if j < 142 then zw_wr (pk σ 13 β (σ 38)) 0 8 1 58 j else zw_wr (pk σ 13 β (σ 38)) 0 8 1 59 j)) 57 4 1) := by
    unfold m_X7_image
    rw [r_row (by decide), cv_ok, nm_ok]
  refine ⟨1, _, _, eX, eM, β, ?_⟩
  · have e58 : zw_wr (pk σ 13 β (σ 38)) 0 8 1 58 = σ 58 := oX 58 (by omega) (by omega) (by omega)
    have oM : ∀ (s : zw_S) (g : Nat → Int32) (i : Nat), i ≠ 57 → i ≠ 59 → zw_wr (zw_us s 59 g) 57 4 1 i = s i := fun s g i a b => by
      rw [wr_f a]
      unfold zw_us
      rw [if_neg b]
    refine ⟨?_, ?_, h3, ?_, ?_, ?_, ?_⟩
    · refine Eq.trans (gb_e (σ := σ) (fun i a b => ?_)) h1
      rw [oM _ _ i (by omega) (by omega), oX i (by omega) (by omega) (by omega)]
    · rw [oM _ _ 58 (by omega) (by omega), e58]
      exact h2
    · refine ⟨?_, Or.inr ⟨?_, ?_, ?_⟩⟩
      · rw [oM _ _ 0 (by omega) (by omega), wr_at, wr_at]
      · rw [oM _ _ 0 (by omega) (by omega), wr_at]
      · have a1 : gb (zw_wr (zw_us (zw_wr (pk σ 13 β (σ 38)) 0 8 1) 59 (fun j => if j < 142 then zw_wr (pk σ 13 β (σ 38)) 0 8 1 58 j else zw_wr (pk σ 13 β (σ 38)) 0 8 1 59 j)) 57 4 1) 13 = β := by
          refine Eq.trans (gb_e (σ := pk σ 13 β (σ 38)) (fun i a b => ?_)) (gb_pk (by decide) hW.cp)
          rw [oM _ _ i (by omega) (by omega), wr_f (by omega)]
        rw [a1, wr_f (by decide)]
        unfold zw_us
        rw [if_pos rfl, e58]
        have a2 := h2
        rw [← a2]
        funext f j
        by_cases hj : j < cap f
        · rw [gm_ap hj, gm_ap hj, if_pos (ec_lt hj)]
        · rw [Cp_gm _ f j (by omega), Cp_gm _ f j (by omega)]
      · have a1 : gb (zw_wr (zw_us (zw_wr (pk σ 13 β (σ 38)) 0 8 1) 59 (fun j => if j < 142 then zw_wr (pk σ 13 β (σ 38)) 0 8 1 58 j else zw_wr (pk σ 13 β (σ 38)) 0 8 1 59 j)) 57 4 1) 13 = β := by
          refine Eq.trans (gb_e (σ := pk σ 13 β (σ 38)) (fun i a b => ?_)) (gb_pk (by decide) hW.cp)
          rw [oM _ _ i (by omega) (by omega), wr_f (by omega)]
        rw [a1]
        exact h3
    · intro j hj
      rw [oM _ _ 56 (by omega) (by omega), oM _ _ 62 (by omega) (by omega), oX 56 (by omega) (by omega) (by omega), oX 62 (by omega) (by omega) (by omega)]
      exact h5 j hj
    · obtain ⟨n, hn, a1, a2, a3⟩ := h6
      refine ⟨n, hn, ?_, ?_, fun j hj => ?_⟩
      · rw [oM _ _ 45 (by omega) (by omega), oX 45 (by omega) (by omega) (by omega)]
        exact a1
      · rw [wr_j (by decide)]
        unfold zw_us
        rw [if_neg (by decide), oX 57 (by omega) (by omega) (by omega)]
        exact a2
      · rw [oM _ _ 46 (by omega) (by omega), oM _ _ 65 (by omega) (by omega), oX 46 (by omega) (by omega) (by omega), oX 65 (by omega) (by omega) (by omega)]
        exact a3 j hj
    · intro s hs
      rw [oM _ _ (48 + 2 * s) (by omega) (by omega), oM _ _ 66 (by omega) (by omega), oM _ _ 67 (by omega) (by omega), oM _ _ (49 + 2 * s) (by omega) (by omega), oM _ _ 68 (by omega) (by omega), oX (48 + 2 * s) (by omega) (by omega) (by omega), oX 66 (by omega) (by omega) (by omega), oX 67 (by omega) (by omega) (by omega), oX (49 + 2 * s) (by omega) (by omega) (by omega), oX 68 (by omega) (by omega) (by omega)]
      exact h7 s hs
theorem op_undo (h : Iv β σ) : Ok (m_X6_undo σ) (fun τ => m_X7_undo τ) := by
  obtain ⟨k1, k2⟩ := id h.2.2.2.1
  by_cases h0 : σ 0 8 = 0
  · refine ok_F2 (w := 3) (by decide) h ?_ ?_
    · unfold m_X6_undo
      rw [if_pos h0, Fw3, c_found (by decide), cl_ok]
    · show m_X7_undo _ = _
      unfold m_X7_undo
      rw [fnd_o (by decide), ← k1, if_pos h0, Fw3, r_finds (by decide), cl_ok]
  · rcases k2 with k2 | ⟨k2, k3, k4⟩
    · exact absurd k2 h0
    · obtain ⟨T, N, y, hW, hy, h40⟩ := id k4
      have f59 : pk σ 1 (gb σ 13) (σ 38) 59 = σ 59 := pk_o (by decide) (by decide)
      refine ok_U3 (σ1 := pk σ 1 (gb σ 13) (σ 38)) (τ' := zw_us (pk σ 1 (gb σ 13) (σ 38)) 58 (fun j => if j < 142 then pk σ 1 (gb σ 13) (σ 38) 59 j else pk σ 1 (gb σ 13) (σ 38) 58 j)) (r := gb σ 13 0 0) h ?_ (gb_pk (by decide) hW.cp) FX.pk1 ?_ ?_ ?_ k4
      · unfold m_X6_undo
        rw [if_neg h0, c_setTo (by decide) (by decide) (by decide), cv_ok, pk1_s (by decide)]
      · show m_X7_undo _ = _
        unfold m_X7_undo
        rw [pk_o (show (57 : Nat) ≠ 38 by decide) (by decide), ← k1, if_neg h0, r_row (by decide), cv_ok, show (0 : Int32) = nI 0 from rfl, rd_i (by decide) (by decide)]
        congr 2
        unfold zw_us
        rw [if_pos rfl, if_pos (by decide), f59, k3, gm_ap (by decide)]
        rfl
      · unfold zw_us
        rw [if_pos rfl, k3]
        funext f j
        by_cases hj : j < cap f
        · rw [gm_ap hj, gm_ap hj, if_pos (ec_lt hj), pk_o (by decide) (by decide)]
        · rw [Cp_gm _ f j (by omega), Cp_gm _ f j (by omega)]
      · intro i a1 a2 a3 a4 a5
        unfold zw_us
        rw [if_neg a1]
theorem op_tear (h : Iv β σ) : Ok (m_X6_tear σ) (fun τ => m_X7_tear τ) := by
  obtain ⟨h1, h2, h3, h4, h5, h6, h7⟩ := h
  obtain ⟨k1, k2⟩ := id h4
  have eX : m_X6_tear σ = some (if σ 0 8 = 0 then 0 else 1, zw_wr σ 0 8 0) := by
    unfold m_X6_tear
    by_cases h0 : σ 0 8 = 0
    · rw [if_pos h0, if_pos h0, nm_ok]
    · rw [if_neg h0, if_neg h0, nm_ok]
  have eM : m_X7_tear (zw_wr σ 0 8 0) = some (if σ 0 8 = 0 then 0 else 1, zw_wr (zw_wr σ 0 8 0) 57 4 0) := by
    unfold m_X7_tear
    rw [wr_f (show (57 : Nat) ≠ 0 by decide), ← k1]
    by_cases h0 : σ 0 8 = 0
    · rw [if_pos h0, if_pos h0, nm_ok]
    · rw [if_neg h0, if_neg h0, nm_ok]
  have e : ∀ i, i ≠ 0 → i ≠ 57 → zw_wr (zw_wr σ 0 8 0) 57 4 0 i = σ i := fun i a b => by rw [wr_f b, wr_f a]
  refine ⟨_, _, _, eX, eM, β, (gb_e (fun i a b => e i (by omega) (by omega))).trans h1, ?_, h3, ?_, ?_, ?_, ?_⟩
  · rw [e 58 (by omega) (by omega)]
    exact h2
  · have b0 : zw_wr (zw_wr σ 0 8 0) 57 4 0 0 8 = 0 := by rw [wr_f (by decide), wr_at]
    exact ⟨by rw [b0, wr_at], Or.inl b0⟩
  · intro j hj
    rw [e 56 (by omega) (by omega), e 62 (by omega) (by omega)]
    exact h5 j hj
  · obtain ⟨n, hn, a1, a2, a3⟩ := h6
    refine ⟨n, hn, by rw [e 45 (by omega) (by omega)]; exact a1, ?_, fun j hj => ?_⟩
    · rw [wr_j (by decide), wr_f (by decide)]
      exact a2
    · rw [e 46 (by omega) (by omega), e 65 (by omega) (by omega)]
      exact a3 j hj
  · intro s hs
    rw [e (48 + 2 * s) (by omega) (by omega), e 66 (by omega) (by omega), e 67 (by omega) (by omega), e (49 + 2 * s) (by omega) (by omega), e 68 (by omega) (by omega)]
    exact h7 s hs
/-! the tape -/
theorem Iv.tp {s : zw_S} (h : Iv β σ) (e : ∀ i, i ≠ 45 → i ≠ 46 → i ≠ 57 → i ≠ 65 → s i = σ i) (e4 : s 57 4 = σ 57 4) (ht : Itape s) : Iv β s := by
  obtain ⟨h1, h2, h3, h4, h5, h6, h7⟩ := h
  refine ⟨(gb_e (fun i a b => e i (by omega) (by omega) (by omega) (by omega))).trans h1, ?_, h3, ?_, ?_, ht, ?_⟩
  · rw [e 58 (by omega) (by omega) (by omega) (by omega)]
    exact h2
  · unfold Ik at h4 ⊢
    rw [gb_e (σ := σ) (fun i a b => e i (by omega) (by omega) (by omega) (by omega)), e 0 (by omega) (by omega) (by omega) (by omega), e4, e 59 (by omega) (by omega) (by omega) (by omega)]
    exact h4
  · intro j hj
    rw [e 56 (by omega) (by omega) (by omega) (by omega), e 62 (by omega) (by omega) (by omega) (by omega)]
    exact h5 j hj
  · intro s hs
    rw [e (48 + 2 * s) (by omega) (by omega) (by omega) (by omega), e 66 (by omega) (by omega) (by omega) (by omega), e 67 (by omega) (by omega) (by omega) (by omega), e (49 + 2 * s) (by omega) (by omega) (by omega) (by omega), e 68 (by omega) (by omega) (by omega) (by omega)]
    exact h7 s hs
theorem op_wipe (h : Iv β σ) : Ok (m_X6_wipe σ) (fun τ => m_X7_wipe τ) := by
  obtain ⟨n, hn, a1, a2, a3⟩ := id h.2.2.2.2.2.1
  refine ⟨nI n, zw_wr σ 45 1 0, zw_wr (zw_wr σ 45 1 0) 57 9 0, ?_, ?_, β, ?_⟩
  · unfold m_X6_wipe m_X4_clear
    rw [nm_ok, nm_ok, cl_ok, a1]
  · show m_X7_wipe _ = _
    unfold m_X7_wipe
    rw [nm_ok, nm_ok, wr_f (by decide), a2]
  · refine h.tp (fun i b1 b2 b3 b4 => by rw [wr_f b3, wr_f b1]) (by rw [wr_j (by decide), wr_f (by decide)]) ⟨0, by omega, ?_, ?_, fun j hj => absurd hj (by omega)⟩
    · rw [wr_f (by decide), wr_at]; rfl
    · rw [wr_at]; rfl
def byt (x : Int32) (i : Nat) : Int32 := zush x (nI (8 * i)) &&& 255
theorem byt_e {x : Int32} {i : Nat} (h : i < 4) : (x >>> (nI (8 * i) &&& 31)) &&& 255 = byt x i := by
  unfold byt
  apply b_ext
  intro j hj
  rw [b_and, b_and, b_255, b_sshr (8 * i) (by omega) x hj]
  have := b_ushr (8 * i) (by omega) x j
  unfold zush
  rw [this]
  by_cases h8 : j < 8
  · rw [if_pos (by omega)]
  · simp [h8]
theorem dn1 {q : Nat} : nI q + (-1) = nI q - 1 := by grind
theorem x8 {q : Nat} : (8 : Int32) * nI q = nI (8 * q) := by rw [show (8 : Int32) = nI 8 from rfl, pk_mul]
theorem c_append {x : Int32} : ∀ (q n len : Nat) (s : zw_S), len + q ≤ 120 → q < n → s 45 1 = nI len → ∃ s1, m_X4_append_4 n s x (nI q - 1) = some (nI (len + q), s1) ∧ s1 45 1 = nI (len + q) ∧ (∀ j, j < len → s1 46 j = s 46 j) ∧ (∀ j, len ≤ j → j < len + q → s1 46 j = byt x (len + q - 1 - j)) ∧ (∀ i, i ≠ 45 → i ≠ 46 → s1 i = s i) := by
  intro q
  induction q with
  | zero =>
    intro n len s hl hn h1
    obtain ⟨n, rfl⟩ : ∃ m, n = m + 1 := ⟨n - 1, by omega⟩
    refine ⟨s, ?_, h1, fun _ _ => rfl, fun j a b => absurd b (by omega), fun _ _ _ => rfl⟩
    unfold m_X4_append_4
    rw [if_pos (by decide), h1]
    rfl
  | succ q ih =>
    intro n len s hl hn h1
    obtain ⟨n, rfl⟩ : ∃ m, n = m + 1 := ⟨n - 1, by omega⟩
    obtain ⟨s1, e1, e2, e3, e4, e5⟩ := ih n (len + 1) (zw_wr (zw_wr s 45 1 (nI (len + 1))) 46 len (byt x q)) (by omega) (by omega) (by rw [wr_f (by decide), wr_at])
    refine ⟨s1, ?_, by rw [e2]; congr 1; omega, fun j hj => ?_, fun j a b => ?_, fun i a b => by rw [e5 i a b, wr_f b, wr_f a]⟩
    · unfold m_X4_append_4
      rw [nI_pred, if_neg (nI_pos (by have : q ≤ 120 := by omega
                                      omega)), h1, show (120 : Int32) = nI 120 from rfl, if_neg (nI_ge (by omega) (by omega)), nm_ok, nm_ok, nI_1, wt_i (by omega) (by omega), nm_ok, x8, dn1]
      rw [show len + (q + 1) = len + 1 + q by omega]
      exact e1
    · rw [e3 j (by omega), wr_j (by omega), wr_f (by decide)]
    · by_cases hj : j = len
      · subst hj
        rw [e3 j (by omega), wr_at, show j + (q + 1) - 1 - j = q by omega]
      · rw [e4 j (by omega) (by omega), show len + 1 + q - 1 - j = len + (q + 1) - 1 - j by omega]
theorem r_feedl {x : Int32} : ∀ (q n len : Nat) (s : zw_S), len + q ≤ 120 → q ≤ 4 → q < n → s 57 9 = nI len → ∃ s1, m_X7_feed_41 n s x (nI q - 1) = some (nI (len + q), s1) ∧ s1 57 9 = nI (len + q) ∧ s1 57 4 = s 57 4 ∧ (∀ j, j < len → s1 65 j = s 65 j) ∧ (∀ j, len ≤ j → j < len + q → s1 65 j = byt x (len + q - 1 - j)) ∧ (∀ i, i ≠ 57 → i ≠ 65 → s1 i = s i) := by
  intro q
  induction q with
  | zero =>
    intro n len s hl h4 hn h1
    obtain ⟨n, rfl⟩ : ∃ m, n = m + 1 := ⟨n - 1, by omega⟩
    refine ⟨s, ?_, h1, rfl, fun _ _ => rfl, fun j a b => absurd b (by omega), fun _ _ _ => rfl⟩
    unfold m_X7_feed_41
    rw [if_pos (by decide), h1]
    rfl
  | succ q ih =>
    intro n len s hl h4 hn h1
    obtain ⟨n, rfl⟩ : ∃ m, n = m + 1 := ⟨n - 1, by omega⟩
    obtain ⟨s1, e1, e2, e6, e3, e4, e5⟩ := ih n (len + 1) (zw_wr (zw_wr s 65 len (byt x q)) 57 9 (nI (len + 1))) (by omega) (by omega) (by omega) (by rw [wr_at])
    refine ⟨s1, ?_, by rw [e2]; congr 1; omega, by rw [e6, wr_j (by decide), wr_f (by decide)], fun j hj => ?_, fun j a b => ?_, fun i a b => by rw [e5 i a b, wr_f a, wr_f b]⟩
    · unfold m_X7_feed_41
      rw [nI_pred, if_neg (nI_pos (by omega)), h1, wt_i (by omega) (by omega), nm_ok, wr_f (show (57 : Nat) ≠ 65 by decide), h1, nI_1, nm_ok, x8, byt_e (by omega), dn1]
      rw [show len + (q + 1) = len + 1 + q by omega]
      exact e1
    · rw [e3 j (by omega), wr_f (by decide), wr_j (by omega)]
    · by_cases hj : j = len
      · subst hj
        rw [e3 j (by omega), wr_f (by decide), wr_at, show j + (q + 1) - 1 - j = q by omega]
      · rw [e4 j (by omega) (by omega), show len + 1 + q - 1 - j = len + (q + 1) - 1 - j by omega]
theorem op_feed (h : Iv β σ) (a1 a2 : Int32) : Ok (m_X6_feed σ a1 a2) (fun τ => m_X7_feed τ a1 a2) := by
  obtain ⟨len, hl, l1, l2, l3⟩ := id h.2.2.2.2.2.1
  by_cases h1 : 1 ≤ a2 ∧ a2 ≤ 4
  · obtain ⟨q, hq, rfl⟩ := in_nI (x := a2) (M := 4) (m := 4) (by decide) (by grind)
    by_cases h2 : len + q ≤ 120
    · obtain ⟨s1, e1, e2, e3, e4, e5⟩ := c_append (x := a1) q 200 len σ h2 (by omega) l1
      obtain ⟨s2, f1, f2, f6, f3, f4, f5⟩ := r_feedl (x := a1) q 200 len s1 h2 hq (by omega) (by rw [e5 57 (by decide) (by decide)]; exact l2)
      refine ⟨nI (len + q), s1, s2, ?_, ?_, β, ?_⟩
      · unfold m_X6_feed m_X4_hasRoomFor m_X4_append
        rw [c_isIn, cl_ok, if1 h1, z10, l1, nI_add, show (120 : Int32) = nI 120 from rfl, if_neg (nI_nlt (by omega) (by omega)), cl_ok, z10, nm_ok, e1, cl_ok]
      · show m_X7_feed _ _ _ = _
        unfold m_X7_feed
        rw [ri_1_4, cl_ok, if1 h1, z10, e5 57 (by decide) (by decide), l2, nI_add, show (120 : Int32) = nI 120 from rfl, if_pos (nI_le h2 (by omega)), nm_ok]
        exact f1
      · refine h.tp (fun i b1 b2 b3 b4 => by rw [f5 i b3 b4, e5 i b1 b2]) (by rw [f6, e5 57 (by decide) (by decide)]) ⟨len + q, h2, ?_, f2, fun j hj => ?_⟩
        · rw [f5 45 (by decide) (by decide)]
          exact e2
        · rw [f5 46 (by decide) (by decide)]
          by_cases hj2 : j < len
          · rw [e3 j hj2, f3 j hj2, e5 65 (by decide) (by decide)]
            exact l3 j hj2
          · rw [e4 j (by omega) hj, f4 j (by omega) hj]
    · refine ok_F2 (w := 1) (by decide) h ?_ ?_
      · unfold m_X6_feed m_X4_hasRoomFor
        rw [c_isIn, cl_ok, if1 h1, z10, l1, nI_add, show (120 : Int32) = nI 120 from rfl, if_pos (nI_lt (by omega) (by omega)), cl_ok, z00, Fw1, c_found (by decide), cl_ok]
      · show m_X7_feed _ _ _ = _
        unfold m_X7_feed
        rw [ri_1_4, cl_ok, if1 h1, z10, fnd_o (by decide), l2, nI_add, show (120 : Int32) = nI 120 from rfl, if_neg (nI_ge (by omega) (by omega)), Fw1, r_finds (by decide), cl_ok]
  · refine ok_F2 (w := 0) (by decide) h ?_ ?_
    · unfold m_X6_feed
      rw [c_isIn, cl_ok, if0 h1, z00, Fw0, c_found (by decide), cl_ok]
    · show m_X7_feed _ _ _ = _
      unfold m_X7_feed
      rw [ri_1_4, cl_ok, if0 h1, z00, Fw0, r_finds (by decide), cl_ok]
end S9
