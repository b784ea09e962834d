/-! what stays between the calls -/
def Bk (β : zw_S) : Prop := ∃ T N y, Wf T N y β ∧ y ≤ 999 ∧ ∀ p, p < N → β 8 p = 40 → β 7 p = -1
def Ik (σ : zw_S) : Prop := σ 0 8 = σ 57 4 ∧ (σ 0 8 = 0 ∨ (σ 0 8 = 1 ∧ gb σ 13 = gm (σ 59) ∧ Bk (gb σ 13)))
def Itold (σ : zw_S) : Prop := ∀ j, j < 7 → σ 56 j = σ 62 j
def Itape (σ : zw_S) : Prop := ∃ n, n ≤ 120 ∧ σ 45 1 = nI n ∧ σ 57 9 = nI n ∧ ∀ j, j < n → σ 46 j = σ 65 j
def Ish (σ : zw_S) : Prop := ∀ s, s < 4 → σ (48 + 2 * s) 1 = σ 66 s ∧ (σ 66 s = 0 ∨ σ 66 s = 8 ∨ σ 66 s = 16 ∨ σ 66 s = 32) ∧ (∃ n, n ≤ 40 ∧ σ (48 + 2 * s) 2 = nI n ∧ σ 67 s = nI n) ∧ ∀ j, j < 40 → σ (49 + 2 * s) j = σ 68 (40 * s + j)
def Iv (β σ : zw_S) : Prop := gb σ 1 = β ∧ gm (σ 58) = β ∧ Bk β ∧ Ik σ ∧ Itold σ ∧ Itape σ ∧ Ish σ
def zp_inv (σ : zw_S) : Prop := ∃ β, Iv β σ
/-- the class's other cells, the reference's other cells -/
def FX (σ τ : zw_S) : Prop := ∀ i, (i = 0 ∨ (13 ≤ i ∧ i ≤ 24) ∨ 45 ≤ i) → τ i = σ i
def FM (σ τ : zw_S) : Prop := ∀ i, i ≠ 58 → i ≠ 60 → i ≠ 61 → i ≠ 63 → i ≠ 64 → τ i = σ i
theorem FX.refl {σ : zw_S} : FX σ σ := fun _ _ => rfl
theorem FM.refl {σ : zw_S} : FM σ σ := fun _ _ _ _ _ _ => rfl
theorem FX.pk1 {σ β : zw_S} {h : Nat → Int32} : FX σ (pk σ 1 β h) := fun i hi => pk_o (by omega) (by omega)
theorem FX.pk25 {σ β : zw_S} {h : Nat → Int32} : FX σ (pk σ 25 β h) := fun i hi => pk_o (by omega) (by omega)
theorem FX.trans {a b c : zw_S} (h1 : FX a b) (h2 : FX b c) : FX a c := fun i hi => (h2 i hi).trans (h1 i hi)
theorem FM.trans {a b c : zw_S} (h1 : FM a b) (h2 : FM b c) : FM a c := fun i a1 a2 a3 a4 a5 => (h2 i a1 a2 a3 a4 a5).trans (h1 i a1 a2 a3 a4 a5)
theorem FM.pm {σ β : zw_S} : FM σ (pm σ β) := fun i h _ _ _ _ => pm_o h
def Ok (oX : Option (Int32 × zw_S)) (oM : zw_S → Option (Int32 × zw_S)) : Prop := ∃ r σ1 σ2, oX = some (r, σ1) ∧ oM σ1 = some (r, σ2) ∧ zp_inv σ2
theorem ok_U {β γ σ σ1 : zw_S} {oX : Option (Int32 × zw_S)} {oM : zw_S → Option (Int32 × zw_S)} {r : Int32} (h : Iv β σ) (hX : oX = some (r, σ1)) (hg : gb σ1 1 = γ) (hF : FX σ σ1) (hM : ∀ τ, gm (τ 58) = β → ∃ τ', oM τ = some (r, τ') ∧ gm (τ' 58) = γ ∧ FM τ τ') (hB : Bk γ) : Ok oX oM := by
  obtain ⟨h1, h2, h3, h4, h5, h6, h7⟩ := h
  obtain ⟨τ', e1, e2, hm⟩ := hM σ1 (by rw [hF 58 (by omega)]; exact h2)
  have e : ∀ i, (i = 0 ∨ (13 ≤ i ∧ i ≤ 24) ∨ (45 ≤ i ∧ i ≠ 58 ∧ i ≠ 60 ∧ i ≠ 61 ∧ i ≠ 63 ∧ i ≠ 64)) → τ' i = σ i := fun i hi => (hm i (by omega) (by omega) (by omega) (by omega) (by omega)).trans (hF i (by omega))
  refine ⟨r, σ1, τ', hX, e1, γ, ?_, e2, hB, ?_, ?_, ?_, ?_⟩
  · rw [← hg]
    funext f j
    unfold gb
    by_cases hj : j < cap f
    · have hf := cap_lt hj
      rw [if_pos hj, if_pos hj, hm (1 + f) (by omega) (by omega) (by omega) (by omega) (by omega)]
    · rw [if_neg hj, if_neg hj]
  · have e13 : gb τ' 13 = gb σ 13 := by
      funext f j
      unfold gb
      by_cases hj : j < cap f
      · have hf := cap_lt hj
        rw [if_pos hj, if_pos hj, e (13 + f) (by omega)]
      · rw [if_neg hj, if_neg hj]
    unfold Ik at h4 ⊢
    rw [e13, e 0 (by omega), e 57 (by omega), e 59 (by omega)]
    exact h4
  · intro j hj
    rw [e 56 (by omega), e 62 (by omega)]
    exact h5 j hj
  · obtain ⟨n, hn, a1, a2, a3⟩ := h6
    refine ⟨n, hn, by rw [e 45 (by omega)]; exact a1, by rw [e 57 (by omega)]; exact a2, fun j hj => ?_⟩
    rw [e 46 (by omega), e 65 (by omega)]
    exact a3 j hj
  · intro s hs
    rw [e (48 + 2 * s) (by omega), e 66 (by omega), e 67 (by omega), e (49 + 2 * s) (by omega), e 68 (by omega)]
    exact h7 s hs
theorem Iv.X {β σ : zw_S} (h : Iv β σ) : σ = pk σ 1 β (σ 38) := by rw [← h.1, pk_gb σ 1 (by decide)]
theorem pm_of {β τ : zw_S} (h : gm (τ 58) = β) : τ = pm τ β := by rw [← h, pm_gm]
/-- a book changed -/
theorem ok_V {β γ σ : zw_S} {mX mM : zw_S → Option (Int32 × zw_S)} {r : Int32} (h : Iv β σ) (hB : Bk γ) (hX : ∀ hd, ∃ hd2, mX (pk σ 1 β hd) = some (r, pk σ 1 γ hd2)) (hM : ∀ τ, mM (pm τ β) = some (r, pm τ γ)) : Ok (mX σ) mM := by
  obtain ⟨T, N, y, hW, -⟩ := id hB
  obtain ⟨hd2, hX2⟩ := hX (σ 38)
  rw [← h.X] at hX2
  refine ok_U h hX2 (gb_pk (by decide) hW.cp) FX.pk1 (fun τ ht => ⟨pm τ γ, ?_, ?_, FM.pm⟩) hB
  · rw [show mM τ = mM (pm τ β) from congrArg mM (pm_of ht)]
    exact hM τ
  · rw [show pm τ γ 58 = em γ (τ 58) from by simp [pm], gm_em hW.cp]
/-- only a look -/
theorem ok_Q {β σ : zw_S} {mX mM : zw_S → Option (Int32 × zw_S)} {r : Int32} (h : Iv β σ) (hX : ∀ hd, mX (pk σ 1 β hd) = some (r, pk σ 1 β hd)) (hM : ∀ τ, mM (pm τ β) = some (r, pm τ β)) : Ok (mX σ) mM := ok_V h h.2.2.1 (fun hd => ⟨hd, hX hd⟩) hM
/-! findings -/
def fw (w : Nat) : Int32 := -1000001 - nI w
def fnd (σ : zw_S) (w : Nat) : zw_S := zw_wr σ 56 w (σ 56 w + 1)
def fdm (σ : zw_S) (w : Nat) : zw_S := zw_wr σ 62 w (σ 62 w + 1)
theorem fw_sub {w : Nat} (h : w < 7) : -1000001 - fw w = nI w := by
  unfold fw
  grind
theorem c_isIn {σ : zw_S} {x a b : Int32} : m_X6_isIn σ x a b = some (if a ≤ x ∧ x ≤ b then 1 else 0, σ) := by
  unfold m_X6_isIn
  grind
theorem c_found {σ : zw_S} {w : Nat} (h : w < 7) : m_X6_found σ (fw w) = some (fw w, fnd σ w) := by
  unfold m_X6_found fnd
  have hc : (0 : Int32) ≤ nI w ∧ nI w ≤ 6 := ⟨nI_pos' (by omega), by rw [show (6 : Int32) = nI 6 from rfl]; exact nI_le (by omega) (by omega)⟩
  rw [nm_ok, fw_sub h, c_isIn, cl_ok, if_neg (by rw [if_pos hc]; decide), rd_i h (by omega), wt_i h (by omega)]
theorem r_finds {σ : zw_S} {w : Nat} (h : w < 7) : m_X7_finds σ (fw w) = some (fw w, fdm σ w) := by
  unfold m_X7_finds fdm
  rw [nm_ok, fw_sub h, rd_i h (by omega), wt_i h (by omega)]
theorem ok_F {β σ : zw_S} {mX mM : zw_S → Option (Int32 × zw_S)} {w : Nat} (hw : w < 7) (h : Iv β σ) (hX : ∀ hd, mX (pk σ 1 β hd) = some (fw w, fnd (pk σ 1 β hd) w)) (hM : ∀ τ, mM (pm τ β) = some (fw w, fdm (pm τ β) w)) : Ok (mX σ) mM := by
  have hX2 := hX (σ 38)
  rw [← h.X] at hX2
  obtain ⟨h1, h2, h3, h4, h5, h6, h7⟩ := h
  have o1 : ∀ i, i ≠ 56 → fnd σ w i = σ i := fun i hi => wr_f hi
  have hM2 := hM (fnd σ w)
  rw [← pm_of (by rw [o1 58 (by omega)]; exact h2)] at hM2
  have o2 : ∀ i, i ≠ 56 → i ≠ 62 → fdm (fnd σ w) w i = σ i := fun i hi hj => (wr_f hj).trans (o1 i hi)
  refine ⟨fw w, _, _, hX2, hM2, β, ?_, ?_, h3, ?_, ?_, ?_, ?_⟩
  · rw [← h1]
    funext f j
    unfold gb
    by_cases hj : j < cap f
    · have hf := cap_lt hj
      rw [if_pos hj, if_pos hj, o2 (1 + f) (by omega) (by omega)]
    · rw [if_neg hj, if_neg hj]
  · rw [o2 58 (by omega) (by omega)]
    exact h2
  · have e13 : gb (fdm (fnd σ w) w) 13 = gb σ 13 := by
      funext f j
      unfold gb
      by_cases hj : j < cap f
      · have hf := cap_lt hj
        rw [if_pos hj, if_pos hj, o2 (13 + f) (by omega) (by omega)]
      · rw [if_neg hj, if_neg hj]
    unfold Ik at h4 ⊢
    rw [e13, o2 0 (by omega) (by omega), o2 57 (by omega) (by omega), o2 59 (by omega) (by omega)]
    exact h4
  · intro j hj
    have := h5 j hj
    have hw2 := h5 w hw
    unfold fdm fnd
    simp only [wr_ap]
    grind
  · obtain ⟨n, hn, a1, a2, a3⟩ := h6
    refine ⟨n, hn, by rw [o2 45 (by omega) (by omega)]; exact a1, by rw [o2 57 (by omega) (by omega)]; exact a2, fun j hj => ?_⟩
    rw [o2 46 (by omega) (by omega), o2 65 (by omega) (by omega)]
    exact a3 j hj
  · intro s hs
    rw [o2 (48 + 2 * s) (by omega) (by omega), o2 66 (by omega) (by omega), o2 67 (by omega) (by omega), o2 (49 + 2 * s) (by omega) (by omega), o2 68 (by omega) (by omega)]
    exact h7 s hs
theorem Fw0 : (-1000001 : Int32) = fw 0 := by decide
theorem Fw1 : (-1000002 : Int32) = fw 1 := by decide
theorem Fw2 : (-1000003 : Int32) = fw 2 := by decide
theorem Fw3 : (-1000004 : Int32) = fw 3 := by decide
theorem Fw4 : (-1000005 : Int32) = fw 4 := by decide
theorem Fw5 : (-1000006 : Int32) = fw 5 := by decide
theorem Fw6 : (-1000007 : Int32) = fw 6 := by decide
theorem r_in {σ : zw_S} {x lo hi : Int32} : m_X7_in σ x.toInt64 lo.toInt64 hi.toInt64 = some (if lo ≤ x ∧ x ≤ hi then 1 else 0, σ) := by
  unfold m_X7_in lg_cmp
  have e : ∀ a b : Int32, a.toInt64 < b.toInt64 ↔ a < b := fun a b => by rw [Int64.lt_iff_toInt_lt, Int32.lt_iff_toInt_lt, Int32.toInt_toInt64, Int32.toInt_toInt64]
  have e2 : ∀ a b : Int32, a.toInt64 = b.toInt64 ↔ a = b := fun a b => by rw [← Int64.toInt_inj, ← Int32.toInt_inj, Int32.toInt_toInt64, Int32.toInt_toInt64]
  simp only [gt_iff_lt, e, e2]
  grind
