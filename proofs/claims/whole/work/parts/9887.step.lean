/-! the start, and each call -/
theorem zp_b0 : ∀ f, f < 12 → ∀ j, j < 20 → j < cap f → zl_s0 (1 + f) j = gm (zl_s0 58) f j := by decide +kernel
theorem zp_w0 : ∀ i, i < 8 → gb zl_s0 1 1 i = 10 := by decide +kernel
theorem zp_w11 : ∀ i, i < 10 → gb zl_s0 1 11 i = -1 := by decide +kernel
theorem zp_Wf0 : Wf 0 0 0 (gb zl_s0 1) := by
  refine ⟨by omega, by omega, by omega, by decide +kernel, by decide +kernel, by decide +kernel, fun i hi => ?_, fun t ht => absurd ht (by omega), fun p hp => absurd hp (by omega), fun p q hp => absurd hp (by omega), fun i hi => Or.inl (zp_w11 i hi), Cp_gb _ _⟩
  rw [zp_w0 i hi]
  decide
theorem zp_sh0 : ∀ s, s < 4 → zl_s0 (48 + 2 * s) 1 = zl_s0 66 s ∧ zl_s0 66 s = 0 ∧ zl_s0 (48 + 2 * s) 2 = nI 0 ∧ zl_s0 67 s = nI 0 ∧ ∀ j, j < 40 → zl_s0 (49 + 2 * s) j = zl_s0 68 (40 * s + j) := by decide +kernel
theorem zp_inv0 : zp_inv zl_s0 := by
  refine ⟨gb zl_s0 1, rfl, ?_, ⟨0, 0, 0, zp_Wf0, by omega, fun p hp => absurd hp (by omega)⟩, ⟨by decide +kernel, Or.inl (by decide +kernel)⟩, by unfold Itold; decide +kernel, ⟨0, by omega, by decide +kernel, by decide +kernel, fun j hj => absurd hj (by omega)⟩, fun s hs => ?_⟩
  · funext f j
    by_cases hj : j < cap f
    · have hf := cap_lt hj
      have h20 : j < 20 := by
        have : cap f ≤ 20 := by unfold cap; grind
        omega
      have e : gb zl_s0 1 f j = zl_s0 (1 + f) j := by
        unfold gb
        rw [if_pos hj]
      rw [e, zp_b0 f hf j h20 hj]
    · rw [Cp_gm _ f j (by omega), Cp_gb _ _ f j (by omega)]
  · obtain ⟨h1, h2, h3, h4, h5⟩ := zp_sh0 s hs
    exact ⟨h1, Or.inl h2, ⟨0, by omega, h3, h4⟩, h5⟩
theorem zp_step : ∀ n, n < 43 → ∀ σ, zp_inv σ → ∀ a1 a2 a3 a4 a5 : Int32, ∃ r σ1 σ2, zl_opX n σ a1 a2 a3 a4 a5 = some (r, σ1) ∧ zl_opM n σ1 a1 a2 a3 a4 a5 = some (r, σ2) ∧ zp_inv σ2 := by
  intro n hn σ h a1 a2 a3 a4 a5
  obtain ⟨β, h⟩ := h
  match n, hn with
  | 0, _ => exact op_worth h a1 a2
  | 1, _ => exact op_task h a1 a2 a3
  | 2, _ => exact op_taskOf h a1 a2
  | 3, _ => exact op_turn h a1 a2
  | 4, _ => exact op_needs h a1 a2
  | 5, _ => exact op_strike h a1
  | 6, _ => exact op_nameOf h a1 a2
  | 7, _ => exact op_rings h
  | 8, _ => exact op_waits h a1
  | 9, _ => exact op_person h a1
  | 10, _ => exact op_of h a1 a2
  | 11, _ => exact op_change h a1 a2 a3
  | 12, _ => exact op_helps h a1 a2
  | 13, _ => exact op_take h a1 a2
  | 14, _ => exact op_exchange h a1 a2
  | 15, _ => exact op_born h a1
  | 16, _ => exact op_years h a1
  | 17, _ => exact op_ahead h a1 a2
  | 18, _ => exact op_shut h a1
  | 19, _ => exact op_ends h a1
  | 20, _ => exact op_choose h a1
  | 21, _ => exact op_handsFor h a1
  | 22, _ => exact op_most h a1
  | 23, _ => exact op_give h a1
  | 24, _ => exact op_lives h a1 a2
  | 25, _ => exact op_best h a1
  | 26, _ => exact op_whom h a1 a2
  | 27, _ => exact op_seed h a1
  | 28, _ => exact op_feed h a1 a2
  | 29, _ => exact op_wipe h
  | 30, _ => exact op_text h
  | 31, _ => exact op_hold h a1 a2
  | 32, _ => exact op_as h a1 a2
  | 33, _ => exact op_sheet h a1 a2 a3
  | 34, _ => exact op_write h a1 a2 a3
  | 35, _ => exact op_copy h a1 a2 a3 a4 a5
  | 36, _ => exact op_load h a1
  | 37, _ => exact op_judge h a1 a2
  | 38, _ => exact op_image h
  | 39, _ => exact op_undo h
  | 40, _ => exact op_tear h
  | 41, _ => exact op_count h a1
  | 42, _ => exact op_status h a1
  | n + 43, hn => exact absurd hn (by omega)
