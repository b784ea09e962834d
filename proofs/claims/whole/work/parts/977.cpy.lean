section SC
variable {σ τ β γ : zw_S} {T N y k : Nat} {hd : Nat → Int32}
/-! copy -/
theorem c_miss {s : Nat} {b : Int32} (hb : σ (48 + 2 * s) 1 = b) (F : Int32 → zw_S → Option (Int32 × zw_S)) : (cl (m_X3_isMissing (48 + 2 * s) σ) F) = if b = 0 then F 1 σ else F 0 σ := by
  unfold m_X3_isMissing
  rw [hb]
  by_cases h0 : b = 0
  · rw [if_pos h0, if_pos h0, cl_ok]
  · rw [if_neg h0, if_neg h0, cl_ok]
theorem c_range {k z : Nat} {x1 x2 : Int32} (hz : σ k 2 = nI z) : m_X3_hasRange k σ x1 x2 = some (if 0 ≤ x1 ∧ 0 ≤ x2 ∧ x2 ≤ nI z ∧ x1 ≤ nI z - x2 then 1 else 0, σ) := by
  unfold m_X3_hasRange
  rw [hz]
  grind
theorem sub_nI {a b : Nat} (h : b ≤ a) : nI a - nI b = nI (a - b) := by
  have h1 := nI_add (a - b) b
  rw [show a - b + b = a by omega] at h1
  rw [← h1]
  grind
theorem x40b {s f j : Nat} : (40 : Int32) * nI s + nI f + nI j = nI (40 * s + f + j) := by rw [x40, nI_add]
def asc (R : Nat → Int32) (D S i : Nat) : Nat → Int32 := fun a => if D ≤ a ∧ a < D + i then R (S + (a - D)) else R a
def dsc (R : Nat → Int32) (D S m i : Nat) : Nat → Int32 := fun a => if D + m ≤ a + i ∧ a < D + m then R (S + (a - D)) else R a
theorem us_us {s : zw_S} {k : Nat} {g g2 : Nat → Int32} : zw_us (zw_us s k g) k g2 = zw_us s k g2 := by
  funext i
  by_cases h : i = k
  · subst h
    rw [us_at, us_at]
  · rw [us_o h, us_o h, us_o h]
theorem us_w {s : zw_S} {k j : Nat} {g : Nat → Int32} {v : Int32} : zw_wr (zw_us s k g) k j v = zw_us s k (fun a => if a = j then v else g a) := by
  funext i a
  by_cases h : i = k
  · subst h
    rw [wr_ap, us_at, us_at]
    simp
  · rw [wr_f h, us_o h, us_o h]
theorem r_copy0 {s t f o m : Nat} (hs : s < 4) (ht : t < 4) (hf : f + m ≤ 40) (ho : o + m ≤ 40) (hc : 40 * t + o ≤ 40 * s + f ∨ 40 * s + f + m ≤ 40 * t + o) (t0 : zw_S) : ∀ (q n i : Nat), i + q = m → q < n → m_X7_copy_139 n (zw_us t0 68 (asc (t0 68) (40 * t + o) (40 * s + f) i)) (nI s) (nI f) (nI t) (nI o) (nI m) 0 (nI i) = some (nI m, zw_us t0 68 (asc (t0 68) (40 * t + o) (40 * s + f) m)) := by
  intro q
  induction q with
  | zero =>
    intro n i hi hn
    obtain ⟨n, rfl⟩ : ∃ m, n = m + 1 := ⟨n - 1, by omega⟩
    unfold m_X7_copy_139
    rw [if_pos (nI_le (by omega) (by omega)), show i = m by omega]
  | succ q ih =>
    intro n i hi hn
    obtain ⟨n, rfl⟩ : ∃ m, n = m + 1 := ⟨n - 1, by omega⟩
    have e : (fun a => if a = 40 * t + o + i then asc (t0 68) (40 * t + o) (40 * s + f) i (40 * s + f + i) else asc (t0 68) (40 * t + o) (40 * s + f) i a) = asc (t0 68) (40 * t + o) (40 * s + f) (i + 1) := by
      funext a
      unfold asc
      by_cases h1 : a = 40 * t + o + i
      · rw [if_pos h1, if_neg (by omega), if_pos (by omega), h1]
        congr 1
        omega
      · rw [if_neg h1]
        by_cases h2 : 40 * t + o ≤ a ∧ a < 40 * t + o + i
        · rw [if_pos h2, if_pos (by omega)]
        · rw [if_neg h2, if_neg (by omega)]
    unfold m_X7_copy_139
    rw [if_neg (nI_ge (by omega) (by omega)), if_pos rfl]
    unfold m_X7_copy_163
    rw [x40b, x40b, rd_i (by omega) (by decide), wt_i (by omega) (by decide), us_at, us_w, e, nm_ok, nI_1]
    exact ih n (i + 1) (by omega) (by omega)
theorem r_copy1 {s t f o m : Nat} (hs : s < 4) (ht : t < 4) (hf : f + m ≤ 40) (ho : o + m ≤ 40) (hc : 40 * s + f < 40 * t + o) (t0 : zw_S) : ∀ (q n i : Nat), i + q = m → q < n → m_X7_copy_139 n (zw_us t0 68 (dsc (t0 68) (40 * t + o) (40 * s + f) m i)) (nI s) (nI f) (nI t) (nI o) (nI m) 1 (nI i) = some (nI m, zw_us t0 68 (asc (t0 68) (40 * t + o) (40 * s + f) m)) := by
  intro q
  induction q with
  | zero =>
    intro n i hi hn
    obtain ⟨n, rfl⟩ : ∃ m, n = m + 1 := ⟨n - 1, by omega⟩
    unfold m_X7_copy_139
    rw [if_pos (nI_le (by omega) (by omega))]
    have : dsc (t0 68) (40 * t + o) (40 * s + f) m i = asc (t0 68) (40 * t + o) (40 * s + f) m := by
      funext a
      unfold asc dsc
      by_cases h2 : 40 * t + o ≤ a ∧ a < 40 * t + o + m
      · rw [if_pos h2, if_pos (by omega)]
      · rw [if_neg h2, if_neg (by omega)]
    rw [this]
  | succ q ih =>
    intro n i hi hn
    obtain ⟨n, rfl⟩ : ∃ m, n = m + 1 := ⟨n - 1, by omega⟩
    have ej : nI m - 1 - nI i = nI (m - 1 - i) := by
      rw [show (1 : Int32) = nI 1 from rfl, sub_nI (by omega), sub_nI (by omega)]
    have e : (fun a => if a = 40 * t + o + (m - 1 - i) then dsc (t0 68) (40 * t + o) (40 * s + f) m i (40 * s + f + (m - 1 - i)) else dsc (t0 68) (40 * t + o) (40 * s + f) m i a) = dsc (t0 68) (40 * t + o) (40 * s + f) m (i + 1) := by
      funext a
      unfold dsc
      by_cases h1 : a = 40 * t + o + (m - 1 - i)
      · rw [if_pos h1, if_neg (by omega), if_pos (by omega), h1]
        congr 1
        omega
      · rw [if_neg h1]
        by_cases h2 : 40 * t + o + m ≤ a + i ∧ a < 40 * t + o + m
        · rw [if_pos h2, if_pos (by omega)]
        · rw [if_neg h2, if_neg (by omega)]
    unfold m_X7_copy_139
    rw [if_neg (nI_ge (by omega) (by omega)), if_neg (by decide), ej]
    unfold m_X7_copy_163
    rw [x40b, x40b, rd_i (by omega) (by decide), wt_i (by omega) (by decide), us_at, us_w, e, nm_ok, nI_1]
    exact ih n (i + 1) (by omega) (by omega)
theorem Ish.cpy (h : Ish σ) {s t f o m : Nat} (hs : s < 4) (ht : t < 4) (hf : f + m ≤ 40) (ho : o + m ≤ 40) : Ish (zw_us (zw_us σ (49 + 2 * t) (va_cpy (σ (49 + 2 * s)) (σ (49 + 2 * t)) f o m)) 68 (asc (σ 68) (40 * t + o) (40 * s + f) m)) := by
  intro r hr
  obtain ⟨a1, a2, a3, a4⟩ := h r hr
  refine ⟨?_, ?_, ?_, fun j hj => ?_⟩
  · rw [us_o (by omega), us_o (by omega), us_o (by decide), us_o (by omega)]
    exact a1
  · rw [us_o (by decide), us_o (by omega)]
    exact a2
  · rw [us_o (by omega), us_o (by omega), us_o (by decide), us_o (by omega)]
    exact a3
  · rw [us_o (by omega), us_at]
    unfold asc
    by_cases hrt : r = t
    · subst hrt
      rw [us_at]
      unfold va_cpy
      by_cases hc : o ≤ j ∧ j < o + m
      · rw [if_pos hc, if_pos (by omega), (h s hs).2.2.2 (f + (j - o)) (by omega)]
        congr 1
        omega
      · rw [if_neg hc, if_neg (by omega)]
        exact a4 j hj
    · rw [us_o (by omega), if_neg (by omega)]
      exact a4 j hj
theorem op_copy (h : Iv β σ) (a1 a2 a3 a4 a5 : Int32) : Ok (m_X6_copy σ a1 a2 a3 a4 a5) (fun τ => m_X7_copy τ a1 a2 a3 a4 a5) := by
  by_cases h1 : 0 ≤ a1 ∧ a1 ≤ 3
  · obtain ⟨s, hs, rfl⟩ := in_nI (M := 3) (m := 3) (by decide) h1
    have hs4 : s < 4 := by omega
    by_cases h2 : 0 ≤ a3 ∧ a3 ≤ 3
    · obtain ⟨t, ht, rfl⟩ := in_nI (M := 3) (m := 3) (by decide) h2
      have ht4 : t < 4 := by omega
      obtain ⟨b1, b2, ⟨z, hz, b3, b4⟩, b5⟩ := h.2.2.2.2.2.2 s hs4
      obtain ⟨c1, c2, ⟨w, hw, c3, c4⟩, c5⟩ := h.2.2.2.2.2.2 t ht4
      have zs := zi4 hs4
      have zt := zi4 ht4
      by_cases h3 : σ 66 s = 0
      · refine ok_F2 (w := 5) (by decide) h ?_ ?_
        · unfold m_X6_copy
          rw [c_isSheet, cl_ok, if1 h1, z10, c_isSheet, cl_ok, if1 h2, z10, tt_ok zs, nc (by omega), nc (by omega), c_miss b1, if_pos h3, z10, Fw5, c_found (by decide), cl_ok]
        · show m_X7_copy _ _ _ _ _ _ = _
          unfold m_X7_copy
          rw [r_isSheet, cl_ok, if1 h1, z10, r_isSheet, cl_ok, if1 h2, z10, rd_i hs4 (by decide), fnd_o (by decide), if_pos h3, Fw5, r_finds (by decide), cl_ok]
      · by_cases h4 : σ 66 t = 0
        · refine ok_F2 (w := 5) (by decide) h ?_ ?_
          · unfold m_X6_copy
            rw [c_isSheet, cl_ok, if1 h1, z10, c_isSheet, cl_ok, if1 h2, z10, tt_ok zs, nc (by omega), nc (by omega), c_miss b1, if_neg h3, z00, tt_ok zt, c_miss c1, if_pos h4, z10, Fw5, c_found (by decide), cl_ok]
          · show m_X7_copy _ _ _ _ _ _ = _
            unfold m_X7_copy
            rw [r_isSheet, cl_ok, if1 h1, z10, r_isSheet, cl_ok, if1 h2, z10, rd_i hs4 (by decide), fnd_o (by decide), if_neg h3, rd_i ht4 (by decide), fnd_o (by decide), if_pos h4, Fw5, r_finds (by decide), cl_ok]
        · by_cases h5 : σ 66 s = σ 66 t
          · have h5' : σ (48 + 2 * s) 1 = σ (48 + 2 * t) 1 := by rw [b1, c1]; exact h5
            have eX : ∀ _ : Unit, m_X6_copy σ (nI s) a2 (nI t) a4 a5 = _ := fun _ => by
              unfold m_X6_copy
              rw [c_isSheet, cl_ok, if1 h1, z10, c_isSheet, cl_ok, if1 h2, z10, tt_ok zs, nc (by omega), nc (by omega), c_miss b1, if_neg h3, z00, tt_ok zt, c_miss c1, if_neg h4, z00, tt_ok zs, tt_ok zt, if_pos h5', tt_ok zs, c_range b3, cl_ok, tt_ok zt, c_range c3, cl_ok, tt_ok zs, tt_ok zt]
            have eM : ∀ u, (∀ i, 57 ≤ i → u i = σ i) → m_X7_copy u (nI s) a2 (nI t) a4 a5 = _ := fun u hu => by
              unfold m_X7_copy
              rw [r_isSheet, cl_ok, if1 h1, z10, r_isSheet, cl_ok, if1 h2, z10, rd_i hs4 (by decide), hu 66 (by decide), if_neg h3, rd_i ht4 (by decide), hu 66 (by decide), if_neg h4, rd_i hs4 (by decide), rd_i ht4 (by decide), hu 66 (by decide), if_pos h5, rd_i hs4 (by decide), rd_i ht4 (by decide), hu 67 (by decide), b4, c4]
            have hz40 : nI z ≤ 40 := by rw [show (40 : Int32) = nI 40 from rfl]; exact nI_le hz (by omega)
            have hw40 : nI w ≤ 40 := by rw [show (40 : Int32) = nI 40 from rfl]; exact nI_le hw (by omega)
            have z0 := nI_pos' (n := z) (by omega)
            have w0 := nI_pos' (n := w) (by omega)
            by_cases g : 0 ≤ a5 ∧ 0 ≤ a2 ∧ 0 ≤ a4 ∧ a5 ≤ nI z - a2 ∧ a5 ≤ nI w - a4
            · obtain ⟨g1, g2, g3, g4, g5⟩ := g
              obtain ⟨m, hm, rfl⟩ := in_nI (x := a5) (M := 40) (m := 40) (by decide) (by grind)
              obtain ⟨f, hf, rfl⟩ := in_nI (x := a2) (M := 40) (m := 40) (by decide) (by grind)
              obtain ⟨o, ho, rfl⟩ := in_nI (x := a4) (M := 40) (m := 40) (by decide) (by grind)
              have fm : f + m ≤ z := by
                have : nI f + nI m ≤ nI z := by grind
                rw [nI_add, nI_leI (by omega) (by omega)] at this
                exact this
              have om : o + m ≤ w := by
                have : nI o + nI m ≤ nI w := by grind
                rw [nI_add, nI_leI (by omega) (by omega)] at this
                exact this
              have p1 : 0 ≤ nI f ∧ 0 ≤ nI m ∧ nI m ≤ nI z ∧ nI f ≤ nI z - nI m := by grind
              have p2 : 0 ≤ nI o ∧ 0 ≤ nI m ∧ nI m ≤ nI w ∧ nI o ≤ nI w - nI m := by grind
              have zc : zcp 40 40 (nI f) (nI o) (nI m) = true := by
                unfold zcp
                rw [nc (by omega), nc (by omega), nc (by omega)]
                simp only [Bool.and_eq_true, Bool.not_eq_true', decide_eq_false_iff_not, decide_eq_true_eq]
                exact ⟨⟨⟨⟨nI_pos (by omega), nI_pos (by omega)⟩, nI_pos (by omega)⟩, by omega⟩, by omega⟩
              refine ⟨nI m, zw_us σ (49 + 2 * t) (va_cpy (σ (49 + 2 * s)) (σ (49 + 2 * t)) f o m), zw_us (zw_us σ (49 + 2 * t) (va_cpy (σ (49 + 2 * s)) (σ (49 + 2 * t)) f o m)) 68 (asc (σ 68) (40 * t + o) (40 * s + f) m), ?_, ?_, β, h.sh (fun i hi => by rw [us_o (by omega), us_o (by omega)]) (Ish.cpy h.2.2.2.2.2.2 hs4 ht4 (by omega) (by omega))⟩
              · rw [eX (), if1 p1, z10, if1 p2, z10, tt_ok zc, nm_ok, nc (by omega), nc (by omega), nc (by omega), show 48 + 2 * s + 1 = 49 + 2 * s by omega, show 48 + 2 * t + 1 = 49 + 2 * t by omega]
              · show m_X7_copy _ _ _ _ _ _ = _
                rw [eM _ (fun i hi => by rw [us_o (by omega)]), if_neg (nI_pos (by omega)), if_neg (nI_pos (by omega)), if_neg (nI_pos (by omega)), if_neg (show ¬ nI z - nI f < nI m by grind), if_pos (show nI m ≤ nI w - nI o by grind)]
                have u68 : zw_us σ (49 + 2 * t) (va_cpy (σ (49 + 2 * s)) (σ (49 + 2 * t)) f o m) 68 = σ 68 := us_o (by omega)
                have q0 : ∀ hc, m_X7_copy_139 200 (zw_us σ (49 + 2 * t) (va_cpy (σ (49 + 2 * s)) (σ (49 + 2 * t)) f o m)) (nI s) (nI f) (nI t) (nI o) (nI m) 0 0 = some (nI m, zw_us (zw_us σ (49 + 2 * t) (va_cpy (σ (49 + 2 * s)) (σ (49 + 2 * t)) f o m)) 68 (asc (σ 68) (40 * t + o) (40 * s + f) m)) := fun hc => by
                  have := r_copy0 hs4 ht4 (show f + m ≤ 40 by omega) (show o + m ≤ 40 by omega) hc (zw_us σ (49 + 2 * t) (va_cpy (σ (49 + 2 * s)) (σ (49 + 2 * t)) f o m)) m 200 0 (by omega) (by omega)
                  rw [u68] at this
                  have e0 : zw_us (zw_us σ (49 + 2 * t) (va_cpy (σ (49 + 2 * s)) (σ (49 + 2 * t)) f o m)) 68 (asc (σ 68) (40 * t + o) (40 * s + f) 0) = zw_us σ (49 + 2 * t) (va_cpy (σ (49 + 2 * s)) (σ (49 + 2 * t)) f o m) := by
                    funext i a
                    by_cases hi : i = 68
                    · subst hi
                      rw [us_at, u68]
                      unfold asc
                      rw [if_neg (by omega)]
                    · rw [us_o hi]
                  rw [e0] at this
                  exact this
                by_cases hst : s = t
                · rw [if_pos (by rw [hst])]
                  by_cases hof : o ≤ f
                  · rw [if_pos (nI_le hof (by omega))]
                    exact q0 (Or.inl (by omega))
                  · rw [if_neg (nI_ge (by omega) (by omega))]
                    have := r_copy1 hs4 ht4 (show f + m ≤ 40 by omega) (show o + m ≤ 40 by omega) (show 40 * s + f < 40 * t + o by omega) (zw_us σ (49 + 2 * t) (va_cpy (σ (49 + 2 * s)) (σ (49 + 2 * t)) f o m)) m 200 0 (by omega) (by omega)
                    rw [u68] at this
                    have e0 : zw_us (zw_us σ (49 + 2 * t) (va_cpy (σ (49 + 2 * s)) (σ (49 + 2 * t)) f o m)) 68 (dsc (σ 68) (40 * t + o) (40 * s + f) m 0) = zw_us σ (49 + 2 * t) (va_cpy (σ (49 + 2 * s)) (σ (49 + 2 * t)) f o m) := by
                      funext i a
                      by_cases hi : i = 68
                      · subst hi
                        rw [us_at, u68]
                        unfold dsc
                        rw [if_neg (by omega)]
                      · rw [us_o hi]
                    rw [e0] at this
                    exact this
                · rw [if_neg (fun z => hst ((nI_eq (by omega) (by omega)).mp z))]
                  exact q0 (by omega)
            · refine ok_F2 (w := 0) (by decide) h ?_ ?_
              · rw [eX ()]
                by_cases p1 : 0 ≤ a2 ∧ 0 ≤ a5 ∧ a5 ≤ nI z ∧ a2 ≤ nI z - a5
                · by_cases p2 : 0 ≤ a4 ∧ 0 ≤ a5 ∧ a5 ≤ nI w ∧ a4 ≤ nI w - a5
                  · exact absurd (by grind) g
                  · rw [if1 p1, z10, if0 p2, z00, Fw0, c_found (by decide), cl_ok]
                · rw [if0 p1, z00, Fw0, c_found (by decide), cl_ok]
              · show m_X7_copy _ _ _ _ _ _ = _
                rw [eM _ (fun i hi => fnd_o (by omega)), Fw0, r_finds (by decide), cl_ok]
                by_cases q1 : a5 < 0
                · rw [if_pos q1]
                · rw [if_neg q1]
                  by_cases q2 : a2 < 0
                  · rw [if_pos q2]
                  · rw [if_neg q2]
                    by_cases q3 : a4 < 0
                    · rw [if_pos q3]
                    · rw [if_neg q3]
                      by_cases q4 : nI z - a2 < a5
                      · rw [if_pos q4]
                      · rw [if_neg q4, if_neg (fun q5 => g (by grind))]
          · have h5' : ¬ σ (48 + 2 * s) 1 = σ (48 + 2 * t) 1 := by rw [b1, c1]; exact h5
            refine ok_F2 (w := 2) (by decide) h ?_ ?_
            · unfold m_X6_copy
              rw [c_isSheet, cl_ok, if1 h1, z10, c_isSheet, cl_ok, if1 h2, z10, tt_ok zs, nc (by omega), nc (by omega), c_miss b1, if_neg h3, z00, tt_ok zt, c_miss c1, if_neg h4, z00, tt_ok zs, tt_ok zt, if_neg h5', Fw2, c_found (by decide), cl_ok]
            · show m_X7_copy _ _ _ _ _ _ = _
              unfold m_X7_copy
              rw [r_isSheet, cl_ok, if1 h1, z10, r_isSheet, cl_ok, if1 h2, z10, rd_i hs4 (by decide), fnd_o (by decide), if_neg h3, rd_i ht4 (by decide), fnd_o (by decide), if_neg h4, rd_i hs4 (by decide), rd_i ht4 (by decide), fnd_o (by decide), if_neg h5, Fw2, r_finds (by decide), cl_ok]
    · refine ok_F2 (w := 0) (by decide) h ?_ ?_
      · unfold m_X6_copy
        rw [c_isSheet, cl_ok, if1 h1, z10, c_isSheet, cl_ok, if0 h2, z00, Fw0, c_found (by decide), cl_ok]
      · show m_X7_copy _ _ _ _ _ _ = _
        unfold m_X7_copy
        rw [r_isSheet, cl_ok, if1 h1, z10, r_isSheet, cl_ok, if0 h2, z00, Fw0, r_finds (by decide), cl_ok]
  · refine ok_F2 (w := 0) (by decide) h ?_ ?_
    · unfold m_X6_copy
      rw [c_isSheet, cl_ok, if0 h1, z00, Fw0, c_found (by decide), cl_ok]
    · show m_X7_copy _ _ _ _ _ _ = _
      unfold m_X7_copy
      rw [r_isSheet, cl_ok, if0 h1, z00, Fw0, r_finds (by decide), cl_ok]
/-! load -/
def sld (v : Nat → Int32) : Nat → Nat → zw_S → Int32 × zw_S
  | 0, i, β => (nI i, β)
  | q + 1, i, β => if (v i = -1 ∨ (0 ≤ v i ∧ v i ≤ 7)) ∧ smay β i (v i) = true then sld v q (i + 1) (zw_wr β 7 i (v i)) else (nI i, β)
theorem r_wrong2 (h : Wf T N y β) {p : Nat} (hp : p < N) {x : Int32} (hx : ¬ (x = -1 ∨ (0 ≤ x ∧ x ≤ 7))) : m_X7_wrongTake (pm σ β) (nI p) x = some (-1000001, pm σ β) := by
  have hN8 := h.N8
  unfold m_X7_wrongTake
  rw [r_isPerson h, cl_ok, if1 (show 0 ≤ nI p ∧ nI p < nI N from isT_n (by omega) hp), z10, if_neg (fun z => hx (Or.inl z)), r_isName, cl_ok, if0 (fun z => hx (Or.inr z)), z00]
theorem r_wrong3 (h : Wf T N y β) {p : Nat} (hp : N ≤ p) (hp2 : p ≤ 1000) {x : Int32} : m_X7_wrongTake (pm σ β) (nI p) x = some (-1000001, pm σ β) := by
  have hN8 := h.N8
  unfold m_X7_wrongTake
  rw [r_isPerson h, cl_ok, if0 (show ¬ (0 ≤ nI p ∧ nI p < nI N) from fun z => absurd z.2 (nI_nlt hp (by omega))), z00]
theorem Wf.m7 (h : Wf T N y β) {p : Nat} {v : Int32} (hp : p < N) (hv : v = -1 ∨ (0 ≤ v ∧ v ≤ 7)) (hm : smay β p v = true) : Wf T N y (zw_wr β 7 p v) := by
  have hN8 := h.N8
  unfold smay at hm
  simp only [Bool.or_eq_true, Bool.and_eq_true, decide_eq_true_eq, Bool.not_eq_true', decide_eq_false_iff_not] at hm
  refine h.t7 hp ?_
  rcases hm with hm | ⟨-, hm⟩
  · exact Or.inl hm
  · rcases hv with hv | hv
    · exact Or.inl hv
    · obtain ⟨j, hj, rfl⟩ := in_nI (M := 7) (m := 7) (by decide) hv
      refine Or.inr ⟨⟨j, by omega, rfl⟩, fun q hq hqp e => ?_⟩
      rcases sbear_cc h (nI j) with ⟨-, z⟩ | ⟨r, hr, z1, z2⟩
      · exact z q hq e
      · rw [z2] at hm
        rcases hm with hm | hm
        · exact absurd hm (nI_pos (by omega))
        · rw [nI_eq (by omega) (by omega)] at hm
          subst hm
          exact hqp (h.inj hq hr (e.trans z1.symm) (by rw [e]; intro z; exact absurd (nI_pos' (n := j) (by omega)) (by rw [z]; decide)))
theorem sld_B {v : Nat → Int32} : ∀ (q i T N y : Nat) (β : zw_S), Wf T N y β → y ≤ 999 → (∀ p, p < N → β 8 p = 40 → β 7 p = -1) → i + q ≤ N → Bk (sld v q i β).2 := by
  intro q
  induction q with
  | zero => intro i T N y β h hy h40 hi; exact ⟨T, N, y, h, hy, h40⟩
  | succ q ih =>
    intro i T N y β h hy h40 hi
    have hN8 := h.N8
    unfold sld
    by_cases hc : (v i = -1 ∨ (0 ≤ v i ∧ v i ≤ 7)) ∧ smay β i (v i) = true
    · rw [if_pos hc]
      obtain ⟨T2, N2, y2, hB, hy2, hB40⟩ := Bk.w7 ⟨T, N, y, h, hy, h40⟩ (by rw [h.eN]; exact nI_lt (show i < N by omega) (by omega)) (by omega) hc.1 hc.2
      have eN : N2 = N := by
        have a := hB.eN
        rw [wr_f (by decide), h.eN, nI_eq (by omega) (by have := hB.N8; omega)] at a
        exact a.symm
      subst eN
      exact ih (i + 1) T2 N2 y2 _ hB hy2 hB40 (by omega)
    · rw [if_neg hc]
      exact ⟨T, N, y, h, hy, h40⟩
theorem c_loadl {s e : Nat} (hs : s < 4) (he : e ≤ N) : ∀ (q n i : Nat) (β : zw_S), Wf T N y β → i + q = e → q < n → m_X6_load_55 n (pk σ 1 β hd) (nI s) (nI e) (nI i) = some ((sld (σ (49 + 2 * s)) q i β).1, pk σ 1 (sld (σ (49 + 2 * s)) q i β).2 hd) := by
  intro q
  induction q with
  | zero =>
    intro n i β h hi hn
    obtain ⟨n, rfl⟩ : ∃ m, n = m + 1 := ⟨n - 1, by omega⟩
    have := h.N8
    unfold m_X6_load_55
    rw [if_pos (nI_le (by omega) (by omega)), show e = i by omega]
    rfl
  | succ q ih =>
    intro n i β h hi hn
    obtain ⟨n, rfl⟩ : ∃ m, n = m + 1 := ⟨n - 1, by omega⟩
    have hN8 := h.N8
    have hv : pk σ 1 β hd (48 + 2 * s + 1) i = σ (49 + 2 * s) i := by rw [pk_o (by omega) (by omega), show 48 + 2 * s + 1 = 49 + 2 * s by omega]
    have st : (σ (49 + 2 * s) i = -1 ∨ (0 ≤ σ (49 + 2 * s) i ∧ σ (49 + 2 * s) i ≤ 7)) → m_X6_load_87 (m_X6_load_55 n) (pk σ 1 β hd) (nI s) (nI e) (nI i) (σ (49 + 2 * s) i) = some ((sld (σ (49 + 2 * s)) (q + 1) i β).1, pk σ 1 (sld (σ (49 + 2 * s)) (q + 1) i β).2 hd) := by
      intro hx
      unfold m_X6_load_87
      rw [c_mayTake (by decide) h (by omega), cl_ok, show sld (σ (49 + 2 * s)) (q + 1) i β = if (σ (49 + 2 * s) i = -1 ∨ (0 ≤ σ (49 + 2 * s) i ∧ σ (49 + 2 * s) i ≤ 7)) ∧ smay β i (σ (49 + 2 * s) i) = true then sld (σ (49 + 2 * s)) q (i + 1) (zw_wr β 7 i (σ (49 + 2 * s) i)) else (nI i, β) from rfl]
      by_cases hm : smay β i (σ (49 + 2 * s) i) = true
      · rw [if1 hm, z10, if_pos ⟨hx, hm⟩, ca_w7 (by omega), nm_ok, nI_1]
        exact ih n (i + 1) _ (h.m7 (by omega) hx hm) (by omega) (by omega)
      · rw [if0 hm, z00, if_neg (fun z => hm z.2)]
    unfold m_X6_load_55
    rw [if_neg (nI_ge (by omega) (by omega)), tt_ok (zi4 hs), nc (by omega), rd_i (by omega) (by decide), hv]
    by_cases h1 : σ (49 + 2 * s) i = -1
    · rw [if_pos h1]
      exact st (Or.inl h1)
    · rw [if_neg h1, c_isName, cl_ok]
      by_cases h2 : 0 ≤ σ (49 + 2 * s) i ∧ σ (49 + 2 * s) i ≤ 7
      · rw [if1 h2, z10]
        exact st (Or.inr h2)
      · rw [if0 h2, z00]
        unfold sld
        rw [if_neg (fun z => by rcases z.1 with z | z; exact h1 z; exact h2 z)]
theorem r_loadl {s e z : Nat} (hs : s < 4) (he : e = min z N) (hz : z ≤ 40) (hz2 : τ 67 s = nI z) {v : Nat → Int32} (hv : ∀ j, j < 40 → τ 68 (40 * s + j) = v j) : ∀ (q n i : Nat) (β : zw_S), Wf T N y β → i + q = e → q < n → m_X7_load_33 n (pm τ β) (nI s) (nI i) = some ((sld v q i β).1, pm τ (sld v q i β).2) := by
  intro q
  induction q with
  | zero =>
    intro n i β h hi hn
    obtain ⟨n, rfl⟩ : ∃ m, n = m + 1 := ⟨n - 1, by omega⟩
    have := h.N8
    unfold m_X7_load_33
    rw [rd_i hs (by decide), pm_o (by decide), hz2]
    by_cases hzi : z ≤ i
    · rw [if_pos (nI_le hzi (by omega))]
      rfl
    · rw [if_neg (nI_ge (by omega) (by omega)), x40, rd_i (by omega) (by decide), pm_o (by decide), r_wrong3 h (by omega) (by omega), cl_ok, if_neg (by decide)]
      rfl
  | succ q ih =>
    intro n i β h hi hn
    obtain ⟨n, rfl⟩ : ∃ m, n = m + 1 := ⟨n - 1, by omega⟩
    have hN8 := h.N8
    unfold m_X7_load_33 sld
    rw [rd_i hs (by decide), pm_o (show (67 : Nat) ≠ 58 by decide), hz2, if_neg (nI_ge (by omega) (by omega)), x40, rd_i (by omega) (by decide), pm_o (show (68 : Nat) ≠ 58 by decide), hv i (by omega)]
    by_cases hx : v i = -1 ∨ (0 ≤ v i ∧ v i ≤ 7)
    · rw [r_wrongTake h (by omega) hx, cl_ok]
      by_cases hm : smay β i (v i) = true
      · rw [if_pos hm, z00, if_pos ⟨hx, hm⟩, rd_i (by omega) (by decide), pm_o (show (68 : Nat) ≠ 58 by decide), hv i (by omega), xp0, r_wt (f := 7) (show i < 8 by omega), nm_ok, nI_1]
        exact ih n (i + 1) _ (h.m7 (by omega) hx hm) (by omega) (by omega)
      · rw [if_neg hm, if_neg (by decide), if_neg (fun z => hm z.2)]
    · rw [r_wrong2 h (by omega) hx, cl_ok, if_neg (by decide), if_neg (fun z => hx z.1)]
theorem zmin_nI {a b : Nat} (ha : a < 1000) (hb : b < 1000) : zmin (nI a) (nI b) = nI (min a b) := by
  unfold zmin
  by_cases h : b < a
  · rw [if_pos (nI_lt h (by omega)), Nat.min_eq_right (by omega)]
  · rw [if_neg (nI_nlt (by omega) (by omega)), Nat.min_eq_left (by omega)]
theorem op_load (h : Iv β σ) (a1 : Int32) : Ok (m_X6_load σ a1) (fun τ => m_X7_load τ a1) := by
  obtain ⟨T, N, y, hW, hy, h40⟩ := id h.2.2.1
  have hN8 := hW.N8
  by_cases h1 : 0 ≤ a1 ∧ a1 ≤ 3
  · obtain ⟨s, hs, rfl⟩ := in_nI (M := 3) (m := 3) (by decide) h1
    have hs4 : s < 4 := by omega
    obtain ⟨b1, b2, ⟨z, hz, b3, b4⟩, b5⟩ := h.2.2.2.2.2.2 s hs4
    by_cases h3 : σ 66 s = 0
    · refine ok_F2 (w := 5) (by decide) h ?_ ?_
      · unfold m_X6_load
        rw [c_isSheet, cl_ok, if1 h1, z10, tt_ok (zi4 hs4), nc (by omega), c_miss b1, if_pos h3, z10, Fw5, c_found (by decide), cl_ok]
      · show m_X7_load _ _ = _
        unfold m_X7_load
        rw [r_isSheet, cl_ok, if1 h1, z10, rd_i hs4 (by decide), fnd_o (by decide), if_pos h3, Fw5, r_finds (by decide), cl_ok]
    · have hB : Bk (sld (σ (49 + 2 * s)) (min z N) 0 β).2 := sld_B _ 0 T N y β hW hy h40 (by omega)
      obtain ⟨T2, N2, y2, hW2, -⟩ := id hB
      have f1 : ∀ i, 45 ≤ i → pk σ 1 (sld (σ (49 + 2 * s)) (min z N) 0 β).2 (σ 38) i = σ i := fun i hi => pk_o (by omega) (by omega)
      have eM0 : pk σ 1 (sld (σ (49 + 2 * s)) (min z N) 0 β).2 (σ 38) = pm (pk σ 1 (sld (σ (49 + 2 * s)) (min z N) 0 β).2 (σ 38)) β := pm_of (by rw [f1 58 (by decide)]; exact h.2.1)
      refine ok_U3 (σ1 := pk σ 1 (sld (σ (49 + 2 * s)) (min z N) 0 β).2 (σ 38)) (τ' := pm (pk σ 1 (sld (σ (49 + 2 * s)) (min z N) 0 β).2 (σ 38)) (sld (σ (49 + 2 * s)) (min z N) 0 β).2) (r := (sld (σ (49 + 2 * s)) (min z N) 0 β).1) h ?_ (gb_pk (by decide) hW2.cp) FX.pk1 ?_ ?_ FM.pm hB
      · have e := c_loadl (σ := σ) (hd := σ 38) hs4 (Nat.min_le_right z N) (min z N) 200 0 β hW (by omega) (by omega)
        rw [← h.X] at e
        have es : σ 1 3 = nI N := by
          have := h.1
          rw [← hW.eN, ← this]
          rfl
        unfold m_X6_load
        rw [c_isSheet, cl_ok, if1 h1, z10, tt_ok (zi4 hs4), nc (by omega), c_miss b1, if_neg h3, z00, tt_ok (zi4 hs4), nm_ok, b3, es, zmin_nI (by omega) (by omega)]
        exact e
      · show m_X7_load _ _ = _
        unfold m_X7_load
        rw [r_isSheet, cl_ok, if1 h1, z10, rd_i hs4 (by decide), f1 66 (by decide), if_neg h3]
        have e := r_loadl (T := T) (N := N) (y := y) (τ := pk σ 1 (sld (σ (49 + 2 * s)) (min z N) 0 β).2 (σ 38)) hs4 rfl hz (by rw [f1 67 (by decide)]; exact b4) (v := σ (49 + 2 * s)) (fun j hj => by rw [f1 68 (by decide)]; exact (b5 j hj).symm) (min z N) 200 0 β hW (by omega) (by omega)
        rw [← eM0] at e
        exact e
      · rw [show pm (pk σ 1 (sld (σ (49 + 2 * s)) (min z N) 0 β).2 (σ 38)) (sld (σ (49 + 2 * s)) (min z N) 0 β).2 58 = em (sld (σ (49 + 2 * s)) (min z N) 0 β).2 (pk σ 1 (sld (σ (49 + 2 * s)) (min z N) 0 β).2 (σ 38) 58) from by simp [pm], gm_em hW2.cp]
  · refine ok_F2 (w := 0) (by decide) h ?_ ?_
    · unfold m_X6_load
      rw [c_isSheet, cl_ok, if0 h1, z00, Fw0, c_found (by decide), cl_ok]
    · show m_X7_load _ _ = _
      unfold m_X7_load
      rw [r_isSheet, cl_ok, if0 h1, z00, Fw0, r_finds (by decide), cl_ok]
/-! judge -/
def sjg (v w : Nat → Int32) : Nat → Nat → Nat
  | 0, i => i
  | q + 1, i => if v i = w i then sjg v w q (i + 1) else i
theorem sjg_le {v w : Nat → Int32} : ∀ (q i : Nat), sjg v w q i ≤ i + q := by
  intro q
  induction q with
  | zero => intro i; unfold sjg; omega
  | succ q ih =>
    intro i
    unfold sjg
    have := ih (i + 1)
    split <;> omega
theorem c_judgel {s e z : Nat} (hs : s < 4) (hz : z ≤ 40) (he : e = min z T) (hT : T ≤ 20) (hz2 : σ (48 + 2 * s) 2 = nI z) (hg : γ 0 2 = nI T) : ∀ (q n i : Nat), i + q = e → q < n → m_X6_judge_93 n (tr σ β γ hd) (nI s) (nI e) (nI i) = some (if sjg (σ (49 + 2 * s)) (γ 5) q i = z ∧ sjg (σ (49 + 2 * s)) (γ 5) q i = T then 0 else nI (1 + sjg (σ (49 + 2 * s)) (γ 5) q i), tr σ β γ hd) := by
  have ho : ∀ i, 45 ≤ i → tr σ β γ hd i = σ i := fun i hi => FX.ftr i (Or.inr (Or.inr hi))
  have e130 : ∀ i, i ≤ 40 → m_X6_judge_130 (tr σ β γ hd) (nI s) (nI i) = some (if i = z ∧ i = T then 0 else nI (1 + i), tr σ β γ hd) := fun i hi => by
    unfold m_X6_judge_130 m_X6_judge_161
    rw [tt_ok (zi4 hs), nc (by omega), ho _ (by omega), hz2, ct_s (by decide), hg, show (1 : Int32) + nI i = nI (1 + i) from nI_add 1 i]
    have q1 : (nI i = nI z) ↔ i = z := nI_eq (by omega) (by omega)
    have q2 : (nI i = nI T) ↔ i = T := nI_eq (by omega) (by omega)
    by_cases c1 : i = z
    · by_cases c2 : i = T
      · rw [if_pos (q1.mpr c1), if_pos (q2.mpr c2), z10, if_pos ⟨c1, c2⟩]
      · rw [if_pos (q1.mpr c1), if_neg (fun z => c2 (q2.mp z)), z00, if_neg (fun z => c2 z.2)]
    · rw [if_neg (fun z => c1 (q1.mp z)), z00, if_neg (fun z => c1 z.1)]
  intro q
  induction q with
  | zero =>
    intro n i hi hn
    obtain ⟨n, rfl⟩ : ∃ m, n = m + 1 := ⟨n - 1, by omega⟩
    unfold m_X6_judge_93
    rw [if_pos (nI_le (by omega) (by omega)), e130 i (by omega)]
    rfl
  | succ q ih =>
    intro n i hi hn
    obtain ⟨n, rfl⟩ : ∃ m, n = m + 1 := ⟨n - 1, by omega⟩
    unfold m_X6_judge_93 sjg
    rw [if_neg (nI_ge (by omega) (by omega)), tt_ok (zi4 hs), nc (by omega), rd_i (by omega) (by decide), show 48 + 2 * s + 1 = 49 + 2 * s by omega, ho _ (by omega)]
    have r5 : ∀ (F : Int32 → Option (Int32 × zw_S)), rd (tr σ β γ hd) 30 20 (nI i) F = F (γ 5 i) := fun F => ct_r5 (by omega)
    rw [r5]
    by_cases hv : σ (49 + 2 * s) i = γ 5 i
    · rw [if_pos hv, if_pos hv, nm_ok, nI_1]
      exact ih n (i + 1) (by omega) (by omega)
    · rw [if_neg hv, if_neg hv]
      exact e130 i (by omega)
theorem r_judgel (h : Wf T N y γ) {s e z : Nat} (hs : s < 4) (hz : z ≤ 40) (he : e = min z T) (hz2 : τ 67 s = nI z) {v : Nat → Int32} (hv : ∀ j, j < 40 → τ 68 (40 * s + j) = v j) (hb : τ 60 = em β (τ 60)) : ∀ (q n i : Nat), i + q = e → q < n → m_X7_judge_83 n (pm τ γ) (nI s) (nI i) = some (if sjg v (γ 5) q i = z ∧ sjg v (γ 5) q i = T then 0 else nI (1 + sjg v (γ 5) q i), pm τ β) := by
  have hT := h.T20
  have e129 : ∀ i, i ≤ 40 → m_X7_judge_129 (pm τ γ) (nI s) (nI i) = some (if i = z ∧ i = T then 0 else nI (1 + i), pm τ β) := fun i hi => by
    unfold m_X7_judge_129 m_X7_judge_154
    rw [rd_i hs (by decide), pm_o (by decide), hz2, r_T, h.eT, r_back (by decide) _ β _ hb, cv_ok, cv_ok, show (1 : Int32) + nI i = nI (1 + i) from nI_add 1 i]
    have q1 : (nI i = nI z) ↔ i = z := nI_eq (by omega) (by omega)
    have q2 : (nI i = nI T) ↔ i = T := nI_eq (by omega) (by omega)
    by_cases c1 : i = z
    · by_cases c2 : i = T
      · rw [if_pos (q1.mpr c1), if_pos (q2.mpr c2), z10, if_pos ⟨c1, c2⟩]
      · rw [if_pos (q1.mpr c1), if_neg (fun z => c2 (q2.mp z)), z00, if_neg (fun z => c2 z.2)]
    · rw [if_neg (fun z => c1 (q1.mp z)), z00, if_neg (fun z => c1 z.1)]
  intro q
  induction q with
  | zero =>
    intro n i hi hn
    obtain ⟨n, rfl⟩ : ∃ m, n = m + 1 := ⟨n - 1, by omega⟩
    unfold m_X7_judge_83
    rw [rd_i hs (by decide), pm_o (show (67 : Nat) ≠ 58 by decide), hz2, r_T, h.eT, e129 i (by omega)]
    by_cases hzi : z ≤ i
    · rw [if_pos (nI_le hzi (by omega))]
      rfl
    · rw [if_neg (nI_ge (by omega) (by omega)), if_pos (nI_le (by omega) (by omega))]
      rfl
  | succ q ih =>
    intro n i hi hn
    obtain ⟨n, rfl⟩ : ∃ m, n = m + 1 := ⟨n - 1, by omega⟩
    unfold m_X7_judge_83 sjg
    rw [rd_i hs (by decide), pm_o (show (67 : Nat) ≠ 58 by decide), hz2, if_neg (nI_ge (by omega) (by omega)), r_T, h.eT, if_neg (nI_ge (by omega) (by omega)), x40, rd_i (by omega) (by decide), pm_o (show (68 : Nat) ≠ 58 by decide), hv i (by omega), r_t2 (by omega), cl_ok]
    by_cases hvi : v i = γ 5 i
    · rw [if_pos hvi, if_pos hvi, nm_ok, nI_1]
      exact ih n (i + 1) (by omega) (by omega)
    · rw [if_neg hvi, if_neg hvi]
      exact e129 i (by omega)
theorem op_judge (h : Iv β σ) (a1 a2 : Int32) : Ok (m_X6_judge σ a1 a2) (fun τ => m_X7_judge τ a1 a2) := by
  obtain ⟨T, N, y, hW, hy, h40⟩ := id h.2.2.1
  have hX := h.X
  by_cases h1 : 0 ≤ a1 ∧ a1 ≤ 3
  · obtain ⟨s, hs, rfl⟩ := in_nI (M := 3) (m := 3) (by decide) h1
    have hs4 : s < 4 := by omega
    obtain ⟨b1, b2, ⟨z, hz, b3, b4⟩, b5⟩ := h.2.2.2.2.2.2 s hs4
    by_cases h3 : σ 66 s = 0
    · refine ok_F2 (w := 5) (by decide) h ?_ ?_
      · unfold m_X6_judge
        rw [c_isSheet, cl_ok, if1 h1, z10, tt_ok (zi4 hs4), nc (by omega), c_miss b1, if_pos h3, z10, Fw5, c_found (by decide), cl_ok]
      · show m_X7_judge _ _ _ = _
        unfold m_X7_judge
        rw [r_isSheet, cl_ok, if1 h1, z10, rd_i hs4 (by decide), fnd_o (by decide), if_pos h3, Fw5, r_finds (by decide), cl_ok]
    · by_cases h2 : 0 ≤ a2 ∧ a2 ≤ 60
      · obtain ⟨n, hn, rfl⟩ := in_nI (M := 60) (m := 60) (by decide) h2
        have lX : m_X6_isTooLate σ (nI n) = some (if y + n ≤ 999 then 0 else 1, σ) := by
          have := c_late (σ := σ) (hd := σ 38) hW hy (show n ≤ 1000 by omega)
          rw [← hX] at this
          exact this
        by_cases h4 : y + n ≤ 999
        · obtain ⟨T2, -, hW2⟩ := Wf.years n T y β hW (by omega)
          have hT2 := hW2.T20
          have gX : m_X6_lookAhead σ (nI n) = some (tr σ β (syears n β) (hands (syears n β))) := by
            have := c_look (σ := σ) (hd := σ 38) hW (show n ≤ 150 by omega) (by omega)
            rw [← hX] at this
            exact this
          have f1 : ∀ i, 45 ≤ i → tr σ β (syears n β) (hands (syears n β)) i = σ i := fun i hi => FX.ftr i (Or.inr (Or.inr hi))
          have eM0 : tr σ β (syears n β) (hands (syears n β)) = pm (tr σ β (syears n β) (hands (syears n β))) β := pm_of (by rw [f1 58 (by decide)]; exact h.2.1)
          have cX := c_judgel (σ := σ) (β := β) (γ := syears n β) (hd := hands (syears n β)) hs4 hz rfl hT2 b3 hW2.eT (min z T2) 200 0 (by omega) (by omega)
          have cM := r_judgel (τ := sv 60 (tr σ β (syears n β) (hands (syears n β))) β) (β := β) hW2 hs4 hz rfl (by rw [sv_o (by decide), f1 67 (by decide)]; exact b4) (v := σ (49 + 2 * s)) (fun j hj => by rw [sv_o (by decide), f1 68 (by decide)]; exact (b5 j hj).symm) sv_c (min z T2) 200 0 (by omega) (by omega)
          refine ok_U3 h (r := if sjg (σ (49 + 2 * s)) (syears n β 5) (min z T2) 0 = z ∧ sjg (σ (49 + 2 * s)) (syears n β 5) (min z T2) 0 = T2 then 0 else nI (1 + sjg (σ (49 + 2 * s)) (syears n β 5) (min z T2) 0)) (σ1 := tr σ β (syears n β) (hands (syears n β))) (τ' := pm (sv 60 (tr σ β (syears n β) (hands (syears n β))) β) β) ?_ (gb_tr hW.cp) FX.ftr ?_ ?_ (FM.trans (FM.fsv (Or.inl rfl)) FM.pm) h.2.2.1
          · unfold m_X6_judge
            rw [c_isSheet, cl_ok, if1 h1, z10, tt_ok (zi4 hs4), nc (by omega), c_miss b1, if_neg h3, z00, c_isIn, cl_ok, if1 h2, z10, lX, cl_ok, if_pos h4, z00, gX, cv_ok, tt_ok (zi4 hs4), nm_ok, f1 _ (by omega), b3, ct_s (by decide), hW2.eT, zmin_nI (by omega) (by omega)]
            exact cX
          · show m_X7_judge _ _ _ = _
            refine Eq.trans (congrArg (fun t => m_X7_judge t (nI s) (nI n)) eM0) ?_
            show m_X7_judge _ _ _ = _
            unfold m_X7_judge
            rw [r_isSheet, cl_ok, if1 h1, z10, rd_i hs4 (by decide), pm_o (by decide), f1 66 (by decide), if_neg h3, ri_0_60, cl_ok, if1 h2, z10, r_far hW hy (by omega), cl_ok, if_pos h4, z00, r_save (by decide), cv_ok, r_yearsGo hW (by omega) (by omega), cv_ok]
            exact cM
          · rw [show pm (sv 60 (tr σ β (syears n β) (hands (syears n β))) β) β 58 = em β (sv 60 (tr σ β (syears n β) (hands (syears n β))) β 58) from by simp [pm], gm_em hW.cp]
        · refine ok_F2 (w := 4) (by decide) h ?_ ?_
          · unfold m_X6_judge
            rw [c_isSheet, cl_ok, if1 h1, z10, tt_ok (zi4 hs4), nc (by omega), c_miss b1, if_neg h3, z00, c_isIn, cl_ok, if1 h2, z10, lX, cl_ok, if_neg h4, z10, Fw4, c_found (by decide), cl_ok]
          · show m_X7_judge _ _ _ = _
            have e0 : fnd σ 4 = pm (fnd σ 4) β := pm_of (by rw [fnd_o (by decide)]; exact h.2.1)
            have lM : m_X7_isFarOn (fnd σ 4) (nI n) = some (if y + n ≤ 999 then 0 else 1, fnd σ 4) := by
              have := r_far (σ := fnd σ 4) hW hy (show n ≤ 1000 by omega)
              rw [← e0] at this
              exact this
            unfold m_X7_judge
            rw [r_isSheet, cl_ok, if1 h1, z10, rd_i hs4 (by decide), fnd_o (by decide), if_neg h3, ri_0_60, cl_ok, if1 h2, z10, lM, cl_ok, if_neg h4, z10, Fw4, r_finds (by decide), cl_ok]
      · refine ok_F2 (w := 0) (by decide) h ?_ ?_
        · unfold m_X6_judge
          rw [c_isSheet, cl_ok, if1 h1, z10, tt_ok (zi4 hs4), nc (by omega), c_miss b1, if_neg h3, z00, c_isIn, cl_ok, if0 h2, z00, Fw0, c_found (by decide), cl_ok]
        · show m_X7_judge _ _ _ = _
          unfold m_X7_judge
          rw [r_isSheet, cl_ok, if1 h1, z10, rd_i hs4 (by decide), fnd_o (by decide), if_neg h3, ri_0_60, cl_ok, if0 h2, z00, Fw0, r_finds (by decide), cl_ok]
  · refine ok_F2 (w := 0) (by decide) h ?_ ?_
    · unfold m_X6_judge
      rw [c_isSheet, cl_ok, if0 h1, z00, Fw0, c_found (by decide), cl_ok]
    · show m_X7_judge _ _ _ = _
      unfold m_X7_judge
      rw [r_isSheet, cl_ok, if0 h1, z00, Fw0, r_finds (by decide), cl_ok]
end SC
