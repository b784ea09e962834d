theorem zush8 (x : Int32) : ∃ n, n < 16777216 ∧ zush x 8 = nI n := by
  have e : zush x 8 = nI (x.toBitVec.toNat / 256) := by
    have h1 : x.toBitVec.toNat < 2 ^ 32 := x.toBitVec.isLt
    apply Int32.toBitVec_inj.mp
    apply BitVec.eq_of_toNat_eq
    show (x.toUInt32 >>> ((nI 8).toUInt32 &&& Int32.toUInt32 31)).toBitVec.toNat = (BitVec.ofNat 32 (x.toBitVec.toNat / 256)).toNat
    rw [UInt32.toBitVec_shiftRight]
    show (x.toUInt32.toBitVec >>> (((nI 8).toUInt32 &&& Int32.toUInt32 31).toBitVec % 32).toNat).toNat = _
    rw [s_u 8 (by decide), BitVec.toNat_ushiftRight, BitVec.toNat_ofNat, Nat.shiftRight_eq_div_pow]
    show x.toBitVec.toNat / 2 ^ 8 = _
    omega
  have h1 : x.toBitVec.toNat < 2 ^ 32 := x.toBitVec.isLt
  exact ⟨_, by omega, e⟩
theorem rem9 (x : Int32) : ∃ a, 1 ≤ a ∧ a ≤ 9 ∧ zush x 8 - zush x 8 / 9 * 9 + 1 = nI a := by
  obtain ⟨n, hn, e⟩ := zush8 x
  rw [e]
  have := pk_rem (a := n) (d := 9) (by omega) (by decide) (by decide)
  rw [show (9 : Int32) = nI 9 from rfl, this, nI_1]
  exact ⟨n % 9 + 1, by omega, by omega, rfl⟩
section O5
variable {σ β : zw_S} {T N y k : Nat} {hd : Nat → Int32}
theorem sbear_cc (h : Wf T N y β) (x : Int32) : (sbear β x = -1 ∧ ∀ p, p < N → β 7 p ≠ x) ∨ ∃ p, p < N ∧ β 7 p = x ∧ sbear β x = nI p := by
  have hN8 := h.N8
  unfold sbear
  rw [h.hN]
  rcases sfind_c (fun p => decide (β 7 p = x)) N 0 with q | ⟨t, -, q2, q3, q⟩
  · refine Or.inl ⟨q, fun p hp e => ?_⟩
    have := sfind_none q (by omega) p (by omega) (by omega)
    simp [e] at this
  · exact Or.inr ⟨t, by omega, by simpa using q3, q⟩
theorem age40 (h : Wf T N y β) {p : Nat} (hp : p < N) : 40 ≤ β 8 p ↔ β 8 p = 40 := by
  obtain ⟨a, ha, e⟩ := h.age hp
  rw [e, show (40 : Int32) = nI 40 from rfl, nI_leI (by omega) (by omega), nI_eq (by omega) (by omega)]
  omega
def smay (β : zw_S) (p : Nat) (x : Int32) : Bool := decide (x = -1) || (!decide (β 8 p = 40) && (decide (sbear β x < 0) || decide (sbear β x = nI p)))
theorem c_mayTake (hk : k + 12 ≤ 38) (h : Wf T N y β) {p : Nat} (hp : p < N) (x : Int32) : m_X0_mayTake k (pk σ k β hd) (nI p) x = some (if smay β p x = true then 1 else 0, pk σ k β hd) := by
  have hN8 := h.N8
  unfold m_X0_mayTake smay
  by_cases h1 : x = -1
  · simp [h1]
  · rw [if_neg h1, c_bearer hk h, cl_ok, c_r8 hk (by omega)]
    by_cases h2 : β 8 p = 40
    · rw [if_pos (by rw [h2]; decide)]
      simp [h1, h2]
    · rw [if_neg (fun z => h2 ((age40 h hp).mp z))]
      by_cases h3 : sbear β x < 0
      · rw [if_pos h3]
        simp [h1, h2, h3]
      · rw [if_neg h3]
        by_cases h4 : sbear β x = nI p
        · rw [if_pos h4]
          simp [h2, h4]
        · rw [if_neg h4]
          simp [h1, h3, h4]
theorem r_wrongTake (h : Wf T N y β) {p : Nat} (hp : p < N) {x : Int32} (hx : x = -1 ∨ (0 ≤ x ∧ x ≤ 7)) : m_X7_wrongTake (pm σ β) (nI p) x = some (if smay β p x = true then 0 else -1000005, pm σ β) := by
  have hN8 := h.N8
  unfold m_X7_wrongTake
  rw [r_isPerson h, cl_ok, if1 (show 0 ≤ nI p ∧ nI p < nI N from isT_n (by omega) hp), z10]
  have e : m_X7_wrongTake_23 (pm σ β) (nI p) x = some (if smay β p x = true then 0 else -1000005, pm σ β) := by
    unfold m_X7_wrongTake_23 smay
    by_cases h1 : x = -1
    · subst h1
      rw [if_neg (by decide)]
      simp
    · have hx0 : 0 ≤ x := by rcases hx with hx | hx; exact absurd hx h1; exact hx.1
      rw [if_pos hx0, r_bearer h, cl_ok]
      have e4 : m_X7_wrongTake_44 (pm σ β) (nI p) = some (if β 8 p = 40 then -1000005 else 0, pm σ β) := by
        unfold m_X7_wrongTake_44
        rw [r_p1 (by omega), cl_ok]
        by_cases h2 : β 8 p = 40
        · rw [if_pos h2, if_pos h2]
        · rw [if_neg h2, if_neg h2]
      by_cases h3 : sbear β x < 0
      · rw [if_pos h3, e4]
        by_cases h2 : β 8 p = 40 <;> simp [h1, h2, h3]
      · rw [if_neg h3]
        by_cases h4 : sbear β x = nI p
        · rw [if_pos h4, e4]
          by_cases h2 : β 8 p = 40 <;> simp [h1, h2, h4]
        · rw [if_neg h4]
          simp [h1, h3, h4]
  rcases hx with hx | hx
  · rw [if_pos hx, e]
  · rw [if_neg (by rintro rfl; exact absurd hx.1 (by decide)), r_isName, cl_ok, if1 hx, z10, e]
theorem Wf.t7 (h : Wf T N y β) {p : Nat} {v : Int32} (hp : p < N) (hv : v = -1 ∨ ((∃ o, o < 8 ∧ v = nI o) ∧ ∀ q, q < N → q ≠ p → β 7 q ≠ v)) : Wf T N y (zw_wr β 7 p v) := by
  have hN8 := h.N8
  obtain ⟨h1, h2, h3, h4, h5, h6, h7, h8, h9, h10, h11, h12⟩ := h
  refine ⟨h1, h2, h3, h4, h5, h6, h7, h8, fun q hq => ?_, fun q r hq hr => ?_, h11, Cp_wr h12 (show p < 8 by omega)⟩
  · obtain ⟨a1, a2, a3, a4⟩ := h9 q hq
    refine ⟨?_, a2, a3, a4⟩
    rw [wr_ap]
    by_cases hqt : q = p
    · rw [if_pos ⟨rfl, hqt⟩]
      rcases hv with hv | hv
      · exact Or.inl hv
      · exact Or.inr hv.1
    · rw [if_neg (fun z => hqt z.2)]; exact a1
  · rw [wr_ap, wr_ap]
    intro e n
    have := h10 q r hq hr
    have a1 := h9 q hq
    rcases hv with hv | ⟨-, hv⟩
    · grind
    · have b1 := hv q hq
      have b2 := hv r hr
      grind
theorem Bk.w7 (hB : Bk β) {p : Nat} {v : Int32} (hp : nI p < β 0 3) (hp8 : p < 8) (hv : v = -1 ∨ (0 ≤ v ∧ v ≤ 7)) (hm : smay β p v = true) : Bk (zw_wr β 7 p v) := by
  obtain ⟨T, N, y, hW, hy, h40⟩ := hB
  have hN8 := hW.N8
  rw [hW.eN, nI_ltI (by omega) (by omega)] at hp
  unfold smay at hm
  simp only [Bool.or_eq_true, Bool.and_eq_true, decide_eq_true_eq, Bool.not_eq_true', decide_eq_false_iff_not] at hm
  refine ⟨T, N, y, hW.t7 hp ?_, hy, fun q hq => ?_⟩
  · rcases hm with hm | ⟨-, hm⟩
    · exact Or.inl hm
    · rcases hv with hv | hv
      · exact Or.inl hv
      · obtain ⟨j, hj, rfl⟩ := in_nI (M := 7) (m := 7) (by decide) hv
        refine Or.inr ⟨⟨j, by omega, rfl⟩, fun q hq hqp e => ?_⟩
        rcases sbear_cc hW (nI j) with ⟨-, z⟩ | ⟨r, hr, z1, z2⟩
        · exact z q hq e
        · rw [z2] at hm
          rcases hm with hm | hm
          · exact absurd hm (nI_pos (by omega))
          · rw [nI_eq (by omega) (by omega)] at hm
            subst hm
            exact hqp (hW.inj hq hr (e.trans z1.symm) (by rw [e]; intro z; exact absurd (nI_pos' (n := j) (by omega)) (by rw [z]; decide)))
  · rw [wr_ap, wr_ap, if_neg (by omega)]
    by_cases hqp : q = p
    · subst hqp
      intro e
      rw [if_pos ⟨rfl, rfl⟩]
      rcases hm with hm | ⟨hm, -⟩
      · exact hm
      · exact absurd e hm
    · rw [if_neg (fun z => hqp z.2)]
      exact h40 q hq
theorem eX2 {p : Nat} {a2 : Int32} (h1 : 0 ≤ nI p ∧ nI p < nI N) (h2 : a2 = -1 ∨ (0 ≤ a2 ∧ a2 ≤ 7)) (hW : Wf T N y β) : m_X6_take (pk σ 1 β hd) (nI p) a2 = m_X6_take_30 (pk σ 1 β hd) (nI p) a2 := by
  unfold m_X6_take
  rw [c_hasPerson (by decide) hW, cl_ok, if1 h1, z10]
  rcases h2 with h2 | h2
  · rw [if_pos h2]
  · rw [if_neg (by rintro rfl; exact absurd h2.1 (by decide)), c_isName, cl_ok, if1 h2, z10]
theorem op_take (h : Iv β σ) (a1 a2 : Int32) : Ok (m_X6_take σ a1 a2) (fun τ => m_X7_take τ a1 a2) := by
  obtain ⟨T, N, y, hW, hy, h40⟩ := id h.2.2.1
  have hT := h_T20 hW
  have hN := h_N8 hW
  by_cases h1 : 0 ≤ a1 ∧ a1 < nI N
  · obtain ⟨p, hp, rfl⟩ := isT_o (by omega) h1
    have hp8 : p < 8 := by omega
    by_cases h2 : a2 = -1 ∨ (0 ≤ a2 ∧ a2 ≤ 7)
    · skip
      by_cases h3 : smay β p a2 = true
      · refine ok_V (mX := fun s => m_X6_take s (nI p) a2) (r := β 7 p) (γ := zw_wr β 7 p a2) h (h.2.2.1.w7 (by rw [hW.eN]; exact h1.2) hp8 h2 h3) (fun hd => ⟨hd, ?_⟩) (fun τ => ?_)
        · show m_X6_take (pk σ 1 β hd) (nI p) a2 = _
          rw [eX2 h1 h2 hW]
          unfold m_X6_take_30
          rw [c_mayTake (by decide) hW hp, cl_ok, if1 h3, z10, ca_r7 hp8, ca_w7 hp8]
        · show m_X7_take (pm τ β) (nI p) a2 = _
          unfold m_X7_take
          rw [r_wrongTake hW hp h2, cl_ok, if_pos h3, if_pos (by decide), xp0, r_be (f := 7) hp8, cl_ok]
      · refine ok_F (mX := fun s => m_X6_take s (nI p) a2) (w := 4) (by decide) h (fun hd => ?_) (fun τ => ?_)
        · show m_X6_take (pk σ 1 β hd) (nI p) a2 = _
          rw [eX2 h1 h2 hW]
          unfold m_X6_take_30
          rw [c_mayTake (by decide) hW hp, cl_ok, if0 h3, z00, Fw4, c_found (by decide), cl_ok]
        · show m_X7_take (pm τ β) (nI p) a2 = _
          unfold m_X7_take
          rw [r_wrongTake hW hp h2, cl_ok, if_neg h3, if_neg (by decide), Fw4, r_finds (by decide), cl_ok]
    · have n1 : ¬ a2 = -1 := fun z => h2 (Or.inl z)
      have n2 : ¬ (0 ≤ a2 ∧ a2 ≤ 7) := fun z => h2 (Or.inr z)
      refine ok_F (mX := fun s => m_X6_take s (nI p) a2) (w := 0) (by decide) h (fun hd => ?_) (fun τ => ?_)
      · simp only [m_X6_take, c_isName, c_isKind, c_isSheet, c_isIn, c_hasTask (k := 1) (by decide) hW, c_hasPerson (k := 1) (by decide) hW, cl_ok, cv_ok, nm_ok, z00, z10, if_true, if_false, Fw0, Fw1, Fw2, Fw3, Fw4, Fw5, Fw6, c_found (w := 0) (by decide), c_found (w := 1) (by decide), c_found (w := 2) (by decide), c_found (w := 3) (by decide), c_found (w := 4) (by decide), c_found (w := 5) (by decide), c_found (w := 6) (by decide), if1 h1, if0 n2, if_neg n1]
      · simp only [m_X7_take, r_isName, r_isKind, r_isSheet, r_areHands, ri_m1_6, ri_0_100, ri_0_3, ri_0_39, ri_0_4, ri_0_5, ri_0_6, ri_0_60, ri_0_7, ri_0_9, ri_0_99, ri_1_4, ri_1_40, ri_1_60, ri_1_8, ri_1_9, ri_1_999, r_isTask hW, r_isPerson hW, cl_ok, cv_ok, nm_ok, z00, z10, if_true, if_false, Fw0, Fw1, Fw2, Fw3, Fw4, Fw5, Fw6, r_finds (w := 0) (by decide), r_finds (w := 1) (by decide), r_finds (w := 2) (by decide), r_finds (w := 3) (by decide), r_finds (w := 4) (by decide), r_finds (w := 5) (by decide), r_finds (w := 6) (by decide), m_X7_wrongTake, if1 h1, if0 n2, if_neg n1, show ¬ ((0:Int32) ≤ fw 0) by decide]
  · skip
    refine ok_F (mX := fun s => m_X6_take s a1 a2) (w := 0) (by decide) h (fun hd => ?_) (fun τ => ?_)
    · simp only [m_X6_take, c_isName, c_isKind, c_isSheet, c_isIn, c_hasTask (k := 1) (by decide) hW, c_hasPerson (k := 1) (by decide) hW, cl_ok, cv_ok, nm_ok, z00, z10, if_true, if_false, Fw0, Fw1, Fw2, Fw3, Fw4, Fw5, Fw6, c_found (w := 0) (by decide), c_found (w := 1) (by decide), c_found (w := 2) (by decide), c_found (w := 3) (by decide), c_found (w := 4) (by decide), c_found (w := 5) (by decide), c_found (w := 6) (by decide), if0 h1]
    · simp only [m_X7_take, r_isName, r_isKind, r_isSheet, r_areHands, ri_m1_6, ri_0_100, ri_0_3, ri_0_39, ri_0_4, ri_0_5, ri_0_6, ri_0_60, ri_0_7, ri_0_9, ri_0_99, ri_1_4, ri_1_40, ri_1_60, ri_1_8, ri_1_9, ri_1_999, r_isTask hW, r_isPerson hW, cl_ok, cv_ok, nm_ok, z00, z10, if_true, if_false, Fw0, Fw1, Fw2, Fw3, Fw4, Fw5, Fw6, r_finds (w := 0) (by decide), r_finds (w := 1) (by decide), r_finds (w := 2) (by decide), r_finds (w := 3) (by decide), r_finds (w := 4) (by decide), r_finds (w := 5) (by decide), r_finds (w := 6) (by decide), m_X7_wrongTake, if0 h1, show ¬ ((0:Int32) ≤ fw 0) by decide]
theorem Bk.ex (hB : Bk β) {p q : Nat} (hp : nI p < β 0 3) (hp8 : p < 8) (hq : nI q < β 0 3) (hq8 : q < 8) (hpq : p ≠ q) (a1 : β 8 p ≠ 40) (a2 : β 8 q ≠ 40) : Bk (zw_wr (zw_wr β 7 p (β 7 q)) 7 q (β 7 p)) := by
  obtain ⟨T, N, y, hW, hy, h40⟩ := hB
  have hN8 := hW.N8
  rw [hW.eN, nI_ltI (by omega) (by omega)] at hp hq
  refine ⟨T, N, y, ?_, hy, fun r hr => ?_⟩
  · obtain ⟨h1, h2, h3, h4, h5, h6, h7, h8, h9, h10, h11, h12⟩ := hW
    refine ⟨h1, h2, h3, h4, h5, h6, h7, h8, fun r hr => ?_, fun a b ha hb => ?_, h11, Cp_wr (Cp_wr h12 (show p < 8 by omega)) (show q < 8 by omega)⟩
    · obtain ⟨a1, a2, a3, a4⟩ := h9 r hr
      refine ⟨?_, a2, a3, a4⟩
      have := (h9 p hp).1
      have := (h9 q hq).1
      rw [wr_ap, wr_ap]
      grind
    · have es : ∀ r, zw_wr (zw_wr β 7 p (β 7 q)) 7 q (β 7 p) 7 r = β 7 (if r = q then p else if r = p then q else r) := by
        intro r
        simp only [wr_ap]
        by_cases c1 : r = q
        · simp [c1]
        · by_cases c2 : r = p
          · simp [c1, c2, hpq]
          · simp [c1, c2]
      rw [es, es]
      intro e n
      have := h10 _ _ (by split; exact hp; split; exact hq; exact ha) (by split; exact hp; split; exact hq; exact hb) e n
      grind
  · have e1 := h40 r hr
    simp only [wr_ap]
    grind
theorem op_exchange (h : Iv β σ) (a1 a2 : Int32) : Ok (m_X6_exchange σ a1 a2) (fun τ => m_X7_exchange τ a1 a2) := by
  obtain ⟨T, N, y, hW, hy, h40⟩ := id h.2.2.1
  have hT := h_T20 hW
  have hN := h_N8 hW
  by_cases h1 : 0 ≤ a1 ∧ a1 < nI N
  · by_cases h2 : 0 ≤ a2 ∧ a2 < nI N
    · by_cases h3 : a1 = a2
      · skip
        refine ok_F (mX := fun s => m_X6_exchange s a1 a2) (w := 0) (by decide) h (fun hd => ?_) (fun τ => ?_)
        · simp only [m_X6_exchange, c_isName, c_isKind, c_isSheet, c_isIn, c_hasTask (k := 1) (by decide) hW, c_hasPerson (k := 1) (by decide) hW, cl_ok, cv_ok, nm_ok, z00, z10, if_true, if_false, Fw0, Fw1, Fw2, Fw3, Fw4, Fw5, Fw6, c_found (w := 0) (by decide), c_found (w := 1) (by decide), c_found (w := 2) (by decide), c_found (w := 3) (by decide), c_found (w := 4) (by decide), c_found (w := 5) (by decide), c_found (w := 6) (by decide), if1 h1, if1 h2, if_pos h3]
        · simp only [m_X7_exchange, r_isName, r_isKind, r_isSheet, r_areHands, ri_m1_6, ri_0_100, ri_0_3, ri_0_39, ri_0_4, ri_0_5, ri_0_6, ri_0_60, ri_0_7, ri_0_9, ri_0_99, ri_1_4, ri_1_40, ri_1_60, ri_1_8, ri_1_9, ri_1_999, r_isTask hW, r_isPerson hW, cl_ok, cv_ok, nm_ok, z00, z10, if_true, if_false, Fw0, Fw1, Fw2, Fw3, Fw4, Fw5, Fw6, r_finds (w := 0) (by decide), r_finds (w := 1) (by decide), r_finds (w := 2) (by decide), r_finds (w := 3) (by decide), r_finds (w := 4) (by decide), r_finds (w := 5) (by decide), r_finds (w := 6) (by decide), if1 h1, if1 h2, if_pos h3]
      · obtain ⟨p, hp, rfl⟩ := isT_o (by omega) h1
        obtain ⟨q, hq, rfl⟩ := isT_o (by omega) h2
        have hp8 : p < 8 := by omega
        have hq8 : q < 8 := by omega
        have hpq : p ≠ q := fun z => h3 (by rw [z])
        have gp := age40 hW hp
        have gq := age40 hW hq
        by_cases h4 : β 8 p = 40
        · skip
          refine ok_F (mX := fun s => m_X6_exchange s (nI p) (nI q)) (w := 4) (by decide) h (fun hd => ?_) (fun τ => ?_)
          · simp only [m_X6_exchange, c_isName, c_isKind, c_isSheet, c_isIn, c_hasTask (k := 1) (by decide) hW, c_hasPerson (k := 1) (by decide) hW, cl_ok, cv_ok, nm_ok, z00, z10, if_true, if_false, Fw0, Fw1, Fw2, Fw3, Fw4, Fw5, Fw6, c_found (w := 0) (by decide), c_found (w := 1) (by decide), c_found (w := 2) (by decide), c_found (w := 3) (by decide), c_found (w := 4) (by decide), c_found (w := 5) (by decide), c_found (w := 6) (by decide), if1 h1, if1 h2, if_neg h3, ca_r8 hp8, if_pos (gp.mpr h4)]
          · simp only [m_X7_exchange, r_isName, r_isKind, r_isSheet, r_areHands, ri_m1_6, ri_0_100, ri_0_3, ri_0_39, ri_0_4, ri_0_5, ri_0_6, ri_0_60, ri_0_7, ri_0_9, ri_0_99, ri_1_4, ri_1_40, ri_1_60, ri_1_8, ri_1_9, ri_1_999, r_isTask hW, r_isPerson hW, cl_ok, cv_ok, nm_ok, z00, z10, if_true, if_false, Fw0, Fw1, Fw2, Fw3, Fw4, Fw5, Fw6, r_finds (w := 0) (by decide), r_finds (w := 1) (by decide), r_finds (w := 2) (by decide), r_finds (w := 3) (by decide), r_finds (w := 4) (by decide), r_finds (w := 5) (by decide), r_finds (w := 6) (by decide), if1 h1, if1 h2, if_neg h3, r_p1 hp8, if_pos h4]
        · have n4 : ¬ 40 ≤ β 8 p := fun z => h4 (gp.mp z)
          by_cases h5 : β 8 q = 40
          · have n5 : ¬ β 8 q < 40 := by rw [h5]; decide
            refine ok_F (mX := fun s => m_X6_exchange s (nI p) (nI q)) (w := 4) (by decide) h (fun hd => ?_) (fun τ => ?_)
            · simp only [m_X6_exchange, c_isName, c_isKind, c_isSheet, c_isIn, c_hasTask (k := 1) (by decide) hW, c_hasPerson (k := 1) (by decide) hW, cl_ok, cv_ok, nm_ok, z00, z10, if_true, if_false, Fw0, Fw1, Fw2, Fw3, Fw4, Fw5, Fw6, c_found (w := 0) (by decide), c_found (w := 1) (by decide), c_found (w := 2) (by decide), c_found (w := 3) (by decide), c_found (w := 4) (by decide), c_found (w := 5) (by decide), c_found (w := 6) (by decide), if1 h1, if1 h2, if_neg h3, ca_r8 hp8, if_neg n4, ca_r8 hq8, if_neg n5]
            · simp only [m_X7_exchange, r_isName, r_isKind, r_isSheet, r_areHands, ri_m1_6, ri_0_100, ri_0_3, ri_0_39, ri_0_4, ri_0_5, ri_0_6, ri_0_60, ri_0_7, ri_0_9, ri_0_99, ri_1_4, ri_1_40, ri_1_60, ri_1_8, ri_1_9, ri_1_999, r_isTask hW, r_isPerson hW, cl_ok, cv_ok, nm_ok, z00, z10, if_true, if_false, Fw0, Fw1, Fw2, Fw3, Fw4, Fw5, Fw6, r_finds (w := 0) (by decide), r_finds (w := 1) (by decide), r_finds (w := 2) (by decide), r_finds (w := 3) (by decide), r_finds (w := 4) (by decide), r_finds (w := 5) (by decide), r_finds (w := 6) (by decide), if1 h1, if1 h2, if_neg h3, r_p1 hp8, if_neg h4, r_p1 hq8, if_pos h5]
          · have n5 : β 8 q < 40 := by
              have := fun z => h5 (gq.mp z)
              grind
            refine ok_V (mX := fun s => m_X6_exchange s (nI p) (nI q)) (r := 1) (γ := zw_wr (zw_wr β 7 p (β 7 q)) 7 q (β 7 p)) h ?_ (fun hd => ⟨hd, ?_⟩) (fun τ => ?_)
            · exact h.2.2.1.ex (by rw [hW.eN]; exact h1.2) hp8 (by rw [hW.eN]; exact h2.2) hq8 hpq h4 h5
            · simp only [m_X6_exchange, c_isName, c_isKind, c_isSheet, c_isIn, c_hasTask (k := 1) (by decide) hW, c_hasPerson (k := 1) (by decide) hW, cl_ok, cv_ok, nm_ok, z00, z10, if_true, if_false, Fw0, Fw1, Fw2, Fw3, Fw4, Fw5, Fw6, c_found (w := 0) (by decide), c_found (w := 1) (by decide), c_found (w := 2) (by decide), c_found (w := 3) (by decide), c_found (w := 4) (by decide), c_found (w := 5) (by decide), c_found (w := 6) (by decide), if1 h1, if1 h2, if_neg h3, ca_r8 hp8, if_neg n4, ca_r8 hq8, if_pos n5, ca_r7 hp8, ca_r7 hq8, ca_w7 hp8, ca_w7 hq8]
            · simp only [m_X7_exchange, r_isName, r_isKind, r_isSheet, r_areHands, ri_m1_6, ri_0_100, ri_0_3, ri_0_39, ri_0_4, ri_0_5, ri_0_6, ri_0_60, ri_0_7, ri_0_9, ri_0_99, ri_1_4, ri_1_40, ri_1_60, ri_1_8, ri_1_9, ri_1_999, r_isTask hW, r_isPerson hW, cl_ok, cv_ok, nm_ok, z00, z10, if_true, if_false, Fw0, Fw1, Fw2, Fw3, Fw4, Fw5, Fw6, r_finds (w := 0) (by decide), r_finds (w := 1) (by decide), r_finds (w := 2) (by decide), r_finds (w := 3) (by decide), r_finds (w := 4) (by decide), r_finds (w := 5) (by decide), r_finds (w := 6) (by decide), if1 h1, if1 h2, if_neg h3, r_p1 hp8, if_neg h4, r_p1 hq8, if_neg h5, r_p0 hq8, xp0, r_be (f := 7) (i := p) hp8, r_wt (f := 7) (i := q) hq8]
    · skip
      refine ok_F (mX := fun s => m_X6_exchange s a1 a2) (w := 0) (by decide) h (fun hd => ?_) (fun τ => ?_)
      · simp only [m_X6_exchange, c_isName, c_isKind, c_isSheet, c_isIn, c_hasTask (k := 1) (by decide) hW, c_hasPerson (k := 1) (by decide) hW, cl_ok, cv_ok, nm_ok, z00, z10, if_true, if_false, Fw0, Fw1, Fw2, Fw3, Fw4, Fw5, Fw6, c_found (w := 0) (by decide), c_found (w := 1) (by decide), c_found (w := 2) (by decide), c_found (w := 3) (by decide), c_found (w := 4) (by decide), c_found (w := 5) (by decide), c_found (w := 6) (by decide), if1 h1, if0 h2]
      · simp only [m_X7_exchange, r_isName, r_isKind, r_isSheet, r_areHands, ri_m1_6, ri_0_100, ri_0_3, ri_0_39, ri_0_4, ri_0_5, ri_0_6, ri_0_60, ri_0_7, ri_0_9, ri_0_99, ri_1_4, ri_1_40, ri_1_60, ri_1_8, ri_1_9, ri_1_999, r_isTask hW, r_isPerson hW, cl_ok, cv_ok, nm_ok, z00, z10, if_true, if_false, Fw0, Fw1, Fw2, Fw3, Fw4, Fw5, Fw6, r_finds (w := 0) (by decide), r_finds (w := 1) (by decide), r_finds (w := 2) (by decide), r_finds (w := 3) (by decide), r_finds (w := 4) (by decide), r_finds (w := 5) (by decide), r_finds (w := 6) (by decide), if1 h1, if0 h2]
  · skip
    refine ok_F (mX := fun s => m_X6_exchange s a1 a2) (w := 0) (by decide) h (fun hd => ?_) (fun τ => ?_)
    · simp only [m_X6_exchange, c_isName, c_isKind, c_isSheet, c_isIn, c_hasTask (k := 1) (by decide) hW, c_hasPerson (k := 1) (by decide) hW, cl_ok, cv_ok, nm_ok, z00, z10, if_true, if_false, Fw0, Fw1, Fw2, Fw3, Fw4, Fw5, Fw6, c_found (w := 0) (by decide), c_found (w := 1) (by decide), c_found (w := 2) (by decide), c_found (w := 3) (by decide), c_found (w := 4) (by decide), c_found (w := 5) (by decide), c_found (w := 6) (by decide), if0 h1]
    · simp only [m_X7_exchange, r_isName, r_isKind, r_isSheet, r_areHands, ri_m1_6, ri_0_100, ri_0_3, ri_0_39, ri_0_4, ri_0_5, ri_0_6, ri_0_60, ri_0_7, ri_0_9, ri_0_99, ri_1_4, ri_1_40, ri_1_60, ri_1_8, ri_1_9, ri_1_999, r_isTask hW, r_isPerson hW, cl_ok, cv_ok, nm_ok, z00, z10, if_true, if_false, Fw0, Fw1, Fw2, Fw3, Fw4, Fw5, Fw6, r_finds (w := 0) (by decide), r_finds (w := 1) (by decide), r_finds (w := 2) (by decide), r_finds (w := 3) (by decide), r_finds (w := 4) (by decide), r_finds (w := 5) (by decide), r_finds (w := 6) (by decide), if0 h1]
def sz (x : Int32) : Int32 := x * 1103515245 + 12345
def sdraw (β : zw_S) : zw_S := zw_wr β 0 1 (sz (β 0 1))
def sbornz (β : zw_S) : zw_S := sborn (sdraw β) (zush (sz (β 0 1)) 8 - zush (sz (β 0 1)) 8 / 9 * 9 + 1) 0 (-1)
def sborns : Nat → zw_S → zw_S
  | 0, β => β
  | n + 1, β => if 8 ≤ β 0 3 then β else sborns n (sbornz β)
theorem Wf.wz (h : Wf T N y β) {v : Int32} : Wf T N y (zw_wr β 0 1 v) := by
  obtain ⟨h1, h2, h3, h4, h5, h6, h7, h8, h9, h10, h11, h12⟩ := h
  exact ⟨h1, h2, h3, h4, h5, h6, h7, h8, h9, h10, h11, Cp_wr h12 (by decide)⟩
theorem c_draw (hk : k + 12 ≤ 38) : m_X0_draw k (pk σ k β hd) = some (zush (sz (β 0 1)) 8, pk σ k (sdraw β) hd) := by
  unfold m_X0_draw sdraw
  rw [nm_ok, pk_s hk (by omega), pk_ws hk (by omega), pk_s hk (by omega), wr_at]
  rfl
theorem r_draw : m_X7_draw (pm σ β) = some (zush (sz (β 0 1)) 8, pm σ (sdraw β)) := by
  unfold m_X7_draw sdraw
  rw [r_z, show (1 : Int32) = nI (ec 0 1) from rfl, r_wt (f := 0) (by decide), r_rd (f := 0) (by decide), wr_at]
  rfl
theorem Bk.bornz (hB : Bk β) (hN : β 0 3 < 8) : Bk (sbornz β) := by
  obtain ⟨a, h1, h2, e⟩ := rem9 (sz (β 0 1))
  unfold sbornz
  rw [e]
  refine Bk.born hB.wz (by show zw_wr β 0 1 _ 0 3 < 8; rw [wr_ap, if_neg (by omega)]; exact hN) ⟨?_, ?_⟩ (by decide) (Or.inl rfl)
  · rw [show (1 : Int32) = nI 1 from rfl]; exact nI_le h1 (by omega)
  · rw [show (9 : Int32) = nI 9 from rfl]; exact nI_le h2 (by omega)
theorem Bk.borns : ∀ (n : Nat) (β : zw_S), Bk β → Bk (sborns n β) := by
  intro n
  induction n with
  | zero => intro β hB; exact hB
  | succ n ih =>
    intro β hB
    unfold sborns
    by_cases h : 8 ≤ β 0 3
    · rw [if_pos h]; exact hB
    · rw [if_neg h]
      exact ih _ (hB.bornz (by grind))
theorem c_born {a : Nat} (ha : a ≤ 8) : ∀ (q n i : Nat) (β : zw_S), Bk β → i + q = a → q < n → m_X6_born_19 n (pk σ 1 β hd) (nI a) (nI i) = some (sborns q β 0 3, pk σ 1 (sborns q β) hd) := by
  intro q
  induction q with
  | zero =>
    intro n i β hB hi hn
    obtain ⟨n, rfl⟩ : ∃ m, n = m + 1 := ⟨n - 1, by omega⟩
    unfold m_X6_born_19 m_X6_born_64
    rw [if_pos (nI_le (by omega) (by omega)), pk1_s (by omega)]
    rfl
  | succ q ih =>
    intro n i β hB hi hn
    obtain ⟨n, rfl⟩ : ∃ m, n = m + 1 := ⟨n - 1, by omega⟩
    obtain ⟨T, N, y, hW, -⟩ := id hB
    unfold m_X6_born_19 m_X6_born_64 sborns
    rw [if_neg (nI_ge (by omega) (by omega)), pk1_s (by omega)]
    by_cases h : 8 ≤ β 0 3
    · rw [if_pos h, if_pos h]
    · have hN : N < 8 := by
        rw [hW.eN, show (8 : Int32) = nI 8 from rfl] at h
        have := hW.N8
        rw [nI_leI (by omega) (by omega)] at h
        omega
      rw [if_neg h, if_neg h, c_draw (by decide), cl_ok, c_addPerson (k := 1) (by decide) (show Wf T N y (sdraw β) from Wf.wz hW), if_pos hN, cl_ok, nm_ok, nI_1]
      exact ih n (i + 1) _ (hB.bornz (by grind)) (by omega) (by omega)
theorem r_born {a : Nat} (ha : a ≤ 8) : ∀ (q n i : Nat) (β : zw_S), Bk β → i + q = a → q < n → m_X7_born_21 n (pm σ β) (nI a) (nI i) = some (sborns q β 0 3, pm σ (sborns q β)) := by
  intro q
  induction q with
  | zero =>
    intro n i β hB hi hn
    obtain ⟨n, rfl⟩ : ∃ m, n = m + 1 := ⟨n - 1, by omega⟩
    unfold m_X7_born_21 m_X7_born_58
    rw [if_pos (nI_le (by omega) (by omega)), r_N]
    rfl
  | succ q ih =>
    intro n i β hB hi hn
    obtain ⟨n, rfl⟩ : ∃ m, n = m + 1 := ⟨n - 1, by omega⟩
    obtain ⟨T, N, y, hW, -⟩ := id hB
    unfold m_X7_born_21 m_X7_born_58 sborns
    rw [if_neg (nI_ge (by omega) (by omega)), r_N]
    by_cases h : 8 ≤ β 0 3
    · rw [if_pos h, if_pos h, r_N]
    · have hN : N < 8 := by
        rw [hW.eN, show (8 : Int32) = nI 8 from rfl] at h
        have := hW.N8
        rw [nI_leI (by omega) (by omega)] at h
        omega
      rw [if_neg h, if_neg h, r_draw, cl_ok, r_isBorn (show Wf T N y (sdraw β) from Wf.wz hW) hN, cv_ok, nm_ok, nI_1]
      exact ih n (i + 1) _ (hB.bornz (by grind)) (by omega) (by omega)
theorem op_born (h : Iv β σ) (a1 : Int32) : Ok (m_X6_born σ a1) (fun τ => m_X7_born τ a1) := by
  obtain ⟨T, N, y, hW, hy, h40⟩ := id h.2.2.1
  have hT := h_T20 hW
  have hN := h_N8 hW
  by_cases h1 : 1 ≤ a1 ∧ a1 ≤ 8
  · obtain ⟨a, ha, rfl⟩ := in_nI (x := a1) (M := 8) (m := 8) (by decide) (by grind)
    refine ok_V (mX := fun s => m_X6_born s (nI a)) (r := sborns a β 0 3) (γ := sborns a β) h (Bk.borns a β h.2.2.1) (fun hd => ⟨hd, ?_⟩) (fun τ => ?_)
    · show m_X6_born (pk σ 1 β hd) (nI a) = _
      unfold m_X6_born
      rw [c_isIn, cl_ok, if1 h1, z10]
      exact c_born ha a 200 0 β h.2.2.1 (by omega) (by omega)
    · show m_X7_born (pm τ β) (nI a) = _
      unfold m_X7_born
      rw [ri_1_8, cl_ok, if1 h1, z10]
      exact r_born ha a 200 0 β h.2.2.1 (by omega) (by omega)
  · skip
    refine ok_F (mX := fun s => m_X6_born s a1) (w := 0) (by decide) h (fun hd => ?_) (fun τ => ?_)
    · simp only [m_X6_born, c_isName, c_isKind, c_isSheet, c_isIn, c_hasTask (k := 1) (by decide) hW, c_hasPerson (k := 1) (by decide) hW, cl_ok, cv_ok, nm_ok, z00, z10, if_true, if_false, Fw0, Fw1, Fw2, Fw3, Fw4, Fw5, Fw6, c_found (w := 0) (by decide), c_found (w := 1) (by decide), c_found (w := 2) (by decide), c_found (w := 3) (by decide), c_found (w := 4) (by decide), c_found (w := 5) (by decide), c_found (w := 6) (by decide), if0 h1]
    · simp only [m_X7_born, r_isName, r_isKind, r_isSheet, r_areHands, ri_m1_6, ri_0_100, ri_0_3, ri_0_39, ri_0_4, ri_0_5, ri_0_6, ri_0_60, ri_0_7, ri_0_9, ri_0_99, ri_1_4, ri_1_40, ri_1_60, ri_1_8, ri_1_9, ri_1_999, r_isTask hW, r_isPerson hW, cl_ok, cv_ok, nm_ok, z00, z10, if_true, if_false, Fw0, Fw1, Fw2, Fw3, Fw4, Fw5, Fw6, r_finds (w := 0) (by decide), r_finds (w := 1) (by decide), r_finds (w := 2) (by decide), r_finds (w := 3) (by decide), r_finds (w := 4) (by decide), r_finds (w := 5) (by decide), r_finds (w := 6) (by decide), if0 h1]
def sund (k c : Nat) : Bool := decide (k = c) || decide (c = 0) || (decide (k = 3) && decide (c = 2)) || (decide (k = 5) && decide (c = 4)) || (decide (k = 6) && decide (c = 1))
theorem c_isUnder (k c : Nat) (hk : k < 7) (hc : c < 7) : m_X2_isUnder σ (nI k) (nI c) = some (if sund k c = true then 1 else 0, σ) := by
  rcases (show k = 0 ∨ k = 1 ∨ k = 2 ∨ k = 3 ∨ k = 4 ∨ k = 5 ∨ k = 6 by omega) with rfl | rfl | rfl | rfl | rfl | rfl | rfl <;> rcases (show c = 0 ∨ c = 1 ∨ c = 2 ∨ c = 3 ∨ c = 4 ∨ c = 5 ∨ c = 6 by omega) with rfl | rfl | rfl | rfl | rfl | rfl | rfl <;> rfl
theorem r_asx (k c : Nat) (hk : k < 7) (hc : c < 7) (t : Int32) : m_X7_as_57 200 σ (nI c) t (nI k) = if sund k c = true then some (t, σ) else m_X7_as_80 σ := by
  rcases (show k = 0 ∨ k = 1 ∨ k = 2 ∨ k = 3 ∨ k = 4 ∨ k = 5 ∨ k = 6 by omega) with rfl | rfl | rfl | rfl | rfl | rfl | rfl <;> rcases (show c = 0 ∨ c = 1 ∨ c = 2 ∨ c = 3 ∨ c = 4 ∨ c = 5 ∨ c = 6 by omega) with rfl | rfl | rfl | rfl | rfl | rfl | rfl <;> rfl
theorem op_as (h : Iv β σ) (a1 a2 : Int32) : Ok (m_X6_as σ a1 a2) (fun τ => m_X7_as τ a1 a2) := by
  obtain ⟨T, N, y, hW, hy, h40⟩ := id h.2.2.1
  have hT := h_T20 hW
  have hN := h_N8 hW
  by_cases h1 : 0 ≤ a1 ∧ a1 ≤ 9
  · by_cases h2 : 0 ≤ a2 ∧ a2 ≤ 6
    · obtain ⟨i, hi, rfl⟩ := in_nI (M := 9) (m := 9) (by decide) h1
      obtain ⟨c, hc, rfl⟩ := in_nI (M := 6) (m := 6) (by decide) h2
      have hi10 : i < 10 := by omega
      rcases hW.spot hi10 with h3 | ⟨t, ht, h3⟩
      · have n3 : ¬ (0 ≤ β 11 i ∧ β 11 i < nI T) := by rw [h3]; intro z; exact absurd z.1 (by decide)
        have n4 : ¬ (0 ≤ β 11 i) := by rw [h3]; decide
        refine ok_F (mX := fun s => m_X6_as s (nI i) (nI c)) (w := 5) (by decide) h (fun hd => ?_) (fun τ => ?_)
        · simp only [m_X6_as, c_isName, c_isKind, c_isSheet, c_isIn, c_hasTask (k := 1) (by decide) hW, c_hasPerson (k := 1) (by decide) hW, cl_ok, cv_ok, nm_ok, z00, z10, if_true, if_false, Fw0, Fw1, Fw2, Fw3, Fw4, Fw5, Fw6, c_found (w := 0) (by decide), c_found (w := 1) (by decide), c_found (w := 2) (by decide), c_found (w := 3) (by decide), c_found (w := 4) (by decide), c_found (w := 5) (by decide), c_found (w := 6) (by decide), if1 h1, if1 h2, ca_r11 hi10, if0 n3]
        · simp only [m_X7_as, r_isName, r_isKind, r_isSheet, r_areHands, ri_m1_6, ri_0_100, ri_0_3, ri_0_39, ri_0_4, ri_0_5, ri_0_6, ri_0_60, ri_0_7, ri_0_9, ri_0_99, ri_1_4, ri_1_40, ri_1_60, ri_1_8, ri_1_9, ri_1_999, r_isTask hW, r_isPerson hW, cl_ok, cv_ok, nm_ok, z00, z10, if_true, if_false, Fw0, Fw1, Fw2, Fw3, Fw4, Fw5, Fw6, r_finds (w := 0) (by decide), r_finds (w := 1) (by decide), r_finds (w := 2) (by decide), r_finds (w := 3) (by decide), r_finds (w := 4) (by decide), r_finds (w := 5) (by decide), r_finds (w := 6) (by decide), if1 h1, if1 h2, xs0, r_rd (f := 11) hi10, if_neg n4]
      · have ht20 : t < 20 := by omega
        have p3 : 0 ≤ nI t ∧ nI t < nI T := isT_n (by omega) ht
        obtain ⟨k, hk, h4⟩ := hW.kind ht
        by_cases h5 : sund k c = true
        · refine ok_Q (mX := fun s => m_X6_as s (nI i) (nI c)) (r := nI t) h (fun hd => ?_) (fun τ => ?_)
          · show m_X6_as (pk σ 1 β hd) (nI i) (nI c) = _
            unfold m_X6_as
            rw [c_isIn, cl_ok, if1 h1, z10, c_isKind, cl_ok, if1 h2, z10, ca_r11 hi10, h3, c_hasTask (by decide) hW, cl_ok, if1 p3, z10, ca_r3 ht20, h4, c_isUnder k c hk (by omega), cl_ok, if1 h5, z10]
          · show m_X7_as (pm τ β) (nI i) (nI c) = _
            unfold m_X7_as
            rw [ri_0_9, cl_ok, if1 h1, z10, r_isKind, cl_ok, if1 h2, z10, xs0, r_rd (f := 11) hi10, h3, if_pos p3.1, r_t0 ht20, cl_ok, h4, r_asx k c hk (by omega), if_pos h5]
        · refine ok_F (mX := fun s => m_X6_as s (nI i) (nI c)) (w := 2) (by decide) h (fun hd => ?_) (fun τ => ?_)
          · show m_X6_as (pk σ 1 β hd) (nI i) (nI c) = _
            unfold m_X6_as
            rw [c_isIn, cl_ok, if1 h1, z10, c_isKind, cl_ok, if1 h2, z10, ca_r11 hi10, h3, c_hasTask (by decide) hW, cl_ok, if1 p3, z10, ca_r3 ht20, h4, c_isUnder k c hk (by omega), cl_ok, if0 h5, z00, Fw2, c_found (by decide), cl_ok]
          · show m_X7_as (pm τ β) (nI i) (nI c) = _
            unfold m_X7_as
            rw [ri_0_9, cl_ok, if1 h1, z10, r_isKind, cl_ok, if1 h2, z10, xs0, r_rd (f := 11) hi10, h3, if_pos p3.1, r_t0 ht20, cl_ok, h4, r_asx k c hk (by omega), if_neg h5]
            unfold m_X7_as_80
            rw [Fw2, r_finds (by decide), cl_ok]
    · skip
      refine ok_F (mX := fun s => m_X6_as s a1 a2) (w := 0) (by decide) h (fun hd => ?_) (fun τ => ?_)
      · simp only [m_X6_as, c_isName, c_isKind, c_isSheet, c_isIn, c_hasTask (k := 1) (by decide) hW, c_hasPerson (k := 1) (by decide) hW, cl_ok, cv_ok, nm_ok, z00, z10, if_true, if_false, Fw0, Fw1, Fw2, Fw3, Fw4, Fw5, Fw6, c_found (w := 0) (by decide), c_found (w := 1) (by decide), c_found (w := 2) (by decide), c_found (w := 3) (by decide), c_found (w := 4) (by decide), c_found (w := 5) (by decide), c_found (w := 6) (by decide), if1 h1, if0 h2]
      · simp only [m_X7_as, r_isName, r_isKind, r_isSheet, r_areHands, ri_m1_6, ri_0_100, ri_0_3, ri_0_39, ri_0_4, ri_0_5, ri_0_6, ri_0_60, ri_0_7, ri_0_9, ri_0_99, ri_1_4, ri_1_40, ri_1_60, ri_1_8, ri_1_9, ri_1_999, r_isTask hW, r_isPerson hW, cl_ok, cv_ok, nm_ok, z00, z10, if_true, if_false, Fw0, Fw1, Fw2, Fw3, Fw4, Fw5, Fw6, r_finds (w := 0) (by decide), r_finds (w := 1) (by decide), r_finds (w := 2) (by decide), r_finds (w := 3) (by decide), r_finds (w := 4) (by decide), r_finds (w := 5) (by decide), r_finds (w := 6) (by decide), if1 h1, if0 h2]
  · skip
    refine ok_F (mX := fun s => m_X6_as s a1 a2) (w := 0) (by decide) h (fun hd => ?_) (fun τ => ?_)
    · simp only [m_X6_as, c_isName, c_isKind, c_isSheet, c_isIn, c_hasTask (k := 1) (by decide) hW, c_hasPerson (k := 1) (by decide) hW, cl_ok, cv_ok, nm_ok, z00, z10, if_true, if_false, Fw0, Fw1, Fw2, Fw3, Fw4, Fw5, Fw6, c_found (w := 0) (by decide), c_found (w := 1) (by decide), c_found (w := 2) (by decide), c_found (w := 3) (by decide), c_found (w := 4) (by decide), c_found (w := 5) (by decide), c_found (w := 6) (by decide), if0 h1]
    · simp only [m_X7_as, r_isName, r_isKind, r_isSheet, r_areHands, ri_m1_6, ri_0_100, ri_0_3, ri_0_39, ri_0_4, ri_0_5, ri_0_6, ri_0_60, ri_0_7, ri_0_9, ri_0_99, ri_1_4, ri_1_40, ri_1_60, ri_1_8, ri_1_9, ri_1_999, r_isTask hW, r_isPerson hW, cl_ok, cv_ok, nm_ok, z00, z10, if_true, if_false, Fw0, Fw1, Fw2, Fw3, Fw4, Fw5, Fw6, r_finds (w := 0) (by decide), r_finds (w := 1) (by decide), r_finds (w := 2) (by decide), r_finds (w := 3) (by decide), r_finds (w := 4) (by decide), r_finds (w := 5) (by decide), r_finds (w := 6) (by decide), if0 h1]
end O5
