/-! most and give -/
section O12
variable {σ s τ β γ : zw_S} {T N y n : Nat} {hd : Nat → Int32} {g : Nat → Int32}
theorem FG.fx (h : FG σ s) : FX σ (tr s β γ hd) := FX.trans (fun i hi => h i (by omega)) FX.ftr
theorem EnW_V : Vl (frb β) (tks β N) (EnW β n N).2 := by
  have nd : Nd (frb β) (tks β N) (f0 β) gz := ⟨fun p => Or.inl rfl, fun p q _ hn => absurd rfl hn, fun o ho hf => by
    unfold f0 at hf
    rw [Bool.and_eq_true] at hf
    exact ⟨hf.2, fun p => (ne_m1 (by omega)).symm⟩⟩
  exact En_P (P := fun b => Vl (frb β) (tks β N) b.2) (tks β N) (f0 β) gz (-1, gz) ⟨fun p => Or.inl rfl, fun p q _ hn => absurd rfl hn⟩ (fun g2 e => Ext_V _ _ _ g2 (fun _ hp => hp) nd e)
theorem EnW_1 (h : Wf T N y β) (hy : y + n ≤ 5000) (h40 : ∀ p, p < N → β 8 p = 40 → β 7 p = -1) : (EnW β n N).1 ≠ -1 := by
  have nd : Nd (frb β) (tks β N) (f0 β) gz := ⟨fun p => Or.inl rfl, fun p q _ hn => absurd rfl hn, fun o ho hf => by
    unfold f0 at hf
    rw [Bool.and_eq_true] at hf
    exact ⟨hf.2, fun p => (ne_m1 (by omega)).symm⟩⟩
  obtain ⟨g2, e1, e2⟩ := En_leaf (V := Vw β n) (tks β N) (f0 β) gz (-1, gz)
  obtain ⟨v, hv, ev, -⟩ := V_way h hy h40 (Ext_V _ _ _ g2 (fun _ hp => hp) nd e1)
  intro z
  rw [show En (Vw β n) (tks β N) (f0 β) gz (-1, gz) = EnW β n N from rfl, z, ev] at e2
  have := nI_pos' (n := v) (by omega)
  grind
/-- what the class does where names may be given -/
theorem c_give (h : Wf T N y β) (hn : n ≤ 100) (hy : y + n ≤ 5000) (h40 : ∀ p, p < N → β 8 p = 40 → β 7 p = -1) (hl : (tks β N).length ≤ 4) (ht : Tk s (tks β N)) : ∃ s2 s3 γ2 hd2, m_X1_begin 1 (tr s β γ hd) (nI n) = some (tr s2 β γ hd) ∧ m_X1_weighFrom 1 (tr s2 β γ hd) (nI n) 0 (sfree β) (s2 39 8) = some (tr s3 β γ2 hd2) ∧ FG s s3 ∧ Tk s3 (tks β N) ∧ RX s3 (tks β N) (EnW β n N) := by
  obtain ⟨s2, b1, b2, b3, b4, b5, b6⟩ := c_begin (γ := γ) (hd := hd) h hn hl (fun p hp => (tks_m hp).1) ht
  have nd : Nd (frb β) (tks β N) (f0 β) gz := ⟨fun p => Or.inl rfl, fun p q _ hn => absurd rfl hn, fun o ho hf => by
    unfold f0 at hf
    rw [Bool.and_eq_true] at hf
    exact ⟨hf.2, fun p => (ne_m1 (by omega)).symm⟩⟩
  obtain ⟨s3, γ2, hd2, e1, e2, -, e4⟩ := c_from h hn hy h40 hl (tks β N) [] 6 s2 γ hd (sfree β) (f0 β) gz (-1, gz) rfl (by omega) b3 b4 ⟨b5, fun z => absurd rfl z⟩ nd (fun o ho => by
    rw [frb_bt h ho]
    unfold f0
    simp [ho]) (fun o ho => by
    unfold f0
    have : decide (o < 8) = false := decide_eq_false (by omega)
    rw [this]
    rfl) (fun j p hj => absurd hj (by simp))
  refine ⟨s2, s3, γ2, hd2, b1, ?_, FG.trans b2 e2.1, e2.tk b3, e4⟩
  unfold m_X1_weighFrom
  rw [b6]
  exact e1
theorem ta_w7 {α : Type} {i : Nat} {v : Int32} {F : zw_S → Option α} (hi : i < 8) : wt (tr s β γ hd) (1 + 7) 8 (nI i) v F = F (tr s (zw_wr β 7 i v) γ hd) := by
  rw [wt_i hi (by omega)]
  unfold tr
  rw [pk_wo (by omega) (by omega), pk_wb (by decide) (show i < cap 7 from hi)]
def oneg (g : Nat → Int32) (p : Nat) : Nat := if g p < 0 then 0 else 1
theorem c_carry {ts : List Nat} (hl : ts.length ≤ 4) (hts : ∀ p, p ∈ ts → p < 8) (ht : Tk s ts) (hg : ∀ j p, ts[j]? = some p → s 42 j = g p) : ∀ (l pre : List Nat) (m c : Nat) (β : zw_S), pre ++ l = ts → l.length < m → m_X1_carryOut_4 1 m (tr s β γ hd) (nI c) (nI pre.length) = some (nI (c + ls (oneg g) l), tr s (swr β g l) γ hd) := by
  intro l
  induction l with
  | nil =>
    intro pre m c β he hm
    obtain ⟨m, rfl⟩ : ∃ z, m = z + 1 := ⟨m - 1, by omega⟩
    rw [List.append_nil] at he
    unfold m_X1_carryOut_4
    rw [tr_o (by omega), ht.1, he, if_pos (nI_le (by omega) (by omega))]
    rfl
  | cons p l ih =>
    intro pre m c β he hm
    obtain ⟨m, rfl⟩ : ∃ z, m = z + 1 := ⟨m - 1, by omega⟩
    have hlen : ts.length = pre.length + (l.length + 1) := by rw [← he, List.length_append, List.length_cons]
    have hat : ts[pre.length]? = some p := by rw [← he]; exact app_at
    have hp : p < 8 := hts p (by rw [← he]; simp)
    rw [List.length_cons] at hm
    unfold m_X1_carryOut_4
    rw [tr_o (by omega), ht.1, if_neg (nI_ge (by omega) (by omega)), rd_i (by omega) (by omega), tr_o (by omega), ht.2 _ _ hat, rd_i (by omega) (by omega), tr_o (by omega), hg _ _ hat, ta_w7 hp, rd_i (by omega) (by omega), tr_o (by omega), hg _ _ hat, show ls (oneg g) (p :: l) = oneg g p + ls (oneg g) l from rfl]
    have i0 := ih (pre ++ [p]) m c (zw_wr β 7 p (g p)) (by rw [List.append_assoc]; exact he) (by omega)
    have i1 := ih (pre ++ [p]) m (c + 1) (zw_wr β 7 p (g p)) (by rw [List.append_assoc]; exact he) (by omega)
    rw [List.length_append] at i0 i1
    by_cases h0 : g p < 0
    · rw [if_pos h0, nm_ok, nI_1, show oneg g p = 0 from if_pos h0, Nat.zero_add]
      exact i0
    · rw [if_neg h0, nm_ok, nm_ok, nI_1, nI_1, show oneg g p = 1 from if_neg h0, ← Nat.add_assoc]
      exact i1
theorem r_give27 (hg : ∀ p, p < 8 → τ 64 p = g p) : ∀ (q m i c : Nat) (β : zw_S), i + q = 8 → q < m → m_X7_give_27 m (pm τ β) (nI c) (nI i) = some (nI (c + sm (oneg g) q i), pm τ (swn β g i q)) := by
  intro q
  induction q with
  | zero =>
    intro m i c β hi hm
    obtain ⟨m, rfl⟩ : ∃ z, m = z + 1 := ⟨m - 1, by omega⟩
    unfold m_X7_give_27
    rw [show (8 : Int32) = nI 8 from rfl, if_pos (nI_le (by omega) (by omega))]
    rfl
  | succ q ih =>
    intro m i c β hi hm
    obtain ⟨m, rfl⟩ : ∃ z, m = z + 1 := ⟨m - 1, by omega⟩
    have erd : ∀ {α : Type} {F : Int32 → Option α}, rd (pm τ β) 64 8 (nI i) F = F (g i) := fun {α F} => by rw [rd_i (by omega) (by omega), pm_o (by decide), hg i (by omega)]
    unfold m_X7_give_27
    rw [show (8 : Int32) = nI 8 from rfl, if_neg (nI_ge (by omega) (by omega)), erd, swn_s, show sm (oneg g) (q + 1) i = oneg g i + sm (oneg g) q (i + 1) from rfl]
    by_cases h0 : g i < 0
    · rw [if_neg (by grind), nm_ok, nI_1, ih m (i + 1) _ _ (by omega) (by omega), if_pos h0, show oneg g i = 0 from if_pos h0, Nat.zero_add]
    · rw [if_pos (by grind), erd, xp0, r_wt (f := 7) (show i < 8 by omega), nm_ok, nm_ok, nI_1, nI_1, ih m (i + 1) _ _ (by omega) (by omega), if_neg h0, show oneg g i = 1 from if_neg h0, ← Nat.add_assoc]
/-! why names may not be given -/
theorem c_why (h : Wf T N y β) (hy : y ≤ 999) (hn : 1 ≤ n ∧ n ≤ 40) (h2 : y + n ≤ 999) : ∃ s2, m_X6_whyNoGiving (tr s β γ hd) (nI n) = some (if (tks β N).length ≤ 4 then 0 else -1000007, tr s2 β γ hd) ∧ FG s s2 ∧ ((tks β N).length ≤ 4 → Tk s2 (tks β N)) := by
  obtain ⟨s2, e1, e2, e3⟩ := c_gather0 (s := s) (γ := γ) (hd := hd) h
  refine ⟨s2, ?_, e2, e3⟩
  have el : m_X6_isTooLate (tr s β γ hd) (nI n) = some (if y + n ≤ 999 then 0 else 1, tr s β γ hd) := tr_of (F := fun s => m_X6_isTooLate s (nI n)) (fun s => c_late h hy (by omega))
  have hi : (1 : Int32) ≤ nI n ∧ nI n ≤ 40 := ⟨nI_le (a := 1) hn.1 (by omega), nI_le (b := 40) hn.2 (by omega)⟩
  unfold m_X6_whyNoGiving
  rw [c_isIn, cl_ok, if1 hi, z10, el, cl_ok, if_pos h2, z00, e1, cl_ok]
  by_cases hl : (tks β N).length ≤ 4
  · rw [if_pos hl, z10, if_pos hl]
  · rw [if_neg hl, z00, if_neg hl]
theorem r_why (h : Wf T N y β) (hy : y ≤ 999) (hn : 1 ≤ n ∧ n ≤ 40) (h2 : y + n ≤ 999) : m_X7_wrongWay (pm τ β) (nI n) = some (if (tks β N).length ≤ 4 then 0 else -1000007, pm τ β) := by
  have hN := h.N8
  have hi : (1 : Int32) ≤ nI n ∧ nI n ≤ 40 := ⟨nI_le (a := 1) hn.1 (by omega), nI_le (b := 40) hn.2 (by omega)⟩
  have hL : (tks β N).length ≤ 8 := by
    have := List.length_filter_le (fpb β N) (List.range' 0 N)
    rw [List.length_range'] at this
    unfold tks
    omega
  unfold m_X7_wrongWay
  rw [ri_1_40, cl_ok, if1 hi, z10, r_far h hy (by omega), cl_ok, if_pos h2, z00, r_waiting h, cl_ok]
  by_cases hl : (tks β N).length ≤ 4
  · rw [if_pos (show nI (tks β N).length ≤ 4 from nI_le (b := 4) hl (by omega)), if_pos hl]
  · rw [if_neg (show ¬ nI (tks β N).length ≤ 4 from nI_ge (a := 4) (by omega) (by omega)), if_neg hl]
theorem op_most (h : Iv β σ) (a1 : Int32) : Ok (m_X6_most σ a1) (fun τ => m_X7_most τ a1) := by
  obtain ⟨T, N, y, hW, hy, h40⟩ := id h.2.2.1
  by_cases h1 : 1 ≤ a1 ∧ a1 ≤ 40
  · obtain ⟨n, hn, rfl⟩ := in_nI (x := a1) (M := 40) (m := 40) (by decide) (by grind)
    have hn1 : 1 ≤ n := (nI_leI (a := 1) (by omega) (by omega)).mp h1.1
    by_cases h2 : y + n ≤ 999
    · by_cases hl : (tks β N).length ≤ 4
      · refine ok_T (mX := fun s => m_X6_most s (nI n)) (r := (EnW β n N).1) (γ := β) h (fun hd => ?_) (fun τ => ?_) h.2.2.1
        · obtain ⟨γ, eg⟩ := pk_tr (σ := σ) (β := β) (hd := hd)
          obtain ⟨s1, w1, w2, w3⟩ := c_why (s := σ) (γ := γ) (hd := hd) hW hy ⟨hn1, hn⟩ h2
          obtain ⟨s2, s3, γ2, hd2, b1, b2, b3, b4, b5⟩ := c_give (γ := γ) (hd := hd) hW (show n ≤ 100 by omega) (by omega) h40 hl (w3 hl)
          refine ⟨tr s3 β γ2 hd2, ?_, FG.fx (FG.trans w2 b3), gb_tr hW.cp⟩
          show m_X6_most (pk σ 1 β hd) (nI n) = _
          rw [eg]
          unfold m_X6_most
          rw [w1, cl_ok, if_pos hl, z00, b1, cv_ok, tt_free hW, cl_ok, tr_o (by omega), b2, cv_ok, tr_o (by omega), b5.1]
        · obtain ⟨τ2, e1, e2, -⟩ := r_best (τ := τ) hW (show n ≤ 100 by omega) (by omega) hl
          refine ⟨τ2, ?_, e2⟩
          show m_X7_most (pm τ β) (nI n) = _
          unfold m_X7_most
          rw [r_why hW hy ⟨hn1, hn⟩ h2, cl_ok, if_pos hl, if_pos (by decide), e1, cl_ok]
      · refine ok_TF (mX := fun s => m_X6_most s (nI n)) (w := 6) (by decide) h (fun hd => ?_) (fun τ => ?_)
        · obtain ⟨γ, eg⟩ := pk_tr (σ := σ) (β := β) (hd := hd)
          obtain ⟨s1, w1, w2, w3⟩ := c_why (s := σ) (γ := γ) (hd := hd) hW hy ⟨hn1, hn⟩ h2
          refine ⟨tr s1 β γ hd, ?_, FG.fx w2, gb_tr hW.cp⟩
          show m_X6_most (pk σ 1 β hd) (nI n) = _
          rw [eg]
          unfold m_X6_most
          rw [w1, cl_ok, if_neg hl, if_neg (by decide), Fw6, c_found (by decide), cl_ok]
        · refine ⟨τ, ?_, FM.refl⟩
          show m_X7_most (pm τ β) (nI n) = _
          unfold m_X7_most
          rw [r_why hW hy ⟨hn1, hn⟩ h2, cl_ok, if_neg hl, if_neg (by decide), Fw6, r_finds (by decide), cl_ok]
    · refine ok_F (mX := fun s => m_X6_most s (nI n)) (w := 4) (by decide) h (fun hd => ?_) (fun τ => ?_)
      · show m_X6_most (pk σ 1 β hd) (nI n) = _
        unfold m_X6_most m_X6_whyNoGiving
        rw [c_isIn, cl_ok, if1 h1, z10, c_late hW hy (by omega), cl_ok, if_neg h2, z10, cl_ok, if_neg (by decide), Fw4, c_found (by decide), cl_ok]
      · show m_X7_most (pm τ β) (nI n) = _
        unfold m_X7_most m_X7_wrongWay
        rw [ri_1_40, cl_ok, if1 h1, z10, r_far hW hy (by omega), cl_ok, if_neg h2, z10, cl_ok, if_neg (by decide), Fw4, r_finds (by decide), cl_ok]
  · refine ok_F (mX := fun s => m_X6_most s a1) (w := 0) (by decide) h (fun hd => ?_) (fun τ => ?_)
    · show m_X6_most (pk σ 1 β hd) a1 = _
      unfold m_X6_most m_X6_whyNoGiving
      rw [c_isIn, cl_ok, if0 h1, z00, cl_ok, if_neg (by decide), Fw0, c_found (by decide), cl_ok]
    · show m_X7_most (pm τ β) a1 = _
      unfold m_X7_most m_X7_wrongWay
      rw [ri_1_40, cl_ok, if0 h1, z00, cl_ok, if_neg (by decide), Fw0, r_finds (by decide), cl_ok]
theorem op_give (h : Iv β σ) (a1 : Int32) : Ok (m_X6_give σ a1) (fun τ => m_X7_give τ a1) := by
  obtain ⟨T, N, y, hW, hy, h40⟩ := id h.2.2.1
  have hN := hW.N8
  by_cases h1 : 1 ≤ a1 ∧ a1 ≤ 40
  · obtain ⟨n, hn, rfl⟩ := in_nI (x := a1) (M := 40) (m := 40) (by decide) (by grind)
    have hn1 : 1 ≤ n := (nI_leI (a := 1) (by omega) (by omega)).mp h1.1
    by_cases h2 : y + n ≤ 999
    · by_cases hl : (tks β N).length ≤ 4
      · have hv : Vl (frb β) (tks β N) (EnW β n N).2 := EnW_V
        have hne := EnW_1 hW (n := n) (by omega) h40
        have hw := Wf_sg hW hv
        have g8 : ∀ p, 8 ≤ p → (EnW β n N).2 p = -1 := fun p hp => by
          rcases hv.1 p with e | ⟨hm, -⟩
          · exact e
          · have := (tks_m hm).1
            omega
        have ecnt : ls (oneg (EnW β n N).2) (tks β N) = sm (oneg (EnW β n N).2) 8 0 := by
          rw [← tks_fl hN]
          unfold fl
          apply ls_sm
          intro p _ _ hf
          unfold oneg
          rw [Vl_fp hN hv hf, if_pos (by decide)]
        refine ok_T (mX := fun s => m_X6_give s (nI n)) (r := nI (0 + ls (oneg (EnW β n N).2) (tks β N))) (γ := sg β (EnW β n N).2) h (fun hd => ?_) (fun τ => ?_) ⟨T, N, y, hw, hy, sg_40 hW hv h40⟩
        · obtain ⟨γ, eg⟩ := pk_tr (σ := σ) (β := β) (hd := hd)
          obtain ⟨s1, w1, w2, w3⟩ := c_why (s := σ) (γ := γ) (hd := hd) hW hy ⟨hn1, hn⟩ h2
          obtain ⟨s2, s3, γ2, hd2, b1, b2, b3, b4, b5⟩ := c_give (γ := γ) (hd := hd) hW (show n ≤ 100 by omega) (by omega) h40 hl (w3 hl)
          refine ⟨tr s3 (sg β (EnW β n N).2) γ2 hd2, ?_, FG.fx (FG.trans w2 b3), gb_tr hw.cp⟩
          have cc := c_carry (γ := γ2) (hd := hd2) hl (fun p hp => by have := (tks_m hp).1; omega) b4 (b5.2 hne) (tks β N) [] 200 0 β rfl (by omega)
          rw [swr_sg hW hv] at cc
          show m_X6_give (pk σ 1 β hd) (nI n) = _
          rw [eg]
          unfold m_X6_give
          rw [w1, cl_ok, if_pos hl, z00, b1, cv_ok, tt_free hW, cl_ok, tr_o (by omega), b2, cv_ok]
          unfold m_X1_carryOut
          rw [show m_X1_carryOut_4 1 200 (tr s3 β γ2 hd2) 0 0 = _ from cc, cl_ok]
        · obtain ⟨τ2, e1, e2, e3⟩ := r_best (τ := τ) hW (show n ≤ 100 by omega) (by omega) hl
          refine ⟨τ2, ?_, e2⟩
          have cc := r_give27 (τ := τ2) (e3 hne) 8 200 0 0 β (by omega) (by omega)
          rw [swn_sg g8] at cc
          show m_X7_give (pm τ β) (nI n) = _
          unfold m_X7_give
          rw [r_why hW hy ⟨hn1, hn⟩ h2, cl_ok, if_pos hl, if_pos (by decide), e1, cl_ok, ecnt]
          exact cc
      · refine ok_TF (mX := fun s => m_X6_give s (nI n)) (w := 6) (by decide) h (fun hd => ?_) (fun τ => ?_)
        · obtain ⟨γ, eg⟩ := pk_tr (σ := σ) (β := β) (hd := hd)
          obtain ⟨s1, w1, w2, w3⟩ := c_why (s := σ) (γ := γ) (hd := hd) hW hy ⟨hn1, hn⟩ h2
          refine ⟨tr s1 β γ hd, ?_, FG.fx w2, gb_tr hW.cp⟩
          show m_X6_give (pk σ 1 β hd) (nI n) = _
          rw [eg]
          unfold m_X6_give
          rw [w1, cl_ok, if_neg hl, if_neg (by decide), Fw6, c_found (by decide), cl_ok]
        · refine ⟨τ, ?_, FM.refl⟩
          show m_X7_give (pm τ β) (nI n) = _
          unfold m_X7_give
          rw [r_why hW hy ⟨hn1, hn⟩ h2, cl_ok, if_neg hl, if_neg (by decide), Fw6, r_finds (by decide), cl_ok]
    · refine ok_F (mX := fun s => m_X6_give s (nI n)) (w := 4) (by decide) h (fun hd => ?_) (fun τ => ?_)
      · show m_X6_give (pk σ 1 β hd) (nI n) = _
        unfold m_X6_give m_X6_whyNoGiving
        rw [c_isIn, cl_ok, if1 h1, z10, c_late hW hy (by omega), cl_ok, if_neg h2, z10, cl_ok, if_neg (by decide), Fw4, c_found (by decide), cl_ok]
      · show m_X7_give (pm τ β) (nI n) = _
        unfold m_X7_give m_X7_wrongWay
        rw [ri_1_40, cl_ok, if1 h1, z10, r_far hW hy (by omega), cl_ok, if_neg h2, z10, cl_ok, if_neg (by decide), Fw4, r_finds (by decide), cl_ok]
  · refine ok_F (mX := fun s => m_X6_give s a1) (w := 0) (by decide) h (fun hd => ?_) (fun τ => ?_)
    · show m_X6_give (pk σ 1 β hd) a1 = _
      unfold m_X6_give m_X6_whyNoGiving
      rw [c_isIn, cl_ok, if0 h1, z00, cl_ok, if_neg (by decide), Fw0, c_found (by decide), cl_ok]
    · show m_X7_give (pm τ β) a1 = _
      unfold m_X7_give m_X7_wrongWay
      rw [ri_1_40, cl_ok, if0 h1, z00, cl_ok, if_neg (by decide), Fw0, r_finds (by decide), cl_ok]
end O12
