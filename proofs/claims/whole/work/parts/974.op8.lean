section T8
variable {σ τ β γ : zw_S} {T N y k : Nat} {hd : Nat → Int32}
/-! handsFor -/
def shf (β : zw_S) (p L : Nat) (x : Int32) (h : Nat) : Bool := !sopen (syears L (zw_wr β 9 p (nI h))) x
theorem Wf.w9 (h : Wf T N y β) {p a : Nat} (hp : p < 8) (ha : 1 ≤ a ∧ a ≤ 9) : Wf T N y (zw_wr β 9 p (nI a)) := by
  obtain ⟨h1, h2, h3, h4, h5, h6, h7, h8, h9, h10, h11, h12⟩ := h
  refine ⟨h1, h2, h3, h4, h5, h6, h7, h8, fun q hq => ?_, h10, h11, Cp_wr h12 hp⟩
  obtain ⟨a1, a2, a3, a4⟩ := h9 q hq
  refine ⟨a1, a2, ?_, a4⟩
  rw [wr_ap]
  by_cases hqt : q = p
  · rw [if_pos ⟨rfl, hqt⟩]; exact ⟨a, ha.1, ha.2, rfl⟩
  · rw [if_neg (fun z => hqt z.2)]; exact a3
theorem c_handsl (h : Wf T N y β) {p a o : Nat} (hp : p < N) (ho : o < 8) (h7 : β 7 p = nI o) (ha : a ≤ 40) (h8 : β 8 p = nI a) (hy : y + 40 ≤ 5000) : ∀ (q n i : Nat) (γ : zw_S) (hd : Nat → Int32), i + q = 10 → 1 ≤ i → q < n → ∃ γ2 hd2, m_X6_handsFor_50 n (tr σ β γ hd) (nI p) (nI o) (nI i) = if 0 ≤ sfind (shf β p (40 - a) (nI o)) i q then some (sfind (shf β p (40 - a) (nI o)) i q, tr σ β γ2 hd2) else cl (m_X6_found (tr σ β γ2 hd2) (-1000004)) fun r2 s1 => some (r2, s1) := by
  intro q
  have hN8 := h.N8
  induction q with
  | zero =>
    intro n i γ hd hi hi1 hn
    obtain ⟨n, rfl⟩ : ∃ m, n = m + 1 := ⟨n - 1, by omega⟩
    refine ⟨γ, hd, ?_⟩
    unfold m_X6_handsFor_50
    rw [show (9 : Int32) = nI 9 from rfl, if_pos (nI_lt (by omega) (by omega)), sfind_0, if_neg (by decide)]
    rfl
  | succ q ih =>
    intro n i γ hd hi hi1 hn
    obtain ⟨n, rfl⟩ : ∃ m, n = m + 1 := ⟨n - 1, by omega⟩
    have e7 : zw_wr β 7 p (nI o) = β := wr_same h7
    have hw : Wf T N y (zw_wr (zw_wr β 7 p (nI o)) 9 p (nI i)) := by
      rw [e7]
      exact h.w9 (by omega) ⟨by omega, by omega⟩
    unfold m_X6_handsFor_50
    rw [show (9 : Int32) = nI 9 from rfl, if_neg (nI_nlt (by omega) (by omega)), c_shutIn h.cp (by omega) ho ha h8 hw hy, cl_ok, e7, sfind_s]
    by_cases hq : sopen (syears (40 - a) (zw_wr β 9 p (nI i))) (nI o) = true
    · rw [if_pos hq, z00, nm_ok, nI_1, if_neg (show ¬ shf β p (40 - a) (nI o) i = true by simp [shf, hq])]
      exact ih n (i + 1) _ _ (by omega) (by omega) (by omega)
    · refine ⟨syears (40 - a) (zw_wr β 9 p (nI i)), hands (syears (40 - a) (zw_wr β 9 p (nI i))), ?_⟩
      rw [if_neg hq, z10, if_pos (show shf β p (40 - a) (nI o) i = true by simp [shf, hq]), if_pos (nI_pos' (by omega))]
theorem r_handsl (h : Wf T N y β) {p a o : Nat} (hp : p < N) (ho : o < 8) (h7 : β 7 p = nI o) (ha : a ≤ 40) (h8 : β 8 p = nI a) (hy : y + 40 ≤ 5000) : ∀ (q n i : Nat) (v : Int32) (τ : zw_S), i + q = 10 → 1 ≤ i → q + 1 < n → ∃ τ2, FM τ τ2 ∧ m_X7_handsFor_52 n (pm τ (zw_wr β 9 p v)) (nI p) (β 9 p) (-1) (nI i) = cl (m_X7_orNone (pm τ2 β) (sfind (shf β p (40 - a) (nI o)) i q)) fun r2 s1 => some (r2, s1) := by
  intro q
  have hN8 := h.N8
  have rs : ∀ v, zw_wr (zw_wr β 9 p v) 9 p (β 9 p) = β := fun v => by rw [wr_wr]; exact wr_same rfl
  have r105 : ∀ (τ : zw_S) (v u : Int32), m_X7_handsFor_105 (pm τ (zw_wr β 9 p v)) (nI p) (β 9 p) u = cl (m_X7_orNone (pm τ β) u) fun r2 s1 => some (r2, s1) := fun τ v u => by
    unfold m_X7_handsFor_105
    rw [xp2, r_wt (f := 9) (show p < 8 by omega), rs]
  induction q with
  | zero =>
    intro n i v τ hi hi1 hn
    obtain ⟨n, rfl⟩ : ∃ m, n = m + 1 := ⟨n - 1, by omega⟩
    refine ⟨τ, FM.refl, ?_⟩
    unfold m_X7_handsFor_52
    rw [show (9 : Int32) = nI 9 from rfl, if_pos (nI_lt (by omega) (by omega)), sfind_0, r105]
  | succ q ih =>
    intro n i v τ hi hi1 hn
    obtain ⟨n, rfl⟩ : ∃ m, n = m + 1 := ⟨n - 1, by omega⟩
    have hw : Wf T N y (zw_wr β 9 p (nI i)) := h.w9 (by omega) ⟨by omega, by omega⟩
    unfold m_X7_handsFor_52
    rw [show (9 : Int32) = nI 9 from rfl, if_neg (nI_nlt (by omega) (by omega)), if_neg (by decide), xp2, r_wt (f := 9) (show p < 8 by omega), wr_wr, r_p0 (by omega), cl_ok, wr_f (show (7 : Nat) ≠ 9 by decide), h7, r_shutIn hw (by omega) ho ha (by rw [wr_f (by decide)]; exact h8) hy, cl_ok, sfind_s]
    by_cases hq : sopen (syears (40 - a) (zw_wr β 9 p (nI i))) (nI o) = true
    · obtain ⟨τ2, f, e⟩ := ih n (i + 1) (nI i) (sv 60 τ (zw_wr β 9 p (nI i))) (by omega) (by omega) (by omega)
      refine ⟨τ2, FM.trans (FM.fsv (Or.inl rfl)) f, ?_⟩
      rw [if_pos hq, z00, nm_ok, nI_1, if_neg (show ¬ shf β p (40 - a) (nI o) i = true by simp [shf, hq]), e]
    · refine ⟨sv 60 τ (zw_wr β 9 p (nI i)), FM.fsv (Or.inl rfl), ?_⟩
      rw [if_neg hq, z10, nm_ok, nI_1, if_pos (show shf β p (40 - a) (nI o) i = true by simp [shf, hq])]
      obtain ⟨n, rfl⟩ : ∃ m, n = m + 1 := ⟨n - 1, by omega⟩
      unfold m_X7_handsFor_52
      rw [if_pos (show (0 : Int32) ≤ nI i from nI_pos' (by omega)), r105]
      by_cases h9 : (9 : Int32) < nI (i + 1)
      · rw [if_pos h9]
      · rw [if_neg h9]
/-! lives -/
def slf (β : zw_S) (h x : Int32) : zw_S := sborn (zw_wr β 0 3 0) h 0 x
theorem Wf.n0 (h : Wf T N y β) : Wf T 0 y (zw_wr β 0 3 0) := by
  obtain ⟨h1, h2, h3, h4, h5, h6, h7, h8, h9, h10, h11, h12⟩ := h
  exact ⟨h1, by omega, h3, h4, by rw [wr_at]; rfl, h6, h7, h8, fun q hq => absurd hq (by omega), fun q r hq => absurd hq (by omega), h11, Cp_wr h12 (by decide)⟩
theorem Wf.lf (h : Wf T N y β) {a o : Nat} (ha : 1 ≤ a ∧ a ≤ 9) (ho : o < 8) : Wf T 1 y (slf β (nI a) (nI o)) :=
  Wf.born (b := 0) h.n0 (by omega) ha (by omega) (Or.inr ⟨o, ho, rfl, fun p hp => absurd hp (by omega)⟩)
/-- life on life, up to q more: the number of the first behind which the name is shut -/
def slv (a o : Nat) : Nat → Nat → zw_S → Int32
  | 0, _, _ => -1
  | q + 1, i, β => if sopen (syears 40 (slf β (nI a) (nI o))) (nI o) = true then slv a o q (i + 1) (syears 40 (slf β (nI a) (nI o))) else nI i
theorem c_livesl {a o : Nat} (ha : 1 ≤ a ∧ a ≤ 9) (ho : o < 8) : ∀ (q n i T N y : Nat) (γ : zw_S) (hd : Nat → Int32), Wf T N y γ → y + 40 * q ≤ 5000 → i + q = 10 → q < n → ∃ γ2 hd2, m_X6_lives_49 n (tr σ β γ hd) (nI o) (nI a) (nI i) = if 0 ≤ slv a o q i γ then some (slv a o q i γ, tr σ β γ2 hd2) else cl (m_X6_found (tr σ β γ2 hd2) (-1000004)) fun r2 s1 => some (r2, s1) := by
  intro q
  induction q with
  | zero =>
    intro n i T N y γ hd h hy hi hn
    obtain ⟨n, rfl⟩ : ∃ m, n = m + 1 := ⟨n - 1, by omega⟩
    refine ⟨γ, hd, ?_⟩
    unfold m_X6_lives_49 slv
    rw [show (9 : Int32) = nI 9 from rfl, if_pos (nI_lt (by omega) (by omega)), if_neg (by decide)]
    rfl
  | succ q ih =>
    intro n i T N y γ hd h hy hi hn
    obtain ⟨n, rfl⟩ : ∃ m, n = m + 1 := ⟨n - 1, by omega⟩
    have hl := h.lf ha ho
    obtain ⟨T2, -, hl2⟩ := Wf.years 40 T y _ hl (by omega)
    unfold m_X6_lives_49 slv
    rw [show (9 : Int32) = nI 9 from rfl, if_neg (nI_nlt (by omega) (by omega)), nm_ok, tt_ws (by omega), tt_add h.n0, if_pos (by omega), cl_ok, show (40 : Int32) = nI 40 from rfl]
    show ∃ γ2 hd2, (cv (m_X5_go 25 (tr σ β (slf γ (nI a) (nI o)) hd) (nI 40)) _) = _
    rw [c_tgo hl (by omega) (by omega), cv_ok, ct_isOpen hl2 ho, cl_ok]
    by_cases hq : sopen (syears 40 (slf γ (nI a) (nI o))) (nI o) = true
    · rw [if1 hq, z10, nm_ok, nI_1, if_pos hq]
      exact ih n (i + 1) T2 1 (y + 40) _ _ hl2 (by omega) (by omega) (by omega)
    · refine ⟨syears 40 (slf γ (nI a) (nI o)), hands (syears 40 (slf γ (nI a) (nI o))), ?_⟩
      rw [if0 hq, z00, if_neg hq, if_pos (nI_pos' (by omega))]
def sup (x : Int32) : Nat → zw_S → zw_S
  | 0, β => β
  | q + 1, β => if sopen β x = true then sup x q (syear β) else β
theorem sup_o {x : Int32} : ∀ (q T y : Nat) (β : zw_S), Wf T N y β → y + q ≤ 5000 → (sopen (sup x q β) x = true ↔ sopen (syears q β) x = true) ∧ (sopen (syears q β) x = true → sup x q β = syears q β) ∧ ∃ T2, Wf T2 N (y + q) (syears q β) := by
  intro q
  induction q with
  | zero => intro T y β h hy; exact ⟨Iff.rfl, fun _ => rfl, T, h⟩
  | succ q ih =>
    intro T y β h hy
    obtain ⟨T2, -, h2⟩ := h.year (by omega)
    obtain ⟨e1, e2, T3, e3⟩ := ih T2 (y + 1) (syear β) h2 (by omega)
    by_cases ho : sopen β x = true
    · rw [show sup x (q + 1) β = sup x q (syear β) from if_pos ho]
      exact ⟨e1, e2, T3, by rw [show y + (q + 1) = y + 1 + q by omega]; exact e3⟩
    · have hn : ¬ sopen (syears (q + 1) β) x = true := fun z => ho (mo_years (q + 1) T y β h hy x z)
      rw [show sup x (q + 1) β = β from if_neg ho]
      exact ⟨⟨fun z => absurd z ho, fun z => absurd z hn⟩, fun z => absurd z hn, T3, by rw [show y + (q + 1) = y + 1 + q by omega]; exact e3⟩
theorem sup_W {x : Int32} : ∀ (q T y : Nat) (β : zw_S), Wf T N y β → y + q ≤ 5000 → ∃ T2 y2, y2 ≤ y + q ∧ Wf T2 N y2 (sup x q β) := by
  intro q
  induction q with
  | zero => intro T y β h hy; exact ⟨T, y, by omega, h⟩
  | succ q ih =>
    intro T y β h hy
    obtain ⟨T2, -, h2⟩ := h.year (by omega)
    by_cases ho : sopen β x = true
    · rw [show sup x (q + 1) β = sup x q (syear β) from if_pos ho]
      obtain ⟨T3, y3, h3, h4⟩ := ih T2 (y + 1) (syear β) h2 (by omega)
      exact ⟨T3, y3, by omega, h4⟩
    · rw [show sup x (q + 1) β = β from if_neg ho]
      exact ⟨T, y, by omega, h⟩
theorem r_lives90 {R : zw_S → Int32 → Int32 → Int32 → Option (Int32 × zw_S)} {o : Nat} (ho : o < 8) {x2 x3 : Int32} : ∀ (q n i T y : Nat) (b : zw_S), Wf T N y b → y + q ≤ 5000 → i + q = 40 → q < n → m_X7_lives_90 R n (pm τ b) (nI o) x2 x3 (nI i) = R (pm τ (sup (nI o) q b)) (nI o) x2 x3 := by
  intro q
  induction q with
  | zero =>
    intro n i T y b h hy hi hn
    obtain ⟨n, rfl⟩ : ∃ m, n = m + 1 := ⟨n - 1, by omega⟩
    unfold m_X7_lives_90
    rw [show (40 : Int32) = nI 40 from rfl, if_pos (nI_le (by omega) (by omega))]
    rfl
  | succ q ih =>
    intro n i T y b h hy hi hn
    obtain ⟨n, rfl⟩ : ∃ m, n = m + 1 := ⟨n - 1, by omega⟩
    obtain ⟨T2, -, h2⟩ := h.year (by omega)
    unfold m_X7_lives_90
    rw [show (40 : Int32) = nI 40 from rfl, if_neg (nI_ge (by omega) (by omega)), r_open h, cl_ok]
    by_cases hq : sopen b (nI o) = true
    · rw [if1 hq, z10, r_year h, cv_ok, nm_ok, nI_1, ih n (i + 1) T2 (y + 1) _ h2 (by omega) (by omega) (by omega), show sup (nI o) (q + 1) b = sup (nI o) q (syear b) from if_pos hq]
    · rw [if0 hq, z00, show sup (nI o) (q + 1) b = b from if_neg hq]
theorem r_livesl {a o : Nat} (ha : 1 ≤ a ∧ a ≤ 9) (ho : o < 8) : ∀ (q n i T N y : Nat) (b : zw_S), Wf T N y b → y + 40 * q ≤ 5000 → i + q = 9 → q + 1 < n → sopen b (nI o) = true → ∃ b2, m_X7_lives_56 n (pm τ b) (nI o) (nI a) (nI i) = if 0 ≤ slv a o q (i + 1) b then m_X7_lives_131 (pm τ b2) (slv a o q (i + 1) b) 1 else m_X7_lives_131 (pm τ b2) 9 0 := by
  intro q
  induction q with
  | zero =>
    intro n i T N y b h hy hi hn hq
    obtain ⟨n, rfl⟩ : ∃ m, n = m + 1 := ⟨n - 1, by omega⟩
    refine ⟨b, ?_⟩
    unfold m_X7_lives_56 slv
    rw [show (9 : Int32) = nI 9 from rfl, if_pos (nI_le (by omega) (by omega)), if_neg (by decide)]
    unfold m_X7_lives_118
    rw [r_open h, cl_ok, if1 hq, z10, show i = 9 by omega]
  | succ q ih =>
    intro n i T N y b h hy hi hn hq
    obtain ⟨n, rfl⟩ : ∃ m, n = m + 1 := ⟨n - 1, by omega⟩
    have hl := h.lf ha ho
    obtain ⟨s1, s2, T2, s3⟩ := sup_o (x := nI o) 40 T y _ hl (by omega)
    obtain ⟨T4, y4, hy4, s4⟩ := sup_W (x := nI o) 40 T y _ hl (by omega)
    have e0 : (3 : Int32) = nI (ec 0 3) := rfl
    have e1 : m_X7_lives_56 (n + 1) (pm τ b) (nI o) (nI a) (nI i) = m_X7_lives_56 n (pm τ (sup (nI o) 40 (slf b (nI a) (nI o)))) (nI o) (nI a) (nI (i + 1)) := by
      rw [m_X7_lives_56]
      rw [show (9 : Int32) = nI 9 from rfl, if_neg (nI_ge (by omega) (by omega)), r_open h, cl_ok, if1 hq, z10, nm_ok, nI_1, e0, r_wt (f := 0) (i := 3) (by decide), r_isBorn h.n0 (by omega), cv_ok]
      exact r_lives90 ho 40 200 0 T y _ hl (by omega) (by omega) (by omega)
    rw [e1]
    unfold slv
    by_cases ho2 : sopen (syears 40 (slf b (nI a) (nI o))) (nI o) = true
    · rw [s2 ho2, if_pos ho2]
      exact ih n (i + 1) T2 1 (y + 40) _ s3 (by omega) (by omega) (by omega) ho2
    · rw [if_neg ho2]
      refine ⟨sup (nI o) 40 (slf b (nI a) (nI o)), ?_⟩
      rw [if_pos (show (0 : Int32) ≤ nI (i + 1) from nI_pos' (by omega))]
      have ho3 : ¬ sopen (sup (nI o) 40 (slf b (nI a) (nI o))) (nI o) = true := fun z => ho2 (s1.mp z)
      obtain ⟨n, rfl⟩ : ∃ m, n = m + 1 := ⟨n - 1, by omega⟩
      have e118 : m_X7_lives_118 (pm τ (sup (nI o) 40 (slf b (nI a) (nI o)))) (nI o) (nI (i + 1)) = m_X7_lives_131 (pm τ (sup (nI o) 40 (slf b (nI a) (nI o)))) (nI (i + 1)) 1 := by
        unfold m_X7_lives_118
        rw [r_open s4, cl_ok, if0 ho3, z00]
      rw [m_X7_lives_56]
      by_cases h9 : (9 : Int32) ≤ nI (i + 1)
      · rw [if_pos h9, e118]
      · rw [if_neg h9, r_open s4, cl_ok, if0 ho3, z00, e118]
/-! best, whom -/
def hb (β : zw_S) (m : Nat) : Int32 := shours (syears m β)
theorem r_hoursBehind (h : Wf T N y β) {m : Nat} (hm : m ≤ 150) (hy : y + m ≤ 5000) : m_X7_hoursBehind (pm τ β) (nI m) = some (hb β m, pm (sv 60 τ β) β) := by
  obtain ⟨T2, -, h2⟩ := Wf.years m T y β h hy
  unfold m_X7_hoursBehind hb
  rw [r_save (by decide), cv_ok, r_yearsGo h hm hy, cv_ok, r_hours h2, cl_ok, r_back (by decide) _ β _ sv_c, cv_ok]
def sbst (β : zw_S) (m : Nat) : Nat → Nat → Int32 → Int32 → Int32
  | 0, _, b, _ => b
  | q + 1, i, b, f => if se β i = true then sbst β m q (i + 1) b f else if b < 0 ∨ hb (zw_wr β 5 i 0) m < f then sbst β m q (i + 1) (nI i) (hb (zw_wr β 5 i 0) m) else sbst β m q (i + 1) b f
theorem c_bestl (h : Wf T N y β) {m : Nat} (hm : m ≤ 150) (hy : y + m ≤ 5000) : ∀ (q n i : Nat) (b f : Int32) (γ : zw_S) (hd : Nat → Int32), i + q = T → q < n → ∃ γ2 hd2, m_X6_best_39 n (tr σ β γ hd) (nI m) b f (nI i) = m_X6_best_131 (tr σ β γ2 hd2) (sbst β m q i b f) := by
  intro q
  have hT := h.T20
  induction q with
  | zero =>
    intro n i b f γ hd hi hn
    obtain ⟨n, rfl⟩ : ∃ m, n = m + 1 := ⟨n - 1, by omega⟩
    refine ⟨γ, hd, ?_⟩
    unfold m_X6_best_39
    rw [ta_s (by omega), h.eT, if_pos (nI_le (by omega) (by omega))]
    rfl
  | succ q ih =>
    intro n i b f γ hd hi hn
    obtain ⟨n, rfl⟩ : ∃ m, n = m + 1 := ⟨n - 1, by omega⟩
    have hw : Wf T N y (zw_wr β 5 i 0) := h.w5 (by omega) ⟨0, by omega, rfl⟩
    obtain ⟨T2, -, hw2⟩ := Wf.years m T y _ hw hy
    unfold m_X6_best_39 sbst
    rw [ta_s (by omega), h.eT, if_neg (nI_ge (by omega) (by omega)), ta_ended (by omega), cl_ok]
    by_cases he : se β i = true
    · rw [if1 he, z10, if_pos he, nm_ok, nI_1]
      exact ih n (i + 1) b f γ hd (by omega) (by omega)
    · rw [if0 he, z00, if_neg he, c_trial2 h.cp, cv_ok, tt_w5 (by omega), c_tgo hw hm hy, cv_ok, ct_hours hw2, cl_ok]
      show ∃ γ2 hd2, (if b < 0 then _ else if f ≤ hb (zw_wr β 5 i 0) m then _ else _) = _
      by_cases hb0 : b < 0
      · rw [if_pos hb0, if_pos (Or.inl hb0), nm_ok, nI_1]
        exact ih n (i + 1) _ _ _ _ (by omega) (by omega)
      · rw [if_neg hb0]
        by_cases hl : f ≤ hb (zw_wr β 5 i 0) m
        · rw [if_pos hl, if_neg (fun z => by rcases z with z | z; exact hb0 z; grind), nm_ok, nI_1]
          exact ih n (i + 1) _ _ _ _ (by omega) (by omega)
        · rw [if_neg hl, if_pos (Or.inr (by grind)), nm_ok, nI_1]
          exact ih n (i + 1) _ _ _ _ (by omega) (by omega)
theorem r_bestl (h : Wf T N y β) {m : Nat} (hm : m ≤ 150) (hy : y + m ≤ 5000) : ∀ (q n i : Nat) (b f : Int32) (τ : zw_S), i + q = T → q < n → ∃ τ2, FM τ τ2 ∧ m_X7_best_41 n (pm τ β) (nI m) b f (nI i) = m_X7_best_128 (pm τ2 β) (sbst β m q i b f) := by
  intro q
  have hT := h.T20
  induction q with
  | zero =>
    intro n i b f τ hi hn
    obtain ⟨n, rfl⟩ : ∃ m, n = m + 1 := ⟨n - 1, by omega⟩
    refine ⟨τ, FM.refl, ?_⟩
    unfold m_X7_best_41
    rw [r_T, h.eT, if_pos (nI_le (by omega) (by omega))]
    rfl
  | succ q ih =>
    intro n i b f τ hi hn
    obtain ⟨n, rfl⟩ : ∃ m, n = m + 1 := ⟨n - 1, by omega⟩
    have hw : Wf T N y (zw_wr β 5 i 0) := h.w5 (by omega) ⟨0, by omega, rfl⟩
    have rs : zw_wr (zw_wr β 5 i 0) 5 i (β 5 i) = β := by rw [wr_wr]; exact wr_same rfl
    unfold m_X7_best_41 sbst
    rw [r_T, h.eT, if_neg (nI_ge (by omega) (by omega)), r_ended (by omega), cl_ok]
    by_cases he : se β i = true
    · rw [if1 he, z10, if_pos he, nm_ok, nI_1]
      exact ih n (i + 1) b f τ (by omega) (by omega)
    · rw [if0 he, z00, if_neg he, xt2, r_be (f := 5) (show i < 20 by omega), cl_ok, r_hoursBehind hw hm hy, cl_ok, r_wt (f := 5) (show i < 20 by omega), rs]
      have g : ∀ b f, ∃ τ2, FM τ τ2 ∧ m_X7_best_41 n (pm (sv 60 τ (zw_wr β 5 i 0)) β) (nI m) b f (nI (i + 1)) = m_X7_best_128 (pm τ2 β) (sbst β m q (i + 1) b f) := fun b f => by
        obtain ⟨τ2, f1, e⟩ := ih n (i + 1) b f (sv 60 τ (zw_wr β 5 i 0)) (by omega) (by omega)
        exact ⟨τ2, FM.trans (FM.fsv (Or.inl rfl)) f1, e⟩
      by_cases hb0 : b < 0
      · rw [if_pos hb0, if_pos (Or.inl hb0), nm_ok, nI_1]
        exact g _ _
      · rw [if_neg hb0]
        by_cases hl : hb (zw_wr β 5 i 0) m < f
        · rw [if_pos hl, if_pos (Or.inr hl), nm_ok, nI_1]
          exact g _ _
        · rw [if_neg hl, if_neg (fun z => by rcases z with z | z; exact hb0 z; exact hl z), nm_ok, nI_1]
          exact g _ _
def swh (β : zw_S) (p m : Nat) : Nat → Nat → Int32 → Int32 → Int32
  | 0, _, b, _ => b
  | q + 1, i, b, f => if i = p then swh β p m q (i + 1) b f else if hb (zw_wr β 10 p (nI i)) m < f then swh β p m q (i + 1) (nI i) (hb (zw_wr β 10 p (nI i)) m) else swh β p m q (i + 1) b f
theorem Wf.w10 (h : Wf T N y β) {p : Nat} {v : Int32} (hp : p < 8) (hv : v = -1 ∨ ∃ q, q < N ∧ v = nI q) : Wf T N y (zw_wr β 10 p v) := by
  obtain ⟨h1, h2, h3, h4, h5, h6, h7, h8, h9, h10, h11, h12⟩ := h
  refine ⟨h1, h2, h3, h4, h5, h6, h7, h8, fun q hq => ?_, h10, h11, Cp_wr h12 hp⟩
  obtain ⟨a1, a2, a3, a4⟩ := h9 q hq
  refine ⟨a1, a2, a3, ?_⟩
  rw [wr_ap]
  by_cases hqt : q = p
  · rw [if_pos ⟨rfl, hqt⟩]; exact hv
  · rw [if_neg (fun z => hqt z.2)]; exact a4
theorem c_whoml (h : Wf T N y β) {p m : Nat} (hp : p < N) (hm : m ≤ 150) (hy : y + m ≤ 5000) : ∀ (q n i : Nat) (b f : Int32) (γ : zw_S) (hd : Nat → Int32), i + q = N → q < n → ∃ γ2 hd2, m_X6_whom_51 n (tr σ β γ hd) (nI p) (nI m) b f (nI i) = some (swh β p m q i b f, tr σ β γ2 hd2) := by
  intro q
  have hN8 := h.N8
  induction q with
  | zero =>
    intro n i b f γ hd hi hn
    obtain ⟨n, rfl⟩ : ∃ m, n = m + 1 := ⟨n - 1, by omega⟩
    refine ⟨γ, hd, ?_⟩
    unfold m_X6_whom_51
    rw [ta_s (by omega), h.eN, if_pos (nI_le (by omega) (by omega))]
    rfl
  | succ q ih =>
    intro n i b f γ hd hi hn
    obtain ⟨n, rfl⟩ : ∃ m, n = m + 1 := ⟨n - 1, by omega⟩
    have hw : Wf T N y (zw_wr β 10 p (nI i)) := h.w10 (by omega) (Or.inr ⟨i, by omega, rfl⟩)
    obtain ⟨T2, -, hw2⟩ := Wf.years m T y _ hw hy
    have epi : (nI i = nI p) ↔ i = p := nI_eq (by omega) (by omega)
    unfold m_X6_whom_51 swh
    rw [ta_s (by omega), h.eN, if_neg (nI_ge (by omega) (by omega))]
    by_cases hip : i = p
    · rw [if_pos (epi.mpr hip), if_pos hip, nm_ok, nI_1]
      exact ih n (i + 1) b f γ hd (by omega) (by omega)
    · rw [if_neg (fun z => hip (epi.mp z)), if_neg hip, c_trial2 h.cp, cv_ok, tt_w10 (by omega), c_tgo hw hm hy, cv_ok, ct_hours hw2, cl_ok, if_neg (nI_pos (by omega))]
      show ∃ γ2 hd2, (if f ≤ hb (zw_wr β 10 p (nI i)) m then _ else _) = _
      by_cases hl : f ≤ hb (zw_wr β 10 p (nI i)) m
      · rw [if_pos hl, if_neg (by grind), nm_ok, nI_1]
        exact ih n (i + 1) _ _ _ _ (by omega) (by omega)
      · rw [if_neg hl, if_pos (by grind), nm_ok, nI_1]
        exact ih n (i + 1) _ _ _ _ (by omega) (by omega)
theorem r_whoml (h : Wf T N y β) {p m : Nat} (hp : p < N) (hm : m ≤ 150) (hy : y + m ≤ 5000) : ∀ (q n i : Nat) (b f v : Int32) (τ : zw_S), i + q = N → q < n → ∃ τ2, FM τ τ2 ∧ m_X7_whom_72 n (pm τ (zw_wr β 10 p v)) (nI p) (nI m) (nI (ec 10 p)) (β 10 p) b f (nI i) = some (swh β p m q i b f, pm τ2 β) := by
  intro q
  have hN8 := h.N8
  induction q with
  | zero =>
    intro n i b f v τ hi hn
    obtain ⟨n, rfl⟩ : ∃ m, n = m + 1 := ⟨n - 1, by omega⟩
    refine ⟨τ, FM.refl, ?_⟩
    unfold m_X7_whom_72 m_X7_whom_131
    rw [r_N, wr_f (by decide), h.eN, if_pos (nI_le (by omega) (by omega)), r_wt (f := 10) (show p < 8 by omega), wr_wr, wr_same rfl]
    rfl
  | succ q ih =>
    intro n i b f v τ hi hn
    obtain ⟨n, rfl⟩ : ∃ m, n = m + 1 := ⟨n - 1, by omega⟩
    have hw : Wf T N y (zw_wr β 10 p (nI i)) := h.w10 (by omega) (Or.inr ⟨i, by omega, rfl⟩)
    have epi : (nI i = nI p) ↔ i = p := nI_eq (by omega) (by omega)
    unfold m_X7_whom_72 swh
    rw [r_N, wr_f (show (0 : Nat) ≠ 10 by decide), h.eN, if_neg (nI_ge (by omega) (by omega))]
    by_cases hip : i = p
    · rw [if_pos (epi.mpr hip), if_pos hip, nm_ok, nI_1]
      exact ih n (i + 1) b f v τ (by omega) (by omega)
    · rw [if_neg (fun z => hip (epi.mp z)), if_neg hip, r_wt (f := 10) (show p < 8 by omega), wr_wr, r_hoursBehind hw hm hy, cl_ok]
      have g : ∀ b f, ∃ τ2, FM τ τ2 ∧ m_X7_whom_72 n (pm (sv 60 τ (zw_wr β 10 p (nI i))) (zw_wr β 10 p (nI i))) (nI p) (nI m) (nI (ec 10 p)) (β 10 p) b f (nI (i + 1)) = some (swh β p m q (i + 1) b f, pm τ2 β) := fun b f => by
        obtain ⟨τ2, f1, e⟩ := ih n (i + 1) b f (nI i) (sv 60 τ (zw_wr β 10 p (nI i))) (by omega) (by omega)
        exact ⟨τ2, FM.trans (FM.fsv (Or.inl rfl)) f1, e⟩
      by_cases hl : hb (zw_wr β 10 p (nI i)) m < f
      · rw [if_pos hl, if_pos hl, nm_ok, nI_1]
        exact g _ _
      · rw [if_neg hl, if_neg hl, nm_ok, nI_1]
        exact g _ _
end T8
section O8
variable {σ τ β γ : zw_S} {T N y k : Nat} {hd : Nat → Int32}
theorem op_handsFor (h : Iv β σ) (a1 : Int32) : Ok (m_X6_handsFor σ a1) (fun τ => m_X7_handsFor τ a1) := by
  obtain ⟨T, N, y, hW, hy, h40⟩ := id h.2.2.1
  have hT := h_T20 hW
  have hN := h_N8 hW
  by_cases h1 : 0 ≤ a1 ∧ a1 < nI N
  · obtain ⟨p, hp, rfl⟩ := isT_o (by omega) h1
    have hp8 : p < 8 := by omega
    by_cases h2 : β 7 p < 0
    · skip
      refine ok_F (mX := fun s => m_X6_handsFor s (nI p)) (w := 4) (by decide) h (fun hd => ?_) (fun τ => ?_)
      · simp only [m_X6_handsFor, c_isName, c_isKind, c_isSheet, c_isIn, c_hasTask (k := 1) (by decide) hW, c_hasPerson (k := 1) (by decide) hW, cl_ok, cv_ok, nm_ok, z00, z10, if_true, if_false, Fw0, Fw1, Fw2, Fw3, Fw4, Fw5, Fw6, c_found (w := 0) (by decide), c_found (w := 1) (by decide), c_found (w := 2) (by decide), c_found (w := 3) (by decide), c_found (w := 4) (by decide), c_found (w := 5) (by decide), c_found (w := 6) (by decide), if1 h1, ca_r7 hp8, if_pos h2]
      · simp only [m_X7_handsFor, r_isName, r_isKind, r_isSheet, r_areHands, ri_m1_6, ri_0_100, ri_0_3, ri_0_39, ri_0_4, ri_0_5, ri_0_6, ri_0_60, ri_0_7, ri_0_9, ri_0_99, ri_1_4, ri_1_40, ri_1_60, ri_1_8, ri_1_9, ri_1_999, r_isTask hW, r_isPerson hW, cl_ok, cv_ok, nm_ok, z00, z10, if_true, if_false, Fw0, Fw1, Fw2, Fw3, Fw4, Fw5, Fw6, r_finds (w := 0) (by decide), r_finds (w := 1) (by decide), r_finds (w := 2) (by decide), r_finds (w := 3) (by decide), r_finds (w := 4) (by decide), r_finds (w := 5) (by decide), r_finds (w := 6) (by decide), if1 h1, r_p0 hp8, if_pos h2]
    · have e40 : (40 : Int32) = nI 40 := rfl
      by_cases h4 : y + 40 ≤ 999
      · obtain ⟨a, ha, h8⟩ := hW.age hp
        obtain ⟨o, ho, h7⟩ : ∃ o, o < 8 ∧ β 7 p = nI o := by
          rcases hW.name hp with e | e
          · exact absurd (by rw [e]; decide) h2
          · exact e
        have e9 : zw_wr β 9 p (β 9 p) = β := wr_same rfl
        refine ok_N (mX := fun s => m_X6_handsFor s (nI p)) (r := sfind (shf β p (40 - a) (nI o)) 1 9) h (by grind) (fun hd => ?_) (fun τ => ?_)
        · obtain ⟨γ, eg⟩ := pk_tr (σ := σ) (β := β) (hd := hd)
          obtain ⟨γ2, hd2, e⟩ := c_handsl (σ := σ) hW hp ho h7 ha h8 (by omega) 9 200 1 γ hd (by omega) (by omega) (by omega)
          refine ⟨γ2, hd2, ?_⟩
          have e1 : m_X6_handsFor (pk σ 1 β hd) (nI p) = m_X6_handsFor_50 200 (pk σ 1 β hd) (nI p) (nI o) 1 := by
            unfold m_X6_handsFor
            rw [c_hasPerson (by decide) hW, cl_ok, if1 h1, z10, ca_r7 hp8, if_neg h2, e40, c_late hW hy (by omega), cl_ok, if_pos h4, z00, h7]
          refine e1.trans ?_
          rw [eg]
          exact e
        · obtain ⟨τ2, f, e⟩ := r_handsl hW hp ho h7 ha h8 (by omega) 9 200 1 (β 9 p) τ (by omega) (by omega) (by omega)
          refine ⟨τ2, f, ?_⟩
          have e1 : m_X7_handsFor (pm τ β) (nI p) = m_X7_handsFor_52 200 (pm τ β) (nI p) (β 9 p) (-1) 1 := by
            unfold m_X7_handsFor
            rw [r_isPerson hW, cl_ok, if1 h1, z10, r_p0 hp8, cl_ok, if_neg h2, e40, r_far hW hy (by omega), cl_ok, if_pos h4, z00, r_p2 hp8, cl_ok]
          rw [e9] at e
          exact e1.trans (e.trans r_orNone)
      · refine ok_F (mX := fun s => m_X6_handsFor s (nI p)) (w := 4) (by decide) h (fun hd => ?_) (fun τ => ?_)
        · show m_X6_handsFor (pk σ 1 β hd) (nI p) = _
          unfold m_X6_handsFor
          rw [c_hasPerson (by decide) hW, cl_ok, if1 h1, z10, ca_r7 hp8, if_neg h2, e40, c_late hW hy (by omega), cl_ok, if_neg h4, z10, Fw4, c_found (by decide), cl_ok]
        · show m_X7_handsFor (pm τ β) (nI p) = _
          unfold m_X7_handsFor
          rw [r_isPerson hW, cl_ok, if1 h1, z10, r_p0 hp8, cl_ok, if_neg h2, e40, r_far hW hy (by omega), cl_ok, if_neg h4, z10, Fw4, r_finds (by decide), cl_ok]
  · skip
    refine ok_F (mX := fun s => m_X6_handsFor s a1) (w := 0) (by decide) h (fun hd => ?_) (fun τ => ?_)
    · simp only [m_X6_handsFor, c_isName, c_isKind, c_isSheet, c_isIn, c_hasTask (k := 1) (by decide) hW, c_hasPerson (k := 1) (by decide) hW, cl_ok, cv_ok, nm_ok, z00, z10, if_true, if_false, Fw0, Fw1, Fw2, Fw3, Fw4, Fw5, Fw6, c_found (w := 0) (by decide), c_found (w := 1) (by decide), c_found (w := 2) (by decide), c_found (w := 3) (by decide), c_found (w := 4) (by decide), c_found (w := 5) (by decide), c_found (w := 6) (by decide), if0 h1]
    · simp only [m_X7_handsFor, r_isName, r_isKind, r_isSheet, r_areHands, ri_m1_6, ri_0_100, ri_0_3, ri_0_39, ri_0_4, ri_0_5, ri_0_6, ri_0_60, ri_0_7, ri_0_9, ri_0_99, ri_1_4, ri_1_40, ri_1_60, ri_1_8, ri_1_9, ri_1_999, r_isTask hW, r_isPerson hW, cl_ok, cv_ok, nm_ok, z00, z10, if_true, if_false, Fw0, Fw1, Fw2, Fw3, Fw4, Fw5, Fw6, r_finds (w := 0) (by decide), r_finds (w := 1) (by decide), r_finds (w := 2) (by decide), r_finds (w := 3) (by decide), r_finds (w := 4) (by decide), r_finds (w := 5) (by decide), r_finds (w := 6) (by decide), if0 h1]
theorem op_lives (h : Iv β σ) (a1 a2 : Int32) : Ok (m_X6_lives σ a1 a2) (fun τ => m_X7_lives τ a1 a2) := by
  obtain ⟨T, N, y, hW, hy, h40⟩ := id h.2.2.1
  have hT := h_T20 hW
  have hN := h_N8 hW
  by_cases h1 : 0 ≤ a1 ∧ a1 ≤ 7
  · obtain ⟨o, ho, rfl⟩ := in_nI (M := 7) (m := 7) (by decide) h1
    have ho8 : o < 8 := by omega
    by_cases h2 : 1 ≤ a2 ∧ a2 ≤ 9
    · obtain ⟨a, ha, rfl⟩ := in_nI (x := a2) (M := 9) (m := 9) (by decide) (by grind)
      have ha1 : 1 ≤ a := by
        rcases Nat.eq_zero_or_pos a with z | z
        · rw [z] at h2; exact absurd h2.1 (by decide)
        · exact z
      by_cases h3 : sopen β (nI o) = true
      · refine ok_N (mX := fun s => m_X6_lives s (nI o) (nI a)) (r := slv a o 9 1 β) h (by grind) (fun hd => ?_) (fun τ => ?_)
        · obtain ⟨γ2, hd2, e⟩ := c_livesl (σ := σ) (β := β) ⟨ha1, ha⟩ ho8 9 200 1 T N y β (hands β) hW (by omega) (by omega) (by omega)
          refine ⟨γ2, hd2, ?_⟩
          have e1 : m_X6_lives (pk σ 1 β hd) (nI o) (nI a) = m_X6_lives_49 200 (tr σ β β (hands β)) (nI o) (nI a) 1 := by
            unfold m_X6_lives
            rw [c_isName, cl_ok, if1 h1, z10, c_isIn, cl_ok, if1 h2, z10, c_isOpen (by decide) hW ho8, cl_ok, if1 h3, z10, show (0 : Int32) = nI 0 from rfl, c_look hW (n := 0) (by omega) (by omega), cv_ok]
            rfl
          exact e1.trans e
        · obtain ⟨b2, e⟩ := r_livesl (τ := sv 60 τ β) ⟨ha1, ha⟩ ho8 9 200 0 T 0 y (zw_wr β 0 3 0) hW.n0 (by omega) (by omega) (by omega) h3
          refine ⟨sv 60 τ β, FM.fsv (Or.inl rfl), ?_⟩
          have e1 : m_X7_lives (pm τ β) (nI o) (nI a) = m_X7_lives_56 200 (pm (sv 60 τ β) (zw_wr β 0 3 0)) (nI o) (nI a) 0 := by
            unfold m_X7_lives
            rw [r_isName, cl_ok, if1 h1, z10, r_areHands, cl_ok, if1 h2, z10, r_open hW, cl_ok, if1 h3, z10, r_save (by decide), cv_ok, show (3 : Int32) = nI (ec 0 3) from rfl, r_wt (f := 0) (i := 3) (by decide)]
          have e2 : slv a o 9 (0 + 1) (zw_wr β 0 3 0) = slv a o 9 1 β := by
            have : slf (zw_wr β 0 3 0) (nI a) (nI o) = slf β (nI a) (nI o) := by
              unfold slf
              rw [wr_wr]
            unfold slv
            rw [this]
          rw [e2] at e
          refine e1.trans (e.trans ?_)
          by_cases h0 : 0 ≤ slv a o 9 1 β
          · rw [if_pos h0, if_pos h0]
            unfold m_X7_lives_131
            rw [r_back (by decide) _ β _ sv_c, cv_ok, z10]
          · rw [if_neg h0, if_neg h0]
            unfold m_X7_lives_131
            rw [r_back (by decide) _ β _ sv_c, cv_ok, z00]
      · skip
        refine ok_F (mX := fun s => m_X6_lives s (nI o) (nI a)) (w := 4) (by decide) h (fun hd => ?_) (fun τ => ?_)
        · simp only [m_X6_lives, c_isName, c_isKind, c_isSheet, c_isIn, c_hasTask (k := 1) (by decide) hW, c_hasPerson (k := 1) (by decide) hW, cl_ok, cv_ok, nm_ok, z00, z10, if_true, if_false, Fw0, Fw1, Fw2, Fw3, Fw4, Fw5, Fw6, c_found (w := 0) (by decide), c_found (w := 1) (by decide), c_found (w := 2) (by decide), c_found (w := 3) (by decide), c_found (w := 4) (by decide), c_found (w := 5) (by decide), c_found (w := 6) (by decide), if1 h1, if1 h2, c_isOpen (k := 1) (by decide) hW ho8, if0 h3]
        · simp only [m_X7_lives, r_isName, r_isKind, r_isSheet, r_areHands, ri_m1_6, ri_0_100, ri_0_3, ri_0_39, ri_0_4, ri_0_5, ri_0_6, ri_0_60, ri_0_7, ri_0_9, ri_0_99, ri_1_4, ri_1_40, ri_1_60, ri_1_8, ri_1_9, ri_1_999, r_isTask hW, r_isPerson hW, cl_ok, cv_ok, nm_ok, z00, z10, if_true, if_false, Fw0, Fw1, Fw2, Fw3, Fw4, Fw5, Fw6, r_finds (w := 0) (by decide), r_finds (w := 1) (by decide), r_finds (w := 2) (by decide), r_finds (w := 3) (by decide), r_finds (w := 4) (by decide), r_finds (w := 5) (by decide), r_finds (w := 6) (by decide), if1 h1, if1 h2, r_open hW, if0 h3]
    · skip
      refine ok_F (mX := fun s => m_X6_lives s (nI o) a2) (w := 0) (by decide) h (fun hd => ?_) (fun τ => ?_)
      · simp only [m_X6_lives, c_isName, c_isKind, c_isSheet, c_isIn, c_hasTask (k := 1) (by decide) hW, c_hasPerson (k := 1) (by decide) hW, cl_ok, cv_ok, nm_ok, z00, z10, if_true, if_false, Fw0, Fw1, Fw2, Fw3, Fw4, Fw5, Fw6, c_found (w := 0) (by decide), c_found (w := 1) (by decide), c_found (w := 2) (by decide), c_found (w := 3) (by decide), c_found (w := 4) (by decide), c_found (w := 5) (by decide), c_found (w := 6) (by decide), if1 h1, if0 h2]
      · simp only [m_X7_lives, r_isName, r_isKind, r_isSheet, r_areHands, ri_m1_6, ri_0_100, ri_0_3, ri_0_39, ri_0_4, ri_0_5, ri_0_6, ri_0_60, ri_0_7, ri_0_9, ri_0_99, ri_1_4, ri_1_40, ri_1_60, ri_1_8, ri_1_9, ri_1_999, r_isTask hW, r_isPerson hW, cl_ok, cv_ok, nm_ok, z00, z10, if_true, if_false, Fw0, Fw1, Fw2, Fw3, Fw4, Fw5, Fw6, r_finds (w := 0) (by decide), r_finds (w := 1) (by decide), r_finds (w := 2) (by decide), r_finds (w := 3) (by decide), r_finds (w := 4) (by decide), r_finds (w := 5) (by decide), r_finds (w := 6) (by decide), if1 h1, if0 h2]
  · skip
    refine ok_F (mX := fun s => m_X6_lives s a1 a2) (w := 0) (by decide) h (fun hd => ?_) (fun τ => ?_)
    · simp only [m_X6_lives, c_isName, c_isKind, c_isSheet, c_isIn, c_hasTask (k := 1) (by decide) hW, c_hasPerson (k := 1) (by decide) hW, cl_ok, cv_ok, nm_ok, z00, z10, if_true, if_false, Fw0, Fw1, Fw2, Fw3, Fw4, Fw5, Fw6, c_found (w := 0) (by decide), c_found (w := 1) (by decide), c_found (w := 2) (by decide), c_found (w := 3) (by decide), c_found (w := 4) (by decide), c_found (w := 5) (by decide), c_found (w := 6) (by decide), if0 h1]
    · simp only [m_X7_lives, r_isName, r_isKind, r_isSheet, r_areHands, ri_m1_6, ri_0_100, ri_0_3, ri_0_39, ri_0_4, ri_0_5, ri_0_6, ri_0_60, ri_0_7, ri_0_9, ri_0_99, ri_1_4, ri_1_40, ri_1_60, ri_1_8, ri_1_9, ri_1_999, r_isTask hW, r_isPerson hW, cl_ok, cv_ok, nm_ok, z00, z10, if_true, if_false, Fw0, Fw1, Fw2, Fw3, Fw4, Fw5, Fw6, r_finds (w := 0) (by decide), r_finds (w := 1) (by decide), r_finds (w := 2) (by decide), r_finds (w := 3) (by decide), r_finds (w := 4) (by decide), r_finds (w := 5) (by decide), r_finds (w := 6) (by decide), if0 h1]
theorem op_best (h : Iv β σ) (a1 : Int32) : Ok (m_X6_best σ a1) (fun τ => m_X7_best τ a1) := by
  obtain ⟨T, N, y, hW, hy, h40⟩ := id h.2.2.1
  have hT := h_T20 hW
  have hN := h_N8 hW
  by_cases h1 : 1 ≤ a1 ∧ a1 ≤ 60
  · obtain ⟨m, hm, rfl⟩ := in_nI (x := a1) (M := 60) (m := 60) (by decide) (by grind)
    by_cases h2 : y + m ≤ 999
    · refine ok_N (mX := fun s => m_X6_best s (nI m)) (r := sbst β m T 0 (-1) 0) h (by grind) (fun hd => ?_) (fun τ => ?_)
      · obtain ⟨γ, eg⟩ := pk_tr (σ := σ) (β := β) (hd := hd)
        obtain ⟨γ2, hd2, e⟩ := c_bestl (σ := σ) hW (show m ≤ 150 by omega) (by omega) T 200 0 (-1) 0 γ hd (by omega) (by omega)
        refine ⟨γ2, hd2, ?_⟩
        have e1 : m_X6_best (pk σ 1 β hd) (nI m) = m_X6_best_39 200 (pk σ 1 β hd) (nI m) (-1) 0 0 := by
          unfold m_X6_best
          rw [c_isIn, cl_ok, if1 h1, z10, c_late hW hy (by omega), cl_ok, if_pos h2, z00]
        refine e1.trans ?_
        rw [eg]
        exact e
      · obtain ⟨τ2, f, e⟩ := r_bestl hW (show m ≤ 150 by omega) (by omega) T 200 0 (-1) 0 τ (by omega) (by omega)
        refine ⟨τ2, f, ?_⟩
        have e1 : m_X7_best (pm τ β) (nI m) = m_X7_best_41 200 (pm τ β) (nI m) (-1) 0 0 := by
          unfold m_X7_best
          rw [ri_1_60, cl_ok, if1 h1, z10, r_far hW hy (by omega), cl_ok, if_pos h2, z00]
        exact e1.trans (e.trans r_orNone)
    · refine ok_F (mX := fun s => m_X6_best s (nI m)) (w := 4) (by decide) h (fun hd => ?_) (fun τ => ?_)
      · show m_X6_best (pk σ 1 β hd) (nI m) = _
        unfold m_X6_best
        rw [c_isIn, cl_ok, if1 h1, z10, c_late hW hy (by omega), cl_ok, if_neg h2, z10, Fw4, c_found (by decide), cl_ok]
      · show m_X7_best (pm τ β) (nI m) = _
        unfold m_X7_best
        rw [ri_1_60, cl_ok, if1 h1, z10, r_far hW hy (by omega), cl_ok, if_neg h2, z10, Fw4, r_finds (by decide), cl_ok]
  · skip
    refine ok_F (mX := fun s => m_X6_best s a1) (w := 0) (by decide) h (fun hd => ?_) (fun τ => ?_)
    · simp only [m_X6_best, c_isName, c_isKind, c_isSheet, c_isIn, c_hasTask (k := 1) (by decide) hW, c_hasPerson (k := 1) (by decide) hW, cl_ok, cv_ok, nm_ok, z00, z10, if_true, if_false, Fw0, Fw1, Fw2, Fw3, Fw4, Fw5, Fw6, c_found (w := 0) (by decide), c_found (w := 1) (by decide), c_found (w := 2) (by decide), c_found (w := 3) (by decide), c_found (w := 4) (by decide), c_found (w := 5) (by decide), c_found (w := 6) (by decide), if0 h1]
    · simp only [m_X7_best, r_isName, r_isKind, r_isSheet, r_areHands, ri_m1_6, ri_0_100, ri_0_3, ri_0_39, ri_0_4, ri_0_5, ri_0_6, ri_0_60, ri_0_7, ri_0_9, ri_0_99, ri_1_4, ri_1_40, ri_1_60, ri_1_8, ri_1_9, ri_1_999, r_isTask hW, r_isPerson hW, cl_ok, cv_ok, nm_ok, z00, z10, if_true, if_false, Fw0, Fw1, Fw2, Fw3, Fw4, Fw5, Fw6, r_finds (w := 0) (by decide), r_finds (w := 1) (by decide), r_finds (w := 2) (by decide), r_finds (w := 3) (by decide), r_finds (w := 4) (by decide), r_finds (w := 5) (by decide), r_finds (w := 6) (by decide), if0 h1]
theorem op_whom (h : Iv β σ) (a1 a2 : Int32) : Ok (m_X6_whom σ a1 a2) (fun τ => m_X7_whom τ a1 a2) := by
  obtain ⟨T, N, y, hW, hy, h40⟩ := id h.2.2.1
  have hT := h_T20 hW
  have hN := h_N8 hW
  by_cases h1 : 0 ≤ a1 ∧ a1 < nI N
  · obtain ⟨p, hp, rfl⟩ := isT_o (by omega) h1
    have hp8 : p < 8 := by omega
    by_cases h2 : 1 ≤ a2 ∧ a2 ≤ 60
    · obtain ⟨m, hm, rfl⟩ := in_nI (x := a2) (M := 60) (m := 60) (by decide) (by grind)
      by_cases h3 : y + m ≤ 999
      · have hw : Wf T N y (zw_wr β 10 p (-1)) := hW.w10 (by omega) (Or.inl rfl)
        obtain ⟨T2, -, hw2⟩ := Wf.years m T y _ hw (by omega)
        refine ok_T (mX := fun s => m_X6_whom s (nI p) (nI m)) (r := swh β p m N 0 (-1) (hb (zw_wr β 10 p (-1)) m)) h (fun hd => ?_) (fun τ => ?_) h.2.2.1
        · obtain ⟨γ, eg⟩ := pk_tr (σ := σ) (β := β) (hd := hd)
          obtain ⟨γ2, hd2, e⟩ := c_whoml (σ := σ) hW hp (show m ≤ 150 by omega) (by omega) N 199 0 (-1) (hb (zw_wr β 10 p (-1)) m) (syears m (zw_wr β 10 p (-1))) (hands (syears m (zw_wr β 10 p (-1)))) (by omega) (by omega)
          refine ⟨tr σ β γ2 hd2, ?_, FX.ftr, gb_tr hW.cp⟩
          have e1 : m_X6_whom (pk σ 1 β hd) (nI p) (nI m) = m_X6_whom_51 200 (pk σ 1 β hd) (nI p) (nI m) (-1) 0 (-1) := by
            unfold m_X6_whom
            rw [c_hasPerson (by decide) hW, cl_ok, if1 h1, z10, c_isIn, cl_ok, if1 h2, z10, c_late hW hy (by omega), cl_ok, if_pos h3, z00]
          have n1 : ¬ nI N ≤ -1 := by
            intro z
            have := nI_pos' (n := N) (by omega)
            grind
          have n2 : ¬ (-1 : Int32) = nI p := by
            intro z
            have := nI_pos' (n := p) (by omega)
            rw [← z] at this
            exact absurd this (by decide)
          show m_X6_whom (pk σ 1 β hd) (nI p) (nI m) = _
          rw [e1, eg]
          rw [m_X6_whom_51]
          rw [ta_s (by omega), hW.eN, if_neg n1, if_neg n2, c_trial2 hW.cp, cv_ok, tt_w10 hp8, c_tgo hw (by omega) (by omega), cv_ok, ct_hours hw2, cl_ok, if_pos (by decide), nm_ok]
          exact e
        · obtain ⟨τ2, f, e⟩ := r_whoml hW hp (show m ≤ 150 by omega) (by omega) N 200 0 (-1) (hb (zw_wr β 10 p (-1)) m) (-1) (sv 60 τ (zw_wr β 10 p (-1))) (by omega) (by omega)
          refine ⟨τ2, ?_, FM.trans (FM.fsv (Or.inl rfl)) f⟩
          show m_X7_whom (pm τ β) (nI p) (nI m) = _
          unfold m_X7_whom
          rw [r_isPerson hW, cl_ok, if1 h1, z10, ri_1_60, cl_ok, if1 h2, z10, r_far hW hy (by omega), cl_ok, if_pos h3, z00, nm_ok, xp3, r_be (f := 10) hp8, cl_ok, r_hoursBehind hw (by omega) (by omega), cl_ok]
          exact e
      · refine ok_F (mX := fun s => m_X6_whom s (nI p) (nI m)) (w := 4) (by decide) h (fun hd => ?_) (fun τ => ?_)
        · show m_X6_whom (pk σ 1 β hd) (nI p) (nI m) = _
          unfold m_X6_whom
          rw [c_hasPerson (by decide) hW, cl_ok, if1 h1, z10, c_isIn, cl_ok, if1 h2, z10, c_late hW hy (by omega), cl_ok, if_neg h3, z10, Fw4, c_found (by decide), cl_ok]
        · show m_X7_whom (pm τ β) (nI p) (nI m) = _
          unfold m_X7_whom
          rw [r_isPerson hW, cl_ok, if1 h1, z10, ri_1_60, cl_ok, if1 h2, z10, r_far hW hy (by omega), cl_ok, if_neg h3, z10, Fw4, r_finds (by decide), cl_ok]
    · skip
      refine ok_F (mX := fun s => m_X6_whom s (nI p) a2) (w := 0) (by decide) h (fun hd => ?_) (fun τ => ?_)
      · simp only [m_X6_whom, c_isName, c_isKind, c_isSheet, c_isIn, c_hasTask (k := 1) (by decide) hW, c_hasPerson (k := 1) (by decide) hW, cl_ok, cv_ok, nm_ok, z00, z10, if_true, if_false, Fw0, Fw1, Fw2, Fw3, Fw4, Fw5, Fw6, c_found (w := 0) (by decide), c_found (w := 1) (by decide), c_found (w := 2) (by decide), c_found (w := 3) (by decide), c_found (w := 4) (by decide), c_found (w := 5) (by decide), c_found (w := 6) (by decide), if1 h1, if0 h2]
      · simp only [m_X7_whom, r_isName, r_isKind, r_isSheet, r_areHands, ri_m1_6, ri_0_100, ri_0_3, ri_0_39, ri_0_4, ri_0_5, ri_0_6, ri_0_60, ri_0_7, ri_0_9, ri_0_99, ri_1_4, ri_1_40, ri_1_60, ri_1_8, ri_1_9, ri_1_999, r_isTask hW, r_isPerson hW, cl_ok, cv_ok, nm_ok, z00, z10, if_true, if_false, Fw0, Fw1, Fw2, Fw3, Fw4, Fw5, Fw6, r_finds (w := 0) (by decide), r_finds (w := 1) (by decide), r_finds (w := 2) (by decide), r_finds (w := 3) (by decide), r_finds (w := 4) (by decide), r_finds (w := 5) (by decide), r_finds (w := 6) (by decide), if1 h1, if0 h2]
  · skip
    refine ok_F (mX := fun s => m_X6_whom s a1 a2) (w := 0) (by decide) h (fun hd => ?_) (fun τ => ?_)
    · simp only [m_X6_whom, c_isName, c_isKind, c_isSheet, c_isIn, c_hasTask (k := 1) (by decide) hW, c_hasPerson (k := 1) (by decide) hW, cl_ok, cv_ok, nm_ok, z00, z10, if_true, if_false, Fw0, Fw1, Fw2, Fw3, Fw4, Fw5, Fw6, c_found (w := 0) (by decide), c_found (w := 1) (by decide), c_found (w := 2) (by decide), c_found (w := 3) (by decide), c_found (w := 4) (by decide), c_found (w := 5) (by decide), c_found (w := 6) (by decide), if0 h1]
    · simp only [m_X7_whom, r_isName, r_isKind, r_isSheet, r_areHands, ri_m1_6, ri_0_100, ri_0_3, ri_0_39, ri_0_4, ri_0_5, ri_0_6, ri_0_60, ri_0_7, ri_0_9, ri_0_99, ri_1_4, ri_1_40, ri_1_60, ri_1_8, ri_1_9, ri_1_999, r_isTask hW, r_isPerson hW, cl_ok, cv_ok, nm_ok, z00, z10, if_true, if_false, Fw0, Fw1, Fw2, Fw3, Fw4, Fw5, Fw6, r_finds (w := 0) (by decide), r_finds (w := 1) (by decide), r_finds (w := 2) (by decide), r_finds (w := 3) (by decide), r_finds (w := 4) (by decide), r_finds (w := 5) (by decide), r_finds (w := 6) (by decide), if0 h1]
end O8
