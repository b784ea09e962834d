/-! the reference counts through the ways -/
section R1
variable {σ τ β γ : zw_S} {T N y n : Nat} {g : Nat → Int32} {x2 x3 : Int32}
theorem b_s1 {x : Int32} {q : Nat} (hq : q < 32) : (x >>> (nI q &&& 31)) &&& 1 = if bt x q = true then 1 else 0 := by
  apply b_ext
  intro i hi
  rw [b_and, b_1]
  by_cases h0 : i = 0
  · subst h0
    rw [b_sshr q hq x (by omega), if_pos (by omega), Nat.add_zero]
    cases hb : bt x q
    · rw [if_neg (by simp), b_0]
      rfl
    · rw [if_pos rfl, b_1]
      rfl
  · have e : decide (i = 0) = false := by simp [h0]
    rw [e, Bool.and_false]
    split
    · rw [b_1, e]
    · rw [b_0]
theorem sbit_bt {g : Nat → Bool} {o : Nat} (ho : o < 32) : ∀ (q i : Nat) (s : Int32), i + q ≤ 32 → bt (sbit g s i q) o = (bt s o || (decide (i ≤ o ∧ o < i + q) && g o)) := by
  intro q
  induction q with
  | zero =>
    intro i s hi
    have : decide (i ≤ o ∧ o < i + 0) = false := decide_eq_false (by omega)
    rw [this]
    simp [sbit]
  | succ q ih =>
    intro i s hi
    rw [sbit_s, ih (i + 1) _ (by omega)]
    by_cases hio : o = i
    · subst hio
      have e1 : decide (o + 1 ≤ o ∧ o < o + 1 + q) = false := decide_eq_false (by omega)
      have e2 : decide (o ≤ o ∧ o < o + (q + 1)) = true := decide_eq_true (by omega)
      rw [e1, e2]
      by_cases hg : g o = true
      · rw [if_pos hg, b_or, b_one (by omega) (by omega), hg]
        simp
      · rw [if_neg hg]
        simp [hg]
    · have e1 : decide (i + 1 ≤ o ∧ o < i + 1 + q) = decide (i ≤ o ∧ o < i + (q + 1)) := by
        apply decide_eq_decide.mpr
        omega
      rw [e1]
      by_cases hg : g i = true
      · rw [if_pos hg, b_or, b_one (by omega) (by omega)]
        simp [hio]
      · rw [if_neg hg]
theorem r_mayGet (h : Wf T N y β) {p : Nat} (hp : p < N) : m_X7_mayGet (pm τ β) (nI p) = some (if fpb β N p = true then 1 else 0, pm τ β) := by
  have hN := h.N8
  unfold m_X7_mayGet
  rw [r_p0 (by omega), cl_ok]
  by_cases h7 : β 7 p < 0
  · rw [if_neg (by grind), r_p1 (by omega), cl_ok]
    by_cases h8 : β 8 p < 40
    · rw [if_neg (by grind), if_pos (by unfold fpb; simp [h7, h8, hp])]
    · rw [if_pos (by grind), if_neg (by unfold fpb; simp [h8])]
  · rw [if_pos (by grind), if_neg (by unfold fpb; simp [h7])]
theorem r_waiting (h : Wf T N y β) : m_X7_waiting (pm τ β) = some (nI (tks β N).length, pm τ β) := by
  have hN := h.N8
  have key : ∀ q m i a, i + q = N → q < m → m_X7_waiting_4 m (pm τ β) (nI a) (nI i) = some (nI (a + ((List.range' i q).filter (fpb β N)).length), pm τ β) := by
    intro q
    induction q with
    | zero =>
      intro m i a hi hm
      obtain ⟨m, rfl⟩ : ∃ z, m = z + 1 := ⟨m - 1, by omega⟩
      unfold m_X7_waiting_4
      rw [r_N, h.eN, if_pos (nI_le (by omega) (by omega))]
      rfl
    | succ q ih =>
      intro m i a hi hm
      obtain ⟨m, rfl⟩ : ∃ z, m = z + 1 := ⟨m - 1, by omega⟩
      unfold m_X7_waiting_4
      rw [r_N, h.eN, if_neg (nI_ge (by omega) (by omega)), r_mayGet h (by omega), cl_ok, List.range'_succ, List.filter_cons]
      by_cases hf : fpb β N i = true
      · rw [if1 hf, z10, nm_ok, nm_ok, nI_1, nI_1, ih m (i + 1) _ (by omega) (by omega), if_pos hf, List.length_cons, Nat.add_right_comm, Nat.add_assoc]
      · rw [if0 hf, z00, nm_ok, nm_ok, nI_1, show nI a + 0 = nI a from nI_add a 0, ih m (i + 1) _ (by omega) (by omega), if_neg hf]
  unfold m_X7_waiting tks
  have := key N 200 0 0 (by omega) (by omega)
  rw [Nat.zero_add] at this
  exact this
theorem r_bw4 (h : Wf T N y β) {x1 : Int32} : ∀ (q m i : Nat) (s : Int32), i + q = 8 → q < m → m_X7_bestWay_4 m (pm τ β) x1 s (nI i) = m_X7_bestWay_42 (pm τ β) x1 (sbit (frb β) s i q) := by
  intro q
  induction q with
  | zero =>
    intro m i s hi hm
    obtain ⟨m, rfl⟩ : ∃ z, m = z + 1 := ⟨m - 1, by omega⟩
    unfold m_X7_bestWay_4
    rw [show (8 : Int32) = nI 8 from rfl, if_pos (nI_le (by omega) (by omega))]
    rfl
  | succ q ih =>
    intro m i s hi hm
    obtain ⟨m, rfl⟩ : ∃ z, m = z + 1 := ⟨m - 1, by omega⟩
    unfold m_X7_bestWay_4
    rw [show (8 : Int32) = nI 8 from rfl, if_neg (nI_ge (by omega) (by omega)), r_open h, cl_ok, sbit_s]
    by_cases h1 : sopen β (nI i) = true
    · rw [if1 h1, z10, r_bearer h, cl_ok]
      by_cases h2 : sbear β (nI i) < 0
      · rw [if_neg (by grind), nm_ok, nm_ok, nI_1, ih m (i + 1) _ (by omega) (by omega), if_pos (show frb β i = true by unfold frb; simp [h1, h2])]
      · rw [if_pos (by grind), nm_ok, nm_ok, nI_1, or0, ih m (i + 1) _ (by omega) (by omega), if_neg (show ¬ frb β i = true by unfold frb; simp [h2])]
    · rw [if0 h1, z00, nm_ok, nm_ok, nI_1, or0, ih m (i + 1) _ (by omega) (by omega), if_neg (show ¬ frb β i = true by unfold frb; simp [h1])]
theorem r_bw47 (h : Wf T N y β) {x1 : Int32} : ∀ (q m i : Nat) (s : Int32), i + q = N → q < m → m_X7_bestWay_47 m (pm τ β) x1 x2 s (nI i) = m_X7_bestWay_87 200 (pm τ β) x1 x2 (sbit (fpb β N) s i q) 0 := by
  intro q
  have hN := h.N8
  induction q with
  | zero =>
    intro m i s hi hm
    obtain ⟨m, rfl⟩ : ∃ z, m = z + 1 := ⟨m - 1, by omega⟩
    unfold m_X7_bestWay_47
    rw [r_N, h.eN, if_pos (nI_le (by omega) (by omega))]
    rfl
  | succ q ih =>
    intro m i s hi hm
    obtain ⟨m, rfl⟩ : ∃ z, m = z + 1 := ⟨m - 1, by omega⟩
    unfold m_X7_bestWay_47
    rw [r_N, h.eN, if_neg (nI_ge (by omega) (by omega)), r_mayGet h (by omega), cl_ok, sbit_s]
    by_cases hf : fpb β N i = true
    · rw [if1 hf, z10, nm_ok, nm_ok, nI_1, ih m (i + 1) _ (by omega) (by omega), if_pos hf]
    · rw [if0 hf, z00, nm_ok, nm_ok, nI_1, or0, ih m (i + 1) _ (by omega) (by omega), if_neg hf]
theorem r_bw87 {x1 : Int32} : ∀ (q m i : Nat) (τ : zw_S), i + q = 8 → q < m → (∀ p, p < i → τ 63 p = -1) → ∃ τ2, m_X7_bestWay_87 m (pm τ β) x1 x2 x3 (nI i) = m_X7_bestWay_108 (pm τ2 β) x1 x2 x3 ∧ (∀ c, c ≠ 63 → τ2 c = τ c) ∧ (∀ p, p < 8 → τ2 63 p = -1) := by
  intro q
  induction q with
  | zero =>
    intro m i τ hi hm hp
    obtain ⟨m, rfl⟩ : ∃ z, m = z + 1 := ⟨m - 1, by omega⟩
    refine ⟨τ, ?_, fun _ _ => rfl, fun p h => hp p (by omega)⟩
    unfold m_X7_bestWay_87
    rw [show (8 : Int32) = nI 8 from rfl, if_pos (nI_le (by omega) (by omega))]
  | succ q ih =>
    intro m i τ hi hm hp
    obtain ⟨m, rfl⟩ : ∃ z, m = z + 1 := ⟨m - 1, by omega⟩
    obtain ⟨τ2, e1, e2, e3⟩ := ih m (i + 1) (zw_wr τ 63 i (-1)) (by omega) (by omega) (fun p h => by
      by_cases hpi : p = i
      · subst hpi
        rw [wr_at]
      · rw [wr_j hpi]
        exact hp p (by omega))
    refine ⟨τ2, ?_, fun c hc => by rw [e2 c hc, wr_f hc], e3⟩
    unfold m_X7_bestWay_87
    rw [show (8 : Int32) = nI 8 from rfl, if_neg (nI_ge (by omega) (by omega)), wt_i (by omega) (by omega), pm_wo (by decide), nm_ok, nI_1]
    exact e1
/-! one way looked at -/
def vdi (fr : Nat → Bool) (g : Nat → Int32) (i : Nat) : Prop := (∀ p, p < i → ¬ g p < 0 → fr (g p).toNatClampNeg = true) ∧ (∀ p q, p < i → q < i → ¬ g p < 0 → g p = g q → p = q)
theorem vdi_m {fr : Nat → Bool} {i : Nat} (h : g i = -1) : vdi fr g (i + 1) ↔ vdi fr g i := by
  have h0 : g i < 0 := by rw [h]; decide
  constructor
  · exact fun v => ⟨fun p hp => v.1 p (by omega), fun p q hp hq => v.2 p q (by omega) (by omega)⟩
  · refine fun v => ⟨fun p hp hn => ?_, fun p q hp hq hn e => ?_⟩
    · by_cases hpi : p = i
      · subst hpi
        exact absurd h0 hn
      · exact v.1 p (by omega) hn
    · by_cases hpi : p = i
      · subst hpi
        exact absurd h0 hn
      · by_cases hqi : q = i
        · subst hqi
          rw [e] at hn
          exact absurd h0 hn
        · exact v.2 p q (by omega) (by omega) hn e
theorem vdi_s {fr : Nat → Bool} {i o : Nat} (ho : o < 8) (h : g i = nI o) : vdi fr g (i + 1) ↔ vdi fr g i ∧ fr o = true ∧ ¬ ∃ p, p < i ∧ g p = nI o := by
  have hi0 : ¬ g i < 0 := by rw [h]; exact nI_pos (by omega)
  constructor
  · intro v
    refine ⟨⟨fun p hp => v.1 p (by omega), fun p q hp hq => v.2 p q (by omega) (by omega)⟩, ?_, ?_⟩
    · have := v.1 i (by omega) hi0
      rw [h, nc (by omega)] at this
      exact this
    · rintro ⟨p, hp, e⟩
      have := v.2 p i (by omega) (by omega) (by rw [e]; exact nI_pos (by omega)) (e.trans h.symm)
      omega
  · rintro ⟨v, hf, hn⟩
    refine ⟨fun p hp h0 => ?_, fun p q hp hq h0 e => ?_⟩
    · by_cases hpi : p = i
      · subst hpi
        rw [h, nc (by omega)]
        exact hf
      · exact v.1 p (by omega) h0
    · by_cases hpi : p = i
      · by_cases hqi : q = i
        · rw [hpi, hqi]
        · subst hpi
          exact absurd ⟨q, by omega, by rw [← e, h]⟩ hn
      · by_cases hqi : q = i
        · subst hqi
          exact absurd ⟨p, by omega, by rw [e, h]⟩ hn
        · exact v.2 p q (by omega) (by omega) h0 e
/-- the digits of a way -/
def Dg (β : zw_S) (N : Nat) (g : Nat → Int32) : Prop := ∀ p, g p = -1 ∨ (fpb β N p = true ∧ ∃ o, o < 8 ∧ g p = nI o)
theorem r_139 {R : zw_S → Int32 → Int32 → Int32 → Int32 → Int32 → Option (Int32 × zw_S)} {x1 x4 : Int32} (hg : ∀ p, p < 8 → τ 63 p = g p) (hd : Dg β N g) (hx2 : ∀ o, o < 8 → bt x2 o = frb β o) : ∀ (q m i : Nat) (x6 x7 : Int32), i + q = 8 → q < m → (∀ o, o < 8 → (bt x6 o = true ↔ ∃ p, p < i ∧ g p = nI o)) → ((x7 = 1 ∧ vdi (frb β) g i) ∨ (x7 = 0 ∧ ¬ vdi (frb β) g i)) → ∃ x8, ((x8 = 1 ∧ vdi (frb β) g 8) ∨ (x8 = 0 ∧ ¬ vdi (frb β) g 8)) ∧ m_X7_bestWay_139 R m (pm τ β) x1 x2 x3 x4 x6 x7 (nI i) = m_X7_bestWay_221 R (pm τ β) x1 x2 x3 x4 x8 := by
  intro q
  induction q with
  | zero =>
    intro m i x6 x7 hi hm h6 h7
    obtain ⟨m, rfl⟩ : ∃ z, m = z + 1 := ⟨m - 1, by omega⟩
    have : i = 8 := by omega
    subst this
    refine ⟨x7, h7, ?_⟩
    unfold m_X7_bestWay_139
    rw [show (8 : Int32) = nI 8 from rfl, if_pos (nI_le (by omega) (by omega))]
  | succ q ih =>
    intro m i x6 x7 hi hm h6 h7
    obtain ⟨m, rfl⟩ : ∃ z, m = z + 1 := ⟨m - 1, by omega⟩
    have erd : ∀ {α : Type} {F : Int32 → Option α}, rd (pm τ β) 63 8 (nI i) F = F (g i) := fun {α F} => by rw [rd_i (by omega) (by omega), pm_o (by decide), hg i (by omega)]
    unfold m_X7_bestWay_139
    rw [show (8 : Int32) = nI 8 from rfl, if_neg (nI_ge (by omega) (by omega)), erd]
    rcases hd i with e | ⟨-, o, ho, e⟩
    · rw [e, if_neg (by decide), nm_ok, nI_1]
      refine ih m (i + 1) x6 x7 (by omega) (by omega) (fun o ho => ?_) ?_
      · rw [h6 o ho]
        constructor
        · rintro ⟨p, hp, ep⟩
          exact ⟨p, by omega, ep⟩
        · rintro ⟨p, hp, ep⟩
          by_cases hpi : p = i
          · subst hpi
            rw [e] at ep
            exact absurd ep.symm (ne_m1 (by omega))
          · exact ⟨p, by omega, ep⟩
      · rw [vdi_m e]
        exact h7
    · have e6 : ∀ z, z < 8 → (bt (x6 ||| (1 <<< (nI o &&& 31))) z = true ↔ ∃ p, p < i + 1 ∧ g p = nI z) := fun z hz => by
        rw [b_or, b_one (by omega) (by omega), Bool.or_eq_true, h6 z hz, decide_eq_true_eq]
        constructor
        · rintro (⟨p, hp, ep⟩ | ez)
          · exact ⟨p, by omega, ep⟩
          · exact ⟨i, by omega, by rw [e, ez]⟩
        · rintro ⟨p, hp, ep⟩
          by_cases hpi : p = i
          · subst hpi
            right
            rw [e, nI_eq (by omega) (by omega)] at ep
            exact ep.symm
          · exact Or.inl ⟨p, by omega, ep⟩
      have e199 : ∀ u, m_X7_bestWay_199 R (m_X7_bestWay_139 R m) (pm τ β) x1 x2 x3 x4 x6 (nI i) u = m_X7_bestWay_139 R m (pm τ β) x1 x2 x3 x4 (x6 ||| (1 <<< (nI o &&& 31))) u (nI (i + 1)) := fun u => by
        unfold m_X7_bestWay_199
        rw [erd, nm_ok, nm_ok, nI_1, e]
      have vs := vdi_s (fr := frb β) ho e
      have go : ∀ u, ((u = 1 ∧ vdi (frb β) g (i + 1)) ∨ (u = 0 ∧ ¬ vdi (frb β) g (i + 1))) → ∃ x8, ((x8 = 1 ∧ vdi (frb β) g 8) ∨ (x8 = 0 ∧ ¬ vdi (frb β) g 8)) ∧ m_X7_bestWay_199 R (m_X7_bestWay_139 R m) (pm τ β) x1 x2 x3 x4 x6 (nI i) u = m_X7_bestWay_221 R (pm τ β) x1 x2 x3 x4 x8 := fun u hu => by
        rw [e199]
        exact ih m (i + 1) _ u (by omega) (by omega) e6 hu
      rw [if_pos (by rw [e]; exact nI_pos' (by omega))]
      rcases h7 with ⟨h7, v⟩ | ⟨h7, v⟩
      · subst h7
        rw [z10, erd, e, b_s1 (by omega), hx2 o ho]
        by_cases hf : frb β o = true
        · rw [if_pos hf, if_pos rfl, erd, e, b_s1 (by omega)]
          by_cases hb : bt x6 o = true
          · rw [if_pos hb, z10]
            exact go 0 (Or.inr ⟨rfl, fun z => (vs.mp z).2.2 ((h6 o ho).mp hb)⟩)
          · rw [if_neg hb, z00]
            exact go 1 (Or.inl ⟨rfl, vs.mpr ⟨v, hf, fun z => hb ((h6 o ho).mpr z)⟩⟩)
        · rw [if_neg hf, if_neg (by decide)]
          exact go 0 (Or.inr ⟨rfl, fun z => hf (vs.mp z).2.1⟩)
      · subst h7
        rw [z00]
        exact go 0 (Or.inr ⟨rfl, fun z => v (vs.mp z).1⟩)
/-! names written where there are any -/
def swn (γ : zw_S) (g : Nat → Int32) (i q : Nat) : zw_S := (List.range' i q).foldl (fun b p => if g p < 0 then b else zw_wr b 7 p (g p)) γ
theorem swn_s {i q : Nat} : swn γ g i (q + 1) = swn (if g i < 0 then γ else zw_wr γ 7 i (g i)) g (i + 1) q := by
  unfold swn
  rw [List.range'_succ, List.foldl_cons]
theorem swn_ap {f j : Nat} : ∀ (q i : Nat) (γ : zw_S), swn γ g i q f j = if f = 7 ∧ (i ≤ j ∧ j < i + q) ∧ ¬ g j < 0 then g j else γ f j := by
  intro q
  induction q with
  | zero =>
    intro i γ
    rw [if_neg (by omega)]
    rfl
  | succ q ih =>
    intro i γ
    have e : (if g i < 0 then γ else zw_wr γ 7 i (g i)) f j = if f = 7 ∧ j = i ∧ ¬ g j < 0 then g j else γ f j := by
      by_cases hi : g i < 0
      · rw [if_pos hi, if_neg (show ¬ (f = 7 ∧ j = i ∧ ¬ g j < 0) by rintro ⟨-, rfl, z⟩; exact z hi)]
      · rw [if_neg hi, wr_ap]
        by_cases hc : f = 7 ∧ j = i
        · rw [if_pos hc, if_pos (show f = 7 ∧ j = i ∧ ¬ g j < 0 from ⟨hc.1, hc.2, by rw [hc.2]; exact hi⟩), hc.2]
        · rw [if_neg hc, if_neg (show ¬ (f = 7 ∧ j = i ∧ ¬ g j < 0) from fun z => hc ⟨z.1, z.2.1⟩)]
    rw [swn_s, ih, e]
    by_cases hc : f = 7 ∧ (i ≤ j ∧ j < i + (q + 1)) ∧ ¬ g j < 0
    · rw [if_pos hc]
      by_cases h1 : i + 1 ≤ j
      · rw [if_pos (show f = 7 ∧ (i + 1 ≤ j ∧ j < i + 1 + q) ∧ ¬ g j < 0 from ⟨hc.1, ⟨h1, by omega⟩, hc.2.2⟩)]
      · rw [if_neg (show ¬ (f = 7 ∧ (i + 1 ≤ j ∧ j < i + 1 + q) ∧ ¬ g j < 0) from fun z => h1 z.2.1.1), if_pos (show f = 7 ∧ j = i ∧ ¬ g j < 0 from ⟨hc.1, by omega, hc.2.2⟩)]
    · rw [if_neg hc, if_neg (show ¬ (f = 7 ∧ (i + 1 ≤ j ∧ j < i + 1 + q) ∧ ¬ g j < 0) from fun z => hc ⟨z.1, by omega, z.2.2⟩), if_neg (show ¬ (f = 7 ∧ j = i ∧ ¬ g j < 0) from fun z => hc ⟨z.1, by omega, z.2.2⟩)]
theorem swn_sg (h : ∀ p, 8 ≤ p → g p = -1) : swn β g 0 8 = sg β g := by
  funext f j
  rw [swn_ap]
  by_cases hf : f = 7
  · subst hf
    rw [sg_7]
    by_cases hg : g j < 0
    · rw [if_neg (fun z => z.2.2 hg), if_pos hg]
    · have hj : j < 8 := by
        apply Classical.byContradiction
        intro z
        exact hg (by rw [h j (by omega)]; decide)
      rw [if_pos ⟨rfl, by omega, hg⟩, if_neg hg]
  · rw [if_neg (fun z => hf z.1), sg_f hf]
theorem r_229 {R : zw_S → Int32 → Int32 → Int32 → Int32 → Int32 → Option (Int32 × zw_S)} {x1 x4 : Int32} (hg : ∀ p, p < 8 → τ 63 p = g p) : ∀ (q m i : Nat) (γ : zw_S), i + q = 8 → q < m → m_X7_bestWay_229 R m (pm τ γ) x1 x2 x3 x4 (nI i) = m_X7_bestWay_271 R (pm τ (swn γ g i q)) x1 x2 x3 x4 := by
  intro q
  induction q with
  | zero =>
    intro m i γ hi hm
    obtain ⟨m, rfl⟩ : ∃ z, m = z + 1 := ⟨m - 1, by omega⟩
    unfold m_X7_bestWay_229
    rw [show (8 : Int32) = nI 8 from rfl, if_pos (nI_le (by omega) (by omega))]
    rfl
  | succ q ih =>
    intro m i γ hi hm
    obtain ⟨m, rfl⟩ : ∃ z, m = z + 1 := ⟨m - 1, by omega⟩
    have erd : ∀ {α : Type} {F : Int32 → Option α}, rd (pm τ γ) 63 8 (nI i) F = F (g i) := fun {α F} => by rw [rd_i (by omega) (by omega), pm_o (by decide), hg i (by omega)]
    unfold m_X7_bestWay_229
    rw [show (8 : Int32) = nI 8 from rfl, if_neg (nI_ge (by omega) (by omega)), erd, swn_s]
    by_cases h0 : g i < 0
    · rw [if_pos h0, nm_ok, nI_1, ih m (i + 1) _ (by omega) (by omega), if_pos h0]
    · rw [if_neg h0, erd, xp0, r_wt (f := 7) (show i < 8 by omega), nm_ok, nI_1, ih m (i + 1) _ (by omega) (by omega), if_neg h0]
theorem r_296 {R : zw_S → Int32 → Int32 → Int32 → Int32 → Int32 → Option (Int32 × zw_S)} {x1 x4 x8 : Int32} (hc : ¬ x8 ≤ x4) : ∀ (q m i : Nat) (τ : zw_S), i + q = 8 → q < m → ∃ τ2, m_X7_bestWay_296 R m (pm τ β) x1 x2 x3 x4 x8 (nI i) = m_X7_bestWay_330 R (pm τ2 β) x1 x2 x3 x4 x8 ∧ (∀ c, c ≠ 64 → τ2 c = τ c) ∧ (∀ p, p < 8 → τ2 64 p = if i ≤ p then τ 63 p else τ 64 p) := by
  intro q
  induction q with
  | zero =>
    intro m i τ hi hm
    obtain ⟨m, rfl⟩ : ∃ z, m = z + 1 := ⟨m - 1, by omega⟩
    refine ⟨τ, ?_, fun _ _ => rfl, fun p hp => by rw [if_neg (by omega)]⟩
    unfold m_X7_bestWay_296
    rw [show (8 : Int32) = nI 8 from rfl, if_pos (nI_le (by omega) (by omega))]
  | succ q ih =>
    intro m i τ hi hm
    obtain ⟨m, rfl⟩ : ∃ z, m = z + 1 := ⟨m - 1, by omega⟩
    obtain ⟨τ2, e1, e2, e3⟩ := ih m (i + 1) (zw_wr τ 64 i (τ 63 i)) (by omega) (by omega)
    refine ⟨τ2, ?_, fun c hc => by rw [e2 c hc, wr_f hc], fun p hp => ?_⟩
    · unfold m_X7_bestWay_296
      rw [show (8 : Int32) = nI 8 from rfl, if_neg (nI_ge (by omega) (by omega)), if_neg hc, rd_i (by omega) (by omega), pm_o (by decide), wt_i (by omega) (by omega), pm_wo (by decide), nm_ok, nI_1]
      exact e1
    · rw [e3 p hp, wr_f (by decide)]
      by_cases h1 : i + 1 ≤ p
      · rw [if_pos h1, if_pos (by omega)]
      · rw [if_neg h1]
        by_cases h2 : p = i
        · subst h2
          rw [wr_at, if_pos (by omega)]
        · rw [wr_j h2, if_neg (by omega)]
def RM (τ : zw_S) (b : Int32 × (Nat → Int32)) : Prop := b.1 ≠ -1 → ∀ p, p < 8 → τ 64 p = b.2 p
theorem Dg_8 (hN : N ≤ 8) (hd : Dg β N g) : ∀ p, 8 ≤ p → g p = -1 := by
  intro p hp
  rcases hd p with e | ⟨hf, -⟩
  · exact e
  · unfold fpb at hf
    simp at hf
    omega
theorem Dg_V (hd : Dg β N g) (hN : N ≤ 8) (hv : vdi (frb β) g 8) : Vl (frb β) (tks β N) g := by
  have h8 := Dg_8 hN hd
  refine ⟨fun p => ?_, fun p q e hn => ?_⟩
  · rcases hd p with e | ⟨hf, o, ho, e⟩
    · exact Or.inl e
    · right
      have hpN : p < N := by
        unfold fpb at hf
        simp at hf
        exact hf.1
      refine ⟨?_, o, ho, e, ?_⟩
      · unfold tks
        exact List.mem_filter.mpr ⟨List.mem_range'_1.mpr (by omega), hf⟩
      · have := hv.1 p (by omega) (by rw [e]; exact nI_pos (by omega))
        rw [e, nc (by omega)] at this
        exact this
  · have lt : ∀ p, g p ≠ -1 → p < 8 ∧ ¬ g p < 0 := fun p hn => by
      refine ⟨?_, ?_⟩
      · apply Classical.byContradiction
        intro z
        exact hn (h8 p (by omega))
      · rcases hd p with e | ⟨-, o, ho, e⟩
        · exact absurd e hn
        · rw [e]
          exact nI_pos (by omega)
    exact hv.2 p q (lt p hn).1 (lt q (by rw [← e]; exact hn)).1 (lt p hn).2 e
theorem r_look {R : zw_S → Int32 → Int32 → Int32 → Int32 → Int32 → Option (Int32 × zw_S)} (h : Wf T N y β) (hn : n ≤ 100) (hy : y + n ≤ 5000) (hg : ∀ p, p < 8 → τ 63 p = g p) (hd : Dg β N g) (hx2 : ∀ o, o < 8 → bt x2 o = frb β o) {b : Int32 × (Nat → Int32)} (hb : RM τ b) (h61 : τ 61 = em β (τ 61)) : ∃ τ2, m_X7_bestWay_139 R 200 (pm τ β) (nI n) x2 x3 b.1 0 1 0 = m_X7_bestWay_353 R 200 (pm τ2 β) (nI n) x2 x3 (stp (Vw β n) (frb β) g b).1 0 7 ∧ (∀ c, c ≠ 64 → τ2 c = τ c) ∧ RM τ2 (stp (Vw β n) (frb β) g b) := by
  have hN := h.N8
  obtain ⟨x8, hx8, e1⟩ := r_139 (R := R) (x1 := nI n) (x3 := x3) (x4 := b.1) hg hd hx2 8 200 0 0 1 (by omega) (by omega) (fun o ho => by
    rw [b_0]
    constructor
    · intro z
      exact absurd z (by decide)
    · rintro ⟨p, hp, -⟩
      omega) (Or.inl ⟨rfl, ⟨fun p hp => absurd hp (by omega), fun p q hp => absurd hp (by omega)⟩⟩)
  rw [show nI 0 = (0 : Int32) from rfl] at e1
  rw [e1]
  unfold m_X7_bestWay_221 stp
  rcases hx8 with ⟨hx8, v⟩ | ⟨hx8, v⟩
  · subst hx8
    have hv := Dg_V hd hN v
    have hw := Wf_sg h hv
    obtain ⟨T2, -, hw2⟩ := Wf.years n T y _ hw hy
    have e2 := r_229 (R := R) (x1 := nI n) (x2 := x2) (x3 := x3) (x4 := b.1) hg 8 200 0 β (by omega) (by omega)
    rw [show nI 0 = (0 : Int32) from rfl, swn_sg (Dg_8 hN hd)] at e2
    rw [z10, e2, @if_pos _ (Classical.propDecidable _) (show vd (frb β) g from v)]
    unfold m_X7_bestWay_271 up
    rw [r_yearsGo hw (by omega) hy, cv_ok, r_endedWorth hw2, cl_ok, r_back (by decide) τ β _ h61, cv_ok]
    show ∃ τ2, m_X7_bestWay_296 R 200 (pm τ β) (nI n) x2 x3 b.1 (Vw β n g) 0 = _ ∧ _
    by_cases hc : Vw β n g ≤ b.1
    · rw [if_pos hc]
      refine ⟨τ, ?_, fun _ _ => rfl, hb⟩
      unfold m_X7_bestWay_296
      rw [if_neg (by decide), if_pos hc]
      unfold m_X7_bestWay_330
      rw [if_pos hc]
    · rw [if_neg hc]
      obtain ⟨τ2, e3, e4, e5⟩ := r_296 (R := R) (β := β) (x1 := nI n) (x2 := x2) (x3 := x3) hc 8 200 0 τ (by omega) (by omega)
      refine ⟨τ2, ?_, e4, ?_⟩
      · rw [show nI 0 = (0 : Int32) from rfl] at e3
        rw [e3]
        unfold m_X7_bestWay_330
        rw [if_neg hc]
      · intro _ p hp
        rw [e5 p hp, if_pos (by omega)]
        exact hg p hp
  · subst hx8
    rw [z00, @if_neg _ (Classical.propDecidable _) (show ¬ vd (frb β) g from v)]
    exact ⟨τ, rfl, fun _ _ => rfl, hb⟩
/-! the next way -/
theorem Dg_m {k : Nat} (hd : Dg β N g) : Dg β N (upd g k (-1)) := by
  intro p
  by_cases hp : p = k
  · subst hp
    exact Or.inl upd_at
  · rw [upd_o hp]
    exact hd p
theorem Dg_1 {k : Nat} (hd : Dg β N g) (hf : fpb β N k = true) (h7 : g k < 7) : Dg β N (upd g k (g k + 1)) := by
  intro p
  by_cases hp : p = k
  · subst hp
    rw [upd_at]
    rcases hd p with e | ⟨-, o, ho, e⟩
    · exact Or.inr ⟨hf, 0, by omega, by rw [e]; decide⟩
    · refine Or.inr ⟨hf, o + 1, ?_, by rw [e, nI_1]⟩
      rw [e] at h7
      have := (nI_ltI (a := o) (b := 7) (by omega) (by omega)).mp h7
      omega
  · rw [upd_o hp]
    exact hd p
theorem ic_D : ∀ (k : Nat) (g g2 : Nat → Int32), ic (fpb β N) k g = some g2 → Dg β N g → Dg β N g2 := by
  intro k
  induction k with
  | zero => intro g g2 e _; exact absurd e (by simp [ic])
  | succ k ih =>
    intro g g2 e hd
    unfold ic at e
    by_cases hf : fpb β N k = true
    · rw [if_pos hf] at e
      by_cases h7 : g k < 7
      · rw [if_pos h7] at e
        have := Option.some.inj e
        rw [← this]
        exact Dg_1 hd hf h7
      · rw [if_neg h7] at e
        exact ih _ g2 e (Dg_m hd)
    · rw [if_neg hf] at e
      exact ih _ g2 e hd
theorem r_353 {R : zw_S → Int32 → Int32 → Int32 → Int32 → Int32 → Option (Int32 × zw_S)} {x1 x4 : Int32} (hx3 : ∀ p, p < 8 → bt x3 p = fpb β N p) : ∀ (k m : Nat) (τ : zw_S) (g : Nat → Int32), k ≤ 8 → k < m → (∀ p, p < 8 → τ 63 p = g p) → ∃ τ2, (∀ c, c ≠ 63 → τ2 c = τ c) ∧ (match ic (fpb β N) k g with
    | none => m_X7_bestWay_353 R m (pm τ β) x1 x2 x3 x4 0 (nI k - 1) = R (pm τ2 β) x1 x2 x3 x4 0
    | some g2 => m_X7_bestWay_353 R m (pm τ β) x1 x2 x3 x4 0 (nI k - 1) = R (pm τ2 β) x1 x2 x3 x4 1 ∧ ∀ p, p < 8 → τ2 63 p = g2 p) := by
  intro k
  induction k with
  | zero =>
    intro m τ g hk hm hg
    obtain ⟨m, rfl⟩ : ∃ z, m = z + 1 := ⟨m - 1, by omega⟩
    refine ⟨τ, fun _ _ => rfl, ?_⟩
    show m_X7_bestWay_353 R (m + 1) (pm τ β) x1 x2 x3 x4 0 (nI 0 - 1) = R (pm τ β) x1 x2 x3 x4 0
    unfold m_X7_bestWay_353
    rw [if_pos (by decide)]
  | succ k ih =>
    intro m τ g hk hm hg
    obtain ⟨m, rfl⟩ : ∃ z, m = z + 1 := ⟨m - 1, by omega⟩
    have w63 : ∀ (v : Int32) p, p < 8 → zw_wr τ 63 k v 63 p = upd g k v p := fun v p hp => by
      by_cases hpk : p = k
      · subst hpk
        rw [wr_at, upd_at]
      · rw [wr_j hpk, upd_o hpk]
        exact hg p hp
    have eic : ic (fpb β N) (k + 1) g = if fpb β N k = true then (if g k < 7 then some (upd g k (g k + 1)) else ic (fpb β N) k (upd g k (-1))) else ic (fpb β N) k g := rfl
    rw [nI_pred]
    have e0 : m_X7_bestWay_353 R (m + 1) (pm τ β) x1 x2 x3 x4 0 (nI k) = if (x3 >>> (nI k &&& 31)) &&& 1 = 0 then m_X7_bestWay_353 R m (pm τ β) x1 x2 x3 x4 0 (nI k - 1) else if 7 ≤ g k then m_X7_bestWay_353 R m (pm (zw_wr τ 63 k (-1)) β) x1 x2 x3 x4 0 (nI k - 1) else m_X7_bestWay_353 R m (pm (zw_wr τ 63 k (g k + 1)) β) x1 x2 x3 x4 1 (nI k - 1) := by
      show (if nI k < 0 then _ else _) = _
      rw [if_neg (nI_pos (by omega)), z00]
      have erd : ∀ {α : Type} {F : Int32 → Option α}, rd (pm τ β) 63 8 (nI k) F = F (g k) := fun {α F} => by rw [rd_i (by omega) (by omega), pm_o (by decide), hg k (by omega)]
      unfold m_X7_bestWay_392
      rw [nm_ok, dn1, erd, z00, z10, erd, wt_i (by omega) (by omega), wt_i (by omega) (by omega), pm_wo (by decide), pm_wo (by decide), nm_ok, nm_ok]
    rw [e0, b_s1 (by omega), hx3 k (by omega), eic]
    by_cases hf : fpb β N k = true
    · rw [if_pos hf, if_pos hf, z10]
      by_cases h7 : g k < 7
      · rw [if_pos h7, if_neg (show ¬ 7 ≤ g k by grind)]
        refine ⟨zw_wr τ 63 k (g k + 1), fun c hc => wr_f hc, ?_, w63 _⟩
        obtain ⟨m, rfl⟩ : ∃ z, m = z + 1 := ⟨m - 1, by omega⟩
        unfold m_X7_bestWay_353
        rw [if_neg (show ¬ (1 : Int32) = 0 by decide)]
        split <;> rfl
      · rw [if_neg h7, if_pos (show 7 ≤ g k by grind)]
        obtain ⟨τ2, e1, e2⟩ := ih m (zw_wr τ 63 k (-1)) (upd g k (-1)) (by omega) (by omega) (w63 _)
        exact ⟨τ2, fun c hc => by rw [e1 c hc, wr_f hc], e2⟩
    · rw [if_neg hf, if_neg hf, z00]
      exact ih m τ g (by omega) (by omega) hg
theorem r_bw125 (h : Wf T N y β) (hn : n ≤ 100) (hy : y + n ≤ 5000) (hx2 : ∀ o, o < 8 → bt x2 o = frb β o) (hx3 : ∀ p, p < 8 → bt x3 p = fpb β N p) : ∀ (F : Nat) (τ : zw_S) (g : Nat → Int32) (b : Int32 × (Nat → Int32)), PT (fpb β N) F g → Dg β N g → (∀ p, p < 8 → τ 63 p = g p) → τ 61 = em β (τ 61) → RM τ b → ∃ τ2, m_X7_bestWay_125 (F + 1) (pm τ β) (nI n) x2 x3 b.1 1 = some ((PL (Vw β n) (frb β) (fpb β N) F g b).1, pm τ2 β) ∧ FM τ τ2 ∧ RM τ2 (PL (Vw β n) (frb β) (fpb β N) F g b) := by
  intro F
  induction F with
  | zero => intro τ g b hp; exact absurd hp id
  | succ F ih =>
    intro τ g b hp hd hg h61 hb
    obtain ⟨τ1, e1, e2, e3⟩ := r_look (R := m_X7_bestWay_125 (F + 1)) (x3 := x3) h hn hy hg hd hx2 hb h61
    obtain ⟨τ2, f1, f2⟩ := r_353 (R := m_X7_bestWay_125 (F + 1)) (x1 := nI n) (x2 := x2) (x4 := (stp (Vw β n) (frb β) g b).1) hx3 8 200 τ1 g (by omega) (by omega) (fun p hp => by rw [e2 63 (by decide)]; exact hg p hp)
    rw [show nI 8 - 1 = (7 : Int32) from rfl] at f2
    have e0 : m_X7_bestWay_125 (F + 1 + 1) (pm τ β) (nI n) x2 x3 b.1 1 = m_X7_bestWay_353 (m_X7_bestWay_125 (F + 1)) 200 (pm τ1 β) (nI n) x2 x3 (stp (Vw β n) (frb β) g b).1 0 7 := by
      show (if (1 : Int32) = 0 then _ else _) = _
      rw [z10, e1]
    rw [e0]
    have fm : FM τ τ2 := fun c a1 a2 a3 a4 a5 => by rw [f1 c a4, e2 c a5]
    have rm : RM τ2 (stp (Vw β n) (frb β) g b) := fun hne p hp => by rw [f1 64 (by decide)]; exact e3 hne p hp
    unfold PT at hp
    unfold PL
    cases hic : ic (fpb β N) 8 g with
    | none =>
      rw [hic] at f2 hp
      refine ⟨τ2, ?_, fm, rm⟩
      refine Eq.trans f2 ?_
      unfold m_X7_bestWay_125
      rw [z00]
    | some g2 =>
      rw [hic] at f2 hp
      obtain ⟨τ3, g1, g2', g3⟩ := ih τ2 g2 (stp (Vw β n) (frb β) g b) hp (ic_D 8 g g2 hic hd) f2.2 (by rw [f1 61 (by decide), e2 61 (by decide)]; exact h61) rm
      exact ⟨τ3, f2.1.trans g1, FM.trans fm g2', g3⟩
def gz : Nat → Int32 := fun _ => -1
def f0 (β : zw_S) (o : Nat) : Bool := decide (o < 8) && frb β o
def EnW (β : zw_S) (n N : Nat) : Int32 × (Nat → Int32) := En (Vw β n) (tks β N) (f0 β) gz (-1, gz)
theorem r_best (h : Wf T N y β) (hn : n ≤ 100) (hy : y + n ≤ 5000) (hl : (tks β N).length ≤ 4) : ∃ τ2, m_X7_bestWay (pm τ β) (nI n) = some ((EnW β n N).1, pm τ2 β) ∧ FM τ τ2 ∧ RM τ2 (EnW β n N) := by
  have hN := h.N8
  have hx2 : ∀ o, o < 8 → bt (sbit (frb β) 0 0 8) o = frb β o := fun o ho => by
    rw [sbit_bt (by omega) 8 0 0 (by omega), b_0]
    have : decide (0 ≤ o ∧ o < 0 + 8) = true := decide_eq_true (by omega)
    rw [this]
    simp
  have hx3 : ∀ p, p < 8 → bt (sbit (fpb β N) 0 0 N) p = fpb β N p := fun p hp => by
    rw [sbit_bt (by omega) N 0 0 (by omega), b_0]
    by_cases hpN : p < N
    · have : decide (0 ≤ p ∧ p < 0 + N) = true := decide_eq_true (by omega)
      rw [this]
      simp
    · have : fpb β N p = false := by unfold fpb; simp [hpN]
      rw [this]
      simp
  obtain ⟨τ1, e1, e2, e3⟩ := r_bw87 (β := β) (x1 := nI n) (x2 := sbit (frb β) 0 0 8) (x3 := sbit (fpb β N) 0 0 N) 8 200 0 τ (by omega) (by omega) (fun p hp => absurd hp (by omega))
  have p9 : 9 ^ (fl (fpb β N) 0).length ≤ 6561 := by
    rw [tks_fl hN]
    exact Nat.pow_le_pow_right (n := 9) (by omega) hl
  have cc := count_C (V := Vw β n) (fr := frb β) (fp := fpb β N) 8 0 (by omega) (6999 - 9 ^ (fl (fpb β N) 0).length) gz (-1, gz) (fun p _ _ => rfl)
  rw [show 6999 - 9 ^ (fl (fpb β N) 0).length + 9 ^ (fl (fpb β N) 0).length = 6999 by omega] at cc
  obtain ⟨c1, c3⟩ := cc
  have c1' : PL (Vw β n) (frb β) (fpb β N) 6999 gz (-1, gz) = Rr (Vw β n) (frb β) (fl (fpb β N) 0) gz (-1, gz) := c1
  have c3' : PT (fpb β N) 6999 gz := c3 (fun g2 e => absurd e (by simp [ic]))
  have re : Rr (Vw β n) (frb β) (fl (fpb β N) 0) gz (-1, gz) = EnW β n N := by
    unfold EnW
    rw [tks_fl hN]
    refine Rr_En (tks β N) (f0 β) gz (-1, gz) tks_nd (fun p hp => by have := (tks_m hp).1; omega) (fun o ho => ?_) (fun q hq _ h0 => absurd (show gz q < 0 by unfold gz; decide) h0) (fun q r hq _ _ _ h0 => absurd (show gz q < 0 by unfold gz; decide) h0)
    unfold f0
    rw [Bool.and_eq_true, decide_eq_true_eq]
    exact ⟨fun z => ⟨z.2, fun q _ _ => (ne_m1 (by omega)).symm⟩, fun z => ⟨ho, z.1⟩⟩
  obtain ⟨τ2, g1, g2, g3⟩ := r_bw125 h hn hy hx2 hx3 6999 (sv 61 τ1 β) gz (-1, gz) c3' (fun p => Or.inl rfl) (fun p hp => by rw [sv_o (by decide)]; exact e3 p hp) sv_c (fun z => absurd rfl z)
  rw [c1', re] at g1 g3
  refine ⟨τ2, ?_, ?_, g3⟩
  · have t1 := r_bw4 (τ := τ) (x1 := nI n) h 8 200 0 0 (by omega) (by omega)
    have t2 := r_bw47 (τ := τ) (x1 := nI n) (x2 := sbit (frb β) 0 0 8) h N 200 0 0 (by omega) (by omega)
    unfold m_X7_bestWay
    refine Eq.trans t1 ?_
    unfold m_X7_bestWay_42
    refine Eq.trans t2 ?_
    refine Eq.trans e1 ?_
    unfold m_X7_bestWay_108
    rw [r_save (by decide), cv_ok]
    exact g1
  · refine FM.trans (fun c a1 a2 a3 a4 a5 => ?_) g2
    rw [sv_o (by omega), e2 c a4]
end R1
