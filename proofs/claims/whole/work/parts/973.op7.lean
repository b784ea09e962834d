section T7
variable {σ τ β γ : zw_S} {T N y k : Nat} {hd : Nat → Int32}
theorem pk_tr : ∃ γ, pk σ 1 β hd = tr σ β γ hd := by
  refine ⟨gb (pk σ 1 β hd) 25, ?_⟩
  unfold tr
  have e := pk_gb (pk σ 1 β hd) 25 (by decide)
  refine e.symm.trans ?_
  apply pk_hx
  intro j hj
  exact pk_h hj
theorem ta_r {α : Type} {f n i : Nat} {F : Int32 → Option α} (hn : cap f = n) (hi : i < n) : rd (tr σ β γ hd) (1 + f) n (nI i) F = F (β f i) := by
  have : n ≤ 20 := by rw [← hn]; unfold cap; grind
  rw [rd_i hi (by omega), tr_1 (by rw [hn]; exact hi)]
theorem ta_r1 {α : Type} {i : Nat} {F : Int32 → Option α} (hi : i < 8) : rd (tr σ β γ hd) 2 8 (nI i) F = F (β 1 i) := ta_r (f := 1) rfl hi
theorem ta_r7 {α : Type} {i : Nat} {F : Int32 → Option α} (hi : i < 8) : rd (tr σ β γ hd) 8 8 (nI i) F = F (β 7 i) := ta_r (f := 7) rfl hi
theorem ta_r8 {α : Type} {i : Nat} {F : Int32 → Option α} (hi : i < 8) : rd (tr σ β γ hd) 9 8 (nI i) F = F (β 8 i) := ta_r (f := 8) rfl hi
theorem ta_r9 {α : Type} {i : Nat} {F : Int32 → Option α} (hi : i < 8) : rd (tr σ β γ hd) 10 8 (nI i) F = F (β 9 i) := ta_r (f := 9) rfl hi
theorem ta_s {j : Nat} (hj : j < 4) : tr σ β γ hd 1 j = β 0 j := tr_1 (f := 0) hj
theorem ta_ended {t : Nat} (ht : t < 20) : m_X0_isEnded 1 (tr σ β γ hd) (nI t) = some (if se β t = true then 1 else 0, tr σ β γ hd) := by
  have e := c_ended (k := 1) (σ := tr σ β γ hd) (β := β) (hd := hd) (by decide) ht
  rw [← tr_pk] at e
  exact e
theorem tt_w5 {α : Type} {i : Nat} {v : Int32} {F : zw_S → Option α} (hi : i < 20) : wt (tr σ β γ hd) 30 20 (nI i) v F = F (tr σ β (zw_wr γ 5 i v) hd) := ct_w5 hi
theorem tt_w7 {α : Type} {i : Nat} {v : Int32} {F : zw_S → Option α} (hi : i < 8) : wt (tr σ β γ hd) 32 8 (nI i) v F = F (tr σ β (zw_wr γ 7 i v) hd) := ct_w7 hi
theorem tt_w9 {α : Type} {i : Nat} {v : Int32} {F : zw_S → Option α} (hi : i < 8) : wt (tr σ β γ hd) 34 8 (nI i) v F = F (tr σ β (zw_wr γ 9 i v) hd) := ct_w9 hi
theorem tt_w10 {α : Type} {i : Nat} {v : Int32} {F : zw_S → Option α} (hi : i < 8) : wt (tr σ β γ hd) 35 8 (nI i) v F = F (tr σ β (zw_wr γ 10 i v) hd) := ct_w10 hi
theorem tt_ws {j : Nat} {v : Int32} (hj : j < 4) : zw_wr (tr σ β γ hd) 25 j v = tr σ β (zw_wr γ 0 j v) hd := pk_ws (by decide) hj
theorem tt_add (h : Wf T N y γ) (a b c : Int32) : m_X0_addPerson 25 (tr σ β γ hd) a b c = if N < 8 then some (nI N, tr σ β (sborn γ a b c) hd) else some (-1, tr σ β γ hd) := c_addPerson (by decide) h a b c
/-! free names -/
def sfr (β : zw_S) (s : Int32) (i q : Nat) : Int32 := (List.range' i q).foldl (fun s p => if β 7 p < 0 then s else s &&& ((1 <<< (β 7 p &&& 31)) ^^^ (-1))) s
theorem sfr_s {s : Int32} {i q : Nat} : sfr β s i (q + 1) = sfr β (if β 7 i < 0 then s else s &&& ((1 <<< (β 7 i &&& 31)) ^^^ (-1))) (i + 1) q := by
  unfold sfr
  rw [List.range'_succ, List.foldl_cons]
def sfree (β : zw_S) : Int32 := sfr β (sopens β) 0 (pn β)
theorem c_freeNames (hk : k + 12 ≤ 38) (h : Wf T N y β) : m_X0_freeNames k (pk σ k β hd) = some (sfree β, pk σ k β hd) := by
  have hN := h.N8
  have key : ∀ (q n i : Nat) (s : Int32), i + q = N → q < n → m_X0_freeNames_7 k n (pk σ k β hd) s (nI i) = some (sfr β s i q, pk σ k β hd) := by
    intro q
    induction q with
    | zero =>
      intro n i s hi hn
      obtain ⟨n, rfl⟩ : ∃ m, n = m + 1 := ⟨n - 1, by omega⟩
      unfold m_X0_freeNames_7
      rw [pk_s hk (by omega), h.eN, if_pos (nI_le (by omega) (by omega))]
      rfl
    | succ q ih =>
      intro n i s hi hn
      obtain ⟨n, rfl⟩ : ∃ m, n = m + 1 := ⟨n - 1, by omega⟩
      unfold m_X0_freeNames_7
      rw [pk_s hk (by omega), h.eN, if_neg (nI_ge (by omega) (by omega)), c_r7 hk (by omega), sfr_s]
      by_cases h7 : β 7 i < 0
      · rw [if_pos h7, if_pos h7, nm_ok, nI_1]
        exact ih n (i + 1) _ (by omega) (by omega)
      · rw [if_neg h7, if_neg h7, c_r7 hk (by omega), nm_ok, nm_ok, nI_1]
        exact ih n (i + 1) _ (by omega) (by omega)
  unfold m_X0_freeNames sfree
  rw [c_openNames hk h, cl_ok, h.hN]
  exact key N 200 0 _ (by omega) (by omega)
theorem sfr_bt (h : Wf T N y β) {o : Nat} (ho : o < 8) : ∀ (q i : Nat) (s : Int32), i + q = N → bt (sfr β s i q) o = (bt s o && !sany (fun p => decide (β 7 p = nI o)) i q) := by
  intro q
  induction q with
  | zero => intro i s hi; simp [sfr, sany_0]
  | succ q ih =>
    intro i s hi
    rw [sfr_s, ih (i + 1) _ (by omega), sany_s]
    rcases h.name (show i < N by omega) with e | ⟨z, hz, e⟩
    · rw [if_pos (by rw [e]; decide)]
      have : ¬ (β 7 i = nI o) := by
        rw [e]
        intro z
        exact absurd (nI_pos' (n := o) (by omega)) (by rw [← z]; decide)
      simp [this]
    · rw [if_neg (by rw [e]; exact nI_pos (by omega)), e, b_and, b_not (by omega), b_one (by omega) (by omega)]
      have : (nI z = nI o) ↔ (o = z) := by rw [nI_eq (by omega) (by omega)]; omega
      by_cases hoz : o = z
      · simp [hoz]
      · simp [hoz, this]
theorem sbear_any (h : Wf T N y β) (x : Int32) : sbear β x < 0 ↔ ¬ sany (fun p => decide (β 7 p = x)) 0 N = true := by
  have hN := h.N8
  rw [sany_iff]
  rcases sbear_cc h x with ⟨e, z⟩ | ⟨p, hp, z1, e⟩
  · rw [e]
    refine ⟨fun _ => ?_, fun _ => by decide⟩
    rintro ⟨t, -, h2, h3⟩
    exact z t (by omega) (by simpa using h3)
  · rw [e]
    refine ⟨fun z => absurd z (nI_pos (by omega)), fun z => ?_⟩
    exact absurd ⟨p, by omega, by omega, by simpa using z1⟩ z
theorem sfree_bt (h : Wf T N y β) {o : Nat} (ho : o < 8) : bt (sfree β) o = true ↔ sopen β (nI o) = true ∧ sbear β (nI o) < 0 := by
  unfold sfree
  rw [h.hN, sfr_bt h ho N 0 _ (by omega), sopens_bt h (by omega), sbear_any h]
  simp
theorem tt_free (h : Wf T N y β) : m_X0_freeNames 1 (tr σ β γ hd) = some (sfree β, tr σ β γ hd) := by
  have e := c_freeNames (k := 1) (σ := tr σ β γ hd) (β := β) (hd := hd) (by decide) h
  rw [← tr_pk] at e
  exact e
/-! shut in time -/
theorem sub40 {a : Nat} (ha : a ≤ 40) : 40 - nI a = nI (40 - a) := by
  have h1 := nI_add (40 - a) a
  rw [show 40 - a + a = 40 by omega] at h1
  rw [show (40 : Int32) = nI 40 from rfl, ← h1]
  grind
theorem c_shutIn (hc : Cp β) {p a o : Nat} {x3 : Int32} (hp : p < 8) (ho : o < 8) (ha : a ≤ 40) (h8 : β 8 p = nI a) (h : Wf T N y (zw_wr (zw_wr β 7 p (nI o)) 9 p x3)) (hy : y + 40 ≤ 5000) : m_X6_isShutInTime (tr σ β γ hd) (nI p) (nI o) x3 = some (if sopen (syears (40 - a) (zw_wr (zw_wr β 7 p (nI o)) 9 p x3)) (nI o) = true then 0 else 1, tr σ β (syears (40 - a) (zw_wr (zw_wr β 7 p (nI o)) 9 p x3)) (hands (syears (40 - a) (zw_wr (zw_wr β 7 p (nI o)) 9 p x3)))) := by
  obtain ⟨T2, -, hW2⟩ := Wf.years (40 - a) T y _ h (by omega)
  unfold m_X6_isShutInTime
  rw [c_trial2 hc, cv_ok, tt_w7 hp, tt_w9 hp, ta_r8 hp, h8, sub40 ha, c_tgo h (by omega) (by omega), cv_ok, ct_isOpen hW2 ho, cl_ok]
  by_cases hq : sopen (syears (40 - a) (zw_wr (zw_wr β 7 p (nI o)) 9 p x3)) (nI o) = true
  · rw [if1 hq, z10, if_pos hq]
  · rw [if0 hq, z00, if_neg hq]
theorem r_shutIn (h : Wf T N y β) {p a o : Nat} (hp : p < 8) (ho : o < 8) (ha : a ≤ 40) (h8 : β 8 p = nI a) (hy : y + 40 ≤ 5000) : m_X7_isShutInTime (pm τ β) (nI p) (nI o) = some (if sopen (syears (40 - a) β) (nI o) = true then 0 else 1, pm (sv 60 τ β) β) := by
  unfold m_X7_isShutInTime
  have e := sover_open (x := nI o) (40 - a) T y β h (by omega)
  have hb := sover_le (q := fun b => sopen b (nI o)) (40 - a) β
  rw [r_p1 hp, cl_ok, h8, nm_ok, sub40 ha, r_overN h (by omega) (by omega) ho, cl_ok]
  by_cases hq : sopen (syears (40 - a) β) (nI o) = true
  · have : ¬ sover (fun b => sopen b (nI o)) (40 - a) β ≤ 40 - a := fun z => (e.mp z) hq
    rw [if_pos (nI_lt (by omega) (by omega)), if_pos hq]
  · have := e.mpr hq
    rw [if_neg (nI_nlt (by omega) (by omega)), if_neg hq]
/-! choose -/
def sch (β : zw_S) (p L : Nat) (b : Int32) (o : Nat) : Int32 := if sopen β (nI o) = true ∧ sbear β (nI o) < 0 ∧ (b < 0 ∨ β 1 b.toNatClampNeg < β 1 o) ∧ ¬ sopen (syears L (zw_wr β 7 p (nI o))) (nI o) = true then nI o else b
def schs (β : zw_S) (p L : Nat) (b : Int32) (i q : Nat) : Int32 := (List.range' i q).foldl (sch β p L) b
theorem schs_s {p L i q : Nat} {b : Int32} : schs β p L b i (q + 1) = schs β p L (sch β p L b i) (i + 1) q := by
  unfold schs
  rw [List.range'_succ, List.foldl_cons]
theorem sch_c {p L o : Nat} {b : Int32} (hb : b = -1 ∨ ∃ j, j < 8 ∧ b = nI j) (ho : o < 8) : sch β p L b o = -1 ∨ ∃ j, j < 8 ∧ sch β p L b o = nI j := by
  unfold sch
  split
  · exact Or.inr ⟨o, ho, rfl⟩
  · exact hb
theorem Wf.free7 (h : Wf T N y β) {p o : Nat} (hp : p < N) (ho : o < 8) (hb : sbear β (nI o) < 0) : Wf T N y (zw_wr β 7 p (nI o)) := by
  refine h.t7 hp (Or.inr ⟨⟨o, ho, rfl⟩, fun q hq _ e => ?_⟩)
  rcases sbear_cc h (nI o) with ⟨-, z⟩ | ⟨r, hr, -, z2⟩
  · exact z q hq e
  · have := h.N8
    rw [z2] at hb
    exact absurd hb (nI_pos (by omega))
theorem c_choosel (h : Wf T N y β) {p a : Nat} (hp : p < N) (ha : a ≤ 40) (h8 : β 8 p = nI a) (hy : y + 40 ≤ 5000) : ∀ (q n i : Nat) (b : Int32) (γ : zw_S) (hd : Nat → Int32), i + q = 8 → q < n → (b = -1 ∨ ∃ j, j < 8 ∧ b = nI j) → ∃ γ2 hd2, m_X6_choose_73 n (tr σ β γ hd) (nI p) (sfree β) b (nI i) = m_X6_choose_156 (tr σ β γ2 hd2) (schs β p (40 - a) b i q) := by
  intro q
  have hN8 := h.N8
  induction q with
  | zero =>
    intro n i b γ hd hi hn hb
    obtain ⟨n, rfl⟩ : ∃ m, n = m + 1 := ⟨n - 1, by omega⟩
    refine ⟨γ, hd, ?_⟩
    unfold m_X6_choose_73
    rw [show (8 : Int32) = nI 8 from rfl, if_pos (nI_le (by omega) (by omega))]
    rfl
  | succ q ih =>
    intro n i b γ hd hi hn hb
    obtain ⟨n, rfl⟩ : ∃ m, n = m + 1 := ⟨n - 1, by omega⟩
    have ef := sfree_bt h (show i < 8 by omega)
    have e8 := b_is (x := sfree β) (show i < 32 by omega)
    -- the step behind the comparison
    have st : ∀ (u : Int32), (u = 0 ∧ ¬ (b < 0 ∨ β 1 b.toNatClampNeg < β 1 i)) ∨ (u = 1 ∧ (b < 0 ∨ β 1 b.toNatClampNeg < β 1 i)) → ∃ γ2 hd2, m_X6_choose_111 (m_X6_choose_73 n) (tr σ β γ hd) (nI p) (sfree β) b (nI i) u = m_X6_choose_156 (tr σ β γ2 hd2) (schs β p (40 - a) b i (q + 1)) := by
      intro u hu
      unfold m_X6_choose_111
      rw [schs_s]
      by_cases hf : bt (sfree β) i = true
      · rw [if_pos (e8.mpr hf)]
        obtain ⟨f1, f2⟩ := ef.mp hf
        rcases hu with ⟨hu, hc⟩ | ⟨hu, hc⟩
        · rw [if_pos hu, nm_ok, nI_1, show sch β p (40 - a) b i = b from if_neg (fun z => hc z.2.2.1)]
          exact ih n (i + 1) b γ hd (by omega) (by omega) hb
        · have hw := h.free7 hp (show i < 8 by omega) f2
          have e9 : zw_wr (zw_wr β 7 p (nI i)) 9 p (β 9 p) = zw_wr β 7 p (nI i) := wr_same rfl
          rw [if_neg (by rw [hu]; decide), ta_r9 (by omega), c_shutIn h.cp (by omega) (by omega) ha h8 (by rw [e9]; exact hw) hy, cl_ok, e9]
          by_cases hq : sopen (syears (40 - a) (zw_wr β 7 p (nI i))) (nI i) = true
          · rw [if_pos hq, z00, nm_ok, nI_1, show sch β p (40 - a) b i = b from if_neg (fun z => z.2.2.2 hq)]
            exact ih n (i + 1) b _ _ (by omega) (by omega) hb
          · rw [if_neg hq, z10, nm_ok, nI_1, show sch β p (40 - a) b i = nI i from if_pos ⟨f1, f2, hc, hq⟩]
            exact ih n (i + 1) (nI i) _ _ (by omega) (by omega) (Or.inr ⟨i, by omega, rfl⟩)
      · rw [if_neg (fun z => hf (e8.mp z)), nm_ok, nI_1, show sch β p (40 - a) b i = b from if_neg (fun z => hf (ef.mpr ⟨z.1, z.2.1⟩))]
        exact ih n (i + 1) b γ hd (by omega) (by omega) hb
    unfold m_X6_choose_73
    rw [show (8 : Int32) = nI 8 from rfl, if_neg (nI_ge (by omega) (by omega))]
    by_cases hb0 : b < 0
    · rw [if_pos hb0]
      exact st 1 (Or.inr ⟨rfl, Or.inl hb0⟩)
    · rw [if_neg hb0]
      rcases hb with hb | ⟨j, hj, hb⟩
      · exact absurd (by rw [hb]; decide) hb0
      · rw [ta_r1 (by omega), hb, ta_r1 hj]
        rw [hb] at st
        rw [nI_clamp (by omega)] at st
        by_cases hl : β 1 i ≤ β 1 j
        · rw [if_pos hl]
          exact st 0 (Or.inl ⟨rfl, fun z => by rcases z with z | z; exact absurd z (nI_pos (by omega)); grind⟩)
        · rw [if_neg hl]
          exact st 1 (Or.inr ⟨rfl, Or.inr (by grind)⟩)
theorem r_choosel (h : Wf T N y β) {p a : Nat} (hp : p < N) (ha : a ≤ 40) (h7 : β 7 p = -1) (h8 : β 8 p = nI a) (hy : y + 40 ≤ 5000) : ∀ (q n i : Nat) (b : Int32) (τ : zw_S), i + q = 8 → q < n → (b = -1 ∨ ∃ j, j < 8 ∧ b = nI j) → ∃ τ2, FM τ τ2 ∧ m_X7_choose_55 n (pm τ β) (nI p) b (nI i) = m_X7_choose_152 (pm τ2 β) (schs β p (40 - a) b i q) := by
  intro q
  have hN8 := h.N8
  induction q with
  | zero =>
    intro n i b τ hi hn hb
    obtain ⟨n, rfl⟩ : ∃ m, n = m + 1 := ⟨n - 1, by omega⟩
    refine ⟨τ, FM.refl, ?_⟩
    unfold m_X7_choose_55
    rw [show (8 : Int32) = nI 8 from rfl, if_pos (nI_le (by omega) (by omega))]
    rfl
  | succ q ih =>
    intro n i b τ hi hn hb
    obtain ⟨n, rfl⟩ : ∃ m, n = m + 1 := ⟨n - 1, by omega⟩
    have st : sopen β (nI i) = true → sbear β (nI i) < 0 → (b < 0 ∨ β 1 b.toNatClampNeg < β 1 i) → ∃ τ2, FM τ τ2 ∧ m_X7_choose_107 (m_X7_choose_55 n) (pm τ β) (nI p) b (nI i) = m_X7_choose_152 (pm τ2 β) (schs β p (40 - a) b i (q + 1)) := by
      intro f1 f2 hc
      have hw := h.free7 hp (show i < 8 by omega) f2
      have e7 : zw_wr (zw_wr β 7 p (nI i)) 7 p (-1) = β := by rw [wr_wr]; exact wr_same h7
      have b7 : ∀ (t : zw_S) (u : Int32), m_X7_choose_133 (m_X7_choose_55 n) (pm t (zw_wr β 7 p (nI i))) (nI p) (nI i) u = m_X7_choose_55 n (pm t β) (nI p) u (nI (i + 1)) := fun t u => by
        unfold m_X7_choose_133
        rw [xp0, r_wt (f := 7) (show p < 8 by omega), nm_ok, nI_1, e7]
      unfold m_X7_choose_107
      rw [schs_s, xp0, r_wt (f := 7) (show p < 8 by omega), r_shutIn hw (by omega) (by omega) ha (by rw [wr_f (by decide)]; exact h8) hy, cl_ok]
      by_cases hq : sopen (syears (40 - a) (zw_wr β 7 p (nI i))) (nI i) = true
      · obtain ⟨τ2, f3, e⟩ := ih n (i + 1) b (sv 60 τ (zw_wr β 7 p (nI i))) (by omega) (by omega) hb
        refine ⟨τ2, FM.trans (FM.fsv (Or.inl rfl)) f3, ?_⟩
        rw [if_pos hq, z00, b7, show sch β p (40 - a) b i = b from if_neg (fun z => z.2.2.2 hq), e]
      · obtain ⟨τ2, f3, e⟩ := ih n (i + 1) (nI i) (sv 60 τ (zw_wr β 7 p (nI i))) (by omega) (by omega) (Or.inr ⟨i, by omega, rfl⟩)
        refine ⟨τ2, FM.trans (FM.fsv (Or.inl rfl)) f3, ?_⟩
        rw [if_neg hq, z10, b7, show sch β p (40 - a) b i = nI i from if_pos ⟨f1, f2, hc, hq⟩, e]
    have sk : sch β p (40 - a) b i = b → ∃ τ2, FM τ τ2 ∧ m_X7_choose_55 n (pm τ β) (nI p) b (nI (i + 1)) = m_X7_choose_152 (pm τ2 β) (schs β p (40 - a) b i (q + 1)) := by
      intro e1
      obtain ⟨τ2, f3, e⟩ := ih n (i + 1) b τ (by omega) (by omega) hb
      exact ⟨τ2, f3, by rw [schs_s, e1, e]⟩
    unfold m_X7_choose_55
    rw [show (8 : Int32) = nI 8 from rfl, if_neg (nI_ge (by omega) (by omega)), r_open h, cl_ok]
    by_cases f1 : sopen β (nI i) = true
    · rw [if1 f1, z10, r_bearer h, cl_ok]
      by_cases f2 : sbear β (nI i) < 0
      · rw [if_neg (by grind)]
        by_cases hb0 : b < 0
        · rw [if_pos hb0]
          exact st f1 f2 (Or.inl hb0)
        · rw [if_neg hb0]
          rcases hb with hb | ⟨j, hj, hb⟩
          · exact absurd (by rw [hb]; decide) hb0
          · rw [xn0, r_rd (f := 1) (show i < 8 by omega), hb, xn0, r_rd (f := 1) hj]
            rw [hb] at st sk
            rw [nI_clamp (by omega)] at st
            by_cases hl : β 1 j < β 1 i
            · rw [if_pos hl]
              exact st f1 f2 (Or.inr hl)
            · rw [if_neg hl, nm_ok, nI_1]
              exact sk (if_neg (fun z => by rw [nI_clamp (by omega)] at z; rcases z.2.2.1 with z | z; exact absurd z (nI_pos (by omega)); exact hl z))
      · rw [if_pos (by grind), nm_ok, nI_1]
        exact sk (if_neg (fun z => f2 z.2.1))
    · rw [if0 f1, z00, nm_ok, nI_1]
      exact sk (if_neg (fun z => f1 z.1))
/-- what both do at the end: a number, or nothing found -/
theorem ok_N {mX mM : zw_S → Option (Int32 × zw_S)} {r : Int32} (h : Iv β σ) (hr : r < 0 ∨ 0 ≤ r) (hX : ∀ hd, ∃ γ2 hd2, mX (pk σ 1 β hd) = if 0 ≤ r then some (r, tr σ β γ2 hd2) else cl (m_X6_found (tr σ β γ2 hd2) (-1000004)) fun r3 s2 => some (r3, s2)) (hM : ∀ τ, ∃ τ2, FM τ τ2 ∧ mM (pm τ β) = if 0 ≤ r then some (r, pm τ2 β) else cl (m_X7_finds (pm τ2 β) (-1000004)) fun r3 s2 => some (r3, s2)) : Ok (mX σ) mM := by
  obtain ⟨T, N, y, hW, hy, h40⟩ := id h.2.2.1
  by_cases h0 : 0 ≤ r
  · refine ok_T (mX := mX) (mM := mM) (r := r) h (fun hd => ?_) (fun τ => ?_) h.2.2.1
    · obtain ⟨γ2, hd2, e⟩ := hX hd
      exact ⟨tr σ β γ2 hd2, by rw [e, if_pos h0], FX.ftr, gb_tr hW.cp⟩
    · obtain ⟨τ2, f, e⟩ := hM τ
      exact ⟨τ2, by rw [e, if_pos h0], f⟩
  · refine ok_TF (mX := mX) (mM := mM) (w := 3) (by decide) h (fun hd => ?_) (fun τ => ?_)
    · obtain ⟨γ2, hd2, e⟩ := hX hd
      exact ⟨tr σ β γ2 hd2, by rw [e, if_neg h0, Fw3, c_found (by decide), cl_ok], FX.ftr, gb_tr hW.cp⟩
    · obtain ⟨τ2, f, e⟩ := hM τ
      exact ⟨τ2, by rw [e, if_neg h0, Fw3, r_finds (by decide), cl_ok], f⟩
theorem r_orNone {s : zw_S} {x : Int32} : (cl (m_X7_orNone s x) fun r2 s1 => some (r2, s1)) = if 0 ≤ x then some (x, s) else cl (m_X7_finds s (-1000004)) fun r3 s2 => some (r3, s2) := by
  unfold m_X7_orNone
  by_cases h : 0 ≤ x
  · rw [if_pos h, cl_ok]
  · rw [if_neg h, Fw3, r_finds (by decide), cl_ok, cl_ok]
end T7
section O7
variable {σ τ β γ : zw_S} {T N y k : Nat} {hd : Nat → Int32}
theorem op_choose (h : Iv β σ) (a1 : Int32) : Ok (m_X6_choose σ a1) (fun τ => m_X7_choose τ a1) := by
  obtain ⟨T, N, y, hW, hy, h40⟩ := id h.2.2.1
  have hT := h_T20 hW
  have hN := h_N8 hW
  by_cases h1 : 0 ≤ a1 ∧ a1 < nI N
  · obtain ⟨p, hp, rfl⟩ := isT_o (by omega) h1
    have hp8 : p < 8 := by omega
    by_cases h2 : 0 ≤ β 7 p
    · skip
      refine ok_F (mX := fun s => m_X6_choose s (nI p)) (w := 4) (by decide) h (fun hd => ?_) (fun τ => ?_)
      · simp only [m_X6_choose, c_isName, c_isKind, c_isSheet, c_isIn, c_hasTask (k := 1) (by decide) hW, c_hasPerson (k := 1) (by decide) hW, cl_ok, cv_ok, nm_ok, z00, z10, if_true, if_false, Fw0, Fw1, Fw2, Fw3, Fw4, Fw5, Fw6, c_found (w := 0) (by decide), c_found (w := 1) (by decide), c_found (w := 2) (by decide), c_found (w := 3) (by decide), c_found (w := 4) (by decide), c_found (w := 5) (by decide), c_found (w := 6) (by decide), if1 h1, ca_r7 hp8, if_pos h2]
      · simp only [m_X7_choose, r_isName, r_isKind, r_isSheet, r_areHands, ri_m1_6, ri_0_100, ri_0_3, ri_0_39, ri_0_4, ri_0_5, ri_0_6, ri_0_60, ri_0_7, ri_0_9, ri_0_99, ri_1_4, ri_1_40, ri_1_60, ri_1_8, ri_1_9, ri_1_999, r_isTask hW, r_isPerson hW, cl_ok, cv_ok, nm_ok, z00, z10, if_true, if_false, Fw0, Fw1, Fw2, Fw3, Fw4, Fw5, Fw6, r_finds (w := 0) (by decide), r_finds (w := 1) (by decide), r_finds (w := 2) (by decide), r_finds (w := 3) (by decide), r_finds (w := 4) (by decide), r_finds (w := 5) (by decide), r_finds (w := 6) (by decide), if1 h1, r_p0 hp8, if_pos h2]
    · have gp := age40 hW hp
      by_cases h3 : β 8 p = 40
      · skip
        refine ok_F (mX := fun s => m_X6_choose s (nI p)) (w := 4) (by decide) h (fun hd => ?_) (fun τ => ?_)
        · simp only [m_X6_choose, c_isName, c_isKind, c_isSheet, c_isIn, c_hasTask (k := 1) (by decide) hW, c_hasPerson (k := 1) (by decide) hW, cl_ok, cv_ok, nm_ok, z00, z10, if_true, if_false, Fw0, Fw1, Fw2, Fw3, Fw4, Fw5, Fw6, c_found (w := 0) (by decide), c_found (w := 1) (by decide), c_found (w := 2) (by decide), c_found (w := 3) (by decide), c_found (w := 4) (by decide), c_found (w := 5) (by decide), c_found (w := 6) (by decide), if1 h1, ca_r7 hp8, if_neg h2, ca_r8 hp8, if_pos (gp.mpr h3)]
        · simp only [m_X7_choose, r_isName, r_isKind, r_isSheet, r_areHands, ri_m1_6, ri_0_100, ri_0_3, ri_0_39, ri_0_4, ri_0_5, ri_0_6, ri_0_60, ri_0_7, ri_0_9, ri_0_99, ri_1_4, ri_1_40, ri_1_60, ri_1_8, ri_1_9, ri_1_999, r_isTask hW, r_isPerson hW, cl_ok, cv_ok, nm_ok, z00, z10, if_true, if_false, Fw0, Fw1, Fw2, Fw3, Fw4, Fw5, Fw6, r_finds (w := 0) (by decide), r_finds (w := 1) (by decide), r_finds (w := 2) (by decide), r_finds (w := 3) (by decide), r_finds (w := 4) (by decide), r_finds (w := 5) (by decide), r_finds (w := 6) (by decide), if1 h1, r_p0 hp8, if_neg h2, r_p1 hp8, if_pos h3]
      · have n3 : ¬ 40 ≤ β 8 p := fun z => h3 (gp.mp z)
        have e40 : (40 : Int32) = nI 40 := rfl
        by_cases h4 : y + 40 ≤ 999
        · obtain ⟨a, ha, h8⟩ := hW.age hp
          have h7 : β 7 p = -1 := by
            rcases hW.name hp with e | ⟨z, hz, e⟩
            · exact e
            · exact absurd (by rw [e]; exact nI_pos' (by omega)) h2
          refine ok_N (mX := fun s => m_X6_choose s (nI p)) (r := schs β p (40 - a) (-1) 0 8) h (by grind) (fun hd => ?_) (fun τ => ?_)
          · obtain ⟨γ, eg⟩ := pk_tr (σ := σ) (β := β) (hd := hd)
            obtain ⟨γ2, hd2, e⟩ := c_choosel (σ := σ) hW hp ha h8 (by omega) 8 200 0 (-1) γ hd (by omega) (by omega) (Or.inl rfl)
            refine ⟨γ2, hd2, ?_⟩
            have e1 : m_X6_choose (pk σ 1 β hd) (nI p) = m_X6_choose_73 200 (pk σ 1 β hd) (nI p) (sfree β) (-1) 0 := by
              unfold m_X6_choose
              rw [c_hasPerson (by decide) hW, cl_ok, if1 h1, z10, ca_r7 hp8, if_neg h2, ca_r8 hp8, if_neg n3, e40, c_late hW hy (by omega), cl_ok, if_pos h4, z00, c_freeNames (by decide) hW, cl_ok]
            refine e1.trans ?_
            rw [eg]
            exact e
          · obtain ⟨τ2, f, e⟩ := r_choosel hW hp ha h7 h8 (by omega) 8 200 0 (-1) τ (by omega) (by omega) (Or.inl rfl)
            refine ⟨τ2, f, ?_⟩
            have e1 : m_X7_choose (pm τ β) (nI p) = m_X7_choose_55 200 (pm τ β) (nI p) (-1) 0 := by
              unfold m_X7_choose
              rw [r_isPerson hW, cl_ok, if1 h1, z10, r_p0 hp8, cl_ok, if_neg h2, r_p1 hp8, cl_ok, if_neg h3, e40, r_far hW hy (by omega), cl_ok, if_pos h4, z00]
            refine e1.trans (e.trans ?_)
            exact r_orNone
        · refine ok_F (mX := fun s => m_X6_choose s (nI p)) (w := 4) (by decide) h (fun hd => ?_) (fun τ => ?_)
          · show m_X6_choose (pk σ 1 β hd) (nI p) = _
            unfold m_X6_choose
            rw [c_hasPerson (by decide) hW, cl_ok, if1 h1, z10, ca_r7 hp8, if_neg h2, ca_r8 hp8, if_neg n3, e40, c_late hW hy (by omega), cl_ok, if_neg h4, z10, Fw4, c_found (by decide), cl_ok]
          · show m_X7_choose (pm τ β) (nI p) = _
            unfold m_X7_choose
            rw [r_isPerson hW, cl_ok, if1 h1, z10, r_p0 hp8, cl_ok, if_neg h2, r_p1 hp8, cl_ok, if_neg h3, e40, r_far hW hy (by omega), cl_ok, if_neg h4, z10, Fw4, r_finds (by decide), cl_ok]
  · skip
    refine ok_F (mX := fun s => m_X6_choose s a1) (w := 0) (by decide) h (fun hd => ?_) (fun τ => ?_)
    · simp only [m_X6_choose, c_isName, c_isKind, c_isSheet, c_isIn, c_hasTask (k := 1) (by decide) hW, c_hasPerson (k := 1) (by decide) hW, cl_ok, cv_ok, nm_ok, z00, z10, if_true, if_false, Fw0, Fw1, Fw2, Fw3, Fw4, Fw5, Fw6, c_found (w := 0) (by decide), c_found (w := 1) (by decide), c_found (w := 2) (by decide), c_found (w := 3) (by decide), c_found (w := 4) (by decide), c_found (w := 5) (by decide), c_found (w := 6) (by decide), if0 h1]
    · simp only [m_X7_choose, r_isName, r_isKind, r_isSheet, r_areHands, ri_m1_6, ri_0_100, ri_0_3, ri_0_39, ri_0_4, ri_0_5, ri_0_6, ri_0_60, ri_0_7, ri_0_9, ri_0_99, ri_1_4, ri_1_40, ri_1_60, ri_1_8, ri_1_9, ri_1_999, r_isTask hW, r_isPerson hW, cl_ok, cv_ok, nm_ok, z00, z10, if_true, if_false, Fw0, Fw1, Fw2, Fw3, Fw4, Fw5, Fw6, r_finds (w := 0) (by decide), r_finds (w := 1) (by decide), r_finds (w := 2) (by decide), r_finds (w := 3) (by decide), r_finds (w := 4) (by decide), r_finds (w := 5) (by decide), r_finds (w := 6) (by decide), if0 h1]
end O7
