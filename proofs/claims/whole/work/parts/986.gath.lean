/-! those who could get a name; what they may hope for -/
section G2
variable {σ s β γ : zw_S} {T N y k : Nat} {hd : Nat → Int32}
theorem tr_o {i : Nat} (h : 39 ≤ i) : tr σ β γ hd i = σ i := by
  unfold tr
  rw [pk_o (by omega) (by omega), pk_o (by omega) (by omega)]
theorem tr_wr {i j : Nat} {v : Int32} (h : 39 ≤ i) : zw_wr (tr σ β γ hd) i j v = tr (zw_wr σ i j v) β γ hd := by
  unfold tr
  rw [pk_wo (by omega) (by omega), pk_wo (by omega) (by omega)]
theorem tr_us {i : Nat} {g : Nat → Int32} (h : 39 ≤ i) : zw_us (tr σ β γ hd) i g = tr (zw_us σ i g) β γ hd := by
  funext c
  by_cases hc : c = i
  · subst hc
    rw [us_at, tr_o h, us_at]
  · rw [us_o hc]
    unfold tr
    funext j
    simp only [pk_ap]
    rw [us_o (show 38 ≠ i by omega), us_o hc]
theorem tr_of {F : zw_S → Option (Int32 × zw_S)} {r : Int32} (e : ∀ s, F (pk s 1 β hd) = some (r, pk s 1 β hd)) : F (tr σ β γ hd) = some (r, tr σ β γ hd) := by
  have := e (tr σ β γ hd)
  rw [← tr_pk] at this
  exact this
theorem tt_gain (h : Wf T N y β) {p n o : Nat} (hp : p < N) (ho : o < 8) (hn : n ≤ 100) : m_X1_gainOf 1 (tr σ β γ hd) (nI p) (nI o) (nI n) = some (nI (gnN β n N p (nI o)), tr σ β γ hd) := tr_of (F := fun s => m_X1_gainOf 1 s (nI p) (nI o) (nI n)) (fun s => c_gain (by decide) h hp ho hn)
theorem tt_open (h : Wf T N y β) {o : Nat} (ho : o < 8) : m_X0_isOpen 1 (tr σ β γ hd) (nI o) = some (if sopen β (nI o) = true then 1 else 0, tr σ β γ hd) := tr_of (F := fun s => m_X0_isOpen 1 s (nI o)) (fun s => c_isOpen (by decide) h ho)
theorem tt_worth (h : Wf T N y β) : m_X0_endedWorth 1 (tr σ β γ hd) = some (sworth β, tr σ β γ hd) := tr_of (F := fun s => m_X0_endedWorth 1 s) (fun s => c_endedWorth (by decide) h)
/-- who could get a name -/
def fpb (β : zw_S) (N p : Nat) : Bool := decide (p < N) && (decide (β 7 p < 0) && decide (β 8 p < 40))
/-- which name is free -/
def frb (β : zw_S) (o : Nat) : Bool := sopen β (nI o) && decide (sbear β (nI o) < 0)
/-- the list of the takers as the class keeps it -/
def Tk (s : zw_S) (L : List Nat) : Prop := s 39 7 = nI L.length ∧ ∀ j p, L[j]? = some p → s 40 j = nI p
/-- the cells 39 to 44 apart -/
def FG (σ τ : zw_S) : Prop := ∀ i, (i < 39 ∨ 45 ≤ i) → τ i = σ i
theorem FG.refl : FG σ σ := fun _ _ => rfl
theorem FG.trans {a b c : zw_S} (h1 : FG a b) (h2 : FG b c) : FG a c := fun i hi => (h2 i hi).trans (h1 i hi)
theorem FG.wr {c j : Nat} {v : Int32} (h : 39 ≤ c ∧ c ≤ 44) : FG σ (zw_wr σ c j v) := fun i hi => wr_f (by omega)
theorem FG.us {c : Nat} {g : Nat → Int32} (h : 39 ≤ c ∧ c ≤ 44) : FG σ (zw_us σ c g) := fun i hi => us_o (by omega)
theorem c_gather (h : Wf T N y β) : ∀ (q m i : Nat) (s : zw_S) (L : List Nat), i + q = N → q < m → Tk s L → L.length ≤ 4 → ∃ s2, m_X1_gather_7 1 m (tr s β γ hd) (nI i) = some (if (L ++ (List.range' i q).filter (fpb β N)).length ≤ 4 then 1 else 0, tr s2 β γ hd) ∧ FG s s2 ∧ ((L ++ (List.range' i q).filter (fpb β N)).length ≤ 4 → Tk s2 (L ++ (List.range' i q).filter (fpb β N))) := by
  intro q
  have hN := h.N8
  induction q with
  | zero =>
    intro m i s L hi hm ht hl
    obtain ⟨m, rfl⟩ : ∃ z, m = z + 1 := ⟨m - 1, by omega⟩
    refine ⟨s, ?_, FG.refl, fun _ => by simpa using ht⟩
    unfold m_X1_gather_7
    rw [ta_s (by omega), h.eN, if_pos (nI_le (by omega) (by omega)), if_pos (by simpa using hl)]
  | succ q ih =>
    intro m i s L hi hm ht hl
    obtain ⟨m, rfl⟩ : ∃ z, m = z + 1 := ⟨m - 1, by omega⟩
    obtain ⟨a, ha, h8⟩ := h.age (show i < N by omega)
    unfold m_X1_gather_7
    rw [ta_s (by omega), h.eN, if_neg (nI_ge (by omega) (by omega)), ta_r (f := 7) (n := 8) rfl (by omega), List.range'_succ, List.filter_cons]
    by_cases h7 : β 7 i < 0
    · rw [if_neg (by grind), ta_r (f := 8) (n := 8) rfl (by omega)]
      by_cases h40 : β 8 i < 40
      · rw [if_pos h40, tr_o (by omega), ht.1]
        have hf : fpb β N i = true := by
          unfold fpb
          simp [h7, h40]
          omega
        rw [if_pos hf]
        by_cases h4 : L.length < 4
        · rw [if_pos (show nI L.length < 4 from nI_lt (b := 4) h4 (by omega)), nm_ok, nm_ok, tr_wr (by omega), nI_1, wt_i (by omega) (by omega), tr_wr (by omega), nm_ok, nI_1]
          have t2 : Tk (zw_wr (zw_wr s 39 7 (nI (L.length + 1))) 40 L.length (nI i)) (L ++ [i]) := by
            refine ⟨?_, fun j p hj => ?_⟩
            · rw [wr_f (by decide), wr_at]
              simp
            · rw [List.getElem?_append] at hj
              by_cases hjl : j < L.length
              · rw [if_pos hjl] at hj
                rw [wr_j (by omega), wr_f (by decide)]
                exact ht.2 j p hj
              · rw [if_neg hjl] at hj
                by_cases hj0 : j = L.length
                · subst hj0
                  rw [Nat.sub_self] at hj
                  rw [wr_at]
                  have : i = p := by simpa using hj
                  rw [this]
                · have : ([i] : List Nat)[j - L.length]? = none := by
                    rw [List.getElem?_eq_none]
                    simp
                    omega
                  rw [this] at hj
                  exact absurd hj (by simp)
          obtain ⟨s2, e1, e2, e3⟩ := ih m (i + 1) _ (L ++ [i]) (by omega) (by omega) t2 (by simp; omega)
          rw [List.append_assoc] at e1 e3
          refine ⟨s2, e1, FG.trans (FG.trans (FG.wr (by omega)) (FG.wr (by omega))) e2, e3⟩
        · rw [if_neg (show ¬ nI L.length < 4 from nI_nlt (b := 4) (by omega) (by omega))]
          have hl4 : ¬ (L ++ i :: (List.range' (i + 1) q).filter (fpb β N)).length ≤ 4 := by
            rw [List.length_append, List.length_cons]
            omega
          exact ⟨s, by rw [if_neg hl4], FG.refl, fun z => absurd z hl4⟩
      · rw [if_neg h40, nm_ok, nI_1]
        have hf : ¬ fpb β N i = true := by
          unfold fpb
          simp [h40]
        rw [if_neg hf]
        exact ih m (i + 1) s L (by omega) (by omega) ht hl
    · rw [if_pos (by grind), nm_ok, nI_1]
      have hf : ¬ fpb β N i = true := by
        unfold fpb
        simp [h7]
      rw [if_neg hf]
      exact ih m (i + 1) s L (by omega) (by omega) ht hl
/-- the takers -/
def tks (β : zw_S) (N : Nat) : List Nat := (List.range' 0 N).filter (fpb β N)
theorem tks_fl (hN : N ≤ 8) : fl (fpb β N) 0 = tks β N := by
  unfold fl tks
  have e : List.range' 0 8 = List.range' 0 N ++ List.range' N (8 - N) := by
    have := List.range'_append (s := 0) (m := N) (n := 8 - N) (step := 1)
    rw [Nat.one_mul, Nat.zero_add, show N + (8 - N) = 8 by omega] at this
    exact this.symm
  rw [show 8 - 0 = 8 from rfl, e, List.filter_append]
  have e2 : (List.range' N (8 - N)).filter (fpb β N) = [] := by
    rw [List.filter_eq_nil_iff]
    intro p hp
    have := (List.mem_range'_1.mp hp).1
    unfold fpb
    simp
    omega
  rw [e2, List.append_nil]
theorem tks_m {p : Nat} (h : p ∈ tks β N) : p < N ∧ β 7 p < 0 ∧ β 8 p < 40 := by
  unfold tks at h
  have := (List.mem_filter.mp h).2
  unfold fpb at this
  simpa using this
theorem tks_nd : (tks β N).Nodup := List.Pairwise.filter _ (List.nodup_range' (s := 0) (n := N))
theorem c_gather0 (h : Wf T N y β) : ∃ s2, m_X1_gather 1 (tr s β γ hd) = some (if (tks β N).length ≤ 4 then 1 else 0, tr s2 β γ hd) ∧ FG s s2 ∧ ((tks β N).length ≤ 4 → Tk s2 (tks β N)) := by
  have hN := h.N8
  unfold m_X1_gather
  rw [nm_ok, tr_wr (by omega)]
  obtain ⟨s2, e1, e2, e3⟩ := c_gather (γ := γ) (hd := hd) h N 200 0 (zw_wr s 39 7 0) [] (by omega) (by omega) ⟨wr_at, fun j p hj => absurd hj (by simp)⟩ (by simp)
  rw [List.nil_append] at e1 e3
  exact ⟨s2, e1, FG.trans (FG.wr (by omega)) e2, e3⟩
def gnb (β : zw_S) (n N p o : Nat) : Nat := if frb β o = true then gnN β n N p (nI o) else 0
def hmx (g : Nat → Nat) (a i q : Nat) : Nat := (List.range' i q).foldl (fun a o => max a (g o)) a
theorem hmx_s {g : Nat → Nat} {a i q : Nat} : hmx g a i (q + 1) = hmx g (max a (g i)) (i + 1) q := by
  unfold hmx
  rw [List.range'_succ, List.foldl_cons]
theorem hmx_a {g : Nat → Nat} : ∀ (q i a : Nat), a ≤ hmx g a i q := by
  intro q
  induction q with
  | zero => intro i a; exact Nat.le_refl _
  | succ q ih => intro i a; rw [hmx_s]; have := ih (i + 1) (max a (g i)); omega
theorem hmx_g {g : Nat → Nat} {o : Nat} : ∀ (q i a : Nat), i ≤ o → o < i + q → g o ≤ hmx g a i q := by
  intro q
  induction q with
  | zero => intro i a h1 h2; omega
  | succ q ih =>
    intro i a h1 h2
    rw [hmx_s]
    by_cases h : o = i
    · subst h
      have := hmx_a (g := g) q (o + 1) (max a (g o))
      omega
    · exact ih (i + 1) _ (by omega) (by omega)
theorem hmx_b {g : Nat → Nat} {B : Nat} (h : ∀ o, g o ≤ B) : ∀ (q i a : Nat), a ≤ B → hmx g a i q ≤ B := by
  intro q
  induction q with
  | zero => intro i a ha; exact ha
  | succ q ih => intro i a ha; rw [hmx_s]; exact ih (i + 1) _ (by have := h i; omega)
def hpb (β : zw_S) (n N p : Nat) : Nat := hmx (gnb β n N p) 0 0 8
theorem frb_bt (h : Wf T N y β) {o : Nat} (ho : o < 8) : bt (sfree β) o = frb β o := by
  have e := sfree_bt h ho
  unfold frb
  by_cases hb : bt (sfree β) o = true
  · rw [hb]
    obtain ⟨e1, e2⟩ := e.mp hb
    simp [e1, e2]
  · have : ¬ (sopen β (nI o) = true ∧ sbear β (nI o) < 0) := fun z => hb (e.mpr z)
    have hb2 : bt (sfree β) o = false := by simpa using hb
    rw [hb2]
    symm
    by_cases h1 : sopen β (nI o) = true
    · have h2 : ¬ sbear β (nI o) < 0 := fun z => this ⟨h1, z⟩
      simp [h2]
    · simp [h1]
theorem c_fg34 (h : Wf T N y β) {n i p : Nat} (hn : n ≤ 100) (hi : i < 4) (hp : p < N) {R : zw_S → Int32 → Int32 → Int32 → Option zw_S} : ∀ (q m o a : Nat) (s : zw_S), o + q = 8 → q < m → s 40 i = nI p → a < 1000 → ∃ s2, m_X1_findGains_34 1 R m (tr s β γ hd) (nI n) (sfree β) (nI i) (nI a) (nI o) = m_X1_findGains_101 1 R (tr s2 β γ hd) (nI n) (sfree β) (nI i) (nI (hmx (gnb β n N p) a o q)) ∧ (∀ c, c ≠ 43 → s2 c = s c) ∧ (∀ j, s2 43 j = if i * 8 + o ≤ j ∧ j < i * 8 + 8 then nI (gnb β n N p (j - i * 8)) else s 43 j) := by
  intro q
  induction q with
  | zero =>
    intro m o a s ho hm hs ha
    obtain ⟨m, rfl⟩ : ∃ z, m = z + 1 := ⟨m - 1, by omega⟩
    refine ⟨s, ?_, fun _ _ => rfl, fun j => by rw [if_neg (by omega)]⟩
    unfold m_X1_findGains_34
    rw [show (8 : Int32) = nI 8 from rfl, if_pos (nI_le (by omega) (by omega))]
    rfl
  | succ q ih =>
    intro m o a s ho hm hs ha
    obtain ⟨m, rfl⟩ : ∃ z, m = z + 1 := ⟨m - 1, by omega⟩
    have gb1 := gnN_b h (p := p) (n := n) (show o < 8 by omega)
    have gb2 : gnb β n N p o ≤ 99 := by
      unfold gnb
      split <;> omega
    have st : ∃ s2, m_X1_findGains_69 1 R (m_X1_findGains_34 1 R m) (tr s β γ hd) (nI n) (sfree β) (nI i) (nI a) (nI o) (nI (gnb β n N p o)) = m_X1_findGains_101 1 R (tr s2 β γ hd) (nI n) (sfree β) (nI i) (nI (hmx (gnb β n N p) a o (q + 1))) ∧ (∀ c, c ≠ 43 → s2 c = s c) ∧ (∀ j, s2 43 j = if i * 8 + o ≤ j ∧ j < i * 8 + 8 then nI (gnb β n N p (j - i * 8)) else s 43 j) := by
      obtain ⟨s2, e1, e2, e3⟩ := ih m (o + 1) (max a (gnb β n N p o)) (zw_wr s 43 (i * 8 + o) (nI (gnb β n N p o))) (by omega) (by omega) (by rw [wr_f (by decide)]; exact hs) (by omega)
      refine ⟨s2, ?_, fun c hc => by rw [e2 c hc, wr_f hc], fun j => ?_⟩
      · unfold m_X1_findGains_69
        rw [show (8 : Int32) = nI 8 from rfl, pk_mul, nI_add, wt_i (by omega) (by omega), tr_wr (by omega), nm_ok, zmax_nI (by omega) (by omega), nm_ok, nI_1, e1, hmx_s]
      · rw [e3 j]
        by_cases hj : i * 8 + (o + 1) ≤ j ∧ j < i * 8 + 8
        · rw [if_pos hj, if_pos (by omega)]
        · rw [if_neg hj]
          by_cases hj2 : j = i * 8 + o
          · subst hj2
            rw [wr_at, if_pos (by omega), show i * 8 + o - i * 8 = o by omega]
          · rw [wr_j hj2, if_neg (by omega)]
    unfold m_X1_findGains_34
    rw [show (8 : Int32) = nI 8 from rfl, if_neg (nI_ge (by omega) (by omega))]
    have eb := b_is (x := sfree β) (show o < 32 by omega)
    rw [frb_bt h (show o < 8 by omega)] at eb
    by_cases hf : frb β o = true
    · rw [if_pos (eb.mpr hf), rd_i (by omega) (by omega), tr_o (by omega), hs, tt_gain h hp (by omega) hn, cl_ok]
      rw [show gnb β n N p o = gnN β n N p (nI o) from if_pos hf] at st
      exact st
    · rw [if_neg (fun z => hf (eb.mp z))]
      rw [show gnb β n N p o = 0 from if_neg hf] at st
      exact st
def Gn (β : zw_S) (n N : Nat) (ts : List Nat) (q : Nat) (s : zw_S) : Prop := (∀ i, q ≤ i → i ≤ ts.length → s 44 i = nI (ls (hpb β n N) (ts.drop i))) ∧ (∀ i p o, q ≤ i → ts[i]? = some p → o < 8 → s 43 (i * 8 + o) = nI (gnb β n N p o))
theorem c_fg23 (h : Wf T N y β) {n : Nat} {ts : List Nat} (hn : n ≤ 100) (hl : ts.length ≤ 4) (hts : ∀ p, p ∈ ts → p < N) : ∀ (q m : Nat) (s : zw_S), q < m → q ≤ ts.length → Tk s ts → Gn β n N ts q s → ∃ s2, m_X1_findGains_23 1 m (tr s β γ hd) (nI n) (sfree β) (nI q - 1) = some (tr s2 β γ hd) ∧ (∀ c, c ≠ 43 → c ≠ 44 → s2 c = s c) ∧ Gn β n N ts 0 s2 := by
  intro q
  induction q with
  | zero =>
    intro m s hm hq ht hg
    obtain ⟨m, rfl⟩ : ∃ z, m = z + 1 := ⟨m - 1, by omega⟩
    refine ⟨s, ?_, fun _ _ _ => rfl, hg⟩
    unfold m_X1_findGains_23
    rw [if_pos (by decide)]
  | succ q ih =>
    intro m s hm hq ht hg
    obtain ⟨m, rfl⟩ : ∃ z, m = z + 1 := ⟨m - 1, by omega⟩
    have hp : ts[q]? = some ts[q] := List.getElem?_eq_getElem (by omega)
    obtain ⟨s2, e1, e2, e3⟩ := c_fg34 (γ := γ) (hd := hd) (R := m_X1_findGains_23 1 m) h hn (show q < 4 by omega) (hts ts[q] (List.getElem_mem _)) 8 200 0 0 s (by omega) (by omega) (ht.2 q _ hp) (by omega)
    have ed : ts.drop q = ts[q] :: ts.drop (q + 1) := List.drop_eq_getElem_cons (by omega)
    have g44 : s2 44 (q + 1) = nI (ls (hpb β n N) (ts.drop (q + 1))) := by
      rw [e2 44 (by decide)]
      exact hg.1 (q + 1) (by omega) (by omega)
    obtain ⟨s3, f1, f2, f3⟩ := ih m (zw_wr s2 44 q (nI (ls (hpb β n N) (ts.drop q)))) (by omega) (by omega) ⟨by rw [wr_f (by decide), e2 39 (by decide)]; exact ht.1, fun j p hj => by rw [wr_f (by decide), e2 40 (by decide)]; exact ht.2 j p hj⟩ ⟨fun i h1 h2 => by
        by_cases hi : i = q
        · subst hi
          rw [wr_at]
        · rw [wr_j hi, e2 44 (by decide)]
          exact hg.1 i (by omega) h2, fun i p o h1 h2 h3 => by
        rw [wr_f (by decide), e3]
        by_cases hi : i = q
        · subst hi
          rw [hp] at h2
          have := Option.some.inj h2
          subst this
          rw [if_pos (by omega), show i * 8 + o - i * 8 = o by omega]
        · rw [if_neg (by omega)]
          exact hg.2 i p o (by omega) h2 h3⟩
    refine ⟨s3, ?_, fun c h1 h2 => by rw [f2 c h1 h2, wr_f h2, e2 c h1], f3⟩
    unfold m_X1_findGains_23
    rw [nI_pred, if_neg (nI_pos (by omega))]
    have e1' := e1
    rw [show nI 0 = (0 : Int32) from rfl] at e1'
    rw [e1']
    unfold m_X1_findGains_101
    rw [nI_1, rd_i (by omega) (by omega), tr_o (by omega), g44, wt_i (by omega) (by omega), tr_wr (by omega), nm_ok, dn1, nI_add]
    rw [ed] at f1
    rw [show ls (hpb β n N) (ts[q] :: ts.drop (q + 1)) = hpb β n N ts[q] + ls (hpb β n N) (ts.drop (q + 1)) from rfl] at f1
    rw [Nat.add_comm]
    exact f1
theorem c_find (h : Wf T N y β) {n : Nat} {ts : List Nat} (hn : n ≤ 100) (hl : ts.length ≤ 4) (hts : ∀ p, p ∈ ts → p < N) (ht : Tk s ts) : ∃ s2, m_X1_findGains 1 (tr s β γ hd) (nI n) = some (tr s2 β γ hd) ∧ (∀ c, c ≠ 43 → c ≠ 44 → s2 c = s c) ∧ Gn β n N ts 0 s2 := by
  unfold m_X1_findGains
  rw [tt_free h, cl_ok, tr_o (by omega), ht.1, wt_i (by omega) (by omega), tr_wr (by omega), nm_ok, tr_o (by omega), wr_f (by decide), ht.1]
  obtain ⟨s2, e1, e2, e3⟩ := c_fg23 (γ := γ) (hd := hd) h hn hl hts ts.length 200 (zw_wr s 44 ts.length 0) (by omega) (by omega) ⟨by rw [wr_f (by decide)]; exact ht.1, fun j p hj => by rw [wr_f (by decide)]; exact ht.2 j p hj⟩ ⟨fun i h1 h2 => by
      have : i = ts.length := by omega
      subst this
      rw [wr_at, List.drop_length]
      rfl, fun i p o h1 h2 h3 => by
      have := (List.getElem?_eq_some_iff.mp h2).1
      omega⟩
  exact ⟨s2, e1, fun c h1 h2 => by rw [e2 c h1 h2, wr_f h2], e3⟩
theorem c_beginl (h : Wf T N y β) {n : Nat} (hn : n ≤ 100) : ∀ (q m i a : Nat) (s : zw_S), i + q = N → q < m → s 39 8 = nI a → m_X1_begin_21 1 m (tr s β γ hd) (nI n) (nI i) = some (tr (zw_wr s 39 8 (nI (a + sm (cN β n N) q i))) β γ hd) := by
  intro q
  have hN := h.N8
  induction q with
  | zero =>
    intro m i a s hi hm hs
    obtain ⟨m, rfl⟩ : ∃ z, m = z + 1 := ⟨m - 1, by omega⟩
    unfold m_X1_begin_21
    rw [ta_s (by omega), h.eN, if_pos (nI_le (by omega) (by omega)), show sm (cN β n N) 0 i = 0 from rfl, Nat.add_zero, wr_same hs]
  | succ q ih =>
    intro m i a s hi hm hs
    obtain ⟨m, rfl⟩ : ∃ z, m = z + 1 := ⟨m - 1, by omega⟩
    unfold m_X1_begin_21
    rw [ta_s (by omega), h.eN, if_neg (nI_ge (by omega) (by omega)), ta_r (f := 7) (n := 8) rfl (by omega), show sm (cN β n N) (q + 1) i = cN β n N i + sm (cN β n N) q (i + 1) from rfl]
    by_cases h7 : β 7 i < 0
    · rw [if_pos h7, nm_ok, nI_1, ih m (i + 1) a s (by omega) (by omega) hs, show cN β n N i = 0 from if_neg (fun z => z.1 h7), Nat.zero_add]
    · rw [if_neg h7, ta_r (f := 7) (n := 8) rfl (by omega)]
      rcases h.name (show i < N by omega) with e | ⟨o, ho, e⟩
      · exact absurd (by rw [e]; decide) h7
      · rw [e, tt_open h ho, cl_ok]
        by_cases hs2 : sopen β (nI o) = true
        · rw [if1 hs2, z10, ta_r (f := 7) (n := 8) rfl (by omega), e, tt_gain h (by omega) ho hn, cl_ok, nm_ok, tr_o (by omega), hs, tr_wr (by omega), nm_ok, nI_1, nI_add, ih m (i + 1) _ _ (by omega) (by omega) wr_at, wr_wr, show cN β n N i = gnN β n N i (nI o) from by unfold cN; rw [e, if_pos ⟨nI_pos (by omega), hs2⟩], Nat.add_assoc]
        · rw [if0 hs2, z00, nm_ok, nI_1, ih m (i + 1) a s (by omega) (by omega) hs, show cN β n N i = 0 from by unfold cN; rw [e, if_neg (fun z => hs2 z.2)], Nat.zero_add]
theorem c_begin (h : Wf T N y β) {n : Nat} {ts : List Nat} (hn : n ≤ 100) (hl : ts.length ≤ 4) (hts : ∀ p, p ∈ ts → p < N) (ht : Tk s ts) : ∃ s2, m_X1_begin 1 (tr s β γ hd) (nI n) = some (tr s2 β γ hd) ∧ FG s s2 ∧ Tk s2 ts ∧ Gn β n N ts 0 s2 ∧ s2 39 9 = -1 ∧ s2 39 8 = nI (sWN β + sm (cN β n N) N 0) := by
  have hN := h.N8
  unfold m_X1_begin
  rw [nm_ok, tr_wr (by omega)]
  obtain ⟨s2, e1, e2, e3⟩ := c_find (γ := γ) (hd := hd) (s := zw_wr s 39 9 (-1)) h hn hl hts ⟨by rw [wr_j (by decide)]; exact ht.1, fun j p hj => by rw [wr_f (by decide)]; exact ht.2 j p hj⟩
  rw [e1, cv_ok, tt_worth h, cl_ok, nm_ok, tr_wr (by omega), sworth_n h]
  refine ⟨zw_wr s2 39 8 (nI (sWN β + sm (cN β n N) N 0)), ?_, ?_, ?_, ?_, ?_, wr_at⟩
  · have := c_beginl (γ := γ) (hd := hd) h hn N 200 0 (sWN β) (zw_wr s2 39 8 (nI (sWN β))) (by omega) (by omega) wr_at
    rw [wr_wr] at this
    exact this
  · intro c hc
    rw [wr_f (by omega), e2 c (by omega) (by omega), wr_f (by omega)]
  · refine ⟨by rw [wr_j (by decide), e2 39 (by decide) (by decide), wr_j (by decide)]; exact ht.1, fun j p hj => ?_⟩
    rw [wr_f (by decide), e2 40 (by decide) (by decide), wr_f (by decide)]
    exact ht.2 j p hj
  · exact ⟨fun i h1 h2 => by rw [wr_f (by decide)]; exact e3.1 i h1 h2, fun i p o h1 h2 h3 => by rw [wr_f (by decide)]; exact e3.2 i p o h1 h2 h3⟩
  · rw [wr_j (by decide), e2 39 (by decide) (by decide), wr_at]
end G2
