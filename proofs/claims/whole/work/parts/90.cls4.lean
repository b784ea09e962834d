section C4
variable {σ β : zw_S} {T N y k : Nat} {hd : Nat → Int32}
theorem sgrow_b (h : Wf T N y β) {t : Nat} (ht : t < T) : ∃ g, g ≤ 100 ∧ sgrow β t = nI g := by
  obtain ⟨a, ha, e⟩ := h.hrs ht
  unfold sgrow
  rw [e, tenth (by omega), nI_1]
  split
  · exact ⟨0, by omega, rfl⟩
  · split
    · exact ⟨a / 10, by omega, rfl⟩
    · split
      · exact ⟨a / 10 + 1, by omega, rfl⟩
      · split
        · split
          · exact ⟨0, by omega, rfl⟩
          · exact ⟨1, by omega, rfl⟩
        · exact ⟨0, by omega, rfl⟩
theorem zmin_held {a g : Nat} (ha : a < 1000) (hg : g ≤ 100) : zmin 999 (nI a + nI g) = sheld (nI a + nI g) := by
  unfold zmin sheld
  rw [nI_add, if_pos (nI_pos' (by omega)), show (999 : Int32) = nI 999 from rfl]
  by_cases h : nI (a + g) ≤ nI 999
  · rw [if_pos h]
    by_cases h2 : nI (a + g) < nI 999
    · rw [if_pos h2]
    · rw [if_neg h2]
      grind
  · rw [if_neg h, if_neg (by grind)]
theorem y3_same (h : Wf T N y β) {t : Nat} (ht : t < T) (hg : sgrow β t = 0) : y3 β t = β := by
  obtain ⟨a, ha, e⟩ := h.hrs ht
  unfold y3
  apply wr_same
  rw [hg, e]
  unfold sheld
  rw [Int32.add_zero, if_pos (nI_pos' (by omega)), show (999 : Int32) = nI 999 from rfl, if_pos (nI_le (by omega) (by omega))]
theorem c_tasksGrow (hk : k + 12 ≤ 38) (h : Wf T N y β) : m_X5_tasksGrow k (pk σ k β (hands β)) = some (pk σ k (sfold y3 β 0 T) (hands (sfold y3 β 0 T))) := by
  have hT := h.T20
  have key : ∀ q n i (b : zw_S), Wf T N y b → i + q = T → q < n → m_X5_tasksGrow_2 k n (pk σ k b (hands b)) (nI i) = some (pk σ k (sfold y3 b i q) (hands (sfold y3 b i q))) := by
    intro q
    induction q with
    | zero =>
      intro n i b hb hi hn
      obtain ⟨n, rfl⟩ : ∃ m, n = m + 1 := ⟨n - 1, by omega⟩
      unfold m_X5_tasksGrow_2
      rw [pk_s hk (by omega), hb.eT, if_pos (nI_le (by omega) (by omega)), sfold_0]
    | succ q ih =>
      intro n i b hb hi hn
      obtain ⟨n, rfl⟩ : ∃ m, n = m + 1 := ⟨n - 1, by omega⟩
      unfold m_X5_tasksGrow_2
      rw [pk_s hk (by omega), hb.eT, if_neg (nI_ge (by omega) (by omega)), c_r5 hk (by omega), sfold_s]
      by_cases h5 : b 5 i ≤ 0
      · rw [if_pos h5, nm_ok, nI_1, y3_same hb (by omega) (by simp [sgrow, (hrs_le hb (show i < T by omega)).mp h5])]
        exact ih n (i + 1) b hb (by omega) (by omega)
      · rw [if_neg h5, c_r3 hk (by omega)]
        by_cases h3 : b 3 i = 0
        · rw [if_pos h3, nm_ok, nI_1, y3_same hb (by omega) (by unfold sgrow; rw [h3]; grind)]
          exact ih n (i + 1) b hb (by omega) (by omega)
        · obtain ⟨a, ha, e⟩ := hb.hrs (t := i) (by omega)
          obtain ⟨g, hg, eg⟩ := sgrow_b hb (t := i) (by omega)
          have hW := hb.wy3 (t := i) (by omega)
          have hy : y3 b i = zw_wr b 5 i (sheld (b 5 i + sgrow b i)) := rfl
          rw [if_neg h3, c_r5 hk (by omega), c_growthOf hk hb (by omega), cl_ok, c_w5 hk (by omega), e, eg, zmin_held ha hg, nm_ok, nI_1]
          rw [hy, e, eg] at hW ⊢
          have hne : b 5 i ≠ 0 := by grind
          have hv : sheld (nI a + nI g) ≠ 0 := by
            rw [nI_add]
            unfold sheld
            have ha0 : a ≠ 0 := by
              intro z
              rw [e, z] at hne
              exact hne rfl
            rw [if_pos (nI_pos' (by omega))]
            split
            · exact nI_ne0 (by omega) (by omega)
            · decide
          have := hands_w5 (β := b) (t := i) hne hv
          rw [← this]
          exact ih n (i + 1) _ hW (by omega) (by omega)
  unfold m_X5_tasksGrow
  exact key T 200 0 β h (by omega) (by omega)
theorem c_addTask (hk : k + 12 ≤ 38) (h : Wf T N y β) (a b c d : Int32) : m_X0_addTask k (pk σ k β hd) a b c d = if T < 20 then some (nI T, pk σ k (scome β a b c d) hd) else some (-1, pk σ k β hd) := by
  unfold m_X0_addTask
  rw [pk_s hk (by omega), h.eT]
  by_cases hT : T < 20
  · rw [if_pos (by rw [show (20 : Int32) = nI 20 from rfl]; exact nI_lt hT (by omega)), if_pos hT, c_w3 hk hT, pk_s hk (by omega), wr_f (show (0 : Nat) ≠ 3 by decide), h.eT, c_w4 hk hT, pk_s hk (by omega), wr_f (show (0 : Nat) ≠ 4 by decide), wr_f (show (0 : Nat) ≠ 3 by decide), h.eT, c_w5 hk hT, pk_s hk (by omega), wr_f (show (0 : Nat) ≠ 5 by decide), wr_f (show (0 : Nat) ≠ 4 by decide), wr_f (show (0 : Nat) ≠ 3 by decide), h.eT, c_w6 hk hT, pk_s hk (by omega), wr_f (show (0 : Nat) ≠ 6 by decide), wr_f (show (0 : Nat) ≠ 5 by decide), wr_f (show (0 : Nat) ≠ 4 by decide), wr_f (show (0 : Nat) ≠ 3 by decide), h.eT, nm_ok, nm_ok, pk_ws hk (by omega)]
    unfold scome
    rw [h.hT, h.eT]
  · have hT20 := h.T20
    rw [if_neg (by rw [show (20 : Int32) = nI 20 from rfl]; exact nI_nlt (by omega) (by omega)), if_neg hT]
theorem c_leave (hk : k + 12 ≤ 38) (h : Wf T N y β) {p : Nat} (hp : p < N) (h7 : ¬ β 7 p < 0) : m_X5_leave k (pk σ k β (hands β)) (nI p) = some (pk σ k (sleave β p) (hands (sleave β p))) := by
  have hN := h.N8
  have hT := h.T20
  rcases h.name hp with h1 | ⟨o, ho, h1⟩
  · exact absurd (by rw [h1]; decide) h7
  · have hg : sgone β p = zw_wr (zw_wr β 7 p (-1)) 2 o (β 2 o + 1) := by
      unfold sgone
      rw [h1, nI_clamp (by omega)]
    have hW : Wf T N y (sgone β p) := by
      rw [hg]
      exact (h.w7 (by omega)).w2 ho
    have hhg : hands (sgone β p) = hands β := by
      rw [hg]
      exact hands_congr (fun j => rfl) rfl rfl rfl
    have e5 : sgone β p 0 2 = β 0 2 := by rw [hg]; rfl
    obtain ⟨T2, hT2, hW2⟩ := h.leave hp h7
    unfold m_X5_leave
    rw [c_r7 hk (by omega), h1, c_w7 hk (by omega), c_r2 hk (by omega), c_w2 hk (by omega), wr_f (show (2 : Nat) ≠ 7 by decide), ← hg, c_isOpen hk hW ho, cl_ok]
    have hsl : sleave β p = if sopen (sgone β p) (nI o) = true then (if 20 ≤ β 0 2 then sgone β p else scome (sgone β p) 0 (nI o) 5 (-1)) else sgone β p := by
      unfold sleave
      rw [h1]
    rw [hsl] at hW2 ⊢
    by_cases ho2 : sopen (sgone β p) (nI o) = true
    · rw [if_pos ho2] at hW2 ⊢
      rw [if_pos ho2, if_neg (by decide), c_addTask hk hW]
      by_cases h20 : T < 20
      · have hn20 : ¬ 20 ≤ β 0 2 := by
          rw [h.eT, show (20 : Int32) = nI 20 from rfl, nI_leI (by omega) (by omega)]
          omega
        rw [if_neg hn20] at hW2 ⊢
        rw [if_pos h20, cl_ok, c_findHands hk hW2, cv_ok]
      · have hn20 : 20 ≤ β 0 2 := by
          rw [h.eT, show (20 : Int32) = nI 20 from rfl, nI_leI (by omega) (by omega)]
          omega
        rw [if_pos hn20] at hW2 ⊢
        rw [if_neg h20, cl_ok, c_findHands hk hW2, cv_ok]
    · rw [if_neg ho2] at hW2 ⊢
      rw [if_neg ho2, if_pos rfl, hhg]
/-- ageing and leaving in one -/
def y45 (β : zw_S) (p : Nat) : zw_S := y5 (y4 β p) p
theorem y4_y5 {p q : Nat} (hpq : p ≠ q) : y4 (y5 β p) q = y5 (y4 β q) p := by
  have e8 : ∀ (b : zw_S), (y4 b q) 8 p = b 8 p := fun b => wr_j hpq
  have e7 : ∀ (b : zw_S), (y4 b q) 7 = b 7 := fun b => wr_f (by decide)
  have h8 : ∀ b : zw_S, (sleave b p) 8 = b 8 := by
    intro b
    unfold sleave
    split
    · split <;> rfl
    · rfl
  have hso : ∀ (b : zw_S) (v : Int32), sleave (zw_wr b 8 q v) p = zw_wr (sleave b p) 8 q v := by
    intro b v
    have hc : ∀ (f i : Nat) (w : Int32), f ≠ 8 → zw_wr (zw_wr b 8 q v) f i w = zw_wr (zw_wr b f i w) 8 q v := by
      intro f i w hf
      funext a c
      simp only [wr_ap]
      grind
    have hcom : ∀ (b : zw_S) (f i : Nat) (w : Int32), f ≠ 8 → zw_wr (zw_wr b 8 q v) f i w = zw_wr (zw_wr b f i w) 8 q v := by
      intro b f i w hf
      funext a c
      simp only [wr_ap]
      grind
    have hg : sgone (zw_wr b 8 q v) p = zw_wr (sgone b p) 8 q v := by
      unfold sgone
      rw [wr_f (show (7 : Nat) ≠ 8 by decide), wr_f (show (2 : Nat) ≠ 8 by decide), hcom _ 7 _ _ (by decide), hcom _ 2 _ _ (by decide)]
    unfold sleave
    rw [hg, wr_f (show (7 : Nat) ≠ 8 by decide), wr_f (show (0 : Nat) ≠ 8 by decide)]
    have hop : ∀ x, sopen (zw_wr (sgone b p) 8 q v) x = sopen (sgone b p) x := fun x => rfl
    rw [hop]
    split
    · split
      · rfl
      · unfold scome
        have : tn (zw_wr (sgone b p) 8 q v) = tn (sgone b p) := rfl
        rw [this, wr_f (show (0 : Nat) ≠ 8 by decide), hcom _ 3 _ _ (by decide), hcom _ 4 _ _ (by decide), hcom _ 5 _ _ (by decide), hcom _ 6 _ _ (by decide), hcom _ 0 _ _ (by decide)]
    · rfl
  unfold y5
  rw [e8, e7]
  split
  · split
    · rfl
    · unfold y4
      rw [h8, hso]
  · rfl
theorem fold45 : ∀ (q i : Nat) (b : zw_S), sfold y5 (sfold y4 b i q) i q = sfold y45 b i q := by
  intro q
  have hc : ∀ (q i p : Nat) (b : zw_S), p < i → sfold y4 (y5 b p) i q = y5 (sfold y4 b i q) p := by
    intro q
    induction q with
    | zero => intro i p b _; rfl
    | succ q ih =>
      intro i p b hp
      rw [sfold_s, sfold_s, y4_y5 (by omega), ih (i + 1) p _ (by omega)]
  induction q with
  | zero => intro i b; rfl
  | succ q ih =>
    intro i b
    rw [sfold_s, sfold_s, sfold_s, ← hc q (i + 1) i _ (by omega), ih]
    rfl
theorem c_personsAge (hk : k + 12 ≤ 38) (h : Wf T N y β) : m_X5_personsAge k (pk σ k β (hands β)) = some (pk σ k (sfold y45 β 0 N) (hands (sfold y45 β 0 N))) := by
  have hN := h.N8
  have key : ∀ q n i T (b : zw_S), Wf T N y b → i + q = N → q < n → m_X5_personsAge_2 k n (pk σ k b (hands b)) (nI i) = some (pk σ k (sfold y45 b i q) (hands (sfold y45 b i q))) := by
    intro q
    induction q with
    | zero =>
      intro n i T b hb hi hn
      obtain ⟨n, rfl⟩ : ∃ m, n = m + 1 := ⟨n - 1, by omega⟩
      unfold m_X5_personsAge_2
      rw [pk_s hk (by omega), hb.eN, if_pos (nI_le (by omega) (by omega)), sfold_0]
    | succ q ih =>
      intro n i T b hb hi hn
      obtain ⟨n, rfl⟩ : ∃ m, n = m + 1 := ⟨n - 1, by omega⟩
      have hW4 := hb.wy4 (p := i) (by omega)
      obtain ⟨T2, -, hW5⟩ := hW4.wy5 (p := i) (by omega)
      have hy4 : y4 b i = zw_wr b 8 i (if 40 ≤ b 8 i then b 8 i else b 8 i + 1) := rfl
      have hh4 : hands (y4 b i) = hands b := hands_congr (fun j => rfl) rfl rfl rfl
      have h31 : m_X5_personsAge_31 k (m_X5_personsAge_2 k n) (pk σ k (y4 b i) (hands (y4 b i))) (nI i) = some (pk σ k (sfold y45 (y45 b i) (i + 1) q) (hands (sfold y45 (y45 b i) (i + 1) q))) := by
        unfold m_X5_personsAge_31
        obtain ⟨a, ha, ea⟩ := hW4.age (p := i) (by omega)
        have hy : y45 b i = if y4 b i 8 i = 40 then (if y4 b i 7 i < 0 then y4 b i else sleave (y4 b i) i) else y4 b i := rfl
        have hW5' : Wf T2 N y (y45 b i) := hW5
        rw [c_r8 hk (by omega)]
        by_cases h40 : y4 b i 8 i < 40
        · rw [if_pos h40, nm_ok, nI_1]
          rw [hy, if_neg (by grind)] at hW5' ⊢
          exact ih n (i + 1) T2 _ hW5' (by omega) (by omega)
        · have e40 : y4 b i 8 i = 40 := by
            rw [ea, show (40 : Int32) = nI 40 from rfl, nI_ltI (by omega) (by omega)] at h40
            rw [ea, show (40 : Int32) = nI 40 from rfl, nI_eq (by omega) (by omega)]
            omega
          rw [if_neg h40, c_r7 hk (by omega)]
          rw [hy, if_pos e40] at hW5' ⊢
          by_cases h7 : y4 b i 7 i < 0
          · rw [if_pos h7, nm_ok, nI_1]
            rw [if_pos h7] at hW5' ⊢
            exact ih n (i + 1) T2 _ hW5' (by omega) (by omega)
          · rw [if_neg h7, c_leave hk hW4 (by omega) h7, cv_ok, nm_ok, nI_1]
            rw [if_neg h7] at hW5' ⊢
            exact ih n (i + 1) T2 _ hW5' (by omega) (by omega)
      unfold m_X5_personsAge_2
      rw [pk_s hk (by omega), hb.eN, if_neg (nI_ge (by omega) (by omega)), c_r8 hk (by omega), sfold_s]
      by_cases h40 : 40 ≤ b 8 i
      · rw [if_pos h40]
        rw [if_pos h40, wr_same rfl] at hy4
        rw [hy4] at h31
        exact h31
      · rw [if_neg h40, c_r8 hk (by omega), c_w8 hk (by omega)]
        rw [if_neg h40] at hy4
        rw [← hy4, ← hh4]
        exact h31
  unfold m_X5_personsAge
  exact key N 200 0 T β h (by omega) (by omega)
def syears : Nat → zw_S → zw_S
  | 0, β => β
  | n + 1, β => syears n (syear β)
theorem syear_45 : syear β = y6 (sfold y45 (sfold y3 (sfold y2 (sfold y1 β 0 (pn β)) 0 (pn β)) 0 (tn β)) 0 (pn β)) := by
  unfold syear
  dsimp only
  rw [fold45]
theorem c_go (hk : k + 12 ≤ 38) (h : Wf T N y β) {n : Nat} (hn : n ≤ 150) (hy : y + n ≤ 5000) : m_X5_go k (pk σ k β hd) (nI n) = some (pk σ k (syears n β) (hands (syears n β))) := by
  have key : ∀ q m i T y (b : zw_S), Wf T N y b → i + q = n → q < m → y + q ≤ 5000 → m_X5_go_10 k m (pk σ k b (hands b)) (nI n) (nI i) = some (pk σ k (syears q b) (hands (syears q b))) := by
    intro q
    induction q with
    | zero =>
      intro m i T y b hb hi hm hy
      obtain ⟨m, rfl⟩ : ∃ z, m = z + 1 := ⟨m - 1, by omega⟩
      unfold m_X5_go_10
      rw [if_pos (nI_le (by omega) (by omega))]
      rfl
    | succ q ih =>
      intro m i T y b hb hi hm hy
      obtain ⟨m, rfl⟩ : ∃ z, m = z + 1 := ⟨m - 1, by omega⟩
      have hN := hb.N8
      have w1 : Wf T N y (sfold y1 b 0 N) := Wf.fold (M := N) (fun b p _ hb => hb.wy1 p) N 0 b (by omega) hb
      have w2 : Wf T N y (sfold y2 (sfold y1 b 0 N) 0 N) := Wf.fold (M := N) (fun b p _ hb => hb.wy2 p) N 0 _ (by omega) w1
      have w3 : Wf T N y (sfold y3 (sfold y2 (sfold y1 b 0 N) 0 N) 0 T) := Wf.fold (M := T) (fun b p hp hb => hb.wy3 hp) T 0 _ (by omega) w2
      obtain ⟨T2, -, hWy⟩ := hb.year (by omega)
      have hsy := syear_45 (β := b)
      rw [hb.hN, hb.hT] at hsy
      have hh6 : ∀ g : zw_S, hands (y6 g) = hands g := fun g => hands_congr (fun j => rfl) rfl rfl rfl
      unfold m_X5_go_10
      rw [if_neg (nI_ge (by omega) (by omega)), c_bearersWork hk hb, cv_ok, c_helpersWork hk w1, cv_ok, c_tasksGrow hk w2, cv_ok, c_personsAge hk w3, cv_ok, nm_ok, pk_s hk (by omega), pk_ws hk (by omega), nm_ok, nI_1]
      rw [show zw_wr (sfold y45 (sfold y3 (sfold y2 (sfold y1 b 0 N) 0 N) 0 T) 0 N) 0 0 ((sfold y45 (sfold y3 (sfold y2 (sfold y1 b 0 N) 0 N) 0 T) 0 N) 0 0 + 1) = syear b from hsy.symm]
      rw [← hh6 (sfold y45 (sfold y3 (sfold y2 (sfold y1 b 0 N) 0 N) 0 T) 0 N), ← hsy]
      exact ih m (i + 1) T2 (y + 1) (syear b) hWy (by omega) (by omega) (by omega)
  unfold m_X5_go
  rw [c_findHands hk h, cv_ok]
  exact key n 200 0 T y β h (by omega) (by omega) hy
end C4
