/-! what a bearer could gain, in the class -/
section G1
variable {σ τ β γ : zw_S} {T N y k : Nat} {hd : Nat → Int32} {x : Int32}
theorem sund4 : ∀ k, k < 7 → (sund k 4 = (decide (nI k = 4) || decide (nI k = 5))) := by decide
theorem c_prom (s : Int32) (v : Int32) : m_X2_workOf σ 5 s v = some (2 * s + 1, σ) := by
  have hw : ∀ w : Int32, m_X2_workOf_13 σ 5 s w = some (2 * s + 1, σ) := by
    intro w
    unfold m_X2_workOf_13
    grind
  unfold m_X2_workOf
  rw [hw, hw]
  split <;> rfl
theorem c_mostOf (hk : k + 12 ≤ 38) (h : Wf T N y β) {s : Nat} : m_X0_mostWorkOf k (pk σ k β hd) x (nI s) = some (nI (mw (Ll β x) s), pk σ k β hd) := by
  have hT := h.T20
  have key : ∀ q n i, i + q = T → q < n → m_X0_mostWorkOf_2 k n (pk σ k β hd) x (nI s) (nI i) = some (nI (mw (sany (fun t => decide (β 4 t = x) && !se β t && (decide (β 3 t = 4) || decide (β 3 t = 5))) i q) s), pk σ k β hd) := by
    intro q
    induction q with
    | zero =>
      intro n i hi hn
      obtain ⟨n, rfl⟩ : ∃ m, n = m + 1 := ⟨n - 1, by omega⟩
      unfold m_X0_mostWorkOf_2
      rw [pk_s hk (by omega), h.eT, if_pos (nI_le (by omega) (by omega))]
      rfl
    | succ q ih =>
      intro n i hi hn
      obtain ⟨n, rfl⟩ : ∃ m, n = m + 1 := ⟨n - 1, by omega⟩
      obtain ⟨kk, hkk, e3⟩ := h.kind (show i < T by omega)
      have eh := hrs_le h (show i < T by omega)
      unfold m_X0_mostWorkOf_2
      rw [pk_s hk (by omega), h.eT, if_neg (nI_ge (by omega) (by omega)), c_r4 hk (by omega)]
      by_cases h4 : β 4 i = x
      · rw [if_pos h4, c_r5 hk (by omega)]
        by_cases h5 : se β i = true
        · rw [if_pos (eh.mpr h5), nm_ok, nI_1, ih n (i + 1) (by omega) (by omega), sany_f (by simp [h5])]
        · rw [if_neg (fun z => h5 (eh.mp z)), c_r3 hk (by omega), e3, show m_X2_isUnder (pk σ k β hd) (nI kk) 4 = some (if sund kk 4 = true then 1 else 0, pk σ k β hd) from c_isUnder kk 4 hkk (by omega), cl_ok, sund4 kk hkk]
          by_cases hu : (decide (nI kk = 4) || decide (nI kk = 5)) = true
          · rw [if1 hu, z10, sany_t (by rw [e3]; simp only [h4, h5]; simpa using hu)]
            unfold m_X0_mostWorkOf_42
            rw [c_prom, cl_ok, dbl, nI_1]
            rfl
          · rw [if0 hu, z00, nm_ok, nI_1, ih n (i + 1) (by omega) (by omega), sany_f (by rw [e3]; simp only [h4, h5]; simpa using hu)]
      · rw [if_neg h4, nm_ok, nI_1, ih n (i + 1) (by omega) (by omega), sany_f (by simp [h4])]
  unfold m_X0_mostWorkOf Ll
  rw [h.hT]
  exact key T 200 0 (by omega) (by omega)
theorem mw_19 {L : Bool} {s : Nat} (h : s ≤ 9) : mw L s ≤ 19 := by
  unfold mw
  split <;> omega
theorem mul_lt {a b A B : Nat} (h1 : a ≤ A) (h2 : b ≤ B) : a * b ≤ A * B := Nat.mul_le_mul h1 h2
theorem zmax_nI {a b : Nat} (ha : a < 2 ^ 31) (hb : b < 2 ^ 31) : zmax (nI a) (nI b) = nI (max a b) := by
  unfold zmax
  by_cases h : a < b
  · rw [if_pos (nI_lt h hb), Nat.max_eq_right (by omega)]
  · rw [if_neg (nI_nlt (by omega) ha), Nat.max_eq_left (by omega)]
theorem zmax_sub {a b : Nat} (ha : a < 1000) (hb : b < 1000) : zmax 0 (nI a - nI b) = nI (a - b) := by
  by_cases h : b ≤ a
  · rw [sub_nI h, show (0 : Int32) = nI 0 from rfl, zmax_nI (by omega) (by omega), Nat.max_eq_right (by omega)]
  · unfold zmax
    have e : nI b - nI a = nI (b - a) := sub_nI (by omega)
    have p : 0 < nI (b - a) := nI_lt (a := 0) (by omega) (by omega)
    have q : nI (b - a) < 1000 := nI_lt (b := 1000) (by omega) (by omega)
    rw [if_neg (by grind), show a - b = 0 by omega]
    rfl
theorem c_most (hk : k + 12 ≤ 38) (h : Wf T N y β) {p n : Nat} (hp : p < N) (hn : n ≤ 100) : m_X0_mostWork k (pk σ k β hd) (nI p) x (nI n) = some (nI (Mx (β 8 p).toNatClampNeg n (mP β (Ll β x) p) (mQ β (Ll β x) p N)), pk σ k β hd) := by
  have hN := h.N8
  obtain ⟨a, ha, h8⟩ := h.age hp
  obtain ⟨s, -, hs, h9⟩ := h.hnd hp
  have key : ∀ q m i c, i + q = N → q < m → m_X0_mostWork_50 k m (pk σ k β hd) (nI p) x (nI (min (a + n) 40)) (nI c) (nI i) = some (nI (c + (min (a + n) 40 - a) * sm (fun q => if β 10 q = nI p then mw (Ll β x) ((β 9 q).toNatClampNeg / 2) else 0) q i), pk σ k β hd) := by
    intro q
    induction q with
    | zero =>
      intro m i c hi hm
      obtain ⟨m, rfl⟩ : ∃ z, m = z + 1 := ⟨m - 1, by omega⟩
      unfold m_X0_mostWork_50
      rw [pk_s hk (by omega), h.eN, if_pos (nI_le (by omega) (by omega))]
      rfl
    | succ q ih =>
      intro m i c hi hm
      obtain ⟨m, rfl⟩ : ∃ z, m = z + 1 := ⟨m - 1, by omega⟩
      obtain ⟨s2, -, hs2, h92⟩ := h.hnd (show i < N by omega)
      unfold m_X0_mostWork_50
      rw [pk_s hk (by omega), h.eN, if_neg (nI_ge (by omega) (by omega)), c_r10 hk (by omega)]
      rw [show sm (fun q => if β 10 q = nI p then mw (Ll β x) ((β 9 q).toNatClampNeg / 2) else 0) (q + 1) i = (if β 10 i = nI p then mw (Ll β x) ((β 9 i).toNatClampNeg / 2) else 0) + sm (fun q => if β 10 q = nI p then mw (Ll β x) ((β 9 q).toNatClampNeg / 2) else 0) q (i + 1) from rfl]
      by_cases h10 : β 10 i = nI p
      · rw [if_pos h10, if_pos h10, c_r8 hk (by omega), c_r9 hk (by omega), h92, half (by omega), c_mostOf hk h, cl_ok, nm_ok, nm_ok, nI_1, h8, sub_nI (by omega), pk_mul, nI_add, ih m (i + 1) _ (by omega) (by omega), nc (by omega), Nat.mul_add, Nat.add_assoc]
      · rw [if_neg h10, if_neg h10, nm_ok, nI_1, ih m (i + 1) c (by omega) (by omega), Nat.zero_add]
  unfold m_X0_mostWork
  rw [c_r8 hk (by omega), h8, nm_ok, nI_add, show (40 : Int32) = nI 40 from rfl, zmin_nI (by omega) (by omega), c_r8 hk (by omega), h8, c_r9 hk (by omega), h9, c_mostOf hk h, cl_ok, nm_ok, show (7 : Int32) = nI 7 from rfl, zmax_nI (by omega) (by omega), zmax_sub (by omega) (by omega), pk_mul]
  have := key N 200 0 ((min (a + n) 40 - max a 7) * mw (Ll β x) s) (by omega) (by omega)
  rw [show (0 : Int32) = nI 0 from rfl, this, nc (by omega)]
  unfold Mx mP mQ
  rw [h9, nc (by omega)]
theorem mQ_b (h : Wf T N y β) {p : Nat} {L : Bool} : mQ β L p N ≤ 152 := by
  have hN := h.N8
  unfold mQ
  have : sm (fun q => if β 10 q = nI p then mw L ((β 9 q).toNatClampNeg / 2) else 0) N 0 ≤ sm (fun _ => 19) N 0 := sm_le N 0 (fun j _ hj => by
    obtain ⟨s, -, hs, h9⟩ := h.hnd (show j < N by omega)
    split
    · rw [h9, nc (by omega)]
      exact mw_19 (by omega)
    · omega)
  have e : ∀ N, N ≤ 8 → sm (fun _ => 19) N 0 ≤ 152 := by decide
  have := e N hN
  omega
theorem Mx_b (h : Wf T N y β) {p n : Nat} {L : Bool} (hp : p < N) : Mx (β 8 p).toNatClampNeg n (mP β L p) (mQ β L p N) ≤ 10000 := by
  obtain ⟨a, ha, h8⟩ := h.age hp
  obtain ⟨s, -, hs, h9⟩ := h.hnd hp
  have hQ := mQ_b h (p := p) (L := L)
  unfold Mx
  rw [h8, nc (by omega)]
  have hP : mP β L p ≤ 19 := by
    unfold mP
    rw [h9, nc (by omega)]
    exact mw_19 hs
  have m1 := mul_lt (show min (a + n) 40 - max a 7 ≤ 40 by omega) hP
  have m2 := mul_lt (show min (a + n) 40 - a ≤ 40 by omega) hQ
  omega
theorem Hh_b (h : Wf T N y β) : Hh β x ≤ 20000 ∧ shoursOf β x = nI (Hh β x) := by
  have hT := h.T20
  unfold Hh shoursOf
  rw [h.hT]
  constructor
  · have q : sm (gN β x) T 0 ≤ sm (fun _ => 1000) T 0 := sm_le T 0 (fun j _ hj => by
      obtain ⟨w, hw, e⟩ := h.hrs (show j < T by omega)
      unfold gN
      split
      · rw [e, nc (by omega)]
        omega
      · omega)
    have e : ∀ T, T ≤ 20 → sm (fun _ => 1000) T 0 ≤ 20000 := by decide
    have := e T hT
    omega
  · have q := sacc_n (g := gH β x) (f := gN β x) T 0 0 (fun j _ hj => by
      obtain ⟨w, hw, e⟩ := h.hrs (show j < T by omega)
      unfold gH gN
      split
      · rw [e, nc (by omega)]
      · rfl)
    rw [Nat.zero_add] at q
    exact q
theorem c_gain (hk : k + 12 ≤ 38) (h : Wf T N y β) {p n o : Nat} (hp : p < N) (ho : o < 8) (hn : n ≤ 100) : m_X1_gainOf k (pk σ k β hd) (nI p) (nI o) (nI n) = some (nI (gnN β n N p (nI o)), pk σ k β hd) := by
  obtain ⟨hb, eh⟩ := Hh_b h (x := nI o)
  have mb := Mx_b h (p := p) (n := n) (L := Ll β (nI o)) hp
  unfold m_X1_gainOf gnN
  rw [c_hoursOf hk h, cl_ok, c_most hk h hp hn, cl_ok, eh]
  by_cases hc : Hh β (nI o) ≤ Mx (β 8 p).toNatClampNeg n (mP β (Ll β (nI o)) p) (mQ β (Ll β (nI o)) p N)
  · rw [if_pos (nI_le hc (by omega)), if_pos hc, c_r1 hk ho, nc (by omega)]
    obtain ⟨w1, w2⟩ := h.worth ho
    obtain ⟨m, hm, e⟩ := in_nI (M := 99) (m := 99) (by decide) ⟨w1, w2⟩
    rw [e, nc (by omega)]
  · rw [if_neg (nI_ge (by omega) (by omega)), if_neg hc]
    rfl
theorem gnN_b (h : Wf T N y β) {p n o : Nat} (ho : o < 8) : gnN β n N p (nI o) ≤ 99 := by
  unfold gnN
  obtain ⟨w1, w2⟩ := h.worth ho
  obtain ⟨m, hm, e⟩ := in_nI (M := 99) (m := 99) (by decide) ⟨w1, w2⟩
  split
  · rw [nc (by omega), e, nc (by omega)]
    exact hm
  · omega
end G1
