/-! how much of a name can be done -/
def sm (f : Nat → Nat) : Nat → Nat → Nat
  | 0, _ => 0
  | k + 1, i => f i + sm f k (i + 1)
theorem sm_le {f g : Nat → Nat} : ∀ (k i : Nat), (∀ j, i ≤ j → j < i + k → f j ≤ g j) → sm f k i ≤ sm g k i := by
  intro k
  induction k with
  | zero => intro i h; exact Nat.le_refl _
  | succ k ih =>
    intro i h
    unfold sm
    have h1 := h i (by omega) (by omega)
    have h2 := ih (i + 1) (fun j a b => h j (by omega) (by omega))
    omega
theorem sm_eq {f g : Nat → Nat} (k i : Nat) (h : ∀ j, i ≤ j → j < i + k → f j = g j) : sm f k i = sm g k i :=
  Nat.le_antisymm (sm_le k i (fun j a b => Nat.le_of_eq (h j a b))) (sm_le k i (fun j a b => Nat.le_of_eq (h j a b).symm))
theorem sm_1 {f g : Nat → Nat} {t d : Nat} : ∀ (k i : Nat), (∀ j, i ≤ j → j < i + k → j ≠ t → f j ≤ g j) → f t ≤ g t + d → sm f k i ≤ sm g k i + d := by
  intro k
  induction k with
  | zero => intro i h ht; unfold sm; omega
  | succ k ih =>
    intro i h ht
    unfold sm
    by_cases hit : i = t
    · subst hit
      have h2 := sm_le (f := f) (g := g) k (i + 1) (fun j a b => h j (by omega) (by omega) (by omega))
      omega
    · have h1 := h i (by omega) (by omega) hit
      have h2 := ih (i + 1) (fun j a b c => h j (by omega) (by omega) c) ht
      omega
theorem sm_r {f : Nat → Nat} : ∀ (k i : Nat), sm f (k + 1) i = sm f k i + f (i + k) := by
  intro k
  induction k with
  | zero => intro i; unfold sm sm; simp
  | succ k ih =>
    intro i
    have h := ih (i + 1)
    rw [show sm f (k + 1 + 1) i = f i + sm f (k + 1) (i + 1) from rfl, h, show sm f (k + 1) i = f i + sm f k (i + 1) from rfl, show i + 1 + k = i + (k + 1) by omega]
    omega
theorem sm_z {f : Nat → Nat} (k i : Nat) (h : ∀ j, i ≤ j → j < i + k → f j = 0) : sm f k i = 0 := by
  have e : sm f k i = sm (fun _ => 0) k i := sm_eq k i h
  rw [e]
  have : ∀ k i, sm (fun _ => 0) k i = 0 := by
    intro k
    induction k with
    | zero => intro i; rfl
    | succ k ih => intro i; unfold sm; rw [ih]
  exact this k i
theorem sm_add {f g : Nat → Nat} : ∀ (k i : Nat), sm (fun j => f j + g j) k i = sm f k i + sm g k i := by
  intro k
  induction k with
  | zero => intro i; rfl
  | succ k ih =>
    intro i
    unfold sm
    rw [ih]
    omega
theorem sm_swap {a : Nat → Nat → Nat} : ∀ (k i l j : Nat), sm (fun o => sm (fun p => a o p) l j) k i = sm (fun p => sm (fun o => a o p) k i) l j := by
  intro k
  induction k with
  | zero =>
    intro i l j
    rw [show sm (fun o => sm (fun p => a o p) l j) 0 i = 0 from rfl]
    exact (sm_z l j (fun _ _ _ => rfl)).symm
  | succ k ih =>
    intro i l j
    rw [show sm (fun o => sm (fun p => a o p) l j) (k + 1) i = sm (fun p => a i p) l j + sm (fun o => sm (fun p => a o p) l j) k (i + 1) from rfl, ih (i + 1) l j, ← sm_add]
    rfl
theorem sm_one {f : Nat → Nat} {t : Nat} : ∀ (k i : Nat), i ≤ t → t < i + k → f t ≤ sm f k i := by
  intro k
  induction k with
  | zero => intro i a b; omega
  | succ k ih =>
    intro i a b
    unfold sm
    by_cases h : i = t
    · subst h; omega
    · have := ih (i + 1) (by omega) (by omega)
      omega
theorem sm_pos {f : Nat → Nat} : ∀ (k i : Nat), 0 < sm f k i → ∃ t, i ≤ t ∧ t < i + k ∧ 0 < f t := by
  intro k
  induction k with
  | zero => intro i h; unfold sm at h; omega
  | succ k ih =>
    intro i h
    unfold sm at h
    by_cases h0 : 0 < f i
    · exact ⟨i, by omega, by omega, h0⟩
    · obtain ⟨t, a, b, c⟩ := ih (i + 1) (by omega)
      exact ⟨t, by omega, by omega, c⟩
def gN (b : zw_S) (x : Int32) (t : Nat) : Nat := if b 4 t = x then (b 5 t).toNatClampNeg else 0
def Hh (b : zw_S) (x : Int32) : Nat := sm (gN b x) (tn b) 0
def Ll (b : zw_S) (x : Int32) : Bool := sany (fun t => decide (b 4 t = x) && !se b t && (decide (b 3 t = 4) || decide (b 3 t = 5))) 0 (tn b)
def mw (L : Bool) (s : Nat) : Nat := if L = true then 2 * s + 1 else s
theorem mw_m {L M : Bool} {s : Nat} (h : L = true → M = true) : mw L s ≤ mw M s := by
  unfold mw
  by_cases c : L = true
  · rw [if_pos c, if_pos (h c)]
    omega
  · rw [if_neg c]
    split <;> omega
theorem mw_s {L : Bool} {s : Nat} : s ≤ mw L s := by
  unfold mw
  split <;> omega
section BD
variable {b c β : zw_S} {T N y : Nat} {x : Int32}
theorem Ll_iff : Ll b x = true ↔ ∃ t, t < tn b ∧ b 4 t = x ∧ b 5 t ≠ 0 ∧ (b 3 t = 4 ∨ b 3 t = 5) := by
  unfold Ll
  rw [sany_iff]
  constructor
  · rintro ⟨t, -, h2, h3⟩
    simp only [Bool.and_eq_true, decide_eq_true_eq, Bool.not_eq_true', se, decide_eq_false_iff_not, Bool.or_eq_true] at h3
    exact ⟨t, by omega, h3.1.1, h3.1.2, h3.2⟩
  · rintro ⟨t, h2, h3, h4, h5⟩
    refine ⟨t, by omega, by omega, ?_⟩
    simp only [Bool.and_eq_true, decide_eq_true_eq, Bool.not_eq_true', se, decide_eq_false_iff_not, Bool.or_eq_true]
    exact ⟨⟨h3, h4⟩, h5⟩
def mL (b c : zw_S) : Prop := ∀ x, Ll c x = true → Ll b x = true
theorem mL.refl {b : zw_S} : mL b b := fun _ h => h
theorem mL.trans {a b c : zw_S} (h1 : mL a b) (h2 : mL b c) : mL a c := fun x h => h1 x (h2 x h)
theorem mL_w5 {t : Nat} {v : Int32} (h : b 5 t ≠ 0 ∨ v = 0) : mL b (zw_wr b 5 t v) := by
  intro x hx
  rw [Ll_iff] at hx ⊢
  obtain ⟨i, h1, h2, h3, h4⟩ := hx
  refine ⟨i, h1, h2, ?_, h4⟩
  rw [wr_ap] at h3
  by_cases hi : i = t
  · subst hi
    rw [if_pos ⟨rfl, rfl⟩] at h3
    rcases h with h | h
    · exact h
    · exact absurd h h3
  · rw [if_neg (fun z => hi z.2)] at h3
    exact h3
theorem open_H (h : Wf T N y b) : sopen b x = true ↔ 0 < Hh b x := by
  rw [sopen_iff]
  unfold Hh
  constructor
  · rintro ⟨t, h1, h2, h3⟩
    have := sm_one (f := gN b x) (t := t) (tn b) 0 (by omega) (by omega)
    obtain ⟨hh, hh1, e⟩ := h.hrs (t := t) (by rw [← h.hT]; exact h1)
    have : gN b x t = hh := by
      unfold gN
      rw [if_pos h2, e, nc (by omega)]
    have : hh ≠ 0 := by
      intro z
      rw [z] at e
      exact h3 e
    omega
  · intro h1
    obtain ⟨t, -, h2, h3⟩ := sm_pos (tn b) 0 h1
    refine ⟨t, by omega, ?_, ?_⟩
    · unfold gN at h3
      by_cases q : b 4 t = x
      · exact q
      · rw [if_neg q] at h3
        omega
    · intro z
      unfold gN at h3
      rw [z] at h3
      split at h3
      · exact absurd h3 (by decide)
      · omega
theorem swork_m (h : Wf T N y b) {t s : Nat} (ht : t < T) (hs : s ≤ 9) (h4 : b 4 t = x) (h5 : b 5 t ≠ 0) : ∃ u, u ≤ mw (Ll b x) s ∧ u ≤ 19 ∧ swork b t (nI s) = nI u := by
  have hm := mw_s (L := Ll b x) (s := s)
  have hL : b 3 t = 4 ∨ b 3 t = 5 → mw (Ll b x) s = 2 * s + 1 := fun z => by
    unfold mw
    rw [if_pos (Ll_iff.mpr ⟨t, by rw [h.hT]; exact ht, h4, h5, z⟩)]
  have ev : ∃ u, u ≤ s ∧ (if sodd b = true then nI s / 2 else nI s) = nI u := by
    split
    · exact ⟨s / 2, by omega, half (by omega)⟩
    · exact ⟨s, by omega, rfl⟩
  unfold swork
  by_cases k1 : b 3 t = 1
  · rw [if_pos k1]
    obtain ⟨u, hu, e⟩ := ev
    exact ⟨u, by omega, by omega, e⟩
  · rw [if_neg k1]
    by_cases k3 : b 3 t = 3
    · rw [if_pos k3]
      split
      · exact ⟨s, hm, by omega, rfl⟩
      · split
        · exact ⟨0, by omega, by omega, rfl⟩
        · exact ⟨s, hm, by omega, rfl⟩
    · rw [if_neg k3]
      by_cases k4 : b 3 t = 4
      · rw [if_pos k4, dbl]
        exact ⟨2 * s, by rw [hL (Or.inl k4)]; omega, by omega, rfl⟩
      · rw [if_neg k4]
        by_cases k5 : b 3 t = 5
        · rw [if_pos k5, dbl, nI_1]
          exact ⟨2 * s + 1, by rw [hL (Or.inr k5)]; omega, by omega, rfl⟩
        · rw [if_neg k5]
          by_cases k6 : b 3 t = 6
          · rw [if_pos k6]
            obtain ⟨u, hu, e⟩ := ev
            rw [e]
            by_cases u1 : 1 ≤ u
            · rw [if_pos (show (1 : Int32) ≤ nI u from nI_le (a := 1) u1 (by omega)), show (1 : Int32) = nI 1 from rfl, sub_nI u1]
              exact ⟨u - 1, by omega, by omega, rfl⟩
            · rw [if_neg (show ¬ (1 : Int32) ≤ nI u from nI_ge (b := 1) (by omega) (by omega))]
              exact ⟨0, by omega, by omega, rfl⟩
          · rw [if_neg k6]
            exact ⟨s, hm, by omega, rfl⟩
theorem held_sub {a u : Nat} (ha : a < 1000) (hu : u ≤ 300) : (sheld (nI a - nI u)).toNatClampNeg = a - u := by
  unfold sheld
  by_cases h : u ≤ a
  · rw [sub_nI h, if_pos (nI_pos' (by omega)), if_pos (show nI (a - u) ≤ 999 from nI_le (b := 999) (by omega) (by omega)), nc (by omega)]
  · have h1 : nI a < nI u := nI_lt (by omega) (by omega)
    have h2 := nI_pos' (n := a) (by omega)
    have h3 := nI_le (a := u) (b := 300) hu (by omega)
    have h4 : nI 300 = 300 := rfl
    have : ¬ 0 ≤ nI a - nI u := by grind
    rw [if_neg this]
    show (0 : Nat) = _
    omega
theorem H_w5 {t d : Nat} {v : Int32} (hd : (b 5 t).toNatClampNeg ≤ v.toNatClampNeg + d) : Hh b x ≤ Hh (zw_wr b 5 t v) x + (if b 4 t = x then d else 0) := by
  unfold Hh
  show sm (gN b x) (tn b) 0 ≤ sm (gN (zw_wr b 5 t v) x) (tn b) 0 + _
  apply sm_1 (t := t)
  · intro j _ _ hj
    unfold gN
    rw [wr_j hj, wr_f (show (4 : Nat) ≠ 5 by decide)]
    exact Nat.le_refl _
  · unfold gN
    rw [wr_at, wr_f (show (4 : Nat) ≠ 5 by decide)]
    by_cases h : b 4 t = x
    · rw [if_pos h, if_pos h, if_pos h]
      exact hd
    · rw [if_neg h]
      omega
theorem H_sdo (h : Wf T N y b) {z : Int32} {s : Nat} (hs : s ≤ 9) : Hh b x ≤ Hh (sdo b z (nI s)) x + (if z = x then mw (Ll b x) s else 0) ∧ mL b (sdo b z (nI s)) ∧ ∀ f, f ≠ 5 → sdo b z (nI s) f = b f := by
  unfold sdo
  rcases shand_c h z with e | ⟨t, ht, h4, hsat, e⟩
  · rw [if_pos (by rw [e]; decide)]
    exact ⟨by omega, mL.refl, fun f _ => rfl⟩
  · have hT := h.T20
    have h5 := sat_ne hsat
    obtain ⟨hh, hh1, eh⟩ := h.hrs ht
    obtain ⟨u, hu, hu2, eu⟩ := swork_m h ht hs h4 h5
    rw [if_neg (by rw [e]; exact nI_pos (by omega)), e, nI_clamp (by omega), eu, eh]
    refine ⟨?_, mL_w5 (Or.inl h5), fun f hf => wr_f hf⟩
    have q := H_w5 (b := b) (x := x) (t := t) (d := u) (v := sheld (nI hh - nI u)) (by rw [held_sub hh1 (by omega), eh, nc (by omega)]; omega)
    rw [h4] at q
    by_cases hzx : z = x
    · subst hzx
      rw [if_pos rfl] at q ⊢
      omega
    · rw [if_neg hzx] at q ⊢
      exact q
/-- what the bearers, and what the helpers can do for x in a year -/
def w1 (b : zw_S) (L : Bool) (x : Int32) (q : Nat) : Nat := if b 7 q = x ∧ ¬ b 8 q < 7 then mw L (b 9 q).toNatClampNeg else 0
def w2 (b : zw_S) (L : Bool) (x : Int32) (q : Nat) : Nat := if (¬ b 10 q < 0 ∧ b 7 (b 10 q).toNatClampNeg = x) ∧ ¬ b 8 q < 7 then mw L ((b 9 q).toNatClampNeg / 2) else 0
theorem H_y1 (h : Wf T N y c) {q : Nat} (hq : q < N) : Hh c x ≤ Hh (y1 c q) x + w1 c (Ll c x) x q ∧ mL c (y1 c q) ∧ ∀ f, f ≠ 5 → y1 c q f = c f := by
  unfold y1 w1
  by_cases h8 : c 8 q < 7
  · rw [if_pos h8]
    exact ⟨by omega, mL.refl, fun f _ => rfl⟩
  · rw [if_neg h8]
    by_cases h7 : c 7 q < 0
    · rw [if_pos h7]
      exact ⟨by omega, mL.refl, fun f _ => rfl⟩
    · obtain ⟨a, a1, a2, e9⟩ := h.hnd hq
      rw [if_neg h7, e9, nc (by omega)]
      obtain ⟨z1, z2, z3⟩ := H_sdo (x := x) h (z := c 7 q) a2
      refine ⟨?_, z2, z3⟩
      by_cases hx : c 7 q = x
      · rw [if_pos hx] at z1
        rw [if_pos ⟨hx, h8⟩]
        exact z1
      · rw [if_neg hx] at z1
        rw [if_neg (fun z => hx z.1)]
        exact z1
theorem H_y2 (h : Wf T N y c) {q : Nat} (hq : q < N) : Hh c x ≤ Hh (y2 c q) x + w2 c (Ll c x) x q ∧ mL c (y2 c q) ∧ ∀ f, f ≠ 5 → y2 c q f = c f := by
  unfold y2 shelp w2
  by_cases h8 : c 8 q < 7
  · rw [if_pos h8]
    exact ⟨by omega, mL.refl, fun f _ => rfl⟩
  · rw [if_neg h8]
    by_cases h10 : c 10 q < 0
    · rw [if_pos h10]
      exact ⟨by omega, mL.refl, fun f _ => rfl⟩
    · rw [if_neg h10]
      by_cases h7 : c 7 (c 10 q).toNatClampNeg < 0
      · rw [if_pos h7]
        exact ⟨by omega, mL.refl, fun f _ => rfl⟩
      · rw [if_neg h7]
        split
        · obtain ⟨a, a1, a2, e9⟩ := h.hnd hq
          rw [e9, nc (by omega), half (by omega)]
          obtain ⟨z1, z2, z3⟩ := H_sdo (x := x) h (z := c 7 (c 10 q).toNatClampNeg) (s := a / 2) (by omega)
          refine ⟨?_, z2, z3⟩
          by_cases hx : c 7 (c 10 q).toNatClampNeg = x
          · rw [if_pos hx] at z1
            rw [if_pos ⟨⟨h10, hx⟩, h8⟩]
            exact z1
          · rw [if_neg hx] at z1
            rw [if_neg (fun z => hx z.1.2)]
            exact z1
        · exact ⟨by omega, mL.refl, fun f _ => rfl⟩
theorem held_add {a g : Nat} (ha : a < 1000) (hg : g ≤ 100) : a ≤ (sheld (nI a + nI g)).toNatClampNeg := by
  unfold sheld
  rw [nI_add, if_pos (nI_pos' (by omega))]
  by_cases h : a + g ≤ 999
  · rw [if_pos (show nI (a + g) ≤ 999 from nI_le (b := 999) h (by omega)), nc (by omega)]
    omega
  · rw [if_neg (show ¬ nI (a + g) ≤ 999 from nI_ge (a := 999) (by omega) (by omega))]
    show a ≤ 999
    omega
theorem H_y3 (h : Wf T N y c) {t : Nat} (ht : t < T) : Hh c x ≤ Hh (y3 c t) x ∧ mL c (y3 c t) ∧ ∀ f, f ≠ 5 → y3 c t f = c f := by
  unfold y3
  obtain ⟨hh, hh1, eh⟩ := h.hrs ht
  obtain ⟨g, hg, eg⟩ := sgrow_b h ht
  refine ⟨?_, ?_, fun f hf => wr_f hf⟩
  · rw [eg, eh]
    have q := H_w5 (b := c) (x := x) (t := t) (d := 0) (v := sheld (nI hh + nI g)) (by rw [eh, nc (by omega)]; exact held_add hh1 hg)
    split at q <;> omega
  · by_cases h0 : c 5 t = 0
    · refine mL_w5 (Or.inr ?_)
      unfold sgrow se
      rw [h0]
      simp
      decide
    · exact mL_w5 (Or.inl h0)
theorem H_leave (h : Wf T N y c) {p : Nat} (hp : p < N) (h7 : ¬ c 7 p < 0) : Hh c x ≤ Hh (sleave c p) x ∧ mL c (sleave c p) := by
  have hT := h.T20
  unfold sleave
  have hg : Hh (sgone c p) x = Hh c x := rfl
  have hl : mL c (sgone c p) := fun _ h => h
  split
  · split
    · exact ⟨by rw [hg]; exact Nat.le_refl _, hl⟩
    · have e0 : tn (sgone c p) = T := h.hT
      refine ⟨?_, ?_⟩
      · unfold Hh
        have eT : tn (scome (sgone c p) 0 (c 7 p) 5 (-1)) = T + 1 := by
          unfold tn scome
          rw [wr_at]
          show (c 0 2 + 1).toNatClampNeg = T + 1
          rw [h.eT, nI_1, nc (by omega)]
        rw [eT, h.hT, sm_r]
        have : sm (gN c x) T 0 ≤ sm (gN (scome (sgone c p) 0 (c 7 p) 5 (-1)) x) T 0 := by
          apply sm_le
          intro j _ hj
          have hne : ¬ j = T := by omega
          unfold gN scome
          rw [e0]
          simp [wr_ap, hne, sgone]
        omega
      · intro x hx
        rw [Ll_iff] at hx ⊢
        obtain ⟨i, h1, h2, h3, h4⟩ := hx
        have h1' : i < (c 0 2 + 1).toNatClampNeg := h1
        rw [h.eT, nI_1, nc (by omega)] at h1'
        unfold scome at h2 h3 h4
        rw [e0] at h2 h3 h4
        by_cases hi : i = T
        · subst hi
          simp [wr_ap] at h4
        · refine ⟨i, by rw [h.hT]; omega, ?_, ?_, ?_⟩
          · simpa [wr_ap, hi, sgone] using h2
          · simpa [wr_ap, hi, sgone] using h3
          · simpa [wr_ap, hi, sgone] using h4
  · exact ⟨by rw [hg]; exact Nat.le_refl _, hl⟩
theorem leave_k {p f : Nat} (hf : f = 1 ∨ f = 9 ∨ f = 10) : sleave c p f = c f := by
  unfold sleave sgone scome
  rcases hf with rfl | rfl | rfl <;> split <;> (try split) <;> simp [wr_f]
theorem H_y5 (h : Wf T N y c) {p : Nat} (hp : p < N) : Hh c x ≤ Hh (y5 c p) x ∧ mL c (y5 c p) ∧ ∀ f, (f = 1 ∨ f = 9 ∨ f = 10) → y5 c p f = c f := by
  unfold y5
  split
  · split
    · exact ⟨Nat.le_refl _, mL.refl, fun f _ => rfl⟩
    · rename_i h7
      obtain ⟨a1, a2⟩ := H_leave (x := x) h hp h7
      exact ⟨a1, a2, fun f hf => leave_k hf⟩
  · exact ⟨Nat.le_refl _, mL.refl, fun f _ => rfl⟩
theorem F_y1 (hb : Wf T N y b) : ∀ (k i : Nat) (c : zw_S), Wf T N y c → mL b c → (∀ f, f ≠ 5 → c f = b f) → i + k = N → Hh c x ≤ Hh (sfold y1 c i k) x + sm (w1 b (Ll b x) x) k i ∧ mL b (sfold y1 c i k) ∧ (∀ f, f ≠ 5 → sfold y1 c i k f = b f) ∧ Wf T N y (sfold y1 c i k) := by
  intro k
  induction k with
  | zero => intro i c hc hl hf hi; exact ⟨by rw [sfold_0]; omega, hl, hf, hc⟩
  | succ k ih =>
    intro i c hc hl hf hi
    rw [sfold_s]
    obtain ⟨a1, a2, a3⟩ := H_y1 (x := x) hc (show i < N by omega)
    obtain ⟨b1, b2, b3, b4⟩ := ih (i + 1) (y1 c i) (hc.wy1 i) (hl.trans a2) (fun f h5 => (a3 f h5).trans (hf f h5)) (by omega)
    refine ⟨?_, b2, b3, b4⟩
    rw [show sm (w1 b (Ll b x) x) (k + 1) i = w1 b (Ll b x) x i + sm (w1 b (Ll b x) x) k (i + 1) from rfl]
    have hw : w1 c (Ll c x) x i ≤ w1 b (Ll b x) x i := by
      unfold w1
      rw [hf 7 (by decide), hf 8 (by decide), hf 9 (by decide)]
      split
      · exact mw_m (hl x)
      · exact Nat.le_refl _
    omega
theorem F_y2 (hb : Wf T N y b) : ∀ (k i : Nat) (c : zw_S), Wf T N y c → mL b c → (∀ f, f ≠ 5 → c f = b f) → i + k = N → Hh c x ≤ Hh (sfold y2 c i k) x + sm (w2 b (Ll b x) x) k i ∧ mL b (sfold y2 c i k) ∧ (∀ f, f ≠ 5 → sfold y2 c i k f = b f) ∧ Wf T N y (sfold y2 c i k) := by
  intro k
  induction k with
  | zero => intro i c hc hl hf hi; exact ⟨by rw [sfold_0]; omega, hl, hf, hc⟩
  | succ k ih =>
    intro i c hc hl hf hi
    rw [sfold_s]
    obtain ⟨a1, a2, a3⟩ := H_y2 (x := x) hc (show i < N by omega)
    obtain ⟨b1, b2, b3, b4⟩ := ih (i + 1) (y2 c i) (hc.wy2 i) (hl.trans a2) (fun f h5 => (a3 f h5).trans (hf f h5)) (by omega)
    refine ⟨?_, b2, b3, b4⟩
    rw [show sm (w2 b (Ll b x) x) (k + 1) i = w2 b (Ll b x) x i + sm (w2 b (Ll b x) x) k (i + 1) from rfl]
    have hw : w2 c (Ll c x) x i ≤ w2 b (Ll b x) x i := by
      unfold w2
      rw [hf 7 (by decide), hf 8 (by decide), hf 9 (by decide), hf 10 (by decide)]
      split
      · exact mw_m (hl x)
      · exact Nat.le_refl _
    omega
theorem F_y3 : ∀ (k i : Nat) (c : zw_S), Wf T N y c → i + k = T → Hh c x ≤ Hh (sfold y3 c i k) x ∧ mL c (sfold y3 c i k) ∧ (∀ f, f ≠ 5 → sfold y3 c i k f = c f) ∧ Wf T N y (sfold y3 c i k) := by
  intro k
  induction k with
  | zero => intro i c hc hi; exact ⟨Nat.le_refl _, mL.refl, fun f _ => rfl, hc⟩
  | succ k ih =>
    intro i c hc hi
    rw [sfold_s]
    obtain ⟨a1, a2, a3⟩ := H_y3 (x := x) hc (show i < T by omega)
    obtain ⟨b1, b2, b3, b4⟩ := ih (i + 1) (y3 c i) (hc.wy3 (by omega)) (by omega)
    exact ⟨by omega, a2.trans b2, fun f h5 => (b3 f h5).trans (a3 f h5), b4⟩
theorem F_y4 : ∀ (k i : Nat) (c : zw_S), Wf T N y c → i + k = N → Hh (sfold y4 c i k) x = Hh c x ∧ mL c (sfold y4 c i k) ∧ (∀ f, f ≠ 8 → sfold y4 c i k f = c f) ∧ (∀ q, sfold y4 c i k 8 q = if i ≤ q ∧ q < i + k then (if 40 ≤ c 8 q then c 8 q else c 8 q + 1) else c 8 q) ∧ Wf T N y (sfold y4 c i k) := by
  intro k
  induction k with
  | zero =>
    intro i c hc hi
    refine ⟨rfl, mL.refl, fun f _ => rfl, fun q => ?_, hc⟩
    rw [sfold_0, if_neg (by omega)]
  | succ k ih =>
    intro i c hc hi
    rw [sfold_s]
    obtain ⟨b1, b2, b3, b5, b4⟩ := ih (i + 1) (y4 c i) (hc.wy4 (by omega)) (by omega)
    refine ⟨b1.trans rfl, (show mL c (y4 c i) from fun _ h => h).trans b2, fun f h8 => (b3 f h8).trans (by unfold y4; exact wr_f h8), fun q => ?_, b4⟩
    rw [b5 q]
    unfold y4
    by_cases hq : q = i
    · subst hq
      rw [if_neg (show ¬ (q + 1 ≤ q ∧ q < q + 1 + k) by omega), wr_at, if_pos (show q ≤ q ∧ q < q + (k + 1) by omega)]
    · rw [wr_j hq]
      by_cases hr : i + 1 ≤ q ∧ q < i + 1 + k
      · rw [if_pos hr, if_pos (show i ≤ q ∧ q < i + (k + 1) by omega)]
      · rw [if_neg hr, if_neg (show ¬ (i ≤ q ∧ q < i + (k + 1)) by omega)]
theorem F_y5 : ∀ (k i T : Nat) (c : zw_S), Wf T N y c → i + k = N → Hh c x ≤ Hh (sfold y5 c i k) x ∧ mL c (sfold y5 c i k) ∧ (∀ f, (f = 1 ∨ f = 9 ∨ f = 10) → sfold y5 c i k f = c f) ∧ sfold y5 c i k 8 = c 8 ∧ (∀ q, sfold y5 c i k 7 q = if (i ≤ q ∧ q < i + k) ∧ c 8 q = 40 ∧ ¬ c 7 q < 0 then -1 else c 7 q) ∧ ∃ T2, Wf T2 N y (sfold y5 c i k) := by
  intro k
  induction k with
  | zero =>
    intro i T c hc hi
    refine ⟨Nat.le_refl _, mL.refl, fun f _ => rfl, rfl, fun q => ?_, T, hc⟩
    rw [sfold_0, if_neg (by omega)]
  | succ k ih =>
    intro i T c hc hi
    rw [sfold_s]
    obtain ⟨a1, a2, a3⟩ := H_y5 (x := x) hc (show i < N by omega)
    obtain ⟨T2, -, hc2⟩ := hc.wy5 (show i < N by omega)
    obtain ⟨b1, b2, b3, b5, b6, b4⟩ := ih (i + 1) T2 (y5 c i) hc2 (by omega)
    refine ⟨by omega, a2.trans b2, fun f h5 => (b3 f h5).trans (a3 f h5), b5.trans y5_8, fun q => ?_, b4⟩
    rw [b6 q, y5_8]
    by_cases hq : q = i
    · subst hq
      rw [if_neg (by omega)]
      by_cases c40 : c 8 q = 40
      · by_cases c7 : c 7 q < 0
        · rw [if_neg (fun z => z.2.2 c7)]
          unfold y5
          rw [if_pos c40, if_pos c7]
        · rw [if_pos ⟨by omega, c40, c7⟩]
          unfold y5
          rw [if_pos c40, if_neg c7, leave_7, if_pos rfl]
      · rw [if_neg (fun z => c40 z.2.1)]
        unfold y5
        rw [if_neg c40]
    · rw [y5_7 hq]
      by_cases hr : (i + 1 ≤ q ∧ q < i + 1 + k) ∧ c 8 q = 40 ∧ ¬ c 7 q < 0
      · rw [if_pos hr, if_pos ⟨by omega, hr.2⟩]
      · rw [if_neg hr, if_neg (fun z => hr ⟨by omega, z.2⟩)]
/-- a year, for one name -/
theorem H_year (h : Wf T N y b) : Hh b x ≤ Hh (syear b) x + sm (w1 b (Ll b x) x) N 0 + sm (w2 b (Ll b x) x) N 0 ∧ mL b (syear b) ∧ (∀ f, (f = 1 ∨ f = 9 ∨ f = 10) → syear b f = b f) ∧ (∀ q, q < N → syear b 8 q = if 40 ≤ b 8 q then b 8 q else b 8 q + 1) ∧ (∀ q, q < N → syear b 7 q = if syear b 8 q = 40 ∧ ¬ b 7 q < 0 then -1 else b 7 q) := by
  have hN := h.hN
  have hT := h.hT
  unfold syear
  rw [hN, hT]
  obtain ⟨a1, a2, a3, a4⟩ := F_y1 (x := x) h N 0 b h mL.refl (fun f _ => rfl) (by omega)
  obtain ⟨b1, b2, b3, b4⟩ := F_y2 (x := x) h N 0 _ a4 a2 a3 (by omega)
  obtain ⟨c1, c2, c3, c4⟩ := F_y3 (x := x) T 0 _ b4 (by omega)
  obtain ⟨d1, d2, d3, d5, d4⟩ := F_y4 (x := x) N 0 _ c4 (by omega)
  obtain ⟨e1, e2, e3, e5, e6, e4⟩ := F_y5 (x := x) N 0 T _ d4 (by omega)
  have f8 : ∀ q, q < N → sfold y4 (sfold y3 (sfold y2 (sfold y1 b 0 N) 0 N) 0 T) 0 N 8 q = if 40 ≤ b 8 q then b 8 q else b 8 q + 1 := fun q hq => by
    rw [d5 q, if_pos (by omega), c3 8 (by decide), b3 8 (by decide)]
  refine ⟨?_, ?_, fun f hf => ?_, fun q hq => ?_, fun q hq => ?_⟩
  · show Hh b x ≤ Hh (sfold y5 (sfold y4 (sfold y3 (sfold y2 (sfold y1 b 0 N) 0 N) 0 T) 0 N) 0 N) x + _ + _
    omega
  · exact (b2.trans (c2.trans (d2.trans e2))).trans (fun _ h => h)
  · show y6 _ f = _
    unfold y6
    rw [wr_f (by omega), e3 f hf, d3 f (by omega), c3 f (by omega), b3 f (by omega)]
  · show y6 _ 8 q = _
    unfold y6
    rw [wr_f (by decide), e5, f8 q hq]
  · show y6 _ 7 q = if y6 _ 8 q = 40 ∧ _ then _ else _
    unfold y6
    rw [wr_f (by decide), wr_f (by decide), e6 q, e5]
    rw [show sfold y4 (sfold y3 (sfold y2 (sfold y1 b 0 N) 0 N) 0 T) 0 N 7 = b 7 from (d3 7 (by decide)).trans ((c3 7 (by decide)).trans (b3 7 (by decide)))]
    by_cases hc : sfold y4 (sfold y3 (sfold y2 (sfold y1 b 0 N) 0 N) 0 T) 0 N 8 q = 40 ∧ ¬ b 7 q < 0
    · rw [if_pos ⟨by omega, hc⟩, if_pos hc]
    · rw [if_neg (fun z => hc z.2), if_neg hc]
end BD
