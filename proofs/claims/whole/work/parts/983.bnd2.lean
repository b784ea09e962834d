section B2
variable {b c β : zw_S} {T N y : Nat} {x : Int32}
theorem ne_m1 {o : Nat} (ho : o < 1000) : nI o ≠ -1 := by
  intro z
  have := nI_pos' (n := o) (by omega)
  rw [z] at this
  exact absurd this (by decide)
theorem year_bear (h : Wf T N y b) {o q : Nat} (ho : o < 8) (hq : q < N) (h7 : b 7 q ≠ nI o) : syear b 7 q ≠ nI o := by
  obtain ⟨-, -, -, -, e7⟩ := H_year (x := nI o) h
  rw [e7 q hq]
  split
  · exact (ne_m1 (by omega)).symm
  · exact h7
/-- a name that is open and that nobody bears stays open -/
theorem unborne {o : Nat} (ho : o < 8) : ∀ (n T y : Nat) (b : zw_S), Wf T N y b → y + n ≤ 5000 → (∀ q, q < N → b 7 q ≠ nI o) → sopen b (nI o) = true → sopen (syears n b) (nI o) = true := by
  intro n
  induction n with
  | zero => intro T y b h hy hq hs; exact hs
  | succ n ih =>
    intro T y b h hy hq hs
    obtain ⟨T2, -, h2⟩ := h.year (by omega)
    obtain ⟨e1, -, -, -, -⟩ := H_year (x := nI o) h
    have z1 : sm (w1 b (Ll b (nI o)) (nI o)) N 0 = 0 := sm_z N 0 (fun j _ hj => by
      unfold w1
      rw [if_neg (fun z => hq j (by omega) z.1)])
    have z2 : sm (w2 b (Ll b (nI o)) (nI o)) N 0 = 0 := sm_z N 0 (fun j _ hj => by
      unfold w2
      rw [if_neg]
      rintro ⟨⟨q1, q2⟩, -⟩
      have hN8 := h.N8
      rcases h.help (show j < N by omega) with q3 | ⟨r, hr, q3⟩
      · exact q1 (by rw [q3]; decide)
      · rw [q3, nc (by omega)] at q2
        exact hq r hr q2)
    have hp := (open_H h).mp hs
    have hs2 : sopen (syear b) (nI o) = true := (open_H h2).mpr (by omega)
    exact ih T2 (y + 1) (syear b) h2 (by omega) (fun q hqN => year_bear h ho hqN (hq q hqN)) hs2
def mP (b : zw_S) (L : Bool) (p : Nat) : Nat := mw L (b 9 p).toNatClampNeg
def mQ (b : zw_S) (L : Bool) (p N : Nat) : Nat := sm (fun q => if b 10 q = nI p then mw L ((b 9 q).toNatClampNeg / 2) else 0) N 0
def Mx (a n P Q : Nat) : Nat := (min (a + n) 40 - max a 7) * P + (min (a + n) 40 - a) * Q
theorem Mx_s {a n P Q : Nat} (ha : a < 40) : Mx a (n + 1) P Q = (if 7 ≤ a then P else 0) + Q + Mx (a + 1) n P Q := by
  unfold Mx
  have e1 : min (a + (n + 1)) 40 - max a 7 = (if 7 ≤ a then 1 else 0) + (min (a + 1 + n) 40 - max (a + 1) 7) := by split <;> omega
  have e2 : min (a + (n + 1)) 40 - a = 1 + (min (a + 1 + n) 40 - (a + 1)) := by omega
  rw [e1, e2, Nat.add_mul, Nat.add_mul, Nat.one_mul]
  split
  · rw [Nat.one_mul]; omega
  · rw [Nat.zero_mul]; omega
theorem Mx_m {a n P Q P2 Q2 : Nat} (h1 : P ≤ P2) (h2 : Q ≤ Q2) : Mx a n P Q ≤ Mx a n P2 Q2 := by
  unfold Mx
  exact Nat.add_le_add (Nat.mul_le_mul_left _ h1) (Nat.mul_le_mul_left _ h2)
/-- what one who bears a name ends of it, at most -/
theorem borne_B {o p : Nat} (ho : o < 8) (hp : p < N) : ∀ (n T y : Nat) (b : zw_S) (a : Nat), Wf T N y b → y + n ≤ 5000 → b 7 p = nI o → b 8 p = nI a → a < 40 → ¬ sopen (syears n b) (nI o) = true → Hh b (nI o) ≤ Mx a n (mP b (Ll b (nI o)) p) (mQ b (Ll b (nI o)) p N) := by
  intro n
  induction n with
  | zero =>
    intro T y b a h hy h7 h8 ha hs
    have : ¬ 0 < Hh b (nI o) := fun z => hs ((open_H h).mpr z)
    omega
  | succ n ih =>
    intro T y b a h hy h7 h8 ha hs
    have hN8 := h.N8
    obtain ⟨T2, -, h2⟩ := h.year (by omega)
    obtain ⟨e1, eL, e9, e8, e7⟩ := H_year (x := nI o) h
    have only : ∀ j, j < N → b 7 j = nI o → j = p := fun j hj e => h.inj hj hp (e.trans h7.symm) (by rw [e]; exact ne_m1 (by omega))
    have s1 : sm (w1 b (Ll b (nI o)) (nI o)) N 0 ≤ (if 7 ≤ a then mP b (Ll b (nI o)) p else 0) := by
      have q := sm_1 (f := w1 b (Ll b (nI o)) (nI o)) (g := fun _ => 0) (t := p) (d := if 7 ≤ a then mP b (Ll b (nI o)) p else 0) N 0 (fun j _ hj hne => by
        unfold w1
        rw [if_neg (fun z => hne (only j (by omega) z.1))]
        exact Nat.le_refl _) (by
        unfold w1 mP
        rw [h8]
        by_cases ha7 : 7 ≤ a
        · rw [if_pos ha7]
          split <;> omega
        · rw [if_neg (fun z => z.2 (nI_lt (b := 7) (by omega) (by omega)))]
          omega)
      rw [sm_z (f := fun _ => 0) N 0 (fun _ _ _ => rfl)] at q
      omega
    have s2 : sm (w2 b (Ll b (nI o)) (nI o)) N 0 ≤ mQ b (Ll b (nI o)) p N := by
      unfold mQ
      apply sm_le
      intro j _ hj
      unfold w2
      by_cases hc : (¬ b 10 j < 0 ∧ b 7 (b 10 j).toNatClampNeg = nI o) ∧ ¬ b 8 j < 7
      · rw [if_pos hc]
        rcases h.help (show j < N by omega) with q3 | ⟨r, hr, q3⟩
        · exact absurd (by rw [q3]; decide) hc.1.1
        · have q2 := hc.1.2
          rw [q3, nc (by omega)] at q2
          have := only r hr q2
          subst this
          rw [if_pos q3]
          exact Nat.le_refl _
      · rw [if_neg hc]
        omega
    have a8 : syear b 8 p = nI (a + 1) := by
      rw [e8 p hp, h8, if_neg (show ¬ (40 : Int32) ≤ nI a from nI_ge (b := 40) (by omega) (by omega)), nI_1]
    rw [Mx_s ha]
    by_cases h40 : a + 1 = 40
    · have g7 : syear b 7 p = -1 := by
        rw [e7 p hp, a8, h40, if_pos ⟨rfl, by rw [h7]; exact nI_pos (by omega)⟩]
      have nb : ∀ q, q < N → syear b 7 q ≠ nI o := fun q hq => by
        by_cases hqp : q = p
        · subst hqp
          rw [g7]
          exact (ne_m1 (by omega)).symm
        · exact year_bear h ho hq (fun z => hqp (only q hq z))
      have : ¬ sopen (syear b) (nI o) = true := fun z => hs (unborne ho n T2 (y + 1) (syear b) h2 (by omega) nb z)
      have : ¬ 0 < Hh (syear b) (nI o) := fun z => this ((open_H h2).mpr z)
      omega
    · have g7 : syear b 7 p = nI o := by
        rw [e7 p hp, a8, if_neg (fun z => h40 ((nI_eq (b := 40) (by omega) (by omega)).mp z.1)), h7]
      have q := ih T2 (y + 1) (syear b) (a + 1) h2 (by omega) g7 a8 (by omega) hs
      have m1 : mP (syear b) (Ll (syear b) (nI o)) p ≤ mP b (Ll b (nI o)) p := by
        unfold mP
        rw [e9 9 (by omega)]
        exact mw_m (eL (nI o))
      have m2 : mQ (syear b) (Ll (syear b) (nI o)) p N ≤ mQ b (Ll b (nI o)) p N := by
        unfold mQ
        apply sm_le
        intro j _ _
        rw [e9 9 (by omega), e9 10 (by omega)]
        split
        · exact mw_m (eL (nI o))
        · exact Nat.le_refl _
      have := Mx_m (a := a + 1) (n := n) m1 m2
      omega
/-! whose tasks there are -/
theorem sowns_iff : sowns b x = true ↔ ∃ t, t < tn b ∧ b 4 t = x := by
  unfold sowns
  rw [sany_iff]
  constructor
  · rintro ⟨t, -, h2, h3⟩
    exact ⟨t, by omega, by simpa using h3⟩
  · rintro ⟨t, h2, h3⟩
    exact ⟨t, by omega, by omega, by simpa using h3⟩
def mN (b c : zw_S) : Prop := ∀ x, sowns c x = true → sowns b x = true
theorem mN.trans {a b c : zw_S} (h1 : mN a b) (h2 : mN b c) : mN a c := fun x h => h1 x (h2 x h)
theorem mN_of (h4 : c 4 = b 4) (h0 : c 0 2 = b 0 2) : mN b c := by
  intro x hx
  rw [sowns_iff] at hx ⊢
  unfold tn at hx ⊢
  rw [h4, h0] at hx
  exact hx
theorem mN_y5 (h : Wf T N y c) {p : Nat} : mN c (y5 c p) := by
  have hT := h.T20
  unfold y5
  split
  · split
    · exact fun _ h => h
    · unfold sleave
      split
      · rename_i ho
        split
        · exact fun _ h => h
        · intro x hx
          rw [sowns_iff] at hx ⊢
          obtain ⟨i, h1, h2⟩ := hx
          have e0 : tn (sgone c p) = T := h.hT
          have h1' : i < (c 0 2 + 1).toNatClampNeg := h1
          rw [h.eT, nI_1, nc (by omega)] at h1'
          unfold scome at h2
          rw [e0] at h2
          by_cases hi : i = T
          · subst hi
            have : x = c 7 p := by
              simp [wr_ap] at h2
              exact h2.symm
            subst this
            obtain ⟨t, g1, g2, -⟩ := sopen_iff.mp ho
            exact ⟨t, g1, g2⟩
          · refine ⟨i, by rw [h.hT]; omega, ?_⟩
            simpa [wr_ap, hi, sgone] using h2
      · exact fun _ h => h
  · exact fun _ h => h
theorem mN_year (h : Wf T N y b) : mN b (syear b) := by
  have hN := h.hN
  have hT := h.hT
  unfold syear
  rw [hN, hT]
  obtain ⟨a1, a2, a3, a4⟩ := F_y1 (x := 0) h N 0 b h mL.refl (fun f _ => rfl) (by omega)
  obtain ⟨b1, b2, b3, b4⟩ := F_y2 (x := 0) h N 0 _ a4 a2 a3 (by omega)
  obtain ⟨c1, c2, c3, c4⟩ := F_y3 (x := 0) T 0 _ b4 (by omega)
  obtain ⟨d1, d2, d3, d5, d4⟩ := F_y4 (x := 0) N 0 _ c4 (by omega)
  have k4 : ∀ f, f ≠ 5 → f ≠ 8 → sfold y4 (sfold y3 (sfold y2 (sfold y1 b 0 N) 0 N) 0 T) 0 N f = b f := fun f q1 q2 => by
    rw [d3 f q2, c3 f q1, b3 f q1]
  have key : ∀ (k i T : Nat) (c : zw_S), Wf T N y c → i + k = N → mN c (sfold y5 c i k) := by
    intro k
    induction k with
    | zero => intro i T c hc hi; exact fun _ h => h
    | succ k ih =>
      intro i T c hc hi
      rw [sfold_s]
      obtain ⟨T2, -, hc2⟩ := hc.wy5 (show i < N by omega)
      exact (mN_y5 hc).trans (ih (i + 1) T2 (y5 c i) hc2 (by omega))
  refine (mN_of (c := sfold y4 (sfold y3 (sfold y2 (sfold y1 b 0 N) 0 N) 0 T) 0 N) (k4 4 (by decide) (by decide)) (by rw [k4 0 (by decide) (by decide)])).trans ((key N 0 T _ d4 (by omega)).trans ?_)
  exact fun _ h => h
theorem yrs_k : ∀ (n T y : Nat) (b : zw_S), Wf T N y b → y + n ≤ 5000 → mN b (syears n b) ∧ syears n b 1 = b 1 := by
  intro n
  induction n with
  | zero => intro T y b h hy; exact ⟨fun _ h => h, rfl⟩
  | succ n ih =>
    intro T y b h hy
    obtain ⟨T2, -, h2⟩ := h.year (by omega)
    obtain ⟨i1, i2⟩ := ih T2 (y + 1) (syear b) h2 (by omega)
    obtain ⟨-, -, e9, -, -⟩ := H_year (x := 0) h
    exact ⟨(mN_year h).trans i1, i2.trans (e9 1 (by omega))⟩
/-! all worth that is ended -/
def gWN (b : zw_S) (o : Nat) : Nat := if sowns b (nI o) = true ∧ ¬ sopen b (nI o) = true then (b 1 o).toNatClampNeg else 0
def sWN (b : zw_S) : Nat := sm (gWN b) 8 0
def gnN (b : zw_S) (n N p : Nat) (x : Int32) : Nat := if Hh b x ≤ Mx (b 8 p).toNatClampNeg n (mP b (Ll b x) p) (mQ b (Ll b x) p N) then (b 1 x.toNatClampNeg).toNatClampNeg else 0
def cN (b : zw_S) (n N p : Nat) : Nat := if ¬ b 7 p < 0 ∧ sopen b (b 7 p) = true then gnN b n N p (b 7 p) else 0
theorem V_bound (h : Wf T N y b) {n : Nat} (hy : y + n ≤ 5000) (h40 : ∀ p, p < N → b 8 p = 40 → b 7 p = -1) : sWN (syears n b) ≤ sWN b + sm (cN b n N) N 0 := by
  have hN8 := h.N8
  obtain ⟨yN, y1⟩ := yrs_k n T y b h hy
  have pt : ∀ o, o < 8 → gWN (syears n b) o ≤ gWN b o + sm (fun p => if b 7 p = nI o ∧ sopen b (nI o) = true then gnN b n N p (nI o) else 0) N 0 := by
    intro o ho
    unfold gWN
    rw [y1]
    by_cases hc : sowns (syears n b) (nI o) = true ∧ ¬ sopen (syears n b) (nI o) = true
    · rw [if_pos hc]
      by_cases hs : sopen b (nI o) = true
      · rw [if_neg (fun z => z.2 hs)]
        by_cases hb : ∃ p, p < N ∧ b 7 p = nI o
        · obtain ⟨p, hp, h7⟩ := hb
          obtain ⟨a, ha, h8⟩ := h.age hp
          have ha2 : a < 40 := by
            by_cases z : a = 40
            · exfalso
              have := h40 p hp (by rw [h8, z]; rfl)
              rw [h7] at this
              exact ne_m1 (by omega) this
            · omega
          have q := borne_B ho hp n T y b a h hy h7 h8 ha2 hc.2
          have q2 := sm_one (f := fun p => if b 7 p = nI o ∧ sopen b (nI o) = true then gnN b n N p (nI o) else 0) (t := p) N 0 (by omega) (by omega)
          have q3 : (if b 7 p = nI o ∧ sopen b (nI o) = true then gnN b n N p (nI o) else 0) = (b 1 o).toNatClampNeg := by
            rw [if_pos ⟨h7, hs⟩]
            unfold gnN
            rw [h8, nc (by omega), if_pos q, nc (by omega)]
          rw [q3] at q2
          omega
        · exact absurd (unborne ho n T y b h hy (fun q hq z => hb ⟨q, hq, z⟩) hs) hc.2
      · rw [if_pos ⟨yN _ hc.1, hs⟩]
        omega
    · rw [if_neg hc]
      omega
  have s1 : sWN (syears n b) ≤ sm (fun o => gWN b o + sm (fun p => if b 7 p = nI o ∧ sopen b (nI o) = true then gnN b n N p (nI o) else 0) N 0) 8 0 := sm_le 8 0 (fun j _ hj => pt j (by omega))
  rw [sm_add, sm_swap] at s1
  have s2 : sm (fun p => sm (fun o => if b 7 p = nI o ∧ sopen b (nI o) = true then gnN b n N p (nI o) else 0) 8 0) N 0 ≤ sm (cN b n N) N 0 := by
    apply sm_le
    intro p _ hp
    rcases h.name (show p < N by omega) with e | ⟨r, hr, e⟩
    · rw [sm_z]
      · omega
      · intro j _ hj
        rw [if_neg (fun z => ne_m1 (o := j) (by omega) (by rw [← z.1, e]))]
    · have q := sm_1 (f := fun o => if b 7 p = nI o ∧ sopen b (nI o) = true then gnN b n N p (nI o) else 0) (g := fun _ => 0) (t := r) (d := cN b n N p) 8 0 (fun j _ hj hne => by
        rw [if_neg (fun z => hne (by have := z.1; rw [e, nI_eq (by omega) (by omega)] at this; omega))]
        exact Nat.le_refl _) (by
        unfold cN
        rw [e]
        by_cases hs : sopen b (nI r) = true
        · rw [if_pos ⟨rfl, hs⟩, if_pos ⟨nI_pos (by omega), hs⟩]
          omega
        · rw [if_neg (fun z => hs z.2)]
          omega)
      rw [sm_z (f := fun _ => 0) 8 0 (fun _ _ _ => rfl)] at q
      omega
  unfold sWN at s1 ⊢
  omega
theorem sacc_n {g : Nat → Int32} {f : Nat → Nat} : ∀ (q i a : Nat), (∀ j, i ≤ j → j < i + q → g j = nI (f j)) → sacc g (nI a) i q = nI (a + sm f q i) := by
  intro q
  induction q with
  | zero => intro i a h; unfold sm; rfl
  | succ q ih =>
    intro i a h
    rw [sacc_s, h i (by omega) (by omega), nI_add, ih (i + 1) (a + f i) (fun j a b => h j (by omega) (by omega)), show sm f (q + 1) i = f i + sm f q (i + 1) from rfl, Nat.add_assoc]
theorem sworth_n (h : Wf T N y b) : sworth b = nI (sWN b) := by
  unfold sworth sWN
  have q := sacc_n (g := gW b) (f := gWN b) 8 0 0 (fun j _ hj => by
    unfold gW gWN
    obtain ⟨w1, w2⟩ := h.worth (i := j) (by omega)
    obtain ⟨m, hm, e⟩ := in_nI (M := 99) (m := 99) (by decide) ⟨w1, w2⟩
    by_cases hc : sowns b (nI j) = true ∧ ¬ sopen b (nI j) = true
    · rw [if_pos hc, if_pos ⟨(stasks_pos h _).mpr hc.1, hc.2⟩, e, nc (by omega)]
    · rw [if_neg hc, if_neg (fun z => hc ⟨(stasks_pos h _).mp z.1, z.2⟩)]
      rfl)
  rw [Nat.zero_add] at q
  exact q
theorem sWN_b (h : Wf T N y b) : sWN b ≤ 792 := by
  unfold sWN
  have : sm (gWN b) 8 0 ≤ sm (fun _ => 99) 8 0 := sm_le 8 0 (fun j _ hj => by
    unfold gWN
    obtain ⟨w1, w2⟩ := h.worth (i := j) (by omega)
    obtain ⟨m, hm, e⟩ := in_nI (M := 99) (m := 99) (by decide) ⟨w1, w2⟩
    split
    · rw [e, nc (by omega)]
      exact hm
    · omega)
  have e : sm (fun _ => 99) 8 0 = 792 := by decide
  omega
end B2
