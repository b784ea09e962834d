/-! the tape's tokens -/
def rn (B : Nat → Int32) (q : Int32 → Bool) : Nat → Nat → Nat
  | 0, p => p
  | k + 1, p => if q (B p) = true then rn B q k (p + 1) else p
theorem rn_b {B : Nat → Int32} {q : Int32 → Bool} : ∀ (k p : Nat), p ≤ rn B q k p ∧ rn B q k p ≤ p + k := by
  intro k
  induction k with
  | zero => intro p; unfold rn; omega
  | succ k ih =>
    intro p
    unfold rn
    have := ih (p + 1)
    split <;> omega
def isL (x : Int32) : Bool := decide (97 ≤ x ∧ x ≤ 122)
def isD (x : Int32) : Bool := decide (48 ≤ x ∧ x ≤ 57)
def isB (x : Int32) : Bool := decide (x = 32)
def nmb (B : Nat → Int32) : Nat → Nat → Nat → Nat
  | 0, _, v => v
  | k + 1, p, v => if isD (B p) = true then nmb B k (p + 1) (if 9999 < v then v else 10 * v + ((B p).toNatClampNeg - 48)) else v
def tS (B : Nat → Int32) (n e : Nat) : Nat := rn B isB (n - e) e
def tK (B : Nat → Int32) (n e : Nat) : Nat := if tS B n e < n then (if isL (B (tS B n e)) = true then 1 else if isD (B (tS B n e)) = true then 2 else 3) else 0
def tE (B : Nat → Int32) (n e : Nat) : Nat := if tK B n e = 1 then rn B isL (n - tS B n e) (tS B n e) else if tK B n e = 2 then rn B isD (n - tS B n e) (tS B n e) else if tK B n e = 3 then tS B n e + 1 else tS B n e
def tV (B : Nat → Int32) (n e : Nat) : Nat := if tK B n e = 2 then nmb B (n - tS B n e) (tS B n e) 0 else 0
section LX
variable {σ τ β γ : zw_S} {hd : Nat → Int32} {B : Nat → Int32} {n : Nat}
theorem tS_b {e : Nat} (h : e ≤ n) : e ≤ tS B n e ∧ tS B n e ≤ n := by
  have := rn_b (B := B) (q := isB) (n - e) e
  unfold tS
  omega
theorem tK_lt {e : Nat} (h : tK B n e ≠ 0) : tS B n e < n := by
  unfold tK at h
  by_cases h1 : tS B n e < n
  · exact h1
  · rw [if_neg h1] at h
    exact absurd rfl h
theorem tE_b {e : Nat} (h : e ≤ n) : tS B n e ≤ tE B n e ∧ tE B n e ≤ n := by
  have h1 := tS_b (B := B) h
  have h2 := rn_b (B := B) (q := isL) (n - tS B n e) (tS B n e)
  have h3 := rn_b (B := B) (q := isD) (n - tS B n e) (tS B n e)
  unfold tE
  by_cases c1 : tK B n e = 1
  · rw [if_pos c1]; omega
  · rw [if_neg c1]
    by_cases c2 : tK B n e = 2
    · rw [if_pos c2]; omega
    · rw [if_neg c2]
      by_cases c3 : tK B n e = 3
      · rw [if_pos c3]
        have := tK_lt (B := B) (n := n) (e := e) (by rw [c3]; decide)
        omega
      · rw [if_neg c3]; omega
theorem tK_c (e : Nat) : tK B n e = 0 ∨ tK B n e = 1 ∨ tK B n e = 2 ∨ tK B n e = 3 := by
  unfold tK
  split
  · split
    · omega
    · split <;> omega
  · omega
theorem tE_1 {e : Nat} (h : e ≤ n) (hk : tK B n e ≠ 0) : e + 1 ≤ tE B n e := by
  have h1 := tS_b (B := B) h
  have hl := tK_lt hk
  have e1 : n - tS B n e = (n - tS B n e - 1) + 1 := by omega
  unfold tE
  by_cases c1 : tK B n e = 1
  · rw [if_pos c1, e1]
    have hq : isL (B (tS B n e)) = true := by
      unfold tK at c1
      rw [if_pos hl] at c1
      by_cases hq : isL (B (tS B n e)) = true
      · exact hq
      · rw [if_neg hq] at c1
        split at c1 <;> omega
    unfold rn
    rw [if_pos hq]
    have := rn_b (B := B) (q := isL) (n - tS B n e - 1) (tS B n e + 1)
    omega
  · rw [if_neg c1]
    by_cases c2 : tK B n e = 2
    · rw [if_pos c2, e1]
      have hq : isD (B (tS B n e)) = true := by
        unfold tK at c2
        rw [if_pos hl] at c2
        by_cases hq : isD (B (tS B n e)) = true
        · exact hq
        · rw [if_neg hq] at c2
          split at c2 <;> omega
      unfold rn
      rw [if_pos hq]
      have := rn_b (B := B) (q := isD) (n - tS B n e - 1) (tS B n e + 1)
      omega
    · rw [if_neg c2]
      have := tK_c (B := B) (n := n) e
      rw [if_pos (show tK B n e = 3 by omega)]
      omega
theorem isD_c {x : Int32} (h : isD x = true) : ∃ d, 48 ≤ d ∧ d ≤ 57 ∧ x = nI d := by
  unfold isD at h
  rw [decide_eq_true_eq] at h
  obtain ⟨j, hj, rfl⟩ := in_nI (x := x) (M := 57) (m := 57) (by decide) ⟨by grind, h.2⟩
  refine ⟨j, ?_, hj, rfl⟩
  have := h.1
  rw [show (48 : Int32) = nI 48 from rfl, nI_leI (by omega) (by omega)] at this
  exact this
theorem nmb_b : ∀ (k p v : Nat), v ≤ 99999 → nmb B k p v ≤ 99999 := by
  intro k
  induction k with
  | zero => intro p v hv; exact hv
  | succ k ih =>
    intro p v hv
    unfold nmb
    by_cases hd : isD (B p) = true
    · rw [if_pos hd]
      apply ih
      obtain ⟨d, h1, h2, e⟩ := isD_c hd
      rw [e, nc (by omega)]
      split <;> omega
    · rw [if_neg hd]; exact hv
theorem tV_b {e : Nat} : tV B n e ≤ 99999 := by
  unfold tV
  split
  · exact nmb_b _ _ _ (by omega)
  · omega
/-! the class's lexer -/
def lx (o : Nat → Int32) (n so st en v : Int32) : Nat → Int32 := fun j => if j = 1 then n else if j = 2 then so else if j = 3 then st else if j = 4 then en else if j = 5 then v else o j
def XS (σ β : zw_S) (hd : Nat → Int32) (n : Nat) (so st en v : Int32) (γ : zw_S) : zw_S := tr (zw_us σ 45 (lx (σ 45) (nI n) so st en v)) β γ hd
variable {so st en v w : Int32}
theorem xs_o {i : Nat} (h : 46 ≤ i) : XS σ β hd n so st en v γ i = σ i := by
  unfold XS
  rw [FX.ftr i (Or.inr (Or.inr (by omega))), us_o (by omega)]
theorem xs_45 : XS σ β hd n so st en v γ 45 = lx (σ 45) (nI n) so st en v := by
  unfold XS
  rw [FX.ftr 45 (Or.inr (Or.inr (by omega))), us_at]
theorem xs1 : XS σ β hd n so st en v γ 45 1 = nI n := by rw [xs_45]; rfl
theorem xs2 : XS σ β hd n so st en v γ 45 2 = so := by rw [xs_45]; rfl
theorem xs3 : XS σ β hd n so st en v γ 45 3 = st := by rw [xs_45]; rfl
theorem xs4 : XS σ β hd n so st en v γ 45 4 = en := by rw [xs_45]; rfl
theorem xs5 : XS σ β hd n so st en v γ 45 5 = v := by rw [xs_45]; rfl
theorem tr_w {i j : Nat} (h : 45 ≤ i) : zw_wr (tr σ β γ hd) i j w = tr (zw_wr σ i j w) β γ hd := by
  unfold tr
  rw [pk_wo (by omega) (by omega), pk_wo (by omega) (by omega)]
theorem xw2 : zw_wr (XS σ β hd n so st en v γ) 45 2 w = XS σ β hd n w st en v γ := by
  unfold XS
  rw [tr_w (by omega), us_w]
  congr 2
  funext a
  unfold lx
  grind
theorem xw3 : zw_wr (XS σ β hd n so st en v γ) 45 3 w = XS σ β hd n so w en v γ := by
  unfold XS
  rw [tr_w (by omega), us_w]
  congr 2
  funext a
  unfold lx
  grind
theorem xw4 : zw_wr (XS σ β hd n so st en v γ) 45 4 w = XS σ β hd n so st w v γ := by
  unfold XS
  rw [tr_w (by omega), us_w]
  congr 2
  funext a
  unfold lx
  grind
theorem xw5 : zw_wr (XS σ β hd n so st en v γ) 45 5 w = XS σ β hd n so st en w γ := by
  unfold XS
  rw [tr_w (by omega), us_w]
  congr 2
  funext a
  unfold lx
  grind
def tX (B : Nat → Int32) (n : Nat) (σ : zw_S) : Prop := n ≤ 120 ∧ ∀ j, j < n → σ 46 j = B j
theorem x_rd {α : Type} {p : Nat} {F : Int32 → Option α} (h : tX B n σ) (hp : p < n) : rd (XS σ β hd n so st en v γ) 46 120 (nI p) F = F (B p) := by
  have := h.1
  rw [rd_i (by omega) (by decide), xs_o (by decide), h.2 p hp]
theorem x_isL {p : Nat} (h : tX B n σ) (hp : p < n) : m_X4_isLetter (XS σ β hd n so st en v γ) (nI p) = some (if isL (B p) = true then 1 else 0, XS σ β hd n so st en v γ) := by
  unfold m_X4_isLetter isL
  rw [x_rd h hp, x_rd h hp]
  grind
theorem x_isD {p : Nat} (h : tX B n σ) (hp : p < n) : m_X4_isDigit (XS σ β hd n so st en v γ) (nI p) = some (if isD (B p) = true then 1 else 0, XS σ β hd n so st en v γ) := by
  unfold m_X4_isDigit isD
  rw [x_rd h hp, x_rd h hp]
  grind
theorem x_word (h : tX B n σ) : ∀ (k m p : Nat), p + k = n → k < m → m_X4_advance_89 m (XS σ β hd n so st (nI p) v γ) = some (XS σ β hd n so st (nI (rn B isL k p)) v γ) := by
  have hn := h.1
  intro k
  induction k with
  | zero =>
    intro m p hp hm
    obtain ⟨m, rfl⟩ : ∃ z, m = z + 1 := ⟨m - 1, by omega⟩
    unfold m_X4_advance_89
    rw [xs1, xs4, if_pos (nI_le (by omega) (by omega))]
    rfl
  | succ k ih =>
    intro m p hp hm
    obtain ⟨m, rfl⟩ : ∃ z, m = z + 1 := ⟨m - 1, by omega⟩
    unfold m_X4_advance_89 rn
    rw [xs1, xs4, if_neg (nI_ge (by omega) (by omega)), x_isL h (by omega), cl_ok]
    by_cases hq : isL (B p) = true
    · rw [if1 hq, z10, if_pos hq, xs4, xw4, nm_ok, nI_1]
      exact ih m (p + 1) (by omega) (by omega)
    · rw [if0 hq, z00, if_neg hq]
theorem zmin_n {c d : Nat} (hc : c ≤ 10000) (hd : 48 ≤ d ∧ d ≤ 57) : zmin 10000 (nI c * 10 + nI d - 48) = nI (min 10000 (10 * c + (d - 48))) := by
  have e : nI c * 10 + nI d - 48 = nI (10 * c + (d - 48)) := by
    rw [show (10 : Int32) = nI 10 from rfl, pk_mul, nI_add, show (48 : Int32) = nI 48 from rfl, sub_nI (by omega)]
    congr 1
    omega
  rw [e, show (10000 : Int32) = nI 10000 from rfl]
  unfold zmin
  by_cases h : 10 * c + (d - 48) < 10000
  · rw [if_pos (nI_lt h (by omega)), Nat.min_eq_right (by omega)]
  · rw [if_neg (nI_nlt (by omega) (by omega)), Nat.min_eq_left (by omega)]
theorem x_num (h : tX B n σ) : ∀ (k m p u : Nat), p + k = n → k < m → m_X4_readNumber_5 m (XS σ β hd n so st (nI p) (nI (min 10000 u)) γ) = some (XS σ β hd n so st (nI (rn B isD k p)) (nI (min 10000 (nmb B k p u))) γ) := by
  have hn := h.1
  intro k
  induction k with
  | zero =>
    intro m p u hp hm
    obtain ⟨m, rfl⟩ : ∃ z, m = z + 1 := ⟨m - 1, by omega⟩
    unfold m_X4_readNumber_5
    rw [xs1, xs4, if_pos (nI_le (by omega) (by omega))]
    rfl
  | succ k ih =>
    intro m p u hp hm
    obtain ⟨m, rfl⟩ : ∃ z, m = z + 1 := ⟨m - 1, by omega⟩
    unfold m_X4_readNumber_5 rn nmb
    rw [xs1, xs4, if_neg (nI_ge (by omega) (by omega)), x_isD h (by omega), cl_ok]
    by_cases hq : isD (B p) = true
    · obtain ⟨d, d1, d2, ed⟩ := isD_c hq
      rw [if1 hq, z10, if_pos hq, if_pos hq, xs4, x_rd h (by omega), xs5, xw5, nm_ok, xs4, xw4, nm_ok, nI_1, ed, zmin_n (by omega) ⟨d1, d2⟩, nc (by omega)]
      have e : min 10000 (10 * min 10000 u + (d - 48)) = min 10000 (if 9999 < u then u else 10 * u + (d - 48)) := by
        split <;> omega
      rw [e]
      exact ih m (p + 1) _ (by omega) (by omega)
    · rw [if0 hq, z00, if_neg hq, if_neg hq]
def kX (B : Nat → Int32) (n e : Nat) : Int32 := if tK B n e = 3 ∧ ¬ B (tS B n e) = 59 then 4 else nI (tK B n e)
/-- what the class's lexer holds behind the end e -/
def XT (σ β : zw_S) (hd : Nat → Int32) (n : Nat) (B : Nat → Int32) (e : Nat) (w : Int32) (γ : zw_S) : zw_S := XS σ β hd n (kX B n e) (nI (tS B n e)) (nI (tE B n e)) w γ
def gd (B : Nat → Int32) (n e : Nat) (w : Int32) : Prop := tK B n e = 2 → w = nI (min 10000 (tV B n e))
theorem x_46 (h : tX B n σ) {e : Nat} (he : e ≤ n) : ∃ w, gd B n e w ∧ m_X4_advance_46 (XS σ β hd n so (nI (tS B n e)) en v γ) = some (XT σ β hd n B e w γ) := by
  have hn := h.1
  have hs := tS_b (B := B) he
  unfold m_X4_advance_46 XT
  by_cases c0 : tS B n e < n
  · by_cases c1 : isL (B (tS B n e)) = true
    · have k1 : tK B n e = 1 := by unfold tK; rw [if_pos c0, if_pos c1]
      refine ⟨v, fun z => absurd z (by omega), ?_⟩
      rw [nm_ok, xs3, xw4, xs3, xs1, if_pos (nI_lt c0 (by omega)), x_isL h c0, cl_ok, if1 c1, z10, xw2, nm_ok, x_word h (n - tS B n e) 200 _ (by omega) (by omega)]
      unfold kX tE
      rw [k1, if_neg (by omega), if_pos rfl]
      rfl
    · by_cases c2 : isD (B (tS B n e)) = true
      · have k2 : tK B n e = 2 := by unfold tK; rw [if_pos c0, if_neg c1, if_pos c2]
        refine ⟨nI (min 10000 (tV B n e)), fun _ => rfl, ?_⟩
        have hz := x_num (σ := σ) (β := β) (hd := hd) (γ := γ) (so := 2) (st := nI (tS B n e)) h (n - tS B n e) 200 (tS B n e) 0 (by omega) (by omega)
        rw [nm_ok, xs3, xw4, xs3, xs1, if_pos (nI_lt c0 (by omega)), x_isL h c0, cl_ok, if0 c1, z00, xs3, x_isD h c0, cl_ok, if1 c2, z10, xw2, nm_ok]
        unfold m_X4_readNumber
        rw [xw5, nm_ok]
        unfold kX tE tV
        rw [k2, if_neg (by omega), if_neg (by decide), if_pos rfl, if_pos rfl]
        refine Eq.trans (congrArg (fun z => cv z _) hz) ?_
        rw [cv_ok]
        rfl
      · have k3 : tK B n e = 3 := by unfold tK; rw [if_pos c0, if_neg c1, if_neg c2]
        refine ⟨v, fun z => absurd z (by omega), ?_⟩
        rw [nm_ok, xs3, xw4, xs3, xs1, if_pos (nI_lt c0 (by omega)), x_isL h c0, cl_ok, if0 c1, z00, xs3, x_isD h c0, cl_ok, if0 c2, z00, xs3, x_rd h c0]
        have eE : tE B n e = tS B n e + 1 := by
          unfold tE
          rw [k3]
          rfl
        rw [eE]
        by_cases c3 : B (tS B n e) = 59
        · have eK : kX B n e = 3 := by
            unfold kX
            rw [if_neg (fun z => z.2 c3), k3]
            rfl
          rw [if_pos c3, eK, xw2, nm_ok, xs3, xw4, nm_ok, nI_1]
        · have eK : kX B n e = 4 := by
            unfold kX
            rw [if_pos ⟨k3, c3⟩]
          rw [if_neg c3, eK, xw2, nm_ok, xs3, xw4, nm_ok, nI_1]
  · have k0 : tK B n e = 0 := by unfold tK; rw [if_neg c0]
    refine ⟨v, fun z => absurd z (by omega), ?_⟩
    rw [nm_ok, xs3, xw4, xs3, xs1, if_neg (nI_nlt (by omega) (by omega)), xw2, nm_ok]
    unfold kX tE
    rw [k0, if_neg (by omega), if_neg (by decide), if_neg (by decide), if_neg (by decide)]
    rfl
theorem x_adv (h : tX B n σ) {e : Nat} (he : e ≤ n) : ∃ w, gd B n e w ∧ m_X4_advance (XS σ β hd n so st (nI e) v γ) = some (XT σ β hd n B e w γ) := by
  have hn := h.1
  obtain ⟨w, hw, ew⟩ := x_46 (σ := σ) (β := β) (hd := hd) (γ := γ) (so := so) (en := nI e) (v := v) h he
  refine ⟨w, hw, ?_⟩
  have key : ∀ (k m p : Nat), p + k = n → k < m → m_X4_advance_8 m (XS σ β hd n so (nI p) (nI e) v γ) = m_X4_advance_46 (XS σ β hd n so (nI (rn B isB k p)) (nI e) v γ) := by
    intro k
    induction k with
    | zero =>
      intro m p hp hm
      obtain ⟨m, rfl⟩ : ∃ z, m = z + 1 := ⟨m - 1, by omega⟩
      unfold m_X4_advance_8
      rw [xs1, xs3, if_pos (nI_le (by omega) (by omega))]
      rfl
    | succ k ih =>
      intro m p hp hm
      obtain ⟨m, rfl⟩ : ∃ z, m = z + 1 := ⟨m - 1, by omega⟩
      unfold m_X4_advance_8 rn
      rw [xs1, xs3, if_neg (nI_ge (by omega) (by omega)), x_rd h (by omega)]
      by_cases hq : B p = 32
      · rw [if_pos hq, if_pos (show isB (B p) = true by simp [isB, hq]), xw3, nm_ok, nI_1]
        exact ih m (p + 1) (by omega) (by omega)
      · rw [if_neg hq, if_neg (show ¬ isB (B p) = true by simp [isB, hq])]
  unfold m_X4_advance
  rw [xs4, xw3, nm_ok, key (n - e) 200 e (by omega) (by omega)]
  exact ew
theorem xt_adv (h : tX B n σ) {e : Nat} (he : e ≤ n) : ∃ w2, gd B n (tE B n e) w2 ∧ m_X4_advance (XT σ β hd n B e w γ) = some (XT σ β hd n B (tE B n e) w2 γ) := x_adv h (tE_b he).2
/-! words, numbers -/
def wdm (B : Nat → Int32) (s b : Nat) : Nat → Nat → Bool
  | 0, _ => true
  | k + 1, j => if B (s + j) = zsc b (nI j) then wdm B s b k (j + 1) else false
def swd (B : Nat → Int32) (n e b : Nat) : Bool := decide (tK B n e = 1) && decide (tE B n e = tS B n e + zw_len.getD b 0) && wdm B (tS B n e) b (zw_len.getD b 0) 0
theorem len_b {b : Nat} (hb : b < 15) : zw_len.getD b 0 ≤ 7 := (by decide : ∀ b : Nat, b < 15 → zw_len.getD b 0 ≤ 7) b hb
theorem sub_eq {a b c : Nat} (hab : b ≤ a) (ha : a ≤ 1000) (hc : c ≤ 1000) : (nI a - nI b = nI c) ↔ a = b + c := by
  rw [sub_nI hab, nI_eq (by omega) (by omega)]
  omega
theorem x_isWord (h : tX B n σ) {e b : Nat} (he : e ≤ n) (hb : b < 15) : m_X4_isWord b (XT σ β hd n B e w γ) = some (if swd B n e b = true then 1 else 0, XT σ β hd n B e w γ) := by
  have hn := h.1
  have hl := len_b hb
  have hs := tS_b (B := B) he
  have ht := tE_b (B := B) he
  unfold m_X4_isWord swd XT
  rw [xs2, xs4, xs3]
  by_cases k1 : tK B n e = 1
  · have e1 : kX B n e = 1 := by
      unfold kX
      rw [k1, if_neg (by omega)]
      rfl
    rw [if_pos e1]
    have sq : (nI (tE B n e) - nI (tS B n e) = zsl b) ↔ tE B n e = tS B n e + zw_len.getD b 0 := sub_eq (by omega) (by omega) (by omega)
    by_cases k2 : tE B n e = tS B n e + zw_len.getD b 0
    · have key : ∀ (k m j : Nat), j + k = zw_len.getD b 0 → k < m → m_X4_isWord_28 b m (XS σ β hd n (kX B n e) (nI (tS B n e)) (nI (tE B n e)) w γ) (nI j) = some (if wdm B (tS B n e) b k j = true then 1 else 0, XS σ β hd n (kX B n e) (nI (tS B n e)) (nI (tE B n e)) w γ) := by
        intro k
        induction k with
        | zero =>
          intro m j hj hm
          obtain ⟨m, rfl⟩ : ∃ z, m = z + 1 := ⟨m - 1, by omega⟩
          unfold m_X4_isWord_28 wdm
          rw [if_pos (show zsl b ≤ nI j from nI_le (by omega) (by omega)), if_pos rfl]
        | succ k ih =>
          intro m j hj hm
          obtain ⟨m, rfl⟩ : ∃ z, m = z + 1 := ⟨m - 1, by omega⟩
          unfold m_X4_isWord_28 wdm
          rw [if_neg (show ¬ zsl b ≤ nI j from nI_ge (by omega) (by omega)), xs3, nI_add, x_rd h (by omega), tt_ok (zi_nI (by omega) (by omega))]
          by_cases c : B (tS B n e + j) = zsc b (nI j)
          · rw [if_pos c, if_pos c, nm_ok, nI_1]
            exact ih m (j + 1) (by omega) (by omega)
          · rw [if_neg c, if_neg c]
            rfl
      rw [if_pos (sq.mpr k2)]
      refine Eq.trans (key (zw_len.getD b 0) 200 0 (by omega) (by omega)) ?_
      rw [decide_eq_true k1, decide_eq_true k2, Bool.true_and, Bool.true_and]
    · rw [if_neg (fun z => k2 (sq.mp z)), decide_eq_false k2, Bool.and_false, Bool.false_and]
      rfl
  · have e1 : ¬ kX B n e = 1 := by
      unfold kX
      have := tK_c (B := B) (n := n) e
      split
      · decide
      · intro z
        rw [show (1 : Int32) = nI 1 from rfl, nI_eq (by omega) (by omega)] at z
        exact k1 z
    rw [if_neg e1]
    simp [k1]
theorem x_pass (h : tX B n σ) {e b : Nat} (he : e ≤ n) (hb : b < 15) : (swd B n e b = true ∧ ∃ w2, gd B n (tE B n e) w2 ∧ m_X4_passWord b (XT σ β hd n B e w γ) = some (1, XT σ β hd n B (tE B n e) w2 γ)) ∨ (¬ swd B n e b = true ∧ m_X4_passWord b (XT σ β hd n B e w γ) = some (0, XT σ β hd n B e w γ)) := by
  unfold m_X4_passWord
  rw [x_isWord h he hb, cl_ok]
  by_cases c : swd B n e b = true
  · obtain ⟨w2, g, e2⟩ := xt_adv (σ := σ) (β := β) (hd := hd) (γ := γ) (w := w) h he
    refine Or.inl ⟨c, w2, g, ?_⟩
    rw [if1 c, z10, e2, cv_ok, tt_ok (by decide)]
  · refine Or.inr ⟨c, ?_⟩
    rw [if0 c, z00, tt_ok (by decide)]
def snm (B : Nat → Int32) (n e : Nat) (lo hi : Int32) : Prop := tK B n e = 2 ∧ lo ≤ nI (tV B n e) ∧ nI (tV B n e) ≤ hi
theorem x_num2 (h : tX B n σ) {e : Nat} {lo hi : Int32} (he : e ≤ n) (hg : gd B n e w) (hlo : lo ≤ 1) (hhi : hi ≤ 999) : (snm B n e lo hi ∧ ∃ w2, gd B n (tE B n e) w2 ∧ m_X4_passNumber (XT σ β hd n B e w γ) lo hi = some (nI (tV B n e), XT σ β hd n B (tE B n e) w2 γ)) ∨ (¬ snm B n e lo hi ∧ m_X4_passNumber (XT σ β hd n B e w γ) lo hi = some (-1, XT σ β hd n B e w γ)) := by
  have hv := tV_b (B := B) (n := n) (e := e)
  obtain ⟨w2, g, e2⟩ := xt_adv (σ := σ) (β := β) (hd := hd) (γ := γ) (w := w) h he
  have s2 : XT σ β hd n B e w γ 45 2 = kX B n e := by unfold XT; rw [xs2]
  have s5 : XT σ β hd n B e w γ 45 5 = w := by unfold XT; rw [xs5]
  unfold m_X4_passNumber snm
  rw [s2, s5]
  by_cases k2 : tK B n e = 2
  · have e1 : kX B n e = 2 := by
      unfold kX
      rw [k2, if_neg (by omega)]
      rfl
    have hw := hg k2
    rw [if_pos e1]
    by_cases hb : tV B n e ≤ 9999
    · have hw2 : w = nI (tV B n e) := by rw [hw, Nat.min_eq_right (by omega)]
      rw [hw2] at e2 ⊢
      by_cases q1 : nI (tV B n e) < lo
      · rw [if_pos q1]
        exact Or.inr ⟨fun z => by grind, rfl⟩
      · rw [if_neg q1]
        by_cases q2 : nI (tV B n e) ≤ hi
        · rw [if_pos q2, nm_ok, e2, cv_ok]
          exact Or.inl ⟨⟨k2, by grind, q2⟩, w2, g, rfl⟩
        · rw [if_neg q2]
          exact Or.inr ⟨fun z => q2 z.2.2, rfl⟩
    · have big : nI 10000 ≤ nI (tV B n e) := nI_le (by omega) (by omega)
      have b1 : (10000 : Int32) = nI 10000 := rfl
      have nq : ¬ nI (tV B n e) ≤ hi := by grind
      rw [hw, Nat.min_eq_left (by omega), ← b1, if_neg (by grind), if_neg (by grind)]
      exact Or.inr ⟨fun z => nq z.2.2, rfl⟩
  · have e1 : ¬ kX B n e = 2 := by
      unfold kX
      have := tK_c (B := B) (n := n) e
      split
      · decide
      · intro z
        rw [show (2 : Int32) = nI 2 from rfl, nI_eq (by omega) (by omega)] at z
        exact k2 z
    rw [if_neg e1]
    exact Or.inr ⟨fun z => k2 z.1, rfl⟩
end LX
