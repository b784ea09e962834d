/-! the reference's lexer -/
section LM
variable {σ τ β γ : zw_S} {hd : Nat → Int32} {B : Nat → Int32} {n T N y : Nat} {so fr to v bd w : Int32}
def mx (o : Nat → Int32) (n so fr to v bd : Int32) : Nat → Int32 := fun j => if j = 9 then n else if j = 10 then so else if j = 11 then fr else if j = 12 then to else if j = 13 then v else if j = 14 then bd else o j
def MS (τ : zw_S) (n : Nat) (so fr to v bd : Int32) (γ : zw_S) : zw_S := pm (zw_us τ 57 (mx (τ 57) (nI n) so fr to v bd)) γ
theorem ms_57 : MS τ n so fr to v bd γ 57 = mx (τ 57) (nI n) so fr to v bd := by
  unfold MS
  rw [pm_o (by decide), us_at]
theorem ms_o {i : Nat} (h1 : i ≠ 57) (h2 : i ≠ 58) : MS τ n so fr to v bd γ i = τ i := by
  unfold MS
  rw [pm_o h2, us_o h1]
theorem ms9 : MS τ n so fr to v bd γ 57 9 = nI n := by rw [ms_57]; rfl
theorem ms10 : MS τ n so fr to v bd γ 57 10 = so := by rw [ms_57]; rfl
theorem ms11 : MS τ n so fr to v bd γ 57 11 = fr := by rw [ms_57]; rfl
theorem ms12 : MS τ n so fr to v bd γ 57 12 = to := by rw [ms_57]; rfl
theorem ms13 : MS τ n so fr to v bd γ 57 13 = v := by rw [ms_57]; rfl
theorem ms14 : MS τ n so fr to v bd γ 57 14 = bd := by rw [ms_57]; rfl
theorem mw10 : zw_wr (MS τ n so fr to v bd γ) 57 10 w = MS τ n w fr to v bd γ := by
  unfold MS
  rw [pm_wo (by decide), us_w]
  congr 2
  funext a
  unfold mx
  grind
theorem mw11 : zw_wr (MS τ n so fr to v bd γ) 57 11 w = MS τ n so w to v bd γ := by
  unfold MS
  rw [pm_wo (by decide), us_w]
  congr 2
  funext a
  unfold mx
  grind
theorem mw12 : zw_wr (MS τ n so fr to v bd γ) 57 12 w = MS τ n so fr w v bd γ := by
  unfold MS
  rw [pm_wo (by decide), us_w]
  congr 2
  funext a
  unfold mx
  grind
theorem mw13 : zw_wr (MS τ n so fr to v bd γ) 57 13 w = MS τ n so fr to w bd γ := by
  unfold MS
  rw [pm_wo (by decide), us_w]
  congr 2
  funext a
  unfold mx
  grind
theorem mw14 : zw_wr (MS τ n so fr to v bd γ) 57 14 w = MS τ n so fr to v w γ := by
  unfold MS
  rw [pm_wo (by decide), us_w]
  congr 2
  funext a
  unfold mx
  grind
def tM (B : Nat → Int32) (n : Nat) (τ : zw_S) : Prop := n ≤ 120 ∧ ∀ j, j < n → τ 65 j = B j
theorem m_rd {α : Type} {p : Nat} {F : Int32 → Option α} (h : tM B n τ) (hp : p < n) : rd (MS τ n so fr to v bd γ) 65 120 (nI p) F = F (B p) := by
  have := h.1
  rw [rd_i (by omega) (by decide), ms_o (by decide) (by decide), h.2 p hp]
theorem r_isByte {p : Nat} {lo hi : Int32} (h : tM B n τ) (hp : p ≤ n) : m_X7_isByte (MS τ n so fr to v bd γ) (nI p) lo hi = some (if p < n ∧ lo ≤ B p ∧ B p ≤ hi then 1 else 0, MS τ n so fr to v bd γ) := by
  have hn := h.1
  unfold m_X7_isByte
  rw [ms9]
  by_cases c : p < n
  · rw [if_neg (nI_ge c (by omega)), m_rd h c, r_in, cl_ok]
    by_cases c2 : lo ≤ B p ∧ B p ≤ hi
    · rw [if1 c2, z10, if1 ⟨c, c2⟩]
    · rw [if0 c2, z00, if0 (fun z => c2 z.2)]
  · rw [if_pos (nI_le (by omega) (by omega)), if0 (fun z => c z.1)]
theorem r_161n {m : Nat} (hs : ¬ so = 2) : m_X7_token_161 (m + 1) (MS τ n so fr to v bd γ) = some (MS τ n so fr to v bd γ) := by
  unfold m_X7_token_161
  rw [ms10, if_neg hs]
theorem r_161 (h : tM B n τ) : ∀ (k m p u : Nat), p + k = n → k < m → u ≤ 99999 → m_X7_token_161 m (MS τ n 2 fr (nI p) (nI u) bd γ) = some (MS τ n 2 fr (nI (rn B isD k p)) (nI (nmb B k p u)) bd γ) := by
  have hn := h.1
  intro k
  induction k with
  | zero =>
    intro m p u hp hm hu
    obtain ⟨m, rfl⟩ : ∃ z, m = z + 1 := ⟨m - 1, by omega⟩
    unfold m_X7_token_161
    rw [ms10, if_pos rfl, ms12, r_isByte h (by omega), cl_ok, if0 (show ¬ (p < n ∧ 48 ≤ B p ∧ B p ≤ 57) from fun z => by omega), z00]
    rfl
  | succ k ih =>
    intro m p u hp hm hu
    obtain ⟨m, rfl⟩ : ∃ z, m = z + 1 := ⟨m - 1, by omega⟩
    unfold m_X7_token_161 rn nmb
    rw [ms10, if_pos rfl, ms12, r_isByte h (by omega), cl_ok]
    by_cases hq : isD (B p) = true
    · obtain ⟨d, d1, d2, ed⟩ := isD_c hq
      have hq2 : p < n ∧ 48 ≤ B p ∧ B p ≤ 57 := ⟨by omega, by unfold isD at hq; simpa using hq⟩
      rw [if1 hq2, z10, if_pos hq, if_pos hq, ms13, ms12, m_rd h (by omega), mw13, nm_ok, ms12, mw12, nm_ok, mw13, nm_ok, ms12, mw12, nm_ok, nI_1, ed, nc (by omega)]
      by_cases c : 9999 < u
      · rw [if_pos c, if_neg (show ¬ nI u ≤ 9999 from nI_ge (a := 9999) c (by omega))]
        exact ih m (p + 1) u (by omega) (by omega) hu
      · have e : (10 : Int32) * nI u + nI d - 48 = nI (10 * u + (d - 48)) := by
          rw [show (10 : Int32) = nI 10 from rfl, pk_mul, nI_add, show (48 : Int32) = nI 48 from rfl, sub_nI (by omega)]
          congr 1
          omega
        rw [if_neg c, if_pos (show nI u ≤ 9999 from nI_le (b := 9999) (by omega) (by omega)), e]
        exact ih m (p + 1) _ (by omega) (by omega) (by omega)
    · have hq2 : ¬ (p < n ∧ 48 ≤ B p ∧ B p ≤ 57) := fun z => hq (by unfold isD; simpa using z.2)
      rw [if0 hq2, z00, if_neg hq, if_neg hq]
theorem r_125 (h : tM B n τ) : ∀ (k m p : Nat), p + k = n → k < m → m_X7_token_125 m (MS τ n 1 fr (nI p) v bd γ) = some (MS τ n 1 fr (nI (rn B isL k p)) v bd γ) := by
  have hn := h.1
  intro k
  induction k with
  | zero =>
    intro m p hp hm
    obtain ⟨m, rfl⟩ : ∃ z, m = z + 1 := ⟨m - 1, by omega⟩
    unfold m_X7_token_125
    rw [ms10, if_pos rfl, ms12, r_isByte h (by omega), cl_ok, if0 (show ¬ (p < n ∧ 97 ≤ B p ∧ B p ≤ 122) from fun z => by omega), z00]
    exact r_161n (by decide)
  | succ k ih =>
    intro m p hp hm
    obtain ⟨m, rfl⟩ : ∃ z, m = z + 1 := ⟨m - 1, by omega⟩
    unfold m_X7_token_125 rn
    rw [ms10, if_pos rfl, ms12, r_isByte h (by omega), cl_ok]
    by_cases hq : isL (B p) = true
    · have hq2 : p < n ∧ 97 ≤ B p ∧ B p ≤ 122 := ⟨by omega, by unfold isL at hq; simpa using hq⟩
      rw [if1 hq2, z10, if_pos hq, ms12, mw12, nm_ok, nI_1]
      exact ih m (p + 1) (by omega) (by omega)
    · have hq2 : ¬ (p < n ∧ 97 ≤ B p ∧ B p ≤ 122) := fun z => hq (by unfold isL; simpa using z.2)
      rw [if0 hq2, z00, if_neg hq]
      exact r_161n (by decide)
theorem r_125n {m : Nat} (hs : ¬ so = 1) : m_X7_token_125 (m + 1) (MS τ n so fr to v bd γ) = m_X7_token_161 200 (MS τ n so fr to v bd γ) := by
  unfold m_X7_token_125
  rw [ms10, if_neg hs]
/-- what the reference's lexer holds behind the end e -/
def MT (τ : zw_S) (n : Nat) (B : Nat → Int32) (e : Nat) (bd : Int32) (γ : zw_S) : zw_S := MS τ n (nI (tK B n e)) (nI (tS B n e)) (nI (tE B n e)) (nI (tV B n e)) bd γ
theorem r_36 (h : tM B n τ) {e : Nat} (he : e ≤ n) : m_X7_token_36 (MS τ n so (nI (tS B n e)) to v bd γ) = some (MT τ n B e bd γ) := by
  have hn := h.1
  have hs := tS_b (B := B) he
  unfold m_X7_token_36 MT
  rw [ms11, mw12, nm_ok, mw13, nm_ok, ms11, ms9]
  by_cases c0 : tS B n e < n
  · have ne : ¬ nI (tS B n e) = nI n := by rw [nI_eq (by omega) (by omega)]; omega
    rw [if_neg ne, r_isByte h (by omega), cl_ok]
    by_cases c1 : isL (B (tS B n e)) = true
    · have k1 : tK B n e = 1 := by unfold tK; rw [if_pos c0, if_pos c1]
      have c1' : tS B n e < n ∧ 97 ≤ B (tS B n e) ∧ B (tS B n e) ≤ 122 := ⟨c0, by unfold isL at c1; simpa using c1⟩
      have eE : tE B n e = rn B isL (n - tS B n e) (tS B n e) := by unfold tE; rw [if_pos k1]
      have eV : tV B n e = 0 := by unfold tV; rw [if_neg (by omega)]
      rw [if1 c1', z10, k1, eE, eV]
      unfold m_X7_token_104
      rw [mw10, nm_ok, ms10, if_neg (by decide)]
      exact r_125 h (n - tS B n e) 200 (tS B n e) (by omega) (by omega)
    · have c1' : ¬ (tS B n e < n ∧ 97 ≤ B (tS B n e) ∧ B (tS B n e) ≤ 122) := fun z => c1 (by unfold isL; simpa using z.2)
      rw [if0 c1', z00, ms11, r_isByte h (by omega), cl_ok]
      by_cases c2 : isD (B (tS B n e)) = true
      · have k2 : tK B n e = 2 := by unfold tK; rw [if_pos c0, if_neg c1, if_pos c2]
        have c2' : tS B n e < n ∧ 48 ≤ B (tS B n e) ∧ B (tS B n e) ≤ 57 := ⟨c0, by unfold isD at c2; simpa using c2⟩
        have eE : tE B n e = rn B isD (n - tS B n e) (tS B n e) := by unfold tE; rw [if_neg (by omega), if_pos k2]
        have eV : tV B n e = nmb B (n - tS B n e) (tS B n e) 0 := by unfold tV; rw [if_pos k2]
        rw [if1 c2', z10, k2, eE, eV]
        unfold m_X7_token_104
        rw [mw10, nm_ok, ms10, if_neg (by decide)]
        refine Eq.trans (r_125n (by decide)) ?_
        exact r_161 h (n - tS B n e) 200 (tS B n e) 0 (by omega) (by omega) (by omega)
      · have k3 : tK B n e = 3 := by unfold tK; rw [if_pos c0, if_neg c1, if_neg c2]
        have c2' : ¬ (tS B n e < n ∧ 48 ≤ B (tS B n e) ∧ B (tS B n e) ≤ 57) := fun z => c2 (by unfold isD; simpa using z.2)
        have eE : tE B n e = tS B n e + 1 := by unfold tE; rw [if_neg (by omega), if_neg (by omega), if_pos k3]
        have eV : tV B n e = 0 := by unfold tV; rw [if_neg (by omega)]
        rw [if0 c2', z00, k3, eE, eV]
        unfold m_X7_token_104
        rw [mw10, nm_ok, ms10, if_pos rfl, ms12, mw12, nm_ok, nI_1]
        refine Eq.trans (r_125n (by decide)) ?_
        exact r_161n (by decide)
  · have k0 : tK B n e = 0 := by unfold tK; rw [if_neg c0]
    have eE : tE B n e = tS B n e := by unfold tE; rw [if_neg (by omega), if_neg (by omega), if_neg (by omega)]
    have eV : tV B n e = 0 := by unfold tV; rw [if_neg (by omega)]
    rw [if_pos (by rw [show tS B n e = n by omega]), k0, eE, eV]
    unfold m_X7_token_104
    rw [mw10, nm_ok, ms10, if_neg (by decide)]
    refine Eq.trans (r_125n (by decide)) ?_
    exact r_161n (by decide)
theorem r_tok (h : tM B n τ) {e : Nat} (he : e ≤ n) : m_X7_token (MS τ n so fr (nI e) v bd γ) = some (MT τ n B e bd γ) := by
  have hn := h.1
  have key : ∀ (k m p : Nat), p + k = n → k < m → m_X7_token_8 m (MS τ n so (nI p) (nI e) v bd γ) = m_X7_token_36 (MS τ n so (nI (rn B isB k p)) (nI e) v bd γ) := by
    intro k
    induction k with
    | zero =>
      intro m p hp hm
      obtain ⟨m, rfl⟩ : ∃ z, m = z + 1 := ⟨m - 1, by omega⟩
      unfold m_X7_token_8
      rw [ms11, r_isByte h (by omega), cl_ok, if0 (show ¬ (p < n ∧ 32 ≤ B p ∧ B p ≤ 32) from fun z => by omega), z00]
      rfl
    | succ k ih =>
      intro m p hp hm
      obtain ⟨m, rfl⟩ : ∃ z, m = z + 1 := ⟨m - 1, by omega⟩
      unfold m_X7_token_8 rn
      rw [ms11, r_isByte h (by omega), cl_ok]
      by_cases hq : isB (B p) = true
      · have hq2 : p < n ∧ 32 ≤ B p ∧ B p ≤ 32 := ⟨by omega, by unfold isB at hq; rw [decide_eq_true_eq] at hq; rw [hq]; decide⟩
        rw [if1 hq2, z10, if_pos hq, ms11, mw11, nm_ok, nI_1]
        exact ih m (p + 1) (by omega) (by omega)
      · have hq2 : ¬ (p < n ∧ 32 ≤ B p ∧ B p ≤ 32) := fun z => hq (by unfold isB; rw [decide_eq_true_eq]; grind)
        rw [if0 hq2, z00, if_neg hq]
  unfold m_X7_token
  rw [ms12, mw11, nm_ok, key (n - e) 200 e (by omega) (by omega)]
  exact r_36 h he
theorem mt_tok (h : tM B n τ) {e : Nat} (he : e ≤ n) : m_X7_token (MT τ n B e bd γ) = some (MT τ n B (tE B n e) bd γ) := r_tok h (tE_b he).2
theorem mt14 {e : Nat} : MT τ n B e bd γ 57 14 = bd := ms14
theorem mt13 {e : Nat} : MT τ n B e bd γ 57 13 = nI (tV B n e) := ms13
theorem mt10 {e : Nat} : MT τ n B e bd γ 57 10 = nI (tK B n e) := ms10
theorem mt11 {e : Nat} : MT τ n B e bd γ 57 11 = nI (tS B n e) := ms11
theorem mtw14 {e : Nat} : zw_wr (MT τ n B e bd γ) 57 14 w = MT τ n B e w γ := mw14
theorem r_39z {b m : Nat} {x3 : Int32} {s : zw_S} : m_X7_isWord_39 b (m + 1) s 0 x3 = some (0, s) := by
  unfold m_X7_isWord_39
  rw [if_pos rfl, tt_ok (by decide)]
theorem m_isWord (h : tM B n τ) {e b : Nat} (he : e ≤ n) (hb : b < 15) : m_X7_isWord b (MT τ n B e 0 γ) = some (if swd B n e b = true then 1 else 0, MT τ n B e 0 γ) := by
  have hn := h.1
  have hl := len_b hb
  have hs := tS_b (B := B) he
  have ht := tE_b (B := B) he
  unfold m_X7_isWord swd
  rw [mt14, if_pos rfl]
  unfold MT
  rw [ms10, ms12, ms11]
  by_cases k1 : tK B n e = 1
  · rw [if_pos (by rw [k1]; rfl)]
    have sq : (nI (tE B n e) - nI (tS B n e) = zsl b) ↔ tE B n e = tS B n e + zw_len.getD b 0 := sub_eq (by omega) (by omega) (by omega)
    by_cases k2 : tE B n e = tS B n e + zw_len.getD b 0
    · have key : ∀ (k m j : Nat), j + k = zw_len.getD b 0 → k + 1 < m → m_X7_isWord_39 b m (MS τ n (nI (tK B n e)) (nI (tS B n e)) (nI (tE B n e)) (nI (tV B n e)) 0 γ) 1 (nI j) = some (if wdm B (tS B n e) b k j = true then 1 else 0, MS τ n (nI (tK B n e)) (nI (tS B n e)) (nI (tE B n e)) (nI (tV B n e)) 0 γ) := by
        intro k
        induction k with
        | zero =>
          intro m j hj hm
          obtain ⟨m, rfl⟩ : ∃ z, m = z + 1 := ⟨m - 1, by omega⟩
          unfold m_X7_isWord_39 wdm
          rw [if_neg (by decide), if_pos (show zsl b ≤ nI j from nI_le (by omega) (by omega)), tt_ok (by decide), if_pos rfl]
        | succ k ih =>
          intro m j hj hm
          obtain ⟨m, rfl⟩ : ∃ z, m = z + 2 := ⟨m - 2, by omega⟩
          unfold m_X7_isWord_39 wdm
          rw [if_neg (by decide), if_neg (show ¬ zsl b ≤ nI j from nI_ge (by omega) (by omega)), ms11, nI_add, m_rd h (by omega), tt_ok (zi_nI (by omega) (by omega))]
          by_cases c : B (tS B n e + j) = zsc b (nI j)
          · rw [if_pos c, if_pos c, nm_ok, nI_1]
            exact ih (m + 1) (j + 1) (by omega) (by omega)
          · rw [if_neg c, if_neg c, nm_ok]
            exact r_39z
      rw [if_pos (sq.mpr k2)]
      refine Eq.trans (key (zw_len.getD b 0) 200 0 (by omega) (by omega)) ?_
      rw [decide_eq_true k1, decide_eq_true k2, Bool.true_and, Bool.true_and]
    · rw [if_neg (fun z => k2 (sq.mp z)), decide_eq_false k2, Bool.and_false, Bool.false_and]
      exact r_39z
  · have := tK_c (B := B) (n := n) e
    rw [if_neg (fun z => k1 (by rw [show (1 : Int32) = nI 1 from rfl, nI_eq (by omega) (by omega)] at z; exact z)), decide_eq_false k1, Bool.false_and, Bool.false_and]
    exact r_39z
theorem m_isWordB {e b : Nat} : m_X7_isWord b (MT τ n B e 1 γ) = some (0, MT τ n B e 1 γ) := by
  unfold m_X7_isWord
  rw [mt14, if_neg (by decide)]
  exact r_39z
theorem m_takes (h : tM B n τ) {e b : Nat} (he : e ≤ n) (hb : b < 15) : m_X7_takes b (MT τ n B e 0 γ) = if swd B n e b = true then some (1, MT τ n B (tE B n e) 0 γ) else some (0, MT τ n B e 0 γ) := by
  unfold m_X7_takes
  rw [m_isWord h he hb, cl_ok]
  by_cases c : swd B n e b = true
  · rw [if1 c, z10, mt_tok h he, cv_ok, if_pos c]
  · rw [if0 c, z00, if_neg c]
theorem m_takesB {e b : Nat} : m_X7_takes b (MT τ n B e 1 γ) = some (0, MT τ n B e 1 γ) := by
  unfold m_X7_takes
  rw [m_isWordB, cl_ok, z00]
theorem m_numB {e : Nat} {lo hi x : Int32} : m_X7_number (MT τ n B e 1 γ) lo hi x = some (nI (tV B n e), MT τ n B e 1 γ) := by
  unfold m_X7_number m_X7_number_40
  rw [mt14, if_neg (by decide), tt_ok (by decide), mtw14, nm_ok, nm_ok, mt13, mt14, if_neg (by decide)]
theorem m_num40 (h : tM B n τ) {e : Nat} (he : e ≤ n) : m_X7_number_40 (MT τ n B e 0 γ) 0 = some (nI (tV B n e), MT τ n B (tE B n e) 0 γ) := by
  unfold m_X7_number_40
  rw [tt_ok (by decide), mtw14, nm_ok, nm_ok, mt13, mt14, if_pos rfl, mt_tok h he, cv_ok]
theorem m_num41 {e : Nat} : m_X7_number_40 (MT τ n B e 0 γ) 1 = some (nI (tV B n e), MT τ n B e 1 γ) := by
  unfold m_X7_number_40
  rw [tt_ok (by decide), mtw14, nm_ok, nm_ok, mt13, mt14, if_neg (by decide)]
theorem m_num (h : tM B n τ) {e : Nat} {lo hi : Int32} (he : e ≤ n) : (snm B n e lo hi → m_X7_number (MT τ n B e 0 γ) lo hi 1 = some (nI (tV B n e), MT τ n B (tE B n e) 0 γ)) ∧ (¬ snm B n e lo hi → m_X7_number (MT τ n B e 0 γ) lo hi 1 = some (nI (tV B n e), MT τ n B e 1 γ)) := by
  have := tK_c (B := B) (n := n) e
  have e2 : nI (tK B n e) = 2 ↔ tK B n e = 2 := by rw [show (2 : Int32) = nI 2 from rfl, nI_eq (by omega) (by omega)]
  unfold m_X7_number snm
  rw [mt14, if_pos rfl, if_neg (by decide), mt10, mt13, r_in, cl_ok, m_num40 h he, m_num41]
  constructor
  · intro z
    rw [if_pos (e2.mpr z.1), if1 z.2, z10]
  · intro z
    by_cases k2 : tK B n e = 2
    · rw [if_pos (e2.mpr k2), if0 (fun q => z ⟨k2, q⟩), z00]
    · rw [if_neg (fun q => k2 (e2.mp q))]
theorem m_num0 {e : Nat} {lo hi : Int32} : m_X7_number (MT τ n B e 0 γ) lo hi 0 = some (nI (tV B n e), MT τ n B e 1 γ) := by
  unfold m_X7_number
  rw [mt14, if_pos rfl, if_pos rfl, m_num41]
theorem m_word (h : tM B n τ) {e b : Nat} (he : e ≤ n) (hb : b < 15) : m_X7_word b (MT τ n B e 0 γ) = if swd B n e b = true then some (MT τ n B (tE B n e) 0 γ) else some (MT τ n B e 1 γ) := by
  unfold m_X7_word
  rw [mt14, if_pos rfl, m_takes h he hb]
  by_cases c : swd B n e b = true
  · rw [if_pos c, if_pos c, cl_ok, z10, mtw14, nm_ok]
  · rw [if_neg c, if_neg c, cl_ok, z00, mtw14, nm_ok]
theorem m_wordB {e b : Nat} : m_X7_word b (MT τ n B e 1 γ) = some (MT τ n B e 1 γ) := by
  unfold m_X7_word
  rw [mt14, if_neg (by decide), mtw14, nm_ok]
end LM
