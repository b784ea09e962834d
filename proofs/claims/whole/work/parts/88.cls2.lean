section C2
variable {σ β : zw_S} {T N y k : Nat} {hd : Nat → Int32}
theorem pk_hx {h2 : Nat → Int32} (h : ∀ j, j < 8 → hd j = h2 j) : pk σ k β hd = pk σ k β h2 := by
  funext i j
  rw [pk_ap, pk_ap]
  by_cases h38 : i = 38
  · rw [if_pos h38, if_pos h38]
    by_cases h8 : j < 8
    · rw [if_pos h8, if_pos h8, h j h8]
    · rw [if_neg h8, if_neg h8]
  · rw [if_neg h38, if_neg h38]
theorem us_wr {σ : zw_S} {b i nb : Nat} {v : Int32} (hi : i < nb) : zw_us (zw_wr σ b i v) b (fun j => if i + 1 ≤ j ∧ j < nb then v else zw_wr σ b i v b j) = zw_us σ b (fun j => if i ≤ j ∧ j < nb then v else σ b j) := by
  funext a j
  unfold zw_us
  by_cases ha : a = b
  · subst ha
    rw [if_pos rfl, if_pos rfl]
    rw [wr_ap]
    grind
  · rw [if_neg ha, if_neg ha, wr_f ha]
theorem j_fill {b nb : Nat} (hb : nb ≤ 190) (σ : zw_S) (v : Int32) : m_J7_fill_53178 b nb σ v = some (zw_us σ b (fun j => if j < nb then v else σ b j)) := by
  have key : ∀ q n i (σ : zw_S), i + q = nb → q < n → m_J7_fill_53178_5 b nb n σ v (nI i) (nI nb) = some (zw_us σ b (fun j => if i ≤ j ∧ j < nb then v else σ b j)) := by
    intro q
    induction q with
    | zero =>
      intro n i σ hi hn
      obtain ⟨n, rfl⟩ : ∃ m, n = m + 1 := ⟨n - 1, by omega⟩
      unfold m_J7_fill_53178_5
      rw [if_pos (nI_le (by omega) (by omega))]
      congr 1
      funext a j
      unfold zw_us
      by_cases ha : a = b
      · subst ha
        rw [if_pos rfl, if_neg (by omega)]
      · rw [if_neg ha]
    | succ q ih =>
      intro n i σ hi hn
      obtain ⟨n, rfl⟩ : ∃ m, n = m + 1 := ⟨n - 1, by omega⟩
      unfold m_J7_fill_53178_5
      rw [if_neg (nI_ge (by omega) (by omega)), wt_i (by omega) (by omega), nm_ok, nI_1, ih n (i + 1) _ (by omega) (by omega), us_wr (by omega)]
  unfold m_J7_fill_53178
  rw [nm_ok]
  have := key nb 200 0 σ (by omega) (by omega)
  simp only [Nat.zero_le, true_and] at this
  exact this
def sfd (q : Nat → Bool) (i : Nat) (d : Int32) : Int32 := match (List.range' 0 i).find? q with
  | some t => nI t
  | none => d
theorem sfd_s {q : Nat → Bool} {i : Nat} {d : Int32} : sfd q (i + 1) d = sfd q i (if q i = true then nI i else d) := by
  unfold sfd
  rw [List.range'_concat, List.find?_append]
  simp only [Nat.zero_add, Nat.one_mul]
  cases h : (List.range' 0 i).find? q with
  | some t => simp
  | none =>
    by_cases hq : q i = true
    · simp [hq, List.find?_cons]
    · simp [hq, List.find?_cons]
def hands (β : zw_S) : Nat → Int32 := fun o => shand β (nI o)
theorem c_findHands (hk : k + 12 ≤ 38) (h : Wf T N y β) : m_X0_findHands k 38 8 (pk σ k β hd) = some (pk σ k β (hands β)) := by
  have hT := h.T20
  have key : ∀ i n (g : Nat → Int32), i ≤ T → i < n → m_X0_findHands_12 k 38 8 n (pk σ k β g) (nI i - 1) = some (pk σ k β (fun o => sfd (fun t => decide (β 4 t = nI o) && sat β t) i (g o))) := by
    intro i
    induction i with
    | zero =>
      intro n g hi hn
      obtain ⟨n, rfl⟩ : ∃ m, n = m + 1 := ⟨n - 1, by omega⟩
      unfold m_X0_findHands_12
      rw [if_pos (by decide)]
      rfl
    | succ i ih =>
      intro n g hi hn
      obtain ⟨n, rfl⟩ : ∃ m, n = m + 1 := ⟨n - 1, by omega⟩
      obtain ⟨a, ha, e⟩ := h.own (t := i) (by omega)
      unfold m_X0_findHands_12
      have em1 : nI i + -1 = nI i - 1 := by grind
      rw [nI_pred, if_neg (nI_pos (by omega)), c_atHand hk h (by omega), cl_ok]
      by_cases hs : sat β i = true
      · rw [if_pos hs, if_neg (by decide), c_r4 hk (by omega), e, c_hwt ha, nm_ok, em1, ih n _ (by omega) (by omega)]
        congr 1
        apply pk_hx
        intro o ho
        rw [sfd_s, e]
        unfold upd
        by_cases hoa : o = a
        · subst hoa
          simp [hs]
        · rw [if_neg hoa]
          have : ¬ nI a = nI o := fun z => hoa ((nI_eq (by omega) (by omega)).mp z).symm
          simp [this]
      · rw [if_neg hs, if_pos rfl, nm_ok, em1, ih n _ (by omega) (by omega)]
        congr 1
        apply pk_hx
        intro o ho
        rw [sfd_s]
        simp [hs]
  unfold m_X0_findHands
  have hf : m_J7_fill_53178 38 8 (pk σ k β hd) (-1) = some (pk σ k β (fun _ => -1)) := by
    rw [j_fill (by omega)]
    congr 1
    funext i j
    unfold zw_us
    rw [pk_ap σ k β (fun _ => -1)]
    by_cases h38 : i = 38
    · subst h38
      rw [if_pos rfl, if_pos rfl]
      by_cases h8 : j < 8
      · rw [if_pos h8, if_pos h8]
      · rw [if_neg h8, if_neg h8, pk_ap, if_pos rfl, if_neg h8]
    · rw [if_neg h38, if_neg h38, pk_ap, if_neg h38]
  rw [hf, cv_ok, nm_ok, pk_s hk (by omega), h.eT, key T 200 _ (by omega) (by omega)]
  congr 1
  apply pk_hx
  intro o ho
  unfold hands shand sfd sfind
  rw [h.hT]
  cases (List.range' 0 T).find? (fun t => decide (β 4 t = nI o) && sat β t) <;> rfl
theorem c_growthOf (hk : k + 12 ≤ 38) (h : Wf T N y β) {t : Nat} (ht : t < T) : m_X0_growthOf k (pk σ k β hd) (nI t) = some (sgrow β t, pk σ k β hd) := by
  have hT := h.T20
  unfold m_X0_growthOf sgrow
  rw [c_ended hk (by omega), cl_ok]
  by_cases he : se β t = true
  · rw [if_pos he, if_neg (by decide), if_pos he]
  · rw [if_neg he, if_pos rfl, if_neg he, c_r3 hk (by omega), c_r5 hk (by omega), pk_s hk (by omega), h.eY]
    unfold m_X2_growthOf
    rw [rem2 (by have := h.hy5; omega), sodd_e h]
    have n1 : nI 1 = 1 := rfl
    rcases Nat.mod_two_eq_zero_or_one y with h0 | h0 <;> rw [h0] <;> grind [cl, nI_0]
theorem c_workOf (hk : k + 12 ≤ 38) (h : Wf T N y β) {t : Nat} (ht : t < T) (v : Int32) : m_X0_workOf k (pk σ k β hd) (nI t) v = some (swork β t v, pk σ k β hd) := by
  have hT := h.T20
  have hw : ∀ w : Int32, m_X2_workOf_13 (pk σ k β hd) (β 3 t) v w = some (if β 3 t = 1 then w else if β 3 t = 4 then 2 * v else if β 3 t = 5 then 2 * v + 1 else if β 3 t = 6 then (if 1 ≤ w then w - 1 else 0) else v, pk σ k β hd) := by
    intro w
    unfold m_X2_workOf_13
    grind
  have hA : m_X0_workOf_36 k (pk σ k β hd) (nI t) v = some (if β 3 t = 1 then (if sodd β = true then v / 2 else v) else if β 3 t = 4 then 2 * v else if β 3 t = 5 then 2 * v + 1 else if β 3 t = 6 then (if 1 ≤ (if sodd β = true then v / 2 else v) then (if sodd β = true then v / 2 else v) - 1 else 0) else v, pk σ k β hd) := by
    unfold m_X0_workOf_36 m_X2_workOf
    rw [c_r3 hk (by omega), pk_s hk (by omega), h.eY, rem2 (by have := h.hy5; omega), sodd_e h]
    rcases Nat.mod_two_eq_zero_or_one y with h0 | h0
    · rw [h0, if_pos (by decide), hw, cl_ok]
      simp
    · rw [h0, if_neg (by decide), hw, cl_ok]
      simp
  unfold m_X0_workOf swork
  rw [c_r6 hk (by omega), c_r3 hk (by omega)]
  by_cases h3 : β 3 t = 3
  · rw [if_pos h3]
    rcases h.need ht with h6 | ⟨n, hn, h6⟩
    · rw [h6, if_pos (by decide), hA, h3]
      simp
    · rw [h6, if_neg (nI_pos (by omega)), c_r4 hk (by omega), c_bearer hk h, cl_ok, hA, h3, nI_clamp (by omega)]
      have hnn : ¬ nI n < 0 := nI_pos (by omega)
      grind
  · rw [if_neg h3, hA]
    grind
end C2
