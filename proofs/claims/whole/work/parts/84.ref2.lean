/-! the reference's year -/
theorem sfind_c (q : Nat → Bool) : ∀ k i : Nat, sfind q i k = -1 ∨ ∃ t, i ≤ t ∧ t < i + k ∧ q t = true ∧ sfind q i k = nI t := by
  intro k
  induction k with
  | zero => intro i; exact Or.inl rfl
  | succ k ih =>
    intro i
    rw [sfind_s]
    by_cases h : q i = true
    · rw [if_pos h]
      exact Or.inr ⟨i, by omega, by omega, h, rfl⟩
    · rw [if_neg h]
      rcases ih (i + 1) with h2 | ⟨t, h3, h4, h5, h6⟩
      · exact Or.inl h2
      · exact Or.inr ⟨t, by omega, by omega, h5, h6⟩
def sheld (x : Int32) : Int32 := if 0 ≤ x then (if x ≤ 999 then x else 999) else 0
def sodd (β : zw_S) : Bool := decide ((β 0 0).toNatClampNeg % 2 = 1)
def swork (β : zw_S) (t : Nat) (h : Int32) : Int32 :=
  if β 3 t = 1 then (if sodd β = true then h / 2 else h)
  else if β 3 t = 3 then (if β 6 t < 0 then h else if sbear β (β 4 (β 6 t).toNatClampNeg) < 0 then 0 else h)
  else if β 3 t = 4 then 2 * h else if β 3 t = 5 then 2 * h + 1
  else if β 3 t = 6 then (if 1 ≤ (if sodd β = true then h / 2 else h) then (if sodd β = true then h / 2 else h) - 1 else 0) else h
def sgrow (β : zw_S) (t : Nat) : Int32 :=
  if se β t = true then 0 else if β 3 t = 2 then β 5 t / 10 else if β 3 t = 3 then β 5 t / 10 + 1 else if β 3 t = 6 then (if sodd β = true then 0 else 1) else 0
def sdo (β : zw_S) (x h : Int32) : zw_S := if shand β x < 0 then β else zw_wr β 5 (shand β x).toNatClampNeg (sheld (β 5 (shand β x).toNatClampNeg - swork β (shand β x).toNatClampNeg h))
def shelp (β : zw_S) (p : Nat) : zw_S :=
  if β 10 p < 0 then β else if β 7 (β 10 p).toNatClampNeg < 0 then β
  else if β 7 p < 0 ∨ shand β (β 7 p) < 0 then sdo β (β 7 (β 10 p).toNatClampNeg) (β 9 p / 2) else β
def scome (β : zw_S) (k x h n : Int32) : zw_S := zw_wr (zw_wr (zw_wr (zw_wr (zw_wr β 3 (tn β) k) 4 (tn β) x) 5 (tn β) h) 6 (tn β) n) 0 2 (β 0 2 + 1)
def sgone (β : zw_S) (p : Nat) : zw_S := zw_wr (zw_wr β 7 p (-1)) 2 (β 7 p).toNatClampNeg (β 2 (β 7 p).toNatClampNeg + 1)
def sleave (β : zw_S) (p : Nat) : zw_S := if sopen (sgone β p) (β 7 p) = true then (if 20 ≤ β 0 2 then sgone β p else scome (sgone β p) 0 (β 7 p) 5 (-1)) else sgone β p
def sfold (f : zw_S → Nat → zw_S) (β : zw_S) (i k : Nat) : zw_S := (List.range' i k).foldl f β
theorem sfold_0 {f : zw_S → Nat → zw_S} {β : zw_S} {i : Nat} : sfold f β i 0 = β := rfl
theorem sfold_s {f : zw_S → Nat → zw_S} {β : zw_S} {i k : Nat} : sfold f β i (k + 1) = sfold f (f β i) (i + 1) k := by
  unfold sfold
  rw [List.range'_succ, List.foldl_cons]
def y1 (β : zw_S) (p : Nat) : zw_S := if β 8 p < 7 then β else if β 7 p < 0 then β else sdo β (β 7 p) (β 9 p)
def y2 (β : zw_S) (p : Nat) : zw_S := if β 8 p < 7 then β else shelp β p
def y3 (β : zw_S) (t : Nat) : zw_S := zw_wr β 5 t (sheld (β 5 t + sgrow β t))
def y4 (β : zw_S) (p : Nat) : zw_S := zw_wr β 8 p (if 40 ≤ β 8 p then β 8 p else β 8 p + 1)
def y5 (β : zw_S) (p : Nat) : zw_S := if β 8 p = 40 then (if β 7 p < 0 then β else sleave β p) else β
def y6 (β : zw_S) : zw_S := zw_wr β 0 0 (β 0 0 + 1)
/-- a year -/
def syear (β : zw_S) : zw_S :=
  let N := pn β
  let T := tn β
  let b2 := sfold y2 (sfold y1 β 0 N) 0 N
  let b4 := sfold y4 (sfold y3 b2 0 T) 0 N
  y6 (sfold y5 b4 0 N)
/-! a book stays as it should be -/
section WW
variable {β : zw_S} {T N y : Nat}
theorem Wf.w5 (h : Wf T N y β) {t : Nat} {v : Int32} (ht : t < 20) (hv : ∃ a, a < 1000 ∧ v = nI a) : Wf T N y (zw_wr β 5 t v) := by
  obtain ⟨h1, h2, h3, h4, h5, h6, h7, h8, h9, h10, h11, h12⟩ := h
  refine ⟨h1, h2, h3, h4, h5, h6, h7, fun q hq => ?_, h9, h10, h11, Cp_wr h12 ht⟩
  obtain ⟨a1, a2, a3, a4⟩ := h8 q hq
  refine ⟨a1, a2, ?_, a4⟩
  rw [wr_ap]
  by_cases hqt : q = t
  · rw [if_pos ⟨rfl, hqt⟩]; exact hv
  · rw [if_neg (fun z => hqt z.2)]; exact a3
theorem Wf.w8 (h : Wf T N y β) {p : Nat} {v : Int32} (hp : p < 8) (hv : ∃ a, a ≤ 40 ∧ v = nI a) : Wf T N y (zw_wr β 8 p v) := by
  obtain ⟨h1, h2, h3, h4, h5, h6, h7, h8, h9, h10, h11, h12⟩ := h
  refine ⟨h1, h2, h3, h4, h5, h6, h7, h8, fun q hq => ?_, h10, h11, Cp_wr h12 hp⟩
  obtain ⟨a1, a2, a3, a4⟩ := h9 q hq
  refine ⟨a1, ?_, a3, a4⟩
  rw [wr_ap]
  by_cases hqt : q = p
  · rw [if_pos ⟨rfl, hqt⟩]; exact hv
  · rw [if_neg (fun z => hqt z.2)]; exact a2
theorem Wf.w7 (h : Wf T N y β) {p : Nat} (hp : p < 8) : Wf T N y (zw_wr β 7 p (-1)) := by
  obtain ⟨h1, h2, h3, h4, h5, h6, h7, h8, h9, h10, h11, h12⟩ := h
  refine ⟨h1, h2, h3, h4, h5, h6, h7, h8, fun q hq => ?_, fun q r hq hr => ?_, h11, Cp_wr h12 hp⟩
  · obtain ⟨a1, a2, a3, a4⟩ := h9 q hq
    refine ⟨?_, a2, a3, a4⟩
    rw [wr_ap]
    by_cases hqt : q = p
    · rw [if_pos ⟨rfl, hqt⟩]; exact Or.inl rfl
    · rw [if_neg (fun z => hqt z.2)]; exact a1
  · rw [wr_ap, wr_ap]
    intro e n
    have := h10 q r hq hr
    grind
theorem Wf.w2 (h : Wf T N y β) {i : Nat} {v : Int32} (hi : i < 8) : Wf T N y (zw_wr β 2 i v) := by
  obtain ⟨h1, h2, h3, h4, h5, h6, h7, h8, h9, h10, h11, h12⟩ := h
  exact ⟨h1, h2, h3, h4, h5, h6, h7, h8, h9, h10, h11, Cp_wr h12 hi⟩
theorem Wf.w0 (h : Wf T N y β) (hy : y < 5000) : Wf T N (y + 1) (y6 β) := by
  obtain ⟨h1, h2, h3, h4, h5, h6, h7, h8, h9, h10, h11, h12⟩ := h
  refine ⟨h1, h2, by omega, h4, h5, ?_, h7, h8, h9, h10, h11, Cp_wr h12 (by decide)⟩
  unfold y6
  rw [wr_at, h6, nI_1]
theorem Wf.come (h : Wf T N y β) (hT : T < 20) {k x : Nat} {hh : Nat} {n : Int32} (hk : k < 7) (hx : x < 8) (hh1 : hh < 1000) (hn : n = -1 ∨ ∃ m, m < T ∧ n = nI m) : Wf (T + 1) N y (scome β (nI k) (nI x) (nI hh) n) := by
  have hTn := h.hT
  obtain ⟨h1, h2, h3, h4, h5, h6, h7, h8, h9, h10, h11, h12⟩ := h
  unfold scome
  rw [hTn]
  refine ⟨by omega, h2, h3, ?_, h5, h6, h7, fun q hq => ?_, h9, h10, fun i hi => ?_, Cp_wr (Cp_wr (Cp_wr (Cp_wr (Cp_wr h12 hT) hT) hT) hT) (by decide)⟩
  · rw [wr_at, h4, nI_1]
  · by_cases hqT : q = T
    · subst hqT
      refine ⟨⟨k, hk, ?_⟩, ⟨x, hx, ?_⟩, ⟨hh, hh1, ?_⟩, ?_⟩
      · simp [wr_ap]
      · simp [wr_ap]
      · simp [wr_ap]
      · simp only [wr_ap]
        rcases hn with hn | ⟨m, hm, hn⟩
        · left; simp [hn]
        · right; exact ⟨m, by omega, by simp [hn]⟩
    · obtain ⟨a1, a2, a3, a4⟩ := h8 q (by omega)
      refine ⟨?_, ?_, ?_, ?_⟩
      · simpa [wr_ap, hqT] using a1
      · simpa [wr_ap, hqT] using a2
      · simpa [wr_ap, hqT] using a3
      · simp only [wr_ap]
        rcases a4 with a4 | ⟨m, hm, a4⟩
        · left; simp [hqT, a4]
        · right; exact ⟨m, by omega, by simp [hqT, a4]⟩
  · have := h11 i hi
    simp only [wr_ap]
    rcases this with a | ⟨m, hm, a⟩
    · left; simpa using a
    · right; exact ⟨m, by omega, by simpa using a⟩
theorem sheld_c (x : Int32) : ∃ a, a < 1000 ∧ sheld x = nI a := by
  unfold sheld
  by_cases h1 : 0 ≤ x
  · rw [if_pos h1]
    by_cases h2 : x ≤ 999
    · rw [if_pos h2]
      obtain ⟨j, hj, rfl⟩ := nI_of2 (M := 999) (n := 999) (by decide) (x := x) (by grind) h2
      exact ⟨j, by omega, rfl⟩
    · rw [if_neg h2]
      exact ⟨999, by omega, by decide⟩
  · rw [if_neg h1]
    exact ⟨0, by omega, by decide⟩
theorem shand_c (h : Wf T N y β) (x : Int32) : shand β x = -1 ∨ ∃ t, t < T ∧ β 4 t = x ∧ sat β t = true ∧ shand β x = nI t := by
  unfold shand
  rw [h.hT]
  rcases sfind_c (fun t => decide (β 4 t = x) && sat β t) T 0 with h1 | ⟨t, h2, h3, h4, h5⟩
  · exact Or.inl h1
  · simp only [Bool.and_eq_true, decide_eq_true_eq] at h4
    exact Or.inr ⟨t, by omega, h4.1, h4.2, h5⟩
theorem Wf.wdo (h : Wf T N y β) (x v : Int32) : Wf T N y (sdo β x v) := by
  unfold sdo
  rcases shand_c h x with h1 | ⟨t, ht, -, -, h1⟩
  · rw [if_pos (by rw [h1]; decide)]
    exact h
  · have := h.T20
    rw [if_neg (by rw [h1]; exact nI_pos (by omega)), h1, nI_clamp (by omega)]
    exact h.w5 (by omega) (sheld_c _)
end WW
