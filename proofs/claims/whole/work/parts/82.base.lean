/-! THE PURE PART. A book's value β: field f, place j; the class's books (cells k ..), the reference's row m (cell 58). -/
def cap (f : Nat) : Nat := if f = 0 then 4 else if f < 3 then 8 else if f < 7 then 20 else if f < 11 then 8 else if f = 11 then 10 else 0
/-- the table with the book at k as β has it, and the walk's hands as h -/
def pk (σ : zw_S) (k : Nat) (β : zw_S) (h : Nat → Int32) : zw_S := fun i => if i = 38 then (fun j => if j < 8 then h j else σ 38 j) else if k ≤ i ∧ i < k + 12 then (fun j => if j < cap (i - k) then β (i - k) j else σ i j) else σ i
def gb (σ : zw_S) (k : Nat) : zw_S := fun f j => if j < cap f then σ (k + f) j else 0
/-- the reference's row of a book -/
def em (β : zw_S) (o : Nat → Int32) : Nat → Int32 := fun j => if j < 4 then β 0 j else if j < 20 then β (1 + (j - 4) % 2) ((j - 4) / 2) else if j < 100 then β (3 + (j - 20) % 4) ((j - 20) / 4) else if j < 132 then β (7 + (j - 100) % 4) ((j - 100) / 4) else if j < 142 then β 11 (j - 132) else o j
def pm (σ : zw_S) (β : zw_S) : zw_S := fun i => if i = 58 then em β (σ 58) else σ i
def gm (r : Nat → Int32) : zw_S := fun f j => if j < cap f then (if f = 0 then r j else if f < 3 then r (4 + 2 * j + (f - 1)) else if f < 7 then r (20 + 4 * j + (f - 3)) else if f < 11 then r (100 + 4 * j + (f - 7)) else r (132 + j)) else 0
theorem cap_lt {f j : Nat} (h : j < cap f) : f < 12 := by
  unfold cap at h
  grind
theorem wr_at {β : zw_S} {f i : Nat} {v : Int32} : zw_wr β f i v f i = v := by simp [zw_wr, zw_us, upd]
theorem wr_j {β : zw_S} {f i j : Nat} {v : Int32} (h : j ≠ i) : zw_wr β f i v f j = β f j := by simp [zw_wr, zw_us, upd, h]
theorem wr_f {β : zw_S} {f i g : Nat} {v : Int32} (h : g ≠ f) : zw_wr β f i v g = β g := by simp [zw_wr, zw_us, h]
theorem wr_ap {β : zw_S} {f i g j : Nat} {v : Int32} : zw_wr β f i v g j = if g = f ∧ j = i then v else β g j := by
  by_cases h : g = f
  · subst h
    by_cases h2 : j = i
    · subst h2
      simp [wr_at]
    · simp [wr_j h2, h2]
  · rw [wr_f h]
    simp [h]
theorem wr_same {β : zw_S} {f i : Nat} {v : Int32} (h : β f i = v) : zw_wr β f i v = β := by
  funext a b
  rw [wr_ap]
  grind
theorem wr_wr {β : zw_S} {f i : Nat} {v w : Int32} : zw_wr (zw_wr β f i v) f i w = zw_wr β f i w := by
  funext a b
  simp only [wr_ap]
  grind
theorem pk_ap (σ : zw_S) (k : Nat) (β : zw_S) (h : Nat → Int32) (i j : Nat) : pk σ k β h i j = if i = 38 then (if j < 8 then h j else σ 38 j) else if k ≤ i ∧ i < k + 12 then (if j < cap (i - k) then β (i - k) j else σ i j) else σ i j := by
  unfold pk
  by_cases h1 : i = 38
  · rw [if_pos h1, if_pos h1]
  · rw [if_neg h1, if_neg h1]
    by_cases h2 : k ≤ i ∧ i < k + 12
    · rw [if_pos h2, if_pos h2]
    · rw [if_neg h2, if_neg h2]
theorem pk_b {σ β : zw_S} {k f j : Nat} {h : Nat → Int32} (hk : k + 12 ≤ 38) (hj : j < cap f) : pk σ k β h (k + f) j = β f j := by
  have hf := cap_lt hj
  rw [pk_ap, if_neg (by omega), if_pos (by omega), Nat.add_sub_cancel_left, if_pos hj]
theorem pk_s {σ β : zw_S} {k j : Nat} {h : Nat → Int32} (hk : k + 12 ≤ 38) (hj : j < 4) : pk σ k β h k j = β 0 j := pk_b (f := 0) hk hj
theorem pk_h {σ β : zw_S} {k j : Nat} {h : Nat → Int32} (hj : j < 8) : pk σ k β h 38 j = h j := by
  simp [pk, hj]
theorem pk_o {σ β : zw_S} {k i : Nat} {h : Nat → Int32} (h1 : i ≠ 38) (h2 : i < k ∨ k + 12 ≤ i) : pk σ k β h i = σ i := by
  unfold pk
  rw [if_neg h1, if_neg (by omega)]
theorem pk_wb {σ β : zw_S} {k f j : Nat} {h : Nat → Int32} {v : Int32} (hk : k + 12 ≤ 38) (hj : j < cap f) : zw_wr (pk σ k β h) (k + f) j v = pk σ k (zw_wr β f j v) h := by
  have hf := cap_lt hj
  funext i q
  rw [wr_ap, pk_ap, pk_ap, wr_ap]
  by_cases h1 : i = k + f ∧ q = j
  · obtain ⟨rfl, rfl⟩ := h1
    rw [if_pos ⟨rfl, rfl⟩, if_neg (by omega), if_pos (by omega), Nat.add_sub_cancel_left, if_pos hj, if_pos ⟨rfl, rfl⟩]
  · rw [if_neg h1]
    by_cases h2 : k ≤ i ∧ i < k + 12
    · rw [if_neg (show ¬ (i - k = f ∧ q = j) by omega)]
    · rw [if_neg h2, if_neg h2]
theorem pk_ws {σ β : zw_S} {k j : Nat} {h : Nat → Int32} {v : Int32} (hk : k + 12 ≤ 38) (hj : j < 4) : zw_wr (pk σ k β h) k j v = pk σ k (zw_wr β 0 j v) h := pk_wb (f := 0) hk hj
theorem pk_wh {σ β : zw_S} {k j : Nat} {h : Nat → Int32} {v : Int32} (hj : j < 8) : zw_wr (pk σ k β h) 38 j v = pk σ k β (upd h j v) := by
  funext i q
  rw [wr_ap, pk_ap, pk_ap]
  unfold upd
  grind
theorem pk_wo {σ β : zw_S} {k i j : Nat} {h : Nat → Int32} {v : Int32} (h1 : i ≠ 38) (h2 : i < k ∨ k + 12 ≤ i) : zw_wr (pk σ k β h) i j v = pk (zw_wr σ i j v) k β h := by
  funext a q
  rw [wr_ap, pk_ap, pk_ap, wr_ap, wr_ap]
  grind
theorem pk_gb (σ : zw_S) (k : Nat) (hk : k + 12 ≤ 38) : pk σ k (gb σ k) (σ 38) = σ := by
  funext i j
  rw [pk_ap]
  by_cases h38 : i = 38
  · subst h38
    simp
  · rw [if_neg h38]
    by_cases hr : k ≤ i ∧ i < k + 12
    · rw [if_pos hr]
      unfold gb
      rw [show k + (i - k) = i by omega]
      by_cases hj : j < cap (i - k)
      · rw [if_pos hj, if_pos hj]
      · rw [if_neg hj]
    · rw [if_neg hr]
def Cp (β : zw_S) : Prop := ∀ f j, cap f ≤ j → β f j = 0
theorem Cp_gb (σ : zw_S) (k : Nat) : Cp (gb σ k) := fun f j h => by simp [gb, Nat.not_lt.mpr h]
theorem Cp_gm (r : Nat → Int32) : Cp (gm r) := fun f j h => by simp [gm, Nat.not_lt.mpr h]
theorem Cp_wr {β : zw_S} {f j : Nat} {v : Int32} (h : Cp β) (hj : j < cap f) : Cp (zw_wr β f j v) := by
  intro a q hq
  rw [wr_ap, if_neg (by rintro ⟨rfl, rfl⟩; omega)]
  exact h _ _ hq
theorem gb_pk {σ β : zw_S} {k : Nat} {h : Nat → Int32} (hk : k + 12 ≤ 38) (hc : Cp β) : gb (pk σ k β h) k = β := by
  funext f j
  unfold gb
  by_cases hj : j < cap f
  · rw [if_pos hj, pk_b hk hj]
  · rw [if_neg hj]
    exact (hc f j (by omega)).symm
theorem gb_o {σ β : zw_S} {k k2 : Nat} {h : Nat → Int32} (h1 : k2 + 12 ≤ k ∨ k + 12 ≤ k2) (h2 : k2 + 12 ≤ 38) : gb (pk σ k β h) k2 = gb σ k2 := by
  funext f j
  unfold gb
  by_cases hj : j < cap f
  · have hf := cap_lt hj
    rw [if_pos hj, if_pos hj, pk_o (by omega) (by omega)]
  · rw [if_neg hj, if_neg hj]
/-! the reference's row -/
theorem em_0 {β : zw_S} {o : Nat → Int32} {j : Nat} (h : j < 4) : em β o j = β 0 j := by simp [em, h]
theorem em_n {β : zw_S} {o : Nat → Int32} {i w : Nat} (h : i < 8) (hw : w < 2) : em β o (4 + 2 * i + w) = β (1 + w) i := by
  unfold em
  rw [if_neg (by omega), if_pos (by omega), show (4 + 2 * i + w - 4) % 2 = w by omega, show (4 + 2 * i + w - 4) / 2 = i by omega]
theorem em_t {β : zw_S} {o : Nat → Int32} {t w : Nat} (h : t < 20) (hw : w < 4) : em β o (20 + 4 * t + w) = β (3 + w) t := by
  unfold em
  rw [if_neg (by omega), if_neg (by omega), if_pos (by omega), show (20 + 4 * t + w - 20) % 4 = w by omega, show (20 + 4 * t + w - 20) / 4 = t by omega]
theorem em_p {β : zw_S} {o : Nat → Int32} {p w : Nat} (h : p < 8) (hw : w < 4) : em β o (100 + 4 * p + w) = β (7 + w) p := by
  unfold em
  rw [if_neg (by omega), if_neg (by omega), if_neg (by omega), if_pos (by omega), show (100 + 4 * p + w - 100) % 4 = w by omega, show (100 + 4 * p + w - 100) / 4 = p by omega]
theorem em_s {β : zw_S} {o : Nat → Int32} {i : Nat} (h : i < 10) : em β o (132 + i) = β 11 i := by
  unfold em
  rw [if_neg (by omega), if_neg (by omega), if_neg (by omega), if_neg (by omega), if_pos (by omega), show 132 + i - 132 = i by omega]
/-- the place in the row of a field's place -/
def ec (f i : Nat) : Nat := if f = 0 then i else if f < 3 then 4 + 2 * i + (f - 1) else if f < 7 then 20 + 4 * i + (f - 3) else if f < 11 then 100 + 4 * i + (f - 7) else 132 + i
theorem ec_lt {f i : Nat} (h : i < cap f) : ec f i < 142 := by
  unfold cap at h
  unfold ec
  grind
theorem em_ec {β : zw_S} {o : Nat → Int32} {f i : Nat} (h : i < cap f) : em β o (ec f i) = β f i := by
  have hf := cap_lt h
  rcases (show f = 0 ∨ f = 1 ∨ f = 2 ∨ f = 3 ∨ f = 4 ∨ f = 5 ∨ f = 6 ∨ f = 7 ∨ f = 8 ∨ f = 9 ∨ f = 10 ∨ f = 11 by omega) with rfl | rfl | rfl | rfl | rfl | rfl | rfl | rfl | rfl | rfl | rfl | rfl
  · exact em_0 h
  · exact em_n (w := 0) h (by omega)
  · exact em_n (w := 1) h (by omega)
  · exact em_t (w := 0) h (by omega)
  · exact em_t (w := 1) h (by omega)
  · exact em_t (w := 2) h (by omega)
  · exact em_t (w := 3) h (by omega)
  · exact em_p (w := 0) h (by omega)
  · exact em_p (w := 1) h (by omega)
  · exact em_p (w := 2) h (by omega)
  · exact em_p (w := 3) h (by omega)
  · exact em_s h
/-- every place of the row is one of a field's -/
theorem ec_on {a : Nat} (h : a < 142) : ∃ f i, i < cap f ∧ a = ec f i := by
  by_cases h1 : a < 4
  · exact ⟨0, a, h1, rfl⟩
  by_cases h2 : a < 20
  · refine ⟨1 + (a - 4) % 2, (a - 4) / 2, ?_, ?_⟩
    · unfold cap
      rw [if_neg (by omega), if_pos (by omega)]
      omega
    · unfold ec
      rw [if_neg (by omega), if_pos (by omega)]
      omega
  by_cases h3 : a < 100
  · refine ⟨3 + (a - 20) % 4, (a - 20) / 4, ?_, ?_⟩
    · unfold cap
      rw [if_neg (by omega), if_neg (by omega), if_pos (by omega)]
      omega
    · unfold ec
      rw [if_neg (by omega), if_neg (by omega), if_pos (by omega)]
      omega
  by_cases h4 : a < 132
  · refine ⟨7 + (a - 100) % 4, (a - 100) / 4, ?_, ?_⟩
    · unfold cap
      rw [if_neg (by omega), if_neg (by omega), if_neg (by omega), if_pos (by omega)]
      omega
    · unfold ec
      rw [if_neg (by omega), if_neg (by omega), if_neg (by omega), if_pos (by omega)]
      omega
  · refine ⟨11, a - 132, ?_, ?_⟩
    · unfold cap
      rw [if_neg (by omega), if_neg (by omega), if_neg (by omega), if_neg (by omega), if_pos rfl]
      omega
    · unfold ec
      rw [if_neg (by omega), if_neg (by omega), if_neg (by omega), if_neg (by omega)]
      omega
theorem ec_inj {f i g j : Nat} (h : i < cap f) (h2 : j < cap g) (e : ec f i = ec g j) : f = g ∧ i = j := by
  unfold cap at h h2
  unfold ec at e
  have a1 : f < 12 := by grind
  have a2 : g < 12 := by grind
  rcases (show f = 0 ∨ (1 ≤ f ∧ f < 3) ∨ (3 ≤ f ∧ f < 7) ∨ (7 ≤ f ∧ f < 11) ∨ f = 11 by omega) with q | q | q | q | q <;> rcases (show g = 0 ∨ (1 ≤ g ∧ g < 3) ∨ (3 ≤ g ∧ g < 7) ∨ (7 ≤ g ∧ g < 11) ∨ g = 11 by omega) with r | r | r | r | r <;> grind
theorem em_hi {β : zw_S} {o : Nat → Int32} {a : Nat} (h : ¬ a < 142) : em β o a = o a := by
  unfold em
  rw [if_neg (by omega), if_neg (by omega), if_neg (by omega), if_neg (by omega), if_neg h]
theorem em_w {β : zw_S} {o : Nat → Int32} {f i : Nat} {v : Int32} (h : i < cap f) : upd (em β o) (ec f i) v = em (zw_wr β f i v) o := by
  funext a
  unfold upd
  by_cases h1 : a < 142
  · obtain ⟨g, j, hj, rfl⟩ := ec_on h1
    rw [em_ec hj, em_ec hj, wr_ap]
    by_cases h2 : g = f ∧ j = i
    · obtain ⟨rfl, rfl⟩ := h2
      simp
    · rw [if_neg h2, if_neg (fun z => h2 (ec_inj hj h z))]
  · rw [if_neg (fun z => h1 (by rw [z]; exact ec_lt h)), em_hi h1, em_hi h1]
theorem pm_at {σ β : zw_S} {j : Nat} : pm σ β 58 j = em β (σ 58) j := by simp [pm]
theorem pm_o {σ β : zw_S} {i : Nat} (h : i ≠ 58) : pm σ β i = σ i := by simp [pm, h]
theorem pm_rd {σ β : zw_S} {f i : Nat} (h : i < cap f) : pm σ β 58 (ec f i) = β f i := by rw [pm_at, em_ec h]
theorem pm_wr {σ β : zw_S} {f i : Nat} {v : Int32} (h : i < cap f) : zw_wr (pm σ β) 58 (ec f i) v = pm σ (zw_wr β f i v) := by
  funext a
  by_cases ha : a = 58
  · subst ha
    have := em_w (o := σ 58) (β := β) (v := v) h
    simp only [zw_wr, zw_us, if_true, pm] at this ⊢
    exact this
  · rw [wr_f ha, pm_o ha, pm_o ha]
theorem pm_wo {σ β : zw_S} {i j : Nat} {v : Int32} (h : i ≠ 58) : zw_wr (pm σ β) i j v = pm (zw_wr σ i j v) β := by
  funext a
  by_cases ha : a = 58
  · subst ha
    rw [wr_f (Ne.symm h)]
    simp only [pm, if_true]
    rw [wr_f (Ne.symm h)]
  · rw [pm_o ha]
    by_cases hi : a = i
    · subst hi
      funext q
      rw [wr_ap, wr_ap, pm_o ha]
    · rw [wr_f hi, wr_f hi, pm_o ha]
theorem gm_ap {r : Nat → Int32} {f j : Nat} (h : j < cap f) : gm r f j = r (ec f j) := by
  have hf := cap_lt h
  unfold gm ec
  rw [if_pos h]
  by_cases h0 : f = 0
  · rw [if_pos h0, if_pos h0]
  · rw [if_neg h0, if_neg h0]
    by_cases h1 : f < 3
    · rw [if_pos h1, if_pos h1]
    · rw [if_neg h1, if_neg h1]
      by_cases h2 : f < 7
      · rw [if_pos h2, if_pos h2]
      · rw [if_neg h2, if_neg h2]
        by_cases h3 : f < 11
        · rw [if_pos h3, if_pos h3]
        · rw [if_neg h3, if_neg h3]
theorem pm_gm (σ : zw_S) : pm σ (gm (σ 58)) = σ := by
  funext i j
  by_cases hi : i = 58
  · subst hi
    rw [pm_at]
    by_cases h1 : j < 142
    · obtain ⟨g, q, hq, rfl⟩ := ec_on h1
      rw [em_ec hq, gm_ap hq]
    · rw [em_hi h1]
  · rw [pm_o hi]
theorem gm_em {β : zw_S} {o : Nat → Int32} (hc : Cp β) : gm (em β o) = β := by
  funext f j
  by_cases hj : j < cap f
  · rw [gm_ap hj, em_ec hj]
  · rw [hc f j (by omega)]
    exact Cp_gm _ f j (by omega)
theorem pm_pm {σ β γ : zw_S} : pm (pm σ β) γ = pm σ γ := by
  funext i j
  by_cases hi : i = 58
  · subst hi
    rw [pm_at, pm_at]
    by_cases h1 : j < 142
    · obtain ⟨g, q, hq, rfl⟩ := ec_on h1
      rw [em_ec hq, em_ec hq]
    · rw [em_hi h1, em_hi h1, pm_at, em_hi h1]
  · rw [pm_o hi, pm_o hi, pm_o hi]
theorem pk_pk {σ β γ : zw_S} {k : Nat} {h h2 : Nat → Int32} : pk (pk σ k β h) k γ h2 = pk σ k γ h2 := by
  funext i j
  rw [pk_ap (pk σ k β h), pk_ap σ k γ]
  by_cases h38 : i = 38
  · subst h38
    simp only [if_true]
    by_cases h8 : j < 8
    · rw [if_pos h8, if_pos h8]
    · rw [if_neg h8, if_neg h8, pk_ap, if_pos rfl, if_neg h8]
  · rw [if_neg h38, if_neg h38]
    by_cases hr : k ≤ i ∧ i < k + 12
    · rw [if_pos hr, if_pos hr]
      by_cases hc : j < cap (i - k)
      · rw [if_pos hc, if_pos hc]
      · rw [if_neg hc, if_neg hc, pk_ap, if_neg h38, if_pos hr, if_neg hc]
    · rw [if_neg hr, if_neg hr, pk_o h38 (by omega)]
