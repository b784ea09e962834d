/-! The world: 69 cells that stay where they are; all that changes is one table of ints, a row a cell. -/
abbrev zw_S : Type := Nat → Nat → Int32
def zw_us (σ : zw_S) (k : Nat) (r : Nat → Int32) : zw_S := fun i => if i = k then r else σ i
def zw_wr (σ : zw_S) (k j : Nat) (v : Int32) : zw_S := zw_us σ k (upd (σ k) j v)
/-- what is fixed: the classes' slots, the cells' addresses, the classes of int[] and Sheet[], the address of Kinds.ABOVE, those of the texts and of their bytes -/
abbrev zw_P : Type := va_G × (Nat → Nat) × ClassId × ClassId × Nat × (Nat → Nat) × (Nat → Nat)
abbrev zw_ad (P : zw_P) : Nat → Nat := P.2.1
abbrev zw_cI (P : zw_P) : ClassId := P.2.2.1
abbrev zw_cS (P : zw_P) : ClassId := P.2.2.2.1
abbrev zw_tK (P : zw_P) : Nat := P.2.2.2.2.1
abbrev zw_aK (P : zw_P) : Nat → Nat := P.2.2.2.2.2.1
abbrev zw_aV (P : zw_P) : Nat → Nat := P.2.2.2.2.2.2
def zw_bk (k : Nat) : Bool := k == 1 || k == 13 || k == 25
def zw_sh (k : Nat) : Bool := k == 48 || k == 50 || k == 52 || k == 54
def zw_ob (k : Nat) : Bool := zw_bk k || zw_sh k || k == 0 || k == 37 || k == 39 || k == 45 || k == 47 || k == 57
def zw_ar (k : Nat) : Bool := decide (k < 69) && !zw_ob k
def zw_lns : List Nat := [0, 0, 8, 8, 20, 20, 20, 20, 8, 8, 8, 8, 10, 0, 8, 8, 20, 20, 20, 20, 8, 8, 8, 8, 10, 0, 8, 8, 20, 20, 20, 20, 8, 8, 8, 8, 10, 0, 8, 0, 4, 4, 4, 32, 5, 0, 120, 4, 0, 40, 0, 40, 0, 40, 0, 40, 7, 0, 142, 142, 142, 142, 7, 8, 8, 120, 4, 4, 160]
def zw_ln (k : Nat) : Nat := zw_lns.getD k 0
abbrev zw_eB (P : zw_P) (k : Nat) (r : Nat → Int32) : List Value := [.int (r 0), .int (r 1), .int (r 2), .int (r 3), .ref (zw_ad P (k + 1)), .ref (zw_ad P (k + 2)), .ref (zw_ad P (k + 3)), .ref (zw_ad P (k + 4)), .ref (zw_ad P (k + 5)), .ref (zw_ad P (k + 6)), .ref (zw_ad P (k + 7)), .ref (zw_ad P (k + 8)), .ref (zw_ad P (k + 9)), .ref (zw_ad P (k + 10)), .ref (zw_ad P (k + 11))]
abbrev zw_eN (P : zw_P) (r : Nat → Int32) : List Value := [.ref (zw_ad P 1), .ref (zw_ad P 13), .ref (zw_ad P 25), .ref (zw_ad P 37), .ref (zw_ad P 39), .ref (zw_ad P 45), .ref (zw_ad P 47), .ref (zw_ad P 56), .int (r 8)]
abbrev zw_eW (P : zw_P) (_ : Nat → Int32) : List Value := [.ref (zw_ad P 38)]
abbrev zw_eG (P : zw_P) (r : Nat → Int32) : List Value := [.ref (zw_ad P 25), .ref (zw_ad P 37), .ref (zw_ad P 40), .ref (zw_ad P 41), .ref (zw_ad P 42), .ref (zw_ad P 43), .ref (zw_ad P 44), .int (r 7), .int (r 8), .int (r 9)]
abbrev zw_eT (P : zw_P) (r : Nat → Int32) : List Value := [.ref (zw_ad P 46), .int (r 1), .int (r 2), .int (r 3), .int (r 4), .int (r 5)]
abbrev zw_eS (P : zw_P) (k : Nat) (r : Nat → Int32) : List Value := [.ref (zw_ad P (k + 1)), .int (r 1), .int (r 2)]
abbrev zw_eM (P : zw_P) (r : Nat → Int32) : List Value := [.ref (zw_ad P 58), .ref (zw_ad P 59), .ref (zw_ad P 60), .ref (zw_ad P 61), .int (r 4), .ref (zw_ad P 62), .ref (zw_ad P 63), .ref (zw_ad P 64), .ref (zw_ad P 65), .int (r 9), .int (r 10), .int (r 11), .int (r 12), .int (r 13), .int (r 14), .ref (zw_ad P 66), .ref (zw_ad P 67), .ref (zw_ad P 68)]
abbrev zw_shs (P : zw_P) : Nat → Option Nat := va_up (va_up (va_up (va_up (fun _ => none) 0 (some (zw_ad P 48))) 1 (some (zw_ad P 50))) 2 (some (zw_ad P 52))) 3 (some (zw_ad P 54))
def zw_ce (P : zw_P) (k : Nat) (r : Nat → Int32) : va_E :=
  if zw_bk k = true then .inr (0, zw_eB P k r) else if k = 0 then .inr (5, zw_eN P r) else if k = 37 then .inr (4, zw_eW P r) else if k = 39 then .inr (1, zw_eG P r) else if k = 45 then .inr (3, zw_eT P r)
  else if k = 47 then .inl (zw_cS P, (4, .inr (.inr (.inr (.inr (zw_shs P)))))) else if zw_sh k = true then .inr (2, zw_eS P k r) else if k = 57 then .inr (6, zw_eM P r) else .inl (zw_cI P, (zw_ln k, .inl r))
def zw_W (P : zw_P) (σ : zw_S) : va_W := (List.range 69).map (fun k => (zw_ad P k, zw_ce P k (σ k)))
theorem zw_at (P : zw_P) (σ : zw_S) {k : Nat} (h : k < 69) : (zw_W P σ)[k]? = some (zw_ad P k, zw_ce P k (σ k)) := by
  unfold zw_W
  rw [List.getElem?_map, List.getElem?_range h]
  rfl
theorem zw_set (P : zw_P) (σ : zw_S) {k : Nat} (h : k < 69) (r : Nat → Int32) : (zw_W P σ).set k (zw_ad P k, zw_ce P k r) = zw_W P (zw_us σ k r) := by
  apply List.ext_getElem?
  intro i
  by_cases hi : i = k
  · subst hi
    rw [List.getElem?_set_self (by simp [zw_W]; exact h), zw_at P _ h]
    simp [zw_us]
  · rw [List.getElem?_set_ne (Ne.symm hi)]
    by_cases h9 : i < 69
    · rw [zw_at P _ h9, zw_at P _ h9]
      simp [zw_us, hi]
    · rw [List.getElem?_eq_none (by simp [zw_W]; omega), List.getElem?_eq_none (by simp [zw_W]; omega)]
theorem zw_ce_ar (P : zw_P) {k : Nat} (h : zw_ar k = true) (r : Nat → Int32) : zw_ce P k r = .inl (zw_cI P, (zw_ln k, .inl r)) := by
  simp only [zw_ar, zw_ob, Bool.and_eq_true, Bool.not_eq_true', Bool.or_eq_false_iff, beq_eq_false_iff_ne, decide_eq_true_eq] at h
  simp [zw_ce, h]
theorem zw_ce_bk (P : zw_P) {k : Nat} (h : zw_bk k = true) (r : Nat → Int32) : zw_ce P k r = .inr (0, zw_eB P k r) := by
  simp [zw_ce, h]
theorem zw_ce_sh (P : zw_P) {k : Nat} (h : zw_sh k = true) (r : Nat → Int32) : zw_ce P k r = .inr (2, zw_eS P k r) := by
  have h1 : k = 48 ∨ k = 50 ∨ k = 52 ∨ k = 54 := by simpa [zw_sh, or_assoc] using h
  rcases h1 with rfl | rfl | rfl | rfl <;> rfl
theorem zw_lt_ar {k : Nat} (h : zw_ar k = true) : k < 69 := by
  simp only [zw_ar, Bool.and_eq_true, decide_eq_true_eq] at h
  exact h.1
theorem zw_bk_cases {k : Nat} (h : zw_bk k = true) : k = 1 ∨ k = 13 ∨ k = 25 := by simpa [zw_bk, or_assoc] using h
theorem zw_lt_bk {k : Nat} (h : zw_bk k = true) : k < 69 := by
  rcases zw_bk_cases h with rfl | rfl | rfl <;> decide
theorem zw_sh_cases {k : Nat} (h : zw_sh k = true) : k = 48 ∨ k = 50 ∨ k = 52 ∨ k = 54 := by simpa [zw_sh, or_assoc] using h
theorem zw_lt_sh {k : Nat} (h : zw_sh k = true) : k < 69 := by
  rcases zw_sh_cases h with rfl | rfl | rfl | rfl <;> decide
/-- a book's arrays -/
theorem zw_bk_ar {k : Nat} (h : zw_bk k = true) : ∀ j, j < 11 → zw_ar (k + 1 + j) = true ∧ zw_ln (k + 1 + j) = zw_lns.getD (2 + j) 0 := by
  rcases zw_bk_cases h with rfl | rfl | rfl <;> decide
theorem zw_sh_ar {k : Nat} (h : zw_sh k = true) : zw_ar (k + 1) = true ∧ zw_ln (k + 1) = 40 := by
  rcases zw_sh_cases h with rfl | rfl | rfl | rfl <;> decide
/-- the cells that may change -/
def zw_A (P : zw_P) : Nat → Prop := fun q => ∃ k : Nat, k < 69 ∧ q = zw_ad P k
/-- the texts: their bytes -/
def zw_tx : List String := ["name", "worth", "person", "hands", "age", "bears", "task", "wall", "debt", "feud", "letter", "promise", "tower", "hours", "needs"]
def zw_len : List Nat := [4, 5, 6, 5, 3, 5, 4, 4, 4, 4, 6, 7, 5, 5, 5]
def zw_byt : List (List Int32) := [[110, 97, 109, 101], [119, 111, 114, 116, 104], [112, 101, 114, 115, 111, 110], [104, 97, 110, 100, 115], [97, 103, 101], [98, 101, 97, 114, 115], [116, 97, 115, 107], [119, 97, 108, 108], [100, 101, 98, 116], [102, 101, 117, 100], [108, 101, 116, 116, 101, 114], [112, 114, 111, 109, 105, 115, 101], [116, 111, 119, 101, 114], [104, 111, 117, 114, 115], [110, 101, 101, 100, 115]]
def zw_ixT : List Nat := [67, 114, 75, 127, 129, 131, 95, 99, 101, 103, 105, 107, 109, 119, 121]
def zw_ixM : List Nat := [309, 289, 298, 300, 302, 304, 272, 274, 276, 278, 280, 282, 284, 295, 296]
def zw_abv (j : Nat) : Value := .int (([-1, 0, 0, 2, 0, 4, 1] : List Int32).getD j 0)
abbrev zw_tys (P : zw_P) : List (ClassId × FieldType) := [(zw_cI P, .int), (zw_cS P, .object "NameBook$Sheet")]
/-- the texts' cells -/
def zw_str (A : Nat → Prop) (aK aV : Nat → Nat) (U : State) (H : Heap) : Prop := ∀ i : Nat, i < 15 → va_O "java/lang/String" (aK i) A U H ∧ va_OF "java/lang/String" "coder" "B" (.int 0) (aK i) A U H ∧ va_OF "java/lang/String" "value" "[B" (.ref (aV i)) (aK i) A U H ∧ va_T .byte (aV i) (zw_len.getD i 0) (fun j => .int ((zw_byt.getD i []).getD j 0)) A U H
theorem zw_str.moved {A : Nat → Prop} {aK aV : Nat → Nat} {u U : State} {H : Heap} (hvm : u.vm.Alike U.vm) (h : zw_str A aK aV u H) : zw_str A aK aV U H := fun i hi => ⟨va_O.moved hvm (h i hi).1, va_OF.moved hvm (h i hi).2.1, va_OF.moved hvm (h i hi).2.2.1, va_T.moved hvm (h i hi).2.2.2⟩
theorem zw_str.kept {A : Nat → Prop} {aK aV : Nat → Nat} {U : State} {H H1 : Heap} (h : zw_str A aK aV U H) (hq : ∀ a : Nat, a < H.size → ¬ A a → H1[a]? = H[a]?) : zw_str A aK aV U H1 := fun i hi => ⟨(h i hi).1.kept hq, (h i hi).2.1.kept hq, (h i hi).2.2.1.kept hq, (h i hi).2.2.2.kept hq⟩
theorem zw_str.narrow {A B : Nat → Prop} {aK aV : Nat → Nat} {U : State} {H : Heap} (h : zw_str A aK aV U H) (hAB : ∀ q, B q → A q) : zw_str B aK aV U H := fun i hi => ⟨(h i hi).1.narrow hAB, (h i hi).2.1.narrow hAB, (h i hi).2.2.1.narrow hAB, (h i hi).2.2.2.narrow hAB⟩
theorem zw_recv {A : Nat → Prop} {aK aV : Nat → Nat} {s : State} {H : Heap} {locs : List Loc} {i : Nat} (hE : zw_str A aK aV s s.heap) (hi : i < 15) (hS : va_S A s.heap H locs) : ∃ cell : Cell, H[aK i]? = some cell ∧ cell.vm.isStatics = false ∧ s.vm.findClass "java/lang/String" = some cell.cls := by
  obtain ⟨cell, h1, h2, h3, -⟩ := (hE i hi).1.kept hS.2.1
  exact ⟨cell, h1, h2, h3⟩
/-- what of the machine's state stays: the tables, the cells apart, Kinds.ABOVE, the texts -/
def zw_K (P : zw_P) (U : State) : Prop :=
  va_K P.1 vwCl (zw_tys P) U ∧ (∀ i j : Nat, i < 69 → j < 69 → zw_ad P i = zw_ad P j → i = j) ∧ va_Z "NameBook$Kinds" "ABOVE" "[I" (.ref (zw_tK P)) (zw_A P) U U.heap ∧ va_T .int (zw_tK P) 7 zw_abv (zw_A P) U U.heap
  ∧ zw_str (zw_A P) (zw_aK P) (zw_aV P) U U.heap ∧ va_Z "java/lang/String" "COMPACT_STRINGS" "Z" (.int 1) (zw_A P) U U.heap
  ∧ (∀ i : Nat, i < 15 → vk_R RX4 (zw_ixT.getD i 0) (zw_tx.getD i "") (zw_aK P i) U) ∧ (∀ i : Nat, i < 15 → vk_R RX7 (zw_ixM.getD i 0) (zw_tx.getD i "") (zw_aK P i) U) ∧ va_Zq "jdk/internal/util/Preconditions" "SIOOBE_FORMATTER" "Ljava/util/function/BiFunction;" (zw_A P) U U.heap
def zw_Pre (P : zw_P) (σ : zw_S) (U : State) : Prop := va_P P.1 vwCl (zw_W P σ) U.heap ∧ zw_K P U
theorem zw_D {P : zw_P} {U : State} (h : zw_K P U) (σ : zw_S) : va_D (zw_A P) (zw_W P σ) := by
  have hl : ∀ (i : Nat) (q : Nat × va_E), (zw_W P σ)[i]? = some q → i < 69 ∧ q.1 = zw_ad P i := by
    intro i q hq
    by_cases h9 : i < 69
    · rw [zw_at P _ h9] at hq
      cases hq
      exact ⟨h9, rfl⟩
    · rw [List.getElem?_eq_none (by simp [zw_W]; omega)] at hq
      cases hq
  refine ⟨fun i j p q hi hj hpq => ?_, fun k q hq => ?_⟩
  · obtain ⟨a1, a2⟩ := hl i p hi
    obtain ⟨b1, b2⟩ := hl j q hj
    exact h.2.1 i j a1 b1 (by rw [← a2, ← b2, hpq])
  · obtain ⟨a1, a2⟩ := hl k q hq
    exact ⟨k, a1, a2⟩
/-- from a caller's start to a callee's -/
theorem zw_K.at {P : zw_P} {s U : State} {H : Heap} {locs : List Loc} (h : zw_K P s) (hS : va_S (zw_A P) s.heap H locs) (hU : U.heap = H) (hW : s.WarmedH U.vm) : zw_K P U := by
  obtain ⟨h1, h2, h3, h4, h5, h6, h7, h8, h9⟩ := h
  have hk : ∀ a : Nat, a < s.heap.size → ¬ zw_A P a → U.heap[a]? = s.heap[a]? := fun a x y => by rw [hU]; exact hS.2.1 a x y
  exact ⟨va_K.moved hW.alike h1, h2, va_Z.moved hW.alike (h3.kept hk), va_T.moved hW.alike (h4.kept hk), zw_str.moved hW.alike (h5.kept hk), va_Z.moved hW.alike (h6.kept hk), fun i hi => (h7 i hi).warm hW, fun i hi => (h8 i hi).warm hW, va_Zq.moved hW.alike (h9.kept hk)⟩
theorem zw_K.blind {P : zw_P} {U : State} {g : JFrame} {mk : MethodId} {a : Array Value} (h : zw_K P U) : zw_K P (U.calling g mk a) := by
  obtain ⟨h1, h2, h3, h4, h5, h6, h7, h8, h9⟩ := h
  exact ⟨va_K.moved (u := U) (U := U.calling g mk a) (Vm.Alike.refl U.vm) h1, h2, va_Z.moved (u := U) (U := U.calling g mk a) (Vm.Alike.refl U.vm) h3, va_T.moved (u := U) (U := U.calling g mk a) (Vm.Alike.refl U.vm) h4, zw_str.moved (u := U) (U := U.calling g mk a) (Vm.Alike.refl U.vm) h5, va_Z.moved (u := U) (U := U.calling g mk a) (Vm.Alike.refl U.vm) h6, fun i hi => vk_R.same (u := U) (U := U.calling g mk a) rfl (h7 i hi), fun i hi => vk_R.same (u := U) (U := U.calling g mk a) rfl (h8 i hi), va_Zq.moved (u := U) (U := U.calling g mk a) (Vm.Alike.refl U.vm) h9⟩
theorem zw_K.atL {P : zw_P} {s U : State} {H : Heap} (h : zw_K P s) (hk0 : ∀ a : Nat, a < s.heap.size → H[a]? = s.heap[a]?) (hU : U.heap = H) (hW : s.WarmedH U.vm) : zw_K P U := by
  obtain ⟨h1, h2, h3, h4, h5, h6, h7, h8, h9⟩ := h
  have hk : ∀ a : Nat, a < s.heap.size → ¬ zw_A P a → U.heap[a]? = s.heap[a]? := fun a x _ => by rw [hU]; exact hk0 a x
  exact ⟨va_K.moved hW.alike h1, h2, va_Z.moved hW.alike (h3.kept hk), va_T.moved hW.alike (h4.kept hk), zw_str.moved hW.alike (h5.kept hk), va_Z.moved hW.alike (h6.kept hk), fun i hi => (h7 i hi).warm hW, fun i hi => (h8 i hi).warm hW, va_Zq.moved hW.alike (h9.kept hk)⟩
