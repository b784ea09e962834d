def zl_A (s : State) : Nat → Prop := fun q => s.heap.size ≤ q
theorem zl_nA {s : State} : ∀ a : Nat, a < s.heap.size → ¬ zl_A s a := fun a h => Nat.not_le.mpr h
set_option maxRecDepth 100000 in
theorem zl_t0 {s : State} {b : Nat} (hts : ∀ w ∈ lw_tbl, w.before #[Value.ref b] s = true) (hp : ∀ c ∈ flatC (Jvm.Cond.and given_1 narrow_1), c.before #[Value.ref b] s = true) : ∃ aK aV : Nat, (va_O "java/lang/String" aK (zl_A s) s s.heap ∧ va_OF "java/lang/String" "coder" "B" (.int 0) aK (zl_A s) s s.heap ∧ va_OF "java/lang/String" "value" "[B" (.ref aV) aK (zl_A s) s s.heap ∧ va_T .byte aV (zw_len.getD 0 0) (fun j => .int ((zw_byt.getD 0 []).getD j 0)) (zl_A s) s s.heap) ∧ vk_R RX4 (zw_ixT.getD 0 0) (zw_tx.getD 0 "") aK s ∧ vk_R RX7 (zw_ixM.getD 0 0) (zw_tx.getD 0 "") aK s := by
  obtain ⟨adK, adV, h1, h2⟩ := vk_Sof (args := #[Value.ref b]) (s := s) (N := 1) (tm := fun _ => .string RX4 67) (len := [4]) (byt := [[110, 97, 109, 101]]) (A := zl_A s) (fun i hi => by
      obtain rfl : i = 0 := by omega
      decide)
    (fun i hi => hp _ (List.mem_of_getElem? (i := 19) (by decide +kernel))) (fun i hi => hp _ (List.mem_of_getElem? (i := 20) (by decide +kernel))) (fun i hi => hp _ (List.mem_of_getElem? (i := 21) (by decide +kernel))) (fun i hi => by
      obtain rfl : i = 0 := by omega
      exact hp _ (List.mem_of_getElem? (i := 22) (by decide +kernel)))
    (fun i hi j hj => by
      obtain rfl : i = 0 := by omega
      have hj : j < 4 := hj
      match j, hj with | 0, _ => exact hp _ (List.mem_of_getElem? (i := 23) (by decide +kernel)) | 1, _ => exact hp _ (List.mem_of_getElem? (i := 24) (by decide +kernel)) | 2, _ => exact hp _ (List.mem_of_getElem? (i := 25) (by decide +kernel)) | 3, _ => exact hp _ (List.mem_of_getElem? (i := 26) (by decide +kernel)) | (j + 4), hj => exact absurd hj (by omega)) (fun i j hi hj hij => absurd (by omega : i = j) hij) zl_nA
  have h3 : (Term.string RX4 67).eval #[Value.ref b] s none [] s = some (.ref (adK 0)) := h2 0 (by omega)
  have hq : (Jvm.Cond.eq (Jvm.Term.string "NameBook$Tape" (67 : Nat)) (Jvm.Term.string "NameBookModel" (309 : Nat))).before #[Value.ref b] s = true := hp _ (List.mem_of_getElem? (i := 228) (by decide +kernel))
  have h4 : (Term.string RX7 309).eval #[Value.ref b] s none [] s = some (.ref (adK 0)) := va_eqR hq h3
  exact ⟨adK 0, adV 0, h1.1 0 (by omega), vk_R.of (A := #[Value.ref b]) (hts _ (List.mem_of_getElem? (i := 712) (by decide +kernel))) h3, vk_R.of (A := #[Value.ref b]) (hts _ (List.mem_of_getElem? (i := 1295) (by decide +kernel))) h4⟩
set_option maxRecDepth 100000 in
theorem zl_t1 {s : State} {b : Nat} (hts : ∀ w ∈ lw_tbl, w.before #[Value.ref b] s = true) (hp : ∀ c ∈ flatC (Jvm.Cond.and given_1 narrow_1), c.before #[Value.ref b] s = true) : ∃ aK aV : Nat, (va_O "java/lang/String" aK (zl_A s) s s.heap ∧ va_OF "java/lang/String" "coder" "B" (.int 0) aK (zl_A s) s s.heap ∧ va_OF "java/lang/String" "value" "[B" (.ref aV) aK (zl_A s) s s.heap ∧ va_T .byte aV (zw_len.getD 1 0) (fun j => .int ((zw_byt.getD 1 []).getD j 0)) (zl_A s) s s.heap) ∧ vk_R RX4 (zw_ixT.getD 1 0) (zw_tx.getD 1 "") aK s ∧ vk_R RX7 (zw_ixM.getD 1 0) (zw_tx.getD 1 "") aK s := by
  obtain ⟨adK, adV, h1, h2⟩ := vk_Sof (args := #[Value.ref b]) (s := s) (N := 1) (tm := fun _ => .string RX4 114) (len := [5]) (byt := [[119, 111, 114, 116, 104]]) (A := zl_A s) (fun i hi => by
      obtain rfl : i = 0 := by omega
      decide)
    (fun i hi => hp _ (List.mem_of_getElem? (i := 27) (by decide +kernel))) (fun i hi => hp _ (List.mem_of_getElem? (i := 28) (by decide +kernel))) (fun i hi => hp _ (List.mem_of_getElem? (i := 29) (by decide +kernel))) (fun i hi => by
      obtain rfl : i = 0 := by omega
      exact hp _ (List.mem_of_getElem? (i := 30) (by decide +kernel)))
    (fun i hi j hj => by
      obtain rfl : i = 0 := by omega
      have hj : j < 5 := hj
      match j, hj with | 0, _ => exact hp _ (List.mem_of_getElem? (i := 31) (by decide +kernel)) | 1, _ => exact hp _ (List.mem_of_getElem? (i := 32) (by decide +kernel)) | 2, _ => exact hp _ (List.mem_of_getElem? (i := 33) (by decide +kernel)) | 3, _ => exact hp _ (List.mem_of_getElem? (i := 34) (by decide +kernel)) | 4, _ => exact hp _ (List.mem_of_getElem? (i := 35) (by decide +kernel)) | (j + 5), hj => exact absurd hj (by omega)) (fun i j hi hj hij => absurd (by omega : i = j) hij) zl_nA
  have h3 : (Term.string RX4 114).eval #[Value.ref b] s none [] s = some (.ref (adK 0)) := h2 0 (by omega)
  have hq : (Jvm.Cond.eq (Jvm.Term.string "NameBook$Tape" (114 : Nat)) (Jvm.Term.string "NameBookModel" (289 : Nat))).before #[Value.ref b] s = true := hp _ (List.mem_of_getElem? (i := 238) (by decide +kernel))
  have h4 : (Term.string RX7 289).eval #[Value.ref b] s none [] s = some (.ref (adK 0)) := va_eqR hq h3
  exact ⟨adK 0, adV 0, h1.1 0 (by omega), vk_R.of (A := #[Value.ref b]) (hts _ (List.mem_of_getElem? (i := 777) (by decide +kernel))) h3, vk_R.of (A := #[Value.ref b]) (hts _ (List.mem_of_getElem? (i := 1308) (by decide +kernel))) h4⟩
set_option maxRecDepth 100000 in
theorem zl_t2 {s : State} {b : Nat} (hts : ∀ w ∈ lw_tbl, w.before #[Value.ref b] s = true) (hp : ∀ c ∈ flatC (Jvm.Cond.and given_1 narrow_1), c.before #[Value.ref b] s = true) : ∃ aK aV : Nat, (va_O "java/lang/String" aK (zl_A s) s s.heap ∧ va_OF "java/lang/String" "coder" "B" (.int 0) aK (zl_A s) s s.heap ∧ va_OF "java/lang/String" "value" "[B" (.ref aV) aK (zl_A s) s s.heap ∧ va_T .byte aV (zw_len.getD 2 0) (fun j => .int ((zw_byt.getD 2 []).getD j 0)) (zl_A s) s s.heap) ∧ vk_R RX4 (zw_ixT.getD 2 0) (zw_tx.getD 2 "") aK s ∧ vk_R RX7 (zw_ixM.getD 2 0) (zw_tx.getD 2 "") aK s := by
  obtain ⟨adK, adV, h1, h2⟩ := vk_Sof (args := #[Value.ref b]) (s := s) (N := 1) (tm := fun _ => .string RX4 75) (len := [6]) (byt := [[112, 101, 114, 115, 111, 110]]) (A := zl_A s) (fun i hi => by
      obtain rfl : i = 0 := by omega
      decide)
    (fun i hi => hp _ (List.mem_of_getElem? (i := 36) (by decide +kernel))) (fun i hi => hp _ (List.mem_of_getElem? (i := 37) (by decide +kernel))) (fun i hi => hp _ (List.mem_of_getElem? (i := 38) (by decide +kernel))) (fun i hi => by
      obtain rfl : i = 0 := by omega
      exact hp _ (List.mem_of_getElem? (i := 39) (by decide +kernel)))
    (fun i hi j hj => by
      obtain rfl : i = 0 := by omega
      have hj : j < 6 := hj
      match j, hj with | 0, _ => exact hp _ (List.mem_of_getElem? (i := 40) (by decide +kernel)) | 1, _ => exact hp _ (List.mem_of_getElem? (i := 41) (by decide +kernel)) | 2, _ => exact hp _ (List.mem_of_getElem? (i := 42) (by decide +kernel)) | 3, _ => exact hp _ (List.mem_of_getElem? (i := 43) (by decide +kernel)) | 4, _ => exact hp _ (List.mem_of_getElem? (i := 44) (by decide +kernel)) | 5, _ => exact hp _ (List.mem_of_getElem? (i := 45) (by decide +kernel)) | (j + 6), hj => exact absurd hj (by omega)) (fun i j hi hj hij => absurd (by omega : i = j) hij) zl_nA
  have h3 : (Term.string RX4 75).eval #[Value.ref b] s none [] s = some (.ref (adK 0)) := h2 0 (by omega)
  have hq : (Jvm.Cond.eq (Jvm.Term.string "NameBook$Tape" (75 : Nat)) (Jvm.Term.string "NameBookModel" (298 : Nat))).before #[Value.ref b] s = true := hp _ (List.mem_of_getElem? (i := 269) (by decide +kernel))
  have h4 : (Term.string RX7 298).eval #[Value.ref b] s none [] s = some (.ref (adK 0)) := va_eqR hq h3
  exact ⟨adK 0, adV 0, h1.1 0 (by omega), vk_R.of (A := #[Value.ref b]) (hts _ (List.mem_of_getElem? (i := 778) (by decide +kernel))) h3, vk_R.of (A := #[Value.ref b]) (hts _ (List.mem_of_getElem? (i := 1323) (by decide +kernel))) h4⟩
set_option maxRecDepth 100000 in
theorem zl_t3 {s : State} {b : Nat} (hts : ∀ w ∈ lw_tbl, w.before #[Value.ref b] s = true) (hp : ∀ c ∈ flatC (Jvm.Cond.and given_1 narrow_1), c.before #[Value.ref b] s = true) : ∃ aK aV : Nat, (va_O "java/lang/String" aK (zl_A s) s s.heap ∧ va_OF "java/lang/String" "coder" "B" (.int 0) aK (zl_A s) s s.heap ∧ va_OF "java/lang/String" "value" "[B" (.ref aV) aK (zl_A s) s s.heap ∧ va_T .byte aV (zw_len.getD 3 0) (fun j => .int ((zw_byt.getD 3 []).getD j 0)) (zl_A s) s s.heap) ∧ vk_R RX4 (zw_ixT.getD 3 0) (zw_tx.getD 3 "") aK s ∧ vk_R RX7 (zw_ixM.getD 3 0) (zw_tx.getD 3 "") aK s := by
  obtain ⟨adK, adV, h1, h2⟩ := vk_Sof (args := #[Value.ref b]) (s := s) (N := 1) (tm := fun _ => .string RX4 127) (len := [5]) (byt := [[104, 97, 110, 100, 115]]) (A := zl_A s) (fun i hi => by
      obtain rfl : i = 0 := by omega
      decide)
    (fun i hi => hp _ (List.mem_of_getElem? (i := 46) (by decide +kernel))) (fun i hi => hp _ (List.mem_of_getElem? (i := 47) (by decide +kernel))) (fun i hi => hp _ (List.mem_of_getElem? (i := 48) (by decide +kernel))) (fun i hi => by
      obtain rfl : i = 0 := by omega
      exact hp _ (List.mem_of_getElem? (i := 49) (by decide +kernel)))
    (fun i hi j hj => by
      obtain rfl : i = 0 := by omega
      have hj : j < 5 := hj
      match j, hj with | 0, _ => exact hp _ (List.mem_of_getElem? (i := 50) (by decide +kernel)) | 1, _ => exact hp _ (List.mem_of_getElem? (i := 51) (by decide +kernel)) | 2, _ => exact hp _ (List.mem_of_getElem? (i := 52) (by decide +kernel)) | 3, _ => exact hp _ (List.mem_of_getElem? (i := 53) (by decide +kernel)) | 4, _ => exact hp _ (List.mem_of_getElem? (i := 54) (by decide +kernel)) | (j + 5), hj => exact absurd hj (by omega)) (fun i j hi hj hij => absurd (by omega : i = j) hij) zl_nA
  have h3 : (Term.string RX4 127).eval #[Value.ref b] s none [] s = some (.ref (adK 0)) := h2 0 (by omega)
  have hq : (Jvm.Cond.eq (Jvm.Term.string "NameBook$Tape" (127 : Nat)) (Jvm.Term.string "NameBookModel" (300 : Nat))).before #[Value.ref b] s = true := hp _ (List.mem_of_getElem? (i := 279) (by decide +kernel))
  have h4 : (Term.string RX7 300).eval #[Value.ref b] s none [] s = some (.ref (adK 0)) := va_eqR hq h3
  exact ⟨adK 0, adV 0, h1.1 0 (by omega), vk_R.of (A := #[Value.ref b]) (hts _ (List.mem_of_getElem? (i := 783) (by decide +kernel))) h3, vk_R.of (A := #[Value.ref b]) (hts _ (List.mem_of_getElem? (i := 1324) (by decide +kernel))) h4⟩
set_option maxRecDepth 100000 in
theorem zl_t4 {s : State} {b : Nat} (hts : ∀ w ∈ lw_tbl, w.before #[Value.ref b] s = true) (hp : ∀ c ∈ flatC (Jvm.Cond.and given_1 narrow_1), c.before #[Value.ref b] s = true) : ∃ aK aV : Nat, (va_O "java/lang/String" aK (zl_A s) s s.heap ∧ va_OF "java/lang/String" "coder" "B" (.int 0) aK (zl_A s) s s.heap ∧ va_OF "java/lang/String" "value" "[B" (.ref aV) aK (zl_A s) s s.heap ∧ va_T .byte aV (zw_len.getD 4 0) (fun j => .int ((zw_byt.getD 4 []).getD j 0)) (zl_A s) s s.heap) ∧ vk_R RX4 (zw_ixT.getD 4 0) (zw_tx.getD 4 "") aK s ∧ vk_R RX7 (zw_ixM.getD 4 0) (zw_tx.getD 4 "") aK s := by
  obtain ⟨adK, adV, h1, h2⟩ := vk_Sof (args := #[Value.ref b]) (s := s) (N := 1) (tm := fun _ => .string RX4 129) (len := [3]) (byt := [[97, 103, 101]]) (A := zl_A s) (fun i hi => by
      obtain rfl : i = 0 := by omega
      decide)
    (fun i hi => hp _ (List.mem_of_getElem? (i := 55) (by decide +kernel))) (fun i hi => hp _ (List.mem_of_getElem? (i := 56) (by decide +kernel))) (fun i hi => hp _ (List.mem_of_getElem? (i := 57) (by decide +kernel))) (fun i hi => by
      obtain rfl : i = 0 := by omega
      exact hp _ (List.mem_of_getElem? (i := 58) (by decide +kernel)))
    (fun i hi j hj => by
      obtain rfl : i = 0 := by omega
      have hj : j < 3 := hj
      match j, hj with | 0, _ => exact hp _ (List.mem_of_getElem? (i := 59) (by decide +kernel)) | 1, _ => exact hp _ (List.mem_of_getElem? (i := 60) (by decide +kernel)) | 2, _ => exact hp _ (List.mem_of_getElem? (i := 61) (by decide +kernel)) | (j + 3), hj => exact absurd hj (by omega)) (fun i j hi hj hij => absurd (by omega : i = j) hij) zl_nA
  have h3 : (Term.string RX4 129).eval #[Value.ref b] s none [] s = some (.ref (adK 0)) := h2 0 (by omega)
  have hq : (Jvm.Cond.eq (Jvm.Term.string "NameBook$Tape" (129 : Nat)) (Jvm.Term.string "NameBookModel" (302 : Nat))).before #[Value.ref b] s = true := hp _ (List.mem_of_getElem? (i := 287) (by decide +kernel))
  have h4 : (Term.string RX7 302).eval #[Value.ref b] s none [] s = some (.ref (adK 0)) := va_eqR hq h3
  exact ⟨adK 0, adV 0, h1.1 0 (by omega), vk_R.of (A := #[Value.ref b]) (hts _ (List.mem_of_getElem? (i := 784) (by decide +kernel))) h3, vk_R.of (A := #[Value.ref b]) (hts _ (List.mem_of_getElem? (i := 1325) (by decide +kernel))) h4⟩
set_option maxRecDepth 100000 in
theorem zl_t5 {s : State} {b : Nat} (hts : ∀ w ∈ lw_tbl, w.before #[Value.ref b] s = true) (hp : ∀ c ∈ flatC (Jvm.Cond.and given_1 narrow_1), c.before #[Value.ref b] s = true) : ∃ aK aV : Nat, (va_O "java/lang/String" aK (zl_A s) s s.heap ∧ va_OF "java/lang/String" "coder" "B" (.int 0) aK (zl_A s) s s.heap ∧ va_OF "java/lang/String" "value" "[B" (.ref aV) aK (zl_A s) s s.heap ∧ va_T .byte aV (zw_len.getD 5 0) (fun j => .int ((zw_byt.getD 5 []).getD j 0)) (zl_A s) s s.heap) ∧ vk_R RX4 (zw_ixT.getD 5 0) (zw_tx.getD 5 "") aK s ∧ vk_R RX7 (zw_ixM.getD 5 0) (zw_tx.getD 5 "") aK s := by
  obtain ⟨adK, adV, h1, h2⟩ := vk_Sof (args := #[Value.ref b]) (s := s) (N := 1) (tm := fun _ => .string RX4 131) (len := [5]) (byt := [[98, 101, 97, 114, 115]]) (A := zl_A s) (fun i hi => by
      obtain rfl : i = 0 := by omega
      decide)
    (fun i hi => hp _ (List.mem_of_getElem? (i := 62) (by decide +kernel))) (fun i hi => hp _ (List.mem_of_getElem? (i := 63) (by decide +kernel))) (fun i hi => hp _ (List.mem_of_getElem? (i := 64) (by decide +kernel))) (fun i hi => by
      obtain rfl : i = 0 := by omega
      exact hp _ (List.mem_of_getElem? (i := 65) (by decide +kernel)))
    (fun i hi j hj => by
      obtain rfl : i = 0 := by omega
      have hj : j < 5 := hj
      match j, hj with | 0, _ => exact hp _ (List.mem_of_getElem? (i := 66) (by decide +kernel)) | 1, _ => exact hp _ (List.mem_of_getElem? (i := 67) (by decide +kernel)) | 2, _ => exact hp _ (List.mem_of_getElem? (i := 68) (by decide +kernel)) | 3, _ => exact hp _ (List.mem_of_getElem? (i := 69) (by decide +kernel)) | 4, _ => exact hp _ (List.mem_of_getElem? (i := 70) (by decide +kernel)) | (j + 5), hj => exact absurd hj (by omega)) (fun i j hi hj hij => absurd (by omega : i = j) hij) zl_nA
  have h3 : (Term.string RX4 131).eval #[Value.ref b] s none [] s = some (.ref (adK 0)) := h2 0 (by omega)
  have hq : (Jvm.Cond.eq (Jvm.Term.string "NameBook$Tape" (131 : Nat)) (Jvm.Term.string "NameBookModel" (304 : Nat))).before #[Value.ref b] s = true := hp _ (List.mem_of_getElem? (i := 297) (by decide +kernel))
  have h4 : (Term.string RX7 304).eval #[Value.ref b] s none [] s = some (.ref (adK 0)) := va_eqR hq h3
  exact ⟨adK 0, adV 0, h1.1 0 (by omega), vk_R.of (A := #[Value.ref b]) (hts _ (List.mem_of_getElem? (i := 785) (by decide +kernel))) h3, vk_R.of (A := #[Value.ref b]) (hts _ (List.mem_of_getElem? (i := 1326) (by decide +kernel))) h4⟩
set_option maxRecDepth 100000 in
theorem zl_t6 {s : State} {b : Nat} (hts : ∀ w ∈ lw_tbl, w.before #[Value.ref b] s = true) (hp : ∀ c ∈ flatC (Jvm.Cond.and given_1 narrow_1), c.before #[Value.ref b] s = true) : ∃ aK aV : Nat, (va_O "java/lang/String" aK (zl_A s) s s.heap ∧ va_OF "java/lang/String" "coder" "B" (.int 0) aK (zl_A s) s s.heap ∧ va_OF "java/lang/String" "value" "[B" (.ref aV) aK (zl_A s) s s.heap ∧ va_T .byte aV (zw_len.getD 6 0) (fun j => .int ((zw_byt.getD 6 []).getD j 0)) (zl_A s) s s.heap) ∧ vk_R RX4 (zw_ixT.getD 6 0) (zw_tx.getD 6 "") aK s ∧ vk_R RX7 (zw_ixM.getD 6 0) (zw_tx.getD 6 "") aK s := by
  obtain ⟨adK, adV, h1, h2⟩ := vk_Sof (args := #[Value.ref b]) (s := s) (N := 1) (tm := fun _ => .string RX4 95) (len := [4]) (byt := [[116, 97, 115, 107]]) (A := zl_A s) (fun i hi => by
      obtain rfl : i = 0 := by omega
      decide)
    (fun i hi => hp _ (List.mem_of_getElem? (i := 71) (by decide +kernel))) (fun i hi => hp _ (List.mem_of_getElem? (i := 72) (by decide +kernel))) (fun i hi => hp _ (List.mem_of_getElem? (i := 73) (by decide +kernel))) (fun i hi => by
      obtain rfl : i = 0 := by omega
      exact hp _ (List.mem_of_getElem? (i := 74) (by decide +kernel)))
    (fun i hi j hj => by
      obtain rfl : i = 0 := by omega
      have hj : j < 4 := hj
      match j, hj with | 0, _ => exact hp _ (List.mem_of_getElem? (i := 75) (by decide +kernel)) | 1, _ => exact hp _ (List.mem_of_getElem? (i := 76) (by decide +kernel)) | 2, _ => exact hp _ (List.mem_of_getElem? (i := 77) (by decide +kernel)) | 3, _ => exact hp _ (List.mem_of_getElem? (i := 78) (by decide +kernel)) | (j + 4), hj => exact absurd hj (by omega)) (fun i j hi hj hij => absurd (by omega : i = j) hij) zl_nA
  have h3 : (Term.string RX4 95).eval #[Value.ref b] s none [] s = some (.ref (adK 0)) := h2 0 (by omega)
  have hq : (Jvm.Cond.eq (Jvm.Term.string "NameBook$Tape" (95 : Nat)) (Jvm.Term.string "NameBookModel" (272 : Nat))).before #[Value.ref b] s = true := hp _ (List.mem_of_getElem? (i := 159) (by decide +kernel))
  have h4 : (Term.string RX7 272).eval #[Value.ref b] s none [] s = some (.ref (adK 0)) := va_eqR hq h3
  exact ⟨adK 0, adV 0, h1.1 0 (by omega), vk_R.of (A := #[Value.ref b]) (hts _ (List.mem_of_getElem? (i := 792) (by decide +kernel))) h3, vk_R.of (A := #[Value.ref b]) (hts _ (List.mem_of_getElem? (i := 1282) (by decide +kernel))) h4⟩
set_option maxRecDepth 100000 in
theorem zl_t7 {s : State} {b : Nat} (hts : ∀ w ∈ lw_tbl, w.before #[Value.ref b] s = true) (hp : ∀ c ∈ flatC (Jvm.Cond.and given_1 narrow_1), c.before #[Value.ref b] s = true) : ∃ aK aV : Nat, (va_O "java/lang/String" aK (zl_A s) s s.heap ∧ va_OF "java/lang/String" "coder" "B" (.int 0) aK (zl_A s) s s.heap ∧ va_OF "java/lang/String" "value" "[B" (.ref aV) aK (zl_A s) s s.heap ∧ va_T .byte aV (zw_len.getD 7 0) (fun j => .int ((zw_byt.getD 7 []).getD j 0)) (zl_A s) s s.heap) ∧ vk_R RX4 (zw_ixT.getD 7 0) (zw_tx.getD 7 "") aK s ∧ vk_R RX7 (zw_ixM.getD 7 0) (zw_tx.getD 7 "") aK s := by
  obtain ⟨adK, adV, h1, h2⟩ := vk_Sof (args := #[Value.ref b]) (s := s) (N := 1) (tm := fun _ => .string RX4 99) (len := [4]) (byt := [[119, 97, 108, 108]]) (A := zl_A s) (fun i hi => by
      obtain rfl : i = 0 := by omega
      decide)
    (fun i hi => hp _ (List.mem_of_getElem? (i := 79) (by decide +kernel))) (fun i hi => hp _ (List.mem_of_getElem? (i := 80) (by decide +kernel))) (fun i hi => hp _ (List.mem_of_getElem? (i := 81) (by decide +kernel))) (fun i hi => by
      obtain rfl : i = 0 := by omega
      exact hp _ (List.mem_of_getElem? (i := 82) (by decide +kernel)))
    (fun i hi j hj => by
      obtain rfl : i = 0 := by omega
      have hj : j < 4 := hj
      match j, hj with | 0, _ => exact hp _ (List.mem_of_getElem? (i := 83) (by decide +kernel)) | 1, _ => exact hp _ (List.mem_of_getElem? (i := 84) (by decide +kernel)) | 2, _ => exact hp _ (List.mem_of_getElem? (i := 85) (by decide +kernel)) | 3, _ => exact hp _ (List.mem_of_getElem? (i := 86) (by decide +kernel)) | (j + 4), hj => exact absurd hj (by omega)) (fun i j hi hj hij => absurd (by omega : i = j) hij) zl_nA
  have h3 : (Term.string RX4 99).eval #[Value.ref b] s none [] s = some (.ref (adK 0)) := h2 0 (by omega)
  have hq : (Jvm.Cond.eq (Jvm.Term.string "NameBook$Tape" (99 : Nat)) (Jvm.Term.string "NameBookModel" (274 : Nat))).before #[Value.ref b] s = true := hp _ (List.mem_of_getElem? (i := 168) (by decide +kernel))
  have h4 : (Term.string RX7 274).eval #[Value.ref b] s none [] s = some (.ref (adK 0)) := va_eqR hq h3
  exact ⟨adK 0, adV 0, h1.1 0 (by omega), vk_R.of (A := #[Value.ref b]) (hts _ (List.mem_of_getElem? (i := 793) (by decide +kernel))) h3, vk_R.of (A := #[Value.ref b]) (hts _ (List.mem_of_getElem? (i := 1289) (by decide +kernel))) h4⟩
set_option maxRecDepth 100000 in
theorem zl_t8 {s : State} {b : Nat} (hts : ∀ w ∈ lw_tbl, w.before #[Value.ref b] s = true) (hp : ∀ c ∈ flatC (Jvm.Cond.and given_1 narrow_1), c.before #[Value.ref b] s = true) : ∃ aK aV : Nat, (va_O "java/lang/String" aK (zl_A s) s s.heap ∧ va_OF "java/lang/String" "coder" "B" (.int 0) aK (zl_A s) s s.heap ∧ va_OF "java/lang/String" "value" "[B" (.ref aV) aK (zl_A s) s s.heap ∧ va_T .byte aV (zw_len.getD 8 0) (fun j => .int ((zw_byt.getD 8 []).getD j 0)) (zl_A s) s s.heap) ∧ vk_R RX4 (zw_ixT.getD 8 0) (zw_tx.getD 8 "") aK s ∧ vk_R RX7 (zw_ixM.getD 8 0) (zw_tx.getD 8 "") aK s := by
  obtain ⟨adK, adV, h1, h2⟩ := vk_Sof (args := #[Value.ref b]) (s := s) (N := 1) (tm := fun _ => .string RX4 101) (len := [4]) (byt := [[100, 101, 98, 116]]) (A := zl_A s) (fun i hi => by
      obtain rfl : i = 0 := by omega
      decide)
    (fun i hi => hp _ (List.mem_of_getElem? (i := 87) (by decide +kernel))) (fun i hi => hp _ (List.mem_of_getElem? (i := 88) (by decide +kernel))) (fun i hi => hp _ (List.mem_of_getElem? (i := 89) (by decide +kernel))) (fun i hi => by
      obtain rfl : i = 0 := by omega
      exact hp _ (List.mem_of_getElem? (i := 90) (by decide +kernel)))
    (fun i hi j hj => by
      obtain rfl : i = 0 := by omega
      have hj : j < 4 := hj
      match j, hj with | 0, _ => exact hp _ (List.mem_of_getElem? (i := 91) (by decide +kernel)) | 1, _ => exact hp _ (List.mem_of_getElem? (i := 92) (by decide +kernel)) | 2, _ => exact hp _ (List.mem_of_getElem? (i := 93) (by decide +kernel)) | 3, _ => exact hp _ (List.mem_of_getElem? (i := 94) (by decide +kernel)) | (j + 4), hj => exact absurd hj (by omega)) (fun i j hi hj hij => absurd (by omega : i = j) hij) zl_nA
  have h3 : (Term.string RX4 101).eval #[Value.ref b] s none [] s = some (.ref (adK 0)) := h2 0 (by omega)
  have hq : (Jvm.Cond.eq (Jvm.Term.string "NameBook$Tape" (101 : Nat)) (Jvm.Term.string "NameBookModel" (276 : Nat))).before #[Value.ref b] s = true := hp _ (List.mem_of_getElem? (i := 177) (by decide +kernel))
  have h4 : (Term.string RX7 276).eval #[Value.ref b] s none [] s = some (.ref (adK 0)) := va_eqR hq h3
  exact ⟨adK 0, adV 0, h1.1 0 (by omega), vk_R.of (A := #[Value.ref b]) (hts _ (List.mem_of_getElem? (i := 794) (by decide +kernel))) h3, vk_R.of (A := #[Value.ref b]) (hts _ (List.mem_of_getElem? (i := 1290) (by decide +kernel))) h4⟩
set_option maxRecDepth 100000 in
theorem zl_t9 {s : State} {b : Nat} (hts : ∀ w ∈ lw_tbl, w.before #[Value.ref b] s = true) (hp : ∀ c ∈ flatC (Jvm.Cond.and given_1 narrow_1), c.before #[Value.ref b] s = true) : ∃ aK aV : Nat, (va_O "java/lang/String" aK (zl_A s) s s.heap ∧ va_OF "java/lang/String" "coder" "B" (.int 0) aK (zl_A s) s s.heap ∧ va_OF "java/lang/String" "value" "[B" (.ref aV) aK (zl_A s) s s.heap ∧ va_T .byte aV (zw_len.getD 9 0) (fun j => .int ((zw_byt.getD 9 []).getD j 0)) (zl_A s) s s.heap) ∧ vk_R RX4 (zw_ixT.getD 9 0) (zw_tx.getD 9 "") aK s ∧ vk_R RX7 (zw_ixM.getD 9 0) (zw_tx.getD 9 "") aK s := by
  obtain ⟨adK, adV, h1, h2⟩ := vk_Sof (args := #[Value.ref b]) (s := s) (N := 1) (tm := fun _ => .string RX4 103) (len := [4]) (byt := [[102, 101, 117, 100]]) (A := zl_A s) (fun i hi => by
      obtain rfl : i = 0 := by omega
      decide)
    (fun i hi => hp _ (List.mem_of_getElem? (i := 95) (by decide +kernel))) (fun i hi => hp _ (List.mem_of_getElem? (i := 96) (by decide +kernel))) (fun i hi => hp _ (List.mem_of_getElem? (i := 97) (by decide +kernel))) (fun i hi => by
      obtain rfl : i = 0 := by omega
      exact hp _ (List.mem_of_getElem? (i := 98) (by decide +kernel)))
    (fun i hi j hj => by
      obtain rfl : i = 0 := by omega
      have hj : j < 4 := hj
      match j, hj with | 0, _ => exact hp _ (List.mem_of_getElem? (i := 99) (by decide +kernel)) | 1, _ => exact hp _ (List.mem_of_getElem? (i := 100) (by decide +kernel)) | 2, _ => exact hp _ (List.mem_of_getElem? (i := 101) (by decide +kernel)) | 3, _ => exact hp _ (List.mem_of_getElem? (i := 102) (by decide +kernel)) | (j + 4), hj => exact absurd hj (by omega)) (fun i j hi hj hij => absurd (by omega : i = j) hij) zl_nA
  have h3 : (Term.string RX4 103).eval #[Value.ref b] s none [] s = some (.ref (adK 0)) := h2 0 (by omega)
  have hq : (Jvm.Cond.eq (Jvm.Term.string "NameBook$Tape" (103 : Nat)) (Jvm.Term.string "NameBookModel" (278 : Nat))).before #[Value.ref b] s = true := hp _ (List.mem_of_getElem? (i := 186) (by decide +kernel))
  have h4 : (Term.string RX7 278).eval #[Value.ref b] s none [] s = some (.ref (adK 0)) := va_eqR hq h3
  exact ⟨adK 0, adV 0, h1.1 0 (by omega), vk_R.of (A := #[Value.ref b]) (hts _ (List.mem_of_getElem? (i := 795) (by decide +kernel))) h3, vk_R.of (A := #[Value.ref b]) (hts _ (List.mem_of_getElem? (i := 1291) (by decide +kernel))) h4⟩
set_option maxRecDepth 100000 in
theorem zl_t10 {s : State} {b : Nat} (hts : ∀ w ∈ lw_tbl, w.before #[Value.ref b] s = true) (hp : ∀ c ∈ flatC (Jvm.Cond.and given_1 narrow_1), c.before #[Value.ref b] s = true) : ∃ aK aV : Nat, (va_O "java/lang/String" aK (zl_A s) s s.heap ∧ va_OF "java/lang/String" "coder" "B" (.int 0) aK (zl_A s) s s.heap ∧ va_OF "java/lang/String" "value" "[B" (.ref aV) aK (zl_A s) s s.heap ∧ va_T .byte aV (zw_len.getD 10 0) (fun j => .int ((zw_byt.getD 10 []).getD j 0)) (zl_A s) s s.heap) ∧ vk_R RX4 (zw_ixT.getD 10 0) (zw_tx.getD 10 "") aK s ∧ vk_R RX7 (zw_ixM.getD 10 0) (zw_tx.getD 10 "") aK s := by
  obtain ⟨adK, adV, h1, h2⟩ := vk_Sof (args := #[Value.ref b]) (s := s) (N := 1) (tm := fun _ => .string RX4 105) (len := [6]) (byt := [[108, 101, 116, 116, 101, 114]]) (A := zl_A s) (fun i hi => by
      obtain rfl : i = 0 := by omega
      decide)
    (fun i hi => hp _ (List.mem_of_getElem? (i := 103) (by decide +kernel))) (fun i hi => hp _ (List.mem_of_getElem? (i := 104) (by decide +kernel))) (fun i hi => hp _ (List.mem_of_getElem? (i := 105) (by decide +kernel))) (fun i hi => by
      obtain rfl : i = 0 := by omega
      exact hp _ (List.mem_of_getElem? (i := 106) (by decide +kernel)))
    (fun i hi j hj => by
      obtain rfl : i = 0 := by omega
      have hj : j < 6 := hj
      match j, hj with | 0, _ => exact hp _ (List.mem_of_getElem? (i := 107) (by decide +kernel)) | 1, _ => exact hp _ (List.mem_of_getElem? (i := 108) (by decide +kernel)) | 2, _ => exact hp _ (List.mem_of_getElem? (i := 109) (by decide +kernel)) | 3, _ => exact hp _ (List.mem_of_getElem? (i := 110) (by decide +kernel)) | 4, _ => exact hp _ (List.mem_of_getElem? (i := 111) (by decide +kernel)) | 5, _ => exact hp _ (List.mem_of_getElem? (i := 112) (by decide +kernel)) | (j + 6), hj => exact absurd hj (by omega)) (fun i j hi hj hij => absurd (by omega : i = j) hij) zl_nA
  have h3 : (Term.string RX4 105).eval #[Value.ref b] s none [] s = some (.ref (adK 0)) := h2 0 (by omega)
  have hq : (Jvm.Cond.eq (Jvm.Term.string "NameBook$Tape" (105 : Nat)) (Jvm.Term.string "NameBookModel" (280 : Nat))).before #[Value.ref b] s = true := hp _ (List.mem_of_getElem? (i := 197) (by decide +kernel))
  have h4 : (Term.string RX7 280).eval #[Value.ref b] s none [] s = some (.ref (adK 0)) := va_eqR hq h3
  exact ⟨adK 0, adV 0, h1.1 0 (by omega), vk_R.of (A := #[Value.ref b]) (hts _ (List.mem_of_getElem? (i := 796) (by decide +kernel))) h3, vk_R.of (A := #[Value.ref b]) (hts _ (List.mem_of_getElem? (i := 1292) (by decide +kernel))) h4⟩
set_option maxRecDepth 100000 in
theorem zl_t11 {s : State} {b : Nat} (hts : ∀ w ∈ lw_tbl, w.before #[Value.ref b] s = true) (hp : ∀ c ∈ flatC (Jvm.Cond.and given_1 narrow_1), c.before #[Value.ref b] s = true) : ∃ aK aV : Nat, (va_O "java/lang/String" aK (zl_A s) s s.heap ∧ va_OF "java/lang/String" "coder" "B" (.int 0) aK (zl_A s) s s.heap ∧ va_OF "java/lang/String" "value" "[B" (.ref aV) aK (zl_A s) s s.heap ∧ va_T .byte aV (zw_len.getD 11 0) (fun j => .int ((zw_byt.getD 11 []).getD j 0)) (zl_A s) s s.heap) ∧ vk_R RX4 (zw_ixT.getD 11 0) (zw_tx.getD 11 "") aK s ∧ vk_R RX7 (zw_ixM.getD 11 0) (zw_tx.getD 11 "") aK s := by
  obtain ⟨adK, adV, h1, h2⟩ := vk_Sof (args := #[Value.ref b]) (s := s) (N := 1) (tm := fun _ => .string RX4 107) (len := [7]) (byt := [[112, 114, 111, 109, 105, 115, 101]]) (A := zl_A s) (fun i hi => by
      obtain rfl : i = 0 := by omega
      decide)
    (fun i hi => hp _ (List.mem_of_getElem? (i := 113) (by decide +kernel))) (fun i hi => hp _ (List.mem_of_getElem? (i := 114) (by decide +kernel))) (fun i hi => hp _ (List.mem_of_getElem? (i := 115) (by decide +kernel))) (fun i hi => by
      obtain rfl : i = 0 := by omega
      exact hp _ (List.mem_of_getElem? (i := 116) (by decide +kernel)))
    (fun i hi j hj => by
      obtain rfl : i = 0 := by omega
      have hj : j < 7 := hj
      match j, hj with | 0, _ => exact hp _ (List.mem_of_getElem? (i := 117) (by decide +kernel)) | 1, _ => exact hp _ (List.mem_of_getElem? (i := 118) (by decide +kernel)) | 2, _ => exact hp _ (List.mem_of_getElem? (i := 119) (by decide +kernel)) | 3, _ => exact hp _ (List.mem_of_getElem? (i := 120) (by decide +kernel)) | 4, _ => exact hp _ (List.mem_of_getElem? (i := 121) (by decide +kernel)) | 5, _ => exact hp _ (List.mem_of_getElem? (i := 122) (by decide +kernel)) | 6, _ => exact hp _ (List.mem_of_getElem? (i := 123) (by decide +kernel)) | (j + 7), hj => exact absurd hj (by omega)) (fun i j hi hj hij => absurd (by omega : i = j) hij) zl_nA
  have h3 : (Term.string RX4 107).eval #[Value.ref b] s none [] s = some (.ref (adK 0)) := h2 0 (by omega)
  have hq : (Jvm.Cond.eq (Jvm.Term.string "NameBook$Tape" (107 : Nat)) (Jvm.Term.string "NameBookModel" (282 : Nat))).before #[Value.ref b] s = true := hp _ (List.mem_of_getElem? (i := 209) (by decide +kernel))
  have h4 : (Term.string RX7 282).eval #[Value.ref b] s none [] s = some (.ref (adK 0)) := va_eqR hq h3
  exact ⟨adK 0, adV 0, h1.1 0 (by omega), vk_R.of (A := #[Value.ref b]) (hts _ (List.mem_of_getElem? (i := 797) (by decide +kernel))) h3, vk_R.of (A := #[Value.ref b]) (hts _ (List.mem_of_getElem? (i := 1293) (by decide +kernel))) h4⟩
set_option maxRecDepth 100000 in
theorem zl_t12 {s : State} {b : Nat} (hts : ∀ w ∈ lw_tbl, w.before #[Value.ref b] s = true) (hp : ∀ c ∈ flatC (Jvm.Cond.and given_1 narrow_1), c.before #[Value.ref b] s = true) : ∃ aK aV : Nat, (va_O "java/lang/String" aK (zl_A s) s s.heap ∧ va_OF "java/lang/String" "coder" "B" (.int 0) aK (zl_A s) s s.heap ∧ va_OF "java/lang/String" "value" "[B" (.ref aV) aK (zl_A s) s s.heap ∧ va_T .byte aV (zw_len.getD 12 0) (fun j => .int ((zw_byt.getD 12 []).getD j 0)) (zl_A s) s s.heap) ∧ vk_R RX4 (zw_ixT.getD 12 0) (zw_tx.getD 12 "") aK s ∧ vk_R RX7 (zw_ixM.getD 12 0) (zw_tx.getD 12 "") aK s := by
  obtain ⟨adK, adV, h1, h2⟩ := vk_Sof (args := #[Value.ref b]) (s := s) (N := 1) (tm := fun _ => .string RX4 109) (len := [5]) (byt := [[116, 111, 119, 101, 114]]) (A := zl_A s) (fun i hi => by
      obtain rfl : i = 0 := by omega
      decide)
    (fun i hi => hp _ (List.mem_of_getElem? (i := 124) (by decide +kernel))) (fun i hi => hp _ (List.mem_of_getElem? (i := 125) (by decide +kernel))) (fun i hi => hp _ (List.mem_of_getElem? (i := 126) (by decide +kernel))) (fun i hi => by
      obtain rfl : i = 0 := by omega
      exact hp _ (List.mem_of_getElem? (i := 127) (by decide +kernel)))
    (fun i hi j hj => by
      obtain rfl : i = 0 := by omega
      have hj : j < 5 := hj
      match j, hj with | 0, _ => exact hp _ (List.mem_of_getElem? (i := 128) (by decide +kernel)) | 1, _ => exact hp _ (List.mem_of_getElem? (i := 129) (by decide +kernel)) | 2, _ => exact hp _ (List.mem_of_getElem? (i := 130) (by decide +kernel)) | 3, _ => exact hp _ (List.mem_of_getElem? (i := 131) (by decide +kernel)) | 4, _ => exact hp _ (List.mem_of_getElem? (i := 132) (by decide +kernel)) | (j + 5), hj => exact absurd hj (by omega)) (fun i j hi hj hij => absurd (by omega : i = j) hij) zl_nA
  have h3 : (Term.string RX4 109).eval #[Value.ref b] s none [] s = some (.ref (adK 0)) := h2 0 (by omega)
  have hq : (Jvm.Cond.eq (Jvm.Term.string "NameBook$Tape" (109 : Nat)) (Jvm.Term.string "NameBookModel" (284 : Nat))).before #[Value.ref b] s = true := hp _ (List.mem_of_getElem? (i := 219) (by decide +kernel))
  have h4 : (Term.string RX7 284).eval #[Value.ref b] s none [] s = some (.ref (adK 0)) := va_eqR hq h3
  exact ⟨adK 0, adV 0, h1.1 0 (by omega), vk_R.of (A := #[Value.ref b]) (hts _ (List.mem_of_getElem? (i := 798) (by decide +kernel))) h3, vk_R.of (A := #[Value.ref b]) (hts _ (List.mem_of_getElem? (i := 1294) (by decide +kernel))) h4⟩
set_option maxRecDepth 100000 in
theorem zl_t13 {s : State} {b : Nat} (hts : ∀ w ∈ lw_tbl, w.before #[Value.ref b] s = true) (hp : ∀ c ∈ flatC (Jvm.Cond.and given_1 narrow_1), c.before #[Value.ref b] s = true) : ∃ aK aV : Nat, (va_O "java/lang/String" aK (zl_A s) s s.heap ∧ va_OF "java/lang/String" "coder" "B" (.int 0) aK (zl_A s) s s.heap ∧ va_OF "java/lang/String" "value" "[B" (.ref aV) aK (zl_A s) s s.heap ∧ va_T .byte aV (zw_len.getD 13 0) (fun j => .int ((zw_byt.getD 13 []).getD j 0)) (zl_A s) s s.heap) ∧ vk_R RX4 (zw_ixT.getD 13 0) (zw_tx.getD 13 "") aK s ∧ vk_R RX7 (zw_ixM.getD 13 0) (zw_tx.getD 13 "") aK s := by
  obtain ⟨adK, adV, h1, h2⟩ := vk_Sof (args := #[Value.ref b]) (s := s) (N := 1) (tm := fun _ => .string RX4 119) (len := [5]) (byt := [[104, 111, 117, 114, 115]]) (A := zl_A s) (fun i hi => by
      obtain rfl : i = 0 := by omega
      decide)
    (fun i hi => hp _ (List.mem_of_getElem? (i := 133) (by decide +kernel))) (fun i hi => hp _ (List.mem_of_getElem? (i := 134) (by decide +kernel))) (fun i hi => hp _ (List.mem_of_getElem? (i := 135) (by decide +kernel))) (fun i hi => by
      obtain rfl : i = 0 := by omega
      exact hp _ (List.mem_of_getElem? (i := 136) (by decide +kernel)))
    (fun i hi j hj => by
      obtain rfl : i = 0 := by omega
      have hj : j < 5 := hj
      match j, hj with | 0, _ => exact hp _ (List.mem_of_getElem? (i := 137) (by decide +kernel)) | 1, _ => exact hp _ (List.mem_of_getElem? (i := 138) (by decide +kernel)) | 2, _ => exact hp _ (List.mem_of_getElem? (i := 139) (by decide +kernel)) | 3, _ => exact hp _ (List.mem_of_getElem? (i := 140) (by decide +kernel)) | 4, _ => exact hp _ (List.mem_of_getElem? (i := 141) (by decide +kernel)) | (j + 5), hj => exact absurd hj (by omega)) (fun i j hi hj hij => absurd (by omega : i = j) hij) zl_nA
  have h3 : (Term.string RX4 119).eval #[Value.ref b] s none [] s = some (.ref (adK 0)) := h2 0 (by omega)
  have hq : (Jvm.Cond.eq (Jvm.Term.string "NameBook$Tape" (119 : Nat)) (Jvm.Term.string "NameBookModel" (295 : Nat))).before #[Value.ref b] s = true := hp _ (List.mem_of_getElem? (i := 248) (by decide +kernel))
  have h4 : (Term.string RX7 295).eval #[Value.ref b] s none [] s = some (.ref (adK 0)) := va_eqR hq h3
  exact ⟨adK 0, adV 0, h1.1 0 (by omega), vk_R.of (A := #[Value.ref b]) (hts _ (List.mem_of_getElem? (i := 803) (by decide +kernel))) h3, vk_R.of (A := #[Value.ref b]) (hts _ (List.mem_of_getElem? (i := 1317) (by decide +kernel))) h4⟩
set_option maxRecDepth 100000 in
theorem zl_t14 {s : State} {b : Nat} (hts : ∀ w ∈ lw_tbl, w.before #[Value.ref b] s = true) (hp : ∀ c ∈ flatC (Jvm.Cond.and given_1 narrow_1), c.before #[Value.ref b] s = true) : ∃ aK aV : Nat, (va_O "java/lang/String" aK (zl_A s) s s.heap ∧ va_OF "java/lang/String" "coder" "B" (.int 0) aK (zl_A s) s s.heap ∧ va_OF "java/lang/String" "value" "[B" (.ref aV) aK (zl_A s) s s.heap ∧ va_T .byte aV (zw_len.getD 14 0) (fun j => .int ((zw_byt.getD 14 []).getD j 0)) (zl_A s) s s.heap) ∧ vk_R RX4 (zw_ixT.getD 14 0) (zw_tx.getD 14 "") aK s ∧ vk_R RX7 (zw_ixM.getD 14 0) (zw_tx.getD 14 "") aK s := by
  obtain ⟨adK, adV, h1, h2⟩ := vk_Sof (args := #[Value.ref b]) (s := s) (N := 1) (tm := fun _ => .string RX4 121) (len := [5]) (byt := [[110, 101, 101, 100, 115]]) (A := zl_A s) (fun i hi => by
      obtain rfl : i = 0 := by omega
      decide)
    (fun i hi => hp _ (List.mem_of_getElem? (i := 142) (by decide +kernel))) (fun i hi => hp _ (List.mem_of_getElem? (i := 143) (by decide +kernel))) (fun i hi => hp _ (List.mem_of_getElem? (i := 144) (by decide +kernel))) (fun i hi => by
      obtain rfl : i = 0 := by omega
      exact hp _ (List.mem_of_getElem? (i := 145) (by decide +kernel)))
    (fun i hi j hj => by
      obtain rfl : i = 0 := by omega
      have hj : j < 5 := hj
      match j, hj with | 0, _ => exact hp _ (List.mem_of_getElem? (i := 146) (by decide +kernel)) | 1, _ => exact hp _ (List.mem_of_getElem? (i := 147) (by decide +kernel)) | 2, _ => exact hp _ (List.mem_of_getElem? (i := 148) (by decide +kernel)) | 3, _ => exact hp _ (List.mem_of_getElem? (i := 149) (by decide +kernel)) | 4, _ => exact hp _ (List.mem_of_getElem? (i := 150) (by decide +kernel)) | (j + 5), hj => exact absurd hj (by omega)) (fun i j hi hj hij => absurd (by omega : i = j) hij) zl_nA
  have h3 : (Term.string RX4 121).eval #[Value.ref b] s none [] s = some (.ref (adK 0)) := h2 0 (by omega)
  have hq : (Jvm.Cond.eq (Jvm.Term.string "NameBook$Tape" (121 : Nat)) (Jvm.Term.string "NameBookModel" (296 : Nat))).before #[Value.ref b] s = true := hp _ (List.mem_of_getElem? (i := 258) (by decide +kernel))
  have h4 : (Term.string RX7 296).eval #[Value.ref b] s none [] s = some (.ref (adK 0)) := va_eqR hq h3
  exact ⟨adK 0, adV 0, h1.1 0 (by omega), vk_R.of (A := #[Value.ref b]) (hts _ (List.mem_of_getElem? (i := 804) (by decide +kernel))) h3, vk_R.of (A := #[Value.ref b]) (hts _ (List.mem_of_getElem? (i := 1318) (by decide +kernel))) h4⟩
set_option maxRecDepth 100000 in
theorem zl_prem {s : State} {b : Nat} (hts : ∀ w ∈ lw_tbl, w.before #[Value.ref b] s = true) (hg : (Jvm.Cond.and given_1 narrow_1).before #[Value.ref b] s = true) : ∃ (tK : Nat) (aK aV : Nat → Nat), va_Z "NameBook$Kinds" "ABOVE" "[I" (.ref tK) (zl_A s) s s.heap ∧ va_T .int tK 7 zw_abv (zl_A s) s s.heap ∧ zw_str (zl_A s) aK aV s s.heap ∧ va_Z "java/lang/String" "COMPACT_STRINGS" "Z" (.int 1) (zl_A s) s s.heap
  ∧ (∀ i : Nat, i < 15 → vk_R RX4 (zw_ixT.getD i 0) (zw_tx.getD i "") (aK i) s) ∧ (∀ i : Nat, i < 15 → vk_R RX7 (zw_ixM.getD i 0) (zw_tx.getD i "") (aK i) s) ∧ va_Zq "jdk/internal/util/Preconditions" "SIOOBE_FORMATTER" "Ljava/util/function/BiFunction;" (zl_A s) s s.heap := by
  have hp := flat_of_before _ hg
  obtain ⟨tK, e1, hT⟩ := va_Tof (args := #[Value.ref b]) (s := s) (tm := .static "NameBook$Kinds" "ABOVE" "[I") (ty := .int) (N := 7) (f := zw_abv) (A := zl_A s) (by decide) (hp _ (List.mem_of_getElem? (i := 5) (by decide +kernel))) (va_eqt (hp _ (List.mem_of_getElem? (i := 6) (by decide +kernel)))) (fun j hj => by
    match j, hj with | 0, _ => exact va_eqt (hp _ (List.mem_of_getElem? (i := 7) (by decide +kernel))) | 1, _ => exact va_eqt (hp _ (List.mem_of_getElem? (i := 8) (by decide +kernel))) | 2, _ => exact va_eqt (hp _ (List.mem_of_getElem? (i := 9) (by decide +kernel))) | 3, _ => exact va_eqt (hp _ (List.mem_of_getElem? (i := 10) (by decide +kernel))) | 4, _ => exact va_eqt (hp _ (List.mem_of_getElem? (i := 11) (by decide +kernel))) | 5, _ => exact va_eqt (hp _ (List.mem_of_getElem? (i := 12) (by decide +kernel))) | 6, _ => exact va_eqt (hp _ (List.mem_of_getElem? (i := 13) (by decide +kernel))) | (j + 7), hj => exact absurd hj (by omega)) zl_nA
  have hZ : va_Z "NameBook$Kinds" "ABOVE" "[I" (.ref tK) (zl_A s) s s.heap := va_Zref (args := #[Value.ref b]) (hts _ (List.mem_of_getElem? (i := 338) (by decide +kernel))) (hts _ (List.mem_of_getElem? (i := 89) (by decide +kernel))) e1 zl_nA
  have hC : va_Z "java/lang/String" "COMPACT_STRINGS" "Z" (.int 1) (zl_A s) s s.heap := va_Zof (args := #[Value.ref b]) (hts _ (List.mem_of_getElem? (i := 730) (by decide +kernel))) (hts _ (List.mem_of_getElem? (i := 92) (by decide +kernel))) (va_eqi (hp _ (List.mem_of_getElem? (i := 14) (by decide +kernel)))) zl_nA
  have hQ : va_Zq "jdk/internal/util/Preconditions" "SIOOBE_FORMATTER" "Ljava/util/function/BiFunction;" (zl_A s) s s.heap := va_Zqof (args := #[Value.ref b]) (hts _ (List.mem_of_getElem? (i := 746) (by decide +kernel))) (hts _ (List.mem_of_getElem? (i := 94) (by decide +kernel))) (hp _ (List.mem_of_getElem? (i := 15) (by decide +kernel))) zl_nA
  obtain ⟨k0, v0, s0, r0, m0⟩ := zl_t0 hts hp
  obtain ⟨k1, v1, s1, r1, m1⟩ := zl_t1 hts hp
  obtain ⟨k2, v2, s2, r2, m2⟩ := zl_t2 hts hp
  obtain ⟨k3, v3, s3, r3, m3⟩ := zl_t3 hts hp
  obtain ⟨k4, v4, s4, r4, m4⟩ := zl_t4 hts hp
  obtain ⟨k5, v5, s5, r5, m5⟩ := zl_t5 hts hp
  obtain ⟨k6, v6, s6, r6, m6⟩ := zl_t6 hts hp
  obtain ⟨k7, v7, s7, r7, m7⟩ := zl_t7 hts hp
  obtain ⟨k8, v8, s8, r8, m8⟩ := zl_t8 hts hp
  obtain ⟨k9, v9, s9, r9, m9⟩ := zl_t9 hts hp
  obtain ⟨k10, v10, s10, r10, m10⟩ := zl_t10 hts hp
  obtain ⟨k11, v11, s11, r11, m11⟩ := zl_t11 hts hp
  obtain ⟨k12, v12, s12, r12, m12⟩ := zl_t12 hts hp
  obtain ⟨k13, v13, s13, r13, m13⟩ := zl_t13 hts hp
  obtain ⟨k14, v14, s14, r14, m14⟩ := zl_t14 hts hp
  exact ⟨tK, fun i => [k0, k1, k2, k3, k4, k5, k6, k7, k8, k9, k10, k11, k12, k13, k14].getD i 0, fun i => [v0, v1, v2, v3, v4, v5, v6, v7, v8, v9, v10, v11, v12, v13, v14].getD i 0, hZ, hT, fun i hi => by match i, hi with | 0, _ => exact s0 | 1, _ => exact s1 | 2, _ => exact s2 | 3, _ => exact s3 | 4, _ => exact s4 | 5, _ => exact s5 | 6, _ => exact s6 | 7, _ => exact s7 | 8, _ => exact s8 | 9, _ => exact s9 | 10, _ => exact s10 | 11, _ => exact s11 | 12, _ => exact s12 | 13, _ => exact s13 | 14, _ => exact s14 | (i + 15), hi => exact absurd hi (by omega), hC, fun i hi => by match i, hi with | 0, _ => exact r0 | 1, _ => exact r1 | 2, _ => exact r2 | 3, _ => exact r3 | 4, _ => exact r4 | 5, _ => exact r5 | 6, _ => exact r6 | 7, _ => exact r7 | 8, _ => exact r8 | 9, _ => exact r9 | 10, _ => exact r10 | 11, _ => exact r11 | 12, _ => exact r12 | 13, _ => exact r13 | 14, _ => exact r14 | (i + 15), hi => exact absurd hi (by omega), fun i hi => by match i, hi with | 0, _ => exact m0 | 1, _ => exact m1 | 2, _ => exact m2 | 3, _ => exact m3 | 4, _ => exact m4 | 5, _ => exact m5 | 6, _ => exact m6 | 7, _ => exact m7 | 8, _ => exact m8 | 9, _ => exact m9 | 10, _ => exact m10 | 11, _ => exact m11 | 12, _ => exact m12 | 13, _ => exact m13 | 14, _ => exact m14 | (i + 15), hi => exact absurd hi (by omega), hQ⟩
