/-! a text -/
section TX
variable {σ τ β γ : zw_S} {hd : Nat → Int32} {B : Nat → Int32} {n e T N y : Nat} {w bd so st en v fr to : Int32}
def skd (B : Nat → Int32) (n e : Nat) : Int32 := if swd B n e 6 = true then 0 else if swd B n e 7 = true then 1 else if swd B n e 8 = true then 2 else if swd B n e 9 = true then 3 else if swd B n e 10 = true then 4 else if swd B n e 11 = true then 5 else if swd B n e 12 = true then 6 else -1
theorem skd_c : skd B n e = -1 ∨ ∃ k, k < 7 ∧ skd B n e = nI k := by
  unfold skd
  split
  · exact Or.inr ⟨0, by omega, rfl⟩
  · split
    · exact Or.inr ⟨1, by omega, rfl⟩
    · split
      · exact Or.inr ⟨2, by omega, rfl⟩
      · split
        · exact Or.inr ⟨3, by omega, rfl⟩
        · split
          · exact Or.inr ⟨4, by omega, rfl⟩
          · split
            · exact Or.inr ⟨5, by omega, rfl⟩
            · split
              · exact Or.inr ⟨6, by omega, rfl⟩
              · exact Or.inl rfl
theorem x_kind (h : tX B n σ) (he : e ≤ n) : m_X4_kindHere (XT σ β hd n B e w γ) = some (skd B n e, XT σ β hd n B e w γ) := by
  unfold m_X4_kindHere skd
  rw [x_isWord h he (by decide), cl_ok, x_isWord h he (by decide), cl_ok, x_isWord h he (by decide), cl_ok, x_isWord h he (by decide), cl_ok, x_isWord h he (by decide), cl_ok, x_isWord h he (by decide), cl_ok, x_isWord h he (by decide), cl_ok]
  by_cases c6 : swd B n e 6 = true
  · rw [if1 c6, z10, if_pos c6]
  · rw [if0 c6, z00, if_neg c6]
    by_cases c7 : swd B n e 7 = true
    · rw [if1 c7, z10, if_pos c7]
    · rw [if0 c7, z00, if_neg c7]
      by_cases c8 : swd B n e 8 = true
      · rw [if1 c8, z10, if_pos c8]
      · rw [if0 c8, z00, if_neg c8]
        by_cases c9 : swd B n e 9 = true
        · rw [if1 c9, z10, if_pos c9]
        · rw [if0 c9, z00, if_neg c9]
          by_cases c10 : swd B n e 10 = true
          · rw [if1 c10, z10, if_pos c10]
          · rw [if0 c10, z00, if_neg c10]
            by_cases c11 : swd B n e 11 = true
            · rw [if1 c11, z10, if_pos c11]
            · rw [if0 c11, z00, if_neg c11]
              by_cases c12 : swd B n e 12 = true
              · rw [if1 c12, z10, if_pos c12]
              · rw [if0 c12, z00, if_neg c12]
theorem m_kind (h : tM B n τ) (he : e ≤ n) : m_X7_kindHere (MT τ n B e 0 γ) = some (skd B n e, MT τ n B e 0 γ) := by
  unfold m_X7_kindHere skd
  rw [m_isWord h he (by decide), cl_ok, m_isWord h he (by decide), cl_ok, m_isWord h he (by decide), cl_ok, m_isWord h he (by decide), cl_ok, m_isWord h he (by decide), cl_ok, m_isWord h he (by decide), cl_ok, m_isWord h he (by decide), cl_ok]
  by_cases c6 : swd B n e 6 = true
  · rw [if1 c6, z10, if_pos c6]
  · rw [if0 c6, z00, if_neg c6]
    by_cases c7 : swd B n e 7 = true
    · rw [if1 c7, z10, if_pos c7]
    · rw [if0 c7, z00, if_neg c7]
      by_cases c8 : swd B n e 8 = true
      · rw [if1 c8, z10, if_pos c8]
      · rw [if0 c8, z00, if_neg c8]
        by_cases c9 : swd B n e 9 = true
        · rw [if1 c9, z10, if_pos c9]
        · rw [if0 c9, z00, if_neg c9]
          by_cases c10 : swd B n e 10 = true
          · rw [if1 c10, z10, if_pos c10]
          · rw [if0 c10, z00, if_neg c10]
            by_cases c11 : swd B n e 11 = true
            · rw [if1 c11, z10, if_pos c11]
            · rw [if0 c11, z00, if_neg c11]
              by_cases c12 : swd B n e 12 = true
              · rw [if1 c12, z10, if_pos c12]
              · rw [if0 c12, z00, if_neg c12]
theorem swd_f {b k : Nat} {x : Int32} (hl : zw_len.getD b 0 = k + 1) (hx : zsc b (nI 0) = x) (h : swd B n e b = true) : tK B n e = 1 ∧ tE B n e = tS B n e + (k + 1) ∧ B (tS B n e) = x := by
  unfold swd at h
  rw [hl] at h
  simp only [Bool.and_eq_true, decide_eq_true_eq] at h
  obtain ⟨⟨h1, h2⟩, h3⟩ := h
  refine ⟨h1, h2, ?_⟩
  unfold wdm at h3
  by_cases c : B (tS B n e + 0) = zsc b (nI 0)
  · rw [Nat.add_zero] at c
    rw [c, hx]
  · rw [if_neg c] at h3
    exact absurd h3 (by decide)
theorem excl (h : swd B n e 2 = true) : skd B n e = -1 := by
  obtain ⟨h1, h2, h3⟩ := swd_f (k := 5) (x := 112) rfl (by decide) h
  have n6 : ¬ swd B n e 6 = true := fun z => by
    obtain ⟨-, q, -⟩ := swd_f (k := 3) (x := 116) rfl (by decide) z
    omega
  have n7 : ¬ swd B n e 7 = true := fun z => by
    obtain ⟨-, q, -⟩ := swd_f (k := 3) (x := 119) rfl (by decide) z
    omega
  have n8 : ¬ swd B n e 8 = true := fun z => by
    obtain ⟨-, q, -⟩ := swd_f (k := 3) (x := 100) rfl (by decide) z
    omega
  have n9 : ¬ swd B n e 9 = true := fun z => by
    obtain ⟨-, q, -⟩ := swd_f (k := 3) (x := 102) rfl (by decide) z
    omega
  have n10 : ¬ swd B n e 10 = true := fun z => by
    obtain ⟨-, q, r⟩ := swd_f (k := 5) (x := 108) rfl (by decide) z
    rw [h3] at r
    exact absurd r (by decide)
  have n11 : ¬ swd B n e 11 = true := fun z => by
    obtain ⟨-, q, -⟩ := swd_f (k := 6) (x := 112) rfl (by decide) z
    omega
  have n12 : ¬ swd B n e 12 = true := fun z => by
    obtain ⟨-, q, -⟩ := swd_f (k := 4) (x := 116) rfl (by decide) z
    omega
  unfold skd
  rw [if_neg n6, if_neg n7, if_neg n8, if_neg n9, if_neg n10, if_neg n11, if_neg n12]
theorem swd_1 {b : Nat} (h : swd B n e b = true) : tK B n e = 1 := by
  unfold swd at h
  simp only [Bool.and_eq_true, decide_eq_true_eq] at h
  exact h.1.1
theorem sim_item (he : e ≤ n) (hB : Bk γ) : Sim B n e γ (fun s => m_X4_readItem 25 s) (fun t => m_X7_item t) (e + 1) := by
  have b0 := tS_b (B := B) he
  have b1 := tE_b (B := B) he
  by_cases c0 : swd B n e 0 = true
  · have e1 := tE_1 (B := B) he (by rw [swd_1 c0]; decide)
    obtain ⟨ok, e2, γ2, z1, z2, z3, z4, z5⟩ := sim_name (B := B) b1.2 hB
    refine ⟨ok, e2, γ2, fun z => by have := z1 z; omega, z2, z3, fun σ β hd w hx hg => ?_, fun τ ht => ?_⟩
    · obtain ⟨w1, g1, q1⟩ := x_passP (σ := σ) (β := β) (hd := hd) (γ := γ) (w := w) hx he (b := 0) (by decide) c0
      obtain ⟨w2, g2, q2⟩ := z4 σ β hd w1 hx g1
      refine ⟨w2, g2, ?_⟩
      show m_X4_readItem 25 _ = _
      unfold m_X4_readItem
      rw [q1, cl_ok, z10]
      refine Eq.trans (congrArg (fun z => cl z _) q2) ?_
      rw [cl_ok, tt_ok zz01]
    · show m_X7_item _ = _
      unfold m_X7_item
      rw [m_kind ht he, cl_ok, m_takes ht he (by decide), if_pos c0, cl_ok, z10]
      refine Eq.trans (congrArg (fun z => cv z _) (z5 τ ht)) ?_
      rw [cv_ok]
  · by_cases c2 : swd B n e 2 = true
    · have e1 := tE_1 (B := B) he (by rw [swd_1 c2]; decide)
      obtain ⟨ok, e2, γ2, z1, z2, z3, z4, z5⟩ := sim_person (B := B) he hB c2
      refine ⟨ok, e2, γ2, fun z => by have := z1 z; omega, z2, z3, fun σ β hd w hx hg => ?_, fun τ ht => ?_⟩
      · obtain ⟨w2, g2, q2⟩ := z4 σ β hd w hx hg
        refine ⟨w2, g2, ?_⟩
        show m_X4_readItem 25 _ = _
        unfold m_X4_readItem
        rw [x_passN hx he (by decide) c0, cl_ok, z00, x_isWord hx he (by decide), cl_ok, if1 c2, z10]
        exact q2
      · show m_X7_item _ = _
        unfold m_X7_item
        rw [m_kind ht he, cl_ok, m_takes ht he (by decide), if_neg c0, cl_ok, z00, excl c2, if_pos (by decide)]
        refine Eq.trans (congrArg (fun z => cv z _) (z5 τ ht)) ?_
        rw [cv_ok]
    · rcases skd_c (B := B) (n := n) (e := e) with hk | ⟨k, hk7, hk⟩
      · refine Sim.no he hB (fun σ β hd w hx hg => ⟨w, hg, ?_⟩) (fun τ ht => ?_)
        · show m_X4_readItem 25 _ = _
          unfold m_X4_readItem
          rw [x_passN hx he (by decide) c0, cl_ok, z00, x_isWord hx he (by decide), cl_ok, if0 c2, z00, x_kind hx he, cl_ok, hk, if_pos (by decide)]
        · show m_X7_item _ = _
          unfold m_X7_item m_X7_personItem m_X7_personItem_34
          rw [m_kind ht he, cl_ok, m_takes ht he (by decide), if_neg c0, cl_ok, z00, hk, if_pos (by decide), mt14, if_pos rfl, m_isWord ht he (by decide), cl_ok, if0 c2, z00, tt_ok (by decide), mtw14, nm_ok, mt14, if_neg (by decide), cv_ok]
      · have hne : tK B n e = 1 := by
          by_cases q : tK B n e = 1
          · exact q
          · exfalso
            have f : ∀ b, ¬ swd B n e b = true := fun b z => q (swd_1 z)
            unfold skd at hk
            rw [if_neg (f 6), if_neg (f 7), if_neg (f 8), if_neg (f 9), if_neg (f 10), if_neg (f 11), if_neg (f 12)] at hk
            have := nI_pos' (n := k) (by omega)
            rw [← hk] at this
            exact absurd this (by decide)
        have e1 := tE_1 (B := B) he (by rw [hne]; decide)
        obtain ⟨ok, e2, γ2, z1, z2, z3, z4, z5⟩ := sim_task (B := B) he hB hk7
        refine ⟨ok, e2, γ2, fun z => by have := z1 z; omega, z2, z3, fun σ β hd w hx hg => ?_, fun τ ht => ?_⟩
        · obtain ⟨w2, g2, q2⟩ := z4 σ β hd w hx hg
          refine ⟨w2, g2, ?_⟩
          show m_X4_readItem 25 _ = _
          unfold m_X4_readItem
          rw [x_passN hx he (by decide) c0, cl_ok, z00, x_isWord hx he (by decide), cl_ok, if0 c2, z00, x_kind hx he, cl_ok, hk, if_neg (nI_pos (by omega))]
          exact q2
        · show m_X7_item _ = _
          unfold m_X7_item
          rw [m_kind ht he, cl_ok, m_takes ht he (by decide), if_neg c0, cl_ok, z00, hk, if_neg (nI_pos (by omega))]
          refine Eq.trans (congrArg (fun z => cv z _) (z5 τ ht)) ?_
          rw [cv_ok]
/-! item on item -/
theorem m_78 {x : Int32} {b2 : Int32} : m_X7_text_78 (MT τ n B e bd γ) x b2 = m_X7_text_78 (MT τ n B e 0 γ) x b2 := by
  unfold m_X7_text_78
  rw [mtw14, mtw14]
theorem sim_loop : ∀ (k e i : Nat) (γ : zw_S), e ≤ n → n ≤ e + k → 2 * i ≤ e → n ≤ 120 → Bk γ → ∃ (ok : Bool) (e2 j : Nat) (γ2 : zw_S), e2 ≤ n ∧ j ≤ 1000 ∧ Bk γ2 ∧ (∀ σ β hd so st v m, tX B n σ → k < m → ∃ w2, m_X4_readInto_7 25 m (XS σ β hd n so st (nI e) v γ) (nI (i + 1)) = some (if ok = true then nI j else -1 - nI (tS B n e2), XT σ β hd n B e2 w2 γ2)) ∧ (∀ τ m, tM B n τ → k + 1 < m → m_X7_text_29 m (MT τ n B e 0 γ) (nI i) 1 = m_X7_text_78 (MT τ n B e2 0 γ2) (nI j) (if ok = true then 0 else 1)) := by
  intro k
  induction k with
  | zero =>
    -- at the tape's end no item stands
    intro e i γ he hk hi hn hB
    have hs := tS_b (B := B) he
    have k0 : tK B n e = 0 := by unfold tK; rw [if_neg (by omega)]
    have f : ∀ b, ¬ swd B n e b = true := fun b z => by have := swd_1 z; omega
    obtain ⟨ok, e2, γ2, z1, z2, z3, z4, z5⟩ := sim_item (B := B) he hB
    have ok0 : ok = false := by
      cases ok with
      | false => rfl
      | true =>
        have := z1 rfl
        omega
    subst ok0
    refine ⟨false, e2, i + 1, γ2, z2, by omega, z3, fun σ β hd so st v m hx hm => ?_, fun τ m ht hm => ?_⟩
    · obtain ⟨m, rfl⟩ : ∃ z, m = z + 1 := ⟨m - 1, by omega⟩
      obtain ⟨w1, g1, q1⟩ := x_adv (σ := σ) (β := β) (hd := hd) (γ := γ) (so := so) (st := st) (v := v) hx he
      obtain ⟨w2, g2, q2⟩ := z4 σ β hd w1 hx g1
      refine ⟨w2, ?_⟩
      unfold m_X4_readInto_7
      rw [if_neg (show ¬ (120 : Int32) < nI (i + 1) from nI_nlt (a := 120) (by omega) (by omega)), q1, cv_ok]
      refine Eq.trans (congrArg (fun z => cl z _) q2) ?_
      rw [cl_ok, if_neg (show ¬ false = true by decide), z00]
      unfold m_X4_readInto_54
      rw [show XT σ β hd n B e2 w2 γ2 45 3 = nI (tS B n e2) from xs3, if_neg (by decide)]
    · obtain ⟨m, rfl⟩ : ∃ z, m = z + 2 := ⟨m - 2, by omega⟩
      have q := z5 τ ht
      rw [if_neg (by decide)] at q
      unfold m_X7_text_29
      rw [if_neg (by decide)]
      refine Eq.trans (congrArg (fun z => cv z _) q) ?_
      rw [cv_ok, nm_ok, nI_1]
      unfold m_X7_isSign
      rw [mt14, if_neg (by decide), cl_ok, z00]
      unfold m_X7_text_29
      rw [z00]
      unfold m_X7_text_58
      rw [mt14, if_neg (by decide), m_78, if_neg (by decide)]
  | succ k ih =>
    intro e i γ he hk hi hn hB
    obtain ⟨ok, e2, γ2, z1, z2, z3, z4, z5⟩ := sim_item (B := B) he hB
    have aX : ∀ σ β hd so st v m, tX B n σ → ∃ w2, m_X4_readInto_7 25 (m + 1) (XS σ β hd n so st (nI e) v γ) (nI (i + 1)) = if (if ok = true then (1 : Int32) else 0) = 0 then m_X4_readInto_54 25 (XT σ β hd n B e2 w2 γ2) else if kX B n e2 = 0 then some (nI (i + 1), XT σ β hd n B e2 w2 γ2) else if kX B n e2 = 3 then m_X4_readInto_7 25 m (XT σ β hd n B e2 w2 γ2) (nI (i + 2)) else m_X4_readInto_45 25 (XT σ β hd n B e2 w2 γ2) := by
      intro σ β hd so st v m hx
      obtain ⟨w1, g1, q1⟩ := x_adv (σ := σ) (β := β) (hd := hd) (γ := γ) (so := so) (st := st) (v := v) hx he
      obtain ⟨w2, g2, q2⟩ := z4 σ β hd w1 hx g1
      refine ⟨w2, ?_⟩
      rw [m_X4_readInto_7]
      rw [if_neg (show ¬ (120 : Int32) < nI (i + 1) from nI_nlt (a := 120) (by omega) (by omega)), q1, cv_ok]
      refine Eq.trans (congrArg (fun z => cl z _) q2) ?_
      rw [cl_ok, show XT σ β hd n B e2 w2 γ2 45 2 = kX B n e2 from xs2, nm_ok, nI_1]
    have p54 : ∀ σ β hd w2, m_X4_readInto_54 25 (XT σ β hd n B e2 w2 γ2) = some (-1 - nI (tS B n e2), XT σ β hd n B e2 w2 γ2) := fun σ β hd w2 => by
      unfold m_X4_readInto_54
      rw [show XT σ β hd n B e2 w2 γ2 45 3 = nI (tS B n e2) from xs3]
    have aM : ∀ τ m, tM B n τ → m_X7_text_29 (m + 1) (MT τ n B e 0 γ) (nI i) 1 = cl (m_X7_isSign (MT τ n B e2 (if ok = true then 0 else 1) γ2) 59) fun r5 s4 => if r5 = 0 then m_X7_text_29 m s4 (nI (i + 1)) r5 else cv (m_X7_token s4) fun s7 => m_X7_text_29 m s7 (nI (i + 1)) r5 := fun τ m ht => by
      rw [m_X7_text_29]
      rw [if_neg (by decide)]
      refine Eq.trans (congrArg (fun z => cv z _) (z5 τ ht)) ?_
      rw [cv_ok, nm_ok, nI_1]
    have aE : ∀ (τ : zw_S) (m : Nat) (bd : Int32), m_X7_text_29 (m + 1) (MT τ n B e2 bd γ2) (nI (i + 1)) 0 = m_X7_text_58 (MT τ n B e2 bd γ2) (nI (i + 1)) := fun τ m bd => by
      rw [m_X7_text_29]
      rw [z00]
    have tc := tK_c (B := B) (n := n) e2
    have kne : ∀ q, q ≤ 3 → (nI (tK B n e2) = nI q ↔ tK B n e2 = q) := fun q hq => nI_eq (by omega) (by omega)
    cases ok with
    | false =>
      refine ⟨false, e2, i + 1, γ2, z2, by omega, z3, fun σ β hd so st v m hx hm => ?_, fun τ m ht hm => ?_⟩
      · obtain ⟨m, rfl⟩ : ∃ z, m = z + 1 := ⟨m - 1, by omega⟩
        obtain ⟨w2, q⟩ := aX σ β hd so st v m hx
        refine ⟨w2, q.trans ?_⟩
        rw [if_neg (show ¬ false = true by decide), z00, p54, if_neg (by decide)]
      · obtain ⟨m, rfl⟩ : ∃ z, m = z + 2 := ⟨m - 2, by omega⟩
        refine (aM τ (m + 1) ht).trans ?_
        rw [if_neg (show ¬ false = true by decide)]
        unfold m_X7_isSign
        rw [mt14, if_neg (by decide), cl_ok, z00, aE]
        unfold m_X7_text_58
        rw [mt14, if_neg (by decide), m_78]
    | true =>
      have e21 := z1 rfl
      have kx0 : tK B n e2 ≠ 3 → kX B n e2 = nI (tK B n e2) := fun q => by unfold kX; rw [if_neg (fun z => q z.1)]
      by_cases k3 : tK B n e2 = 3
      · have h2n := tK_lt (B := B) (n := n) (e := e2) (by rw [k3]; decide)
        have eT := tE_1 (B := B) z2 (by rw [k3]; decide)
        have sg : ∀ τ, tM B n τ → m_X7_isSign (MT τ n B e2 (if true = true then 0 else 1) γ2) 59 = some (if B (tS B n e2) = 59 then 1 else 0, MT τ n B e2 0 γ2) := fun τ ht => by
          rw [if_pos rfl]
          unfold m_X7_isSign
          rw [mt14, if_pos rfl, mt10, k3, if_pos (show nI 3 = 3 from rfl), mt11]
          have : ∀ F : Int32 → Option (Int32 × zw_S), rd (MT τ n B e2 0 γ2) 65 120 (nI (tS B n e2)) F = F (B (tS B n e2)) := fun F => m_rd ht h2n
          rw [this]
          by_cases c : B (tS B n e2) = 59
          · rw [if_pos c, if_pos c]
          · rw [if_neg c, if_neg c]
        by_cases c59 : B (tS B n e2) = 59
        · have kx3 : kX B n e2 = 3 := by
            unfold kX
            rw [if_neg (fun z => z.2 c59), k3]
            rfl
          obtain ⟨ok3, e3, j3, γ3, y1, y2, y3, y4, y5⟩ := ih (tE B n e2) (i + 1) γ2 (tE_b z2).2 (by omega) (by omega) hn z3
          refine ⟨ok3, e3, j3, γ3, y1, y2, y3, fun σ β hd so st v m hx hm => ?_, fun τ m ht hm => ?_⟩
          · obtain ⟨m, rfl⟩ : ∃ z, m = z + 1 := ⟨m - 1, by omega⟩
            obtain ⟨w2, q⟩ := aX σ β hd so st v m hx
            obtain ⟨w3, q3⟩ := y4 σ β hd (kX B n e2) (nI (tS B n e2)) w2 m hx (by omega)
            refine ⟨w3, q.trans ?_⟩
            rw [if_pos (show true = true from rfl), z10, if_neg (by rw [kx3]; decide), if_pos kx3]
            exact q3
          · obtain ⟨m, rfl⟩ : ∃ z, m = z + 1 := ⟨m - 1, by omega⟩
            refine (aM τ m ht).trans ?_
            rw [sg τ ht, cl_ok, if_pos c59, z10, mt_tok ht z2, cv_ok]
            exact y5 τ m ht (by omega)
        · have kx4 : kX B n e2 = 4 := by
            unfold kX
            rw [if_pos ⟨k3, c59⟩]
          refine ⟨false, e2, i + 1, γ2, z2, by omega, z3, fun σ β hd so st v m hx hm => ?_, fun τ m ht hm => ?_⟩
          · obtain ⟨m, rfl⟩ : ∃ z, m = z + 1 := ⟨m - 1, by omega⟩
            obtain ⟨w2, q⟩ := aX σ β hd so st v m hx
            refine ⟨w2, q.trans ?_⟩
            rw [if_pos (show true = true from rfl), z10, if_neg (by rw [kx4]; decide), if_neg (by rw [kx4]; decide)]
            unfold m_X4_readInto_45
            rw [p54, if_neg (by decide)]
          · obtain ⟨m, rfl⟩ : ∃ z, m = z + 2 := ⟨m - 2, by omega⟩
            refine (aM τ (m + 1) ht).trans ?_
            rw [sg τ ht, cl_ok, if_neg c59, z00, aE]
            unfold m_X7_text_58
            rw [mt14, if_pos rfl, mt10, k3, if_neg (show ¬ nI 3 = 0 by decide), if_neg (by decide)]
      · have sg : ∀ τ, tM B n τ → m_X7_isSign (MT τ n B e2 (if true = true then 0 else 1) γ2) 59 = some (0, MT τ n B e2 0 γ2) := fun τ ht => by
          rw [if_pos rfl]
          unfold m_X7_isSign
          rw [mt14, if_pos rfl, mt10, if_neg (show ¬ nI (tK B n e2) = 3 from fun z => k3 ((kne 3 (by omega)).mp z))]
        by_cases k0 : tK B n e2 = 0
        · refine ⟨true, e2, i + 1, γ2, z2, by omega, z3, fun σ β hd so st v m hx hm => ?_, fun τ m ht hm => ?_⟩
          · obtain ⟨m, rfl⟩ : ∃ z, m = z + 1 := ⟨m - 1, by omega⟩
            obtain ⟨w2, q⟩ := aX σ β hd so st v m hx
            refine ⟨w2, q.trans ?_⟩
            rw [if_pos (show true = true from rfl), z10, if_pos (by rw [kx0 k3, k0]; rfl), if_pos rfl]
          · obtain ⟨m, rfl⟩ : ∃ z, m = z + 2 := ⟨m - 2, by omega⟩
            refine (aM τ (m + 1) ht).trans ?_
            rw [sg τ ht, cl_ok, z00, aE]
            unfold m_X7_text_58
            rw [mt14, if_pos rfl, mt10, k0, if_pos (show nI 0 = 0 from rfl), if_pos rfl]
        · refine ⟨false, e2, i + 1, γ2, z2, by omega, z3, fun σ β hd so st v m hx hm => ?_, fun τ m ht hm => ?_⟩
          · obtain ⟨m, rfl⟩ : ∃ z, m = z + 1 := ⟨m - 1, by omega⟩
            obtain ⟨w2, q⟩ := aX σ β hd so st v m hx
            refine ⟨w2, q.trans ?_⟩
            rw [if_pos (show true = true from rfl), z10, if_neg (by rw [kx0 k3]; exact fun z => k0 ((kne 0 (by omega)).mp z)), if_neg (by rw [kx0 k3]; exact fun z => k3 ((kne 3 (by omega)).mp z))]
            unfold m_X4_readInto_45
            rw [p54, if_neg (by decide)]
          · obtain ⟨m, rfl⟩ : ∃ z, m = z + 2 := ⟨m - 2, by omega⟩
            refine (aM τ (m + 1) ht).trans ?_
            rw [sg τ ht, cl_ok, z00, aE]
            unfold m_X7_text_58
            rw [mt14, if_pos rfl, mt10, if_neg (show ¬ nI (tK B n e2) = 0 from fun z => k0 ((kne 0 (by omega)).mp z)), if_neg (by decide)]
/-! the call -/
theorem Iv.tx {s γ : zw_S} (h : Iv β σ) (hg : gb s 1 = γ) (hm : gm (s 58) = γ) (hB : Bk γ) (e : ∀ i, (i = 0 ∨ (13 ≤ i ∧ i ≤ 24) ∨ (48 ≤ i ∧ i ≠ 57 ∧ i ≠ 58 ∧ i ≠ 60)) → s i = σ i) (e4 : s 57 4 = σ 57 4) (e45 : s 45 1 = 0) (e57 : s 57 9 = 0) : Iv γ s := by
  obtain ⟨h1, h2, h3, h4, h5, h6, h7⟩ := h
  refine ⟨hg, hm, hB, ?_, ?_, ⟨0, by omega, e45, e57, fun j hj => absurd hj (by omega)⟩, ?_⟩
  · unfold Ik at h4 ⊢
    rw [gb_e (σ := σ) (fun i a b => e i (by omega)), e 0 (by omega), e4, e 59 (by omega)]
    exact h4
  · intro j hj
    rw [e 56 (by omega), e 62 (by omega)]
    exact h5 j hj
  · intro s hs
    rw [e (48 + 2 * s) (by omega), e 66 (by omega), e 67 (by omega), e (49 + 2 * s) (by omega), e 68 (by omega)]
    exact h7 s hs
theorem xs_f {i : Nat} (h : i = 0 ∨ (13 ≤ i ∧ i ≤ 24) ∨ 46 ≤ i) : XS σ β hd n so st en v γ i = σ i := by
  unfold XS
  rw [FX.ftr i (by omega), us_o (by omega)]
theorem xs_of (h : σ 45 1 = nI n) : tr σ β γ hd = XS σ β hd n (σ 45 2) (σ 45 3) (σ 45 4) (σ 45 5) γ := by
  have e : zw_us σ 45 (lx (σ 45) (nI n) (σ 45 2) (σ 45 3) (σ 45 4) (σ 45 5)) = σ := by
    funext i j
    by_cases hi : i = 45
    · subst hi
      rw [us_at]
      unfold lx
      grind
    · rw [us_o hi]
  unfold XS
  rw [e]
theorem ms_of (h : τ 57 9 = nI n) : pm τ γ = MS τ n (τ 57 10) (τ 57 11) (τ 57 12) (τ 57 13) (τ 57 14) γ := by
  have e : zw_us τ 57 (mx (τ 57) (nI n) (τ 57 10) (τ 57 11) (τ 57 12) (τ 57 13) (τ 57 14)) = τ := by
    funext i j
    by_cases hi : i = 57
    · subst hi
      rw [us_at]
      unfold mx
      grind
    · rw [us_o hi]
  unfold MS
  rw [e]
theorem op_text (h : Iv β σ) : Ok (m_X6_text σ) (fun τ => m_X7_text τ) := by
  obtain ⟨T, N, y, hW, hy, h40⟩ := id h.2.2.1
  obtain ⟨n, hn, l1, l2, l3⟩ := id h.2.2.2.2.2.1
  have hx : tX (σ 46) n σ := ⟨hn, fun _ _ => rfl⟩
  obtain ⟨ok, e2, j, γ2, y1, y2, y3, y4, y5⟩ := sim_loop (B := σ 46) n 0 0 β (by omega) (by omega) (by omega) hn h.2.2.1
  obtain ⟨T2, N2, y2', hW2, -⟩ := id y3
  obtain ⟨w2, q⟩ := y4 σ β (σ 38) (σ 45 2) (σ 45 3) (σ 45 5) 200 hx (by omega)
  -- the class's run, up to the choice
  have eX : m_X6_text σ = if (if ok = true then nI j else -1 - nI (tS (σ 46) n e2)) < 0 then some (if ok = true then nI j else -1 - nI (tS (σ 46) n e2), zw_wr (XT σ β (σ 38) n (σ 46) e2 w2 γ2) 45 1 0) else cv (m_X0_setTo 1 25 (zw_wr (XT σ β (σ 38) n (σ 46) e2 w2 γ2) 45 1 0)) fun s7 => some (if ok = true then nI j else -1 - nI (tS (σ 46) n e2), s7) := by
    have e1 : m_X0_setTo 25 1 σ = some (tr σ β β (σ 38)) := by
      have := c_trial (σ := σ) (hd := σ 38) hW.cp
      rw [← h.X] at this
      exact this
    unfold m_X6_text m_X4_readInto m_X4_clear
    rw [e1, cv_ok, xs_of l1, xw4, nm_ok]
    refine Eq.trans (congrArg (fun z => cl z _) q) ?_
    rw [cl_ok, nm_ok, nm_ok, cl_ok]
  -- the reference's run from any table that has the tape and the row
  have eM : ∀ u : zw_S, (∀ i, 57 ≤ i → u i = σ i) → m_X7_text u = m_X7_text_78 (MT (sv 60 u β) n (σ 46) e2 0 γ2) (nI j) (if ok = true then 0 else 1) := fun u hu => by
    have ht : tM (σ 46) n (sv 60 u β) := ⟨hn, fun j hj => by rw [sv_o (by decide), hu 65 (by decide)]; exact (l3 j hj).symm⟩
    have e0 : u = pm u β := pm_of (by rw [hu 58 (by decide)]; exact h.2.1)
    have e1 : m_X7_row 58 60 u = some (pm (sv 60 u β) β) := by
      have := r_save (c := 60) (by decide) u β
      rw [← e0] at this
      exact this
    unfold m_X7_text
    rw [e1, cv_ok, ms_of (n := n) (by rw [sv_o (by decide), hu 57 (by decide)]; exact l2), mw12, nm_ok, mw14, nm_ok]
    refine Eq.trans (congrArg (fun z => cv z _) (r_tok ht (e := 0) (by omega))) ?_
    rw [cv_ok]
    exact y5 (sv 60 u β) 200 ht (by omega)
  have hs := tS_b (B := σ 46) (n := n) y1
  have xf : ∀ i, (i = 0 ∨ (13 ≤ i ∧ i ≤ 24) ∨ 46 ≤ i) → zw_wr (XT σ β (σ 38) n (σ 46) e2 w2 γ2) 45 1 0 i = σ i := fun i hi => by
    rw [wr_f (by omega)]
    exact xs_f hi
  cases ok with
  | false =>
    have neg : -1 - nI (tS (σ 46) n e2) < 0 := by
      have h0 := nI_pos' (n := tS (σ 46) n e2) (by omega)
      have h1 := nI_le (a := tS (σ 46) n e2) (b := 120) (by omega) (by omega)
      have : nI 120 = 120 := rfl
      grind
    rw [if_neg (show ¬ false = true by decide), if_pos neg] at eX
    have eM2 := eM (zw_wr (XT σ β (σ 38) n (σ 46) e2 w2 γ2) 45 1 0) (fun i hi => xf i (by omega))
    rw [if_neg (show ¬ false = true by decide)] at eM2
    have s60 : ∀ (b : Int32), zw_wr (MT (sv 60 (zw_wr (XT σ β (σ 38) n (σ 46) e2 w2 γ2) 45 1 0) β) n (σ 46) e2 b γ2) 57 9 0 = pm (zw_wr (zw_us (sv 60 (zw_wr (XT σ β (σ 38) n (σ 46) e2 w2 γ2) 45 1 0) β) 57 (mx (sv 60 (zw_wr (XT σ β (σ 38) n (σ 46) e2 w2 γ2) 45 1 0) β 57) (nI n) (nI (tK (σ 46) n e2)) (nI (tS (σ 46) n e2)) (nI (tE (σ 46) n e2)) (nI (tV (σ 46) n e2)) b)) 57 9 0) γ2 := fun b => by
      unfold MT MS
      rw [pm_wo (by decide)]
    have eM3 : m_X7_text (zw_wr (XT σ β (σ 38) n (σ 46) e2 w2 γ2) 45 1 0) = some (-1 - nI (tS (σ 46) n e2), pm (zw_wr (zw_us (sv 60 (zw_wr (XT σ β (σ 38) n (σ 46) e2 w2 γ2) 45 1 0) β) 57 (mx (sv 60 (zw_wr (XT σ β (σ 38) n (σ 46) e2 w2 γ2) 45 1 0) β 57) (nI n) (nI (tK (σ 46) n e2)) (nI (tS (σ 46) n e2)) (nI (tE (σ 46) n e2)) (nI (tV (σ 46) n e2)) 1)) 57 9 0) β) := by
      rw [eM2]
      unfold m_X7_text_78
      rw [tt_ok (by decide), mtw14, nm_ok, nm_ok, mt11, nm_ok, wr_j (by decide), mt14, if_neg (by decide), s60, r_back (c := 60) (by decide) _ β _ (by rw [wr_f (by decide), us_o (by decide)]; exact sv_c), cv_ok]
    refine ⟨_, _, _, eX, eM3, β, ?_⟩
    refine h.tx (γ := β) ?_ ?_ h.2.2.1 (fun i hi => ?_) ?_ ?_ ?_
    · refine Eq.trans (gb_e (σ := tr (zw_us σ 45 (lx (σ 45) (nI n) (kX (σ 46) n e2) (nI (tS (σ 46) n e2)) (nI (tE (σ 46) n e2)) w2)) β γ2 (σ 38)) (fun i a b => ?_)) (gb_tr hW.cp)
      rw [pm_o (by omega), wr_f (by omega), us_o (by omega), sv_o (by omega), wr_f (by omega)]
      rfl
    · rw [show ∀ s : zw_S, pm s β 58 = em β (s 58) from fun s => by simp [pm], gm_em hW.cp]
    · rw [pm_o (by omega), wr_f (by omega), us_o (by omega), sv_o (by omega), xf i (by omega)]
    · rw [pm_o (by decide), wr_j (by decide), us_at]
      show sv 60 (zw_wr (XT σ β (σ 38) n (σ 46) e2 w2 γ2) 45 1 0) β 57 4 = σ 57 4
      rw [sv_o (by decide), xf 57 (by omega)]
    · rw [pm_o (by decide), wr_f (by decide), us_o (by decide), sv_o (by decide), wr_at]
    · rw [pm_o (by decide), wr_at]
  | true =>
    have pos : ¬ nI j < 0 := nI_pos (by omega)
    rw [if_pos (show true = true from rfl), if_neg pos] at eX
    have g25 : gb (zw_wr (XT σ β (σ 38) n (σ 46) e2 w2 γ2) 45 1 0) 25 = γ2 := by
      refine Eq.trans (gb_e (σ := XT σ β (σ 38) n (σ 46) e2 w2 γ2) (fun i a b => wr_f (by omega))) ?_
      exact gb_pk (by decide) hW2.cp
    have eX2 : m_X6_text σ = some (nI j, pk (zw_wr (XT σ β (σ 38) n (σ 46) e2 w2 γ2) 45 1 0) 1 γ2 (zw_wr (XT σ β (σ 38) n (σ 46) e2 w2 γ2) 45 1 0 38)) := by
      rw [eX, c_setTo (by decide) (by decide) (by decide), cv_ok, g25]
    have xf2 : ∀ i, (i = 0 ∨ (13 ≤ i ∧ i ≤ 24) ∨ 46 ≤ i) → pk (zw_wr (XT σ β (σ 38) n (σ 46) e2 w2 γ2) 45 1 0) 1 γ2 (zw_wr (XT σ β (σ 38) n (σ 46) e2 w2 γ2) 45 1 0 38) i = σ i := fun i hi => by
      rw [pk_o (by omega) (by omega), xf i hi]
    have eM2 := eM (pk (zw_wr (XT σ β (σ 38) n (σ 46) e2 w2 γ2) 45 1 0) 1 γ2 (zw_wr (XT σ β (σ 38) n (σ 46) e2 w2 γ2) 45 1 0 38)) (fun i hi => xf2 i (by omega))
    rw [if_pos (show true = true from rfl)] at eM2
    have eM3 : m_X7_text (pk (zw_wr (XT σ β (σ 38) n (σ 46) e2 w2 γ2) 45 1 0) 1 γ2 (zw_wr (XT σ β (σ 38) n (σ 46) e2 w2 γ2) 45 1 0 38)) = some (nI j, zw_wr (MT (sv 60 (pk (zw_wr (XT σ β (σ 38) n (σ 46) e2 w2 γ2) 45 1 0) 1 γ2 (zw_wr (XT σ β (σ 38) n (σ 46) e2 w2 γ2) 45 1 0 38)) β) n (σ 46) e2 0 γ2) 57 9 0) := by
      rw [eM2]
      unfold m_X7_text_78
      rw [tt_ok (by decide), mtw14, nm_ok, nm_ok, nm_ok, wr_j (by decide), mt14, if_pos rfl]
    refine ⟨_, _, _, eX2, eM3, γ2, ?_⟩
    have mo' : ∀ i, i ≠ 57 → i ≠ 58 → i ≠ 60 → zw_wr (MT (sv 60 (pk (zw_wr (XT σ β (σ 38) n (σ 46) e2 w2 γ2) 45 1 0) 1 γ2 (zw_wr (XT σ β (σ 38) n (σ 46) e2 w2 γ2) 45 1 0 38)) β) n (σ 46) e2 0 γ2) 57 9 0 i = pk (zw_wr (XT σ β (σ 38) n (σ 46) e2 w2 γ2) 45 1 0) 1 γ2 (zw_wr (XT σ β (σ 38) n (σ 46) e2 w2 γ2) 45 1 0 38) i := fun i a b c => by
      rw [wr_f a]
      unfold MT
      rw [ms_o a b, sv_o c]
    refine h.tx (γ := γ2) ?_ ?_ y3 (fun i hi => ?_) ?_ ?_ ?_
    · refine Eq.trans (gb_e (σ := pk (zw_wr (XT σ β (σ 38) n (σ 46) e2 w2 γ2) 45 1 0) 1 γ2 (zw_wr (XT σ β (σ 38) n (σ 46) e2 w2 γ2) 45 1 0 38)) (fun i a b => mo' i (by omega) (by omega) (by omega))) (gb_pk (by decide) hW2.cp)
    · rw [wr_f (by decide)]
      unfold MT MS
      rw [show ∀ s : zw_S, pm s γ2 58 = em γ2 (s 58) from fun s => by simp [pm], gm_em hW2.cp]
    · rw [mo' i (by omega) (by omega) (by omega), xf2 i (by omega)]
    · rw [wr_j (by decide)]
      unfold MT
      rw [ms_57]
      show sv 60 (pk (zw_wr (XT σ β (σ 38) n (σ 46) e2 w2 γ2) 45 1 0) 1 γ2 (zw_wr (XT σ β (σ 38) n (σ 46) e2 w2 γ2) 45 1 0 38)) β 57 4 = σ 57 4
      rw [sv_o (by decide), xf2 57 (by omega)]
    · rw [mo' 45 (by decide) (by decide) (by decide), pk_o (by decide) (by decide), wr_at]
    · rw [wr_at]
end TX
