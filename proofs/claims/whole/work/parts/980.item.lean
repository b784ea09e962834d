/-! items -/
def Sim (B : Nat → Int32) (n e : Nat) (γ : zw_S) (fX : zw_S → Option (Int32 × zw_S)) (fM : zw_S → Option zw_S) (lo : Nat) : Prop := ∃ (ok : Bool) (e2 : Nat) (γ2 : zw_S), (ok = true → lo ≤ e2) ∧ e2 ≤ n ∧ Bk γ2 ∧ (∀ σ β hd w, tX B n σ → gd B n e w → ∃ w2, gd B n e2 w2 ∧ fX (XT σ β hd n B e w γ) = some (if ok = true then 1 else 0, XT σ β hd n B e2 w2 γ2)) ∧ (∀ τ, tM B n τ → fM (MT τ n B e 0 γ) = some (MT τ n B e2 (if ok = true then 0 else 1) γ2))
section IT
variable {σ τ β γ : zw_S} {hd : Nat → Int32} {B : Nat → Int32} {n e T N y : Nat} {w bd : Int32}
theorem Sim.from {e1 lo : Nat} {fX gX : zw_S → Option (Int32 × zw_S)} {fM gM : zw_S → Option zw_S} (hs : Sim B n e1 γ gX gM lo) (hX : ∀ σ β hd w, tX B n σ → gd B n e w → ∃ w2, gd B n e1 w2 ∧ fX (XT σ β hd n B e w γ) = gX (XT σ β hd n B e1 w2 γ)) (hM : ∀ τ, tM B n τ → fM (MT τ n B e 0 γ) = gM (MT τ n B e1 0 γ)) : Sim B n e γ fX fM lo := by
  obtain ⟨ok, e2, γ2, h1, h2, h3, h4, h5⟩ := hs
  refine ⟨ok, e2, γ2, h1, h2, h3, fun σ β hd w hx hg => ?_, fun τ ht => ?_⟩
  · obtain ⟨w2, g2, q⟩ := hX σ β hd w hx hg
    obtain ⟨w3, g3, q3⟩ := h4 σ β hd w2 hx g2
    exact ⟨w3, g3, by rw [q, q3]⟩
  · rw [hM τ ht, h5 τ ht]
theorem Sim.no {fX : zw_S → Option (Int32 × zw_S)} {fM : zw_S → Option zw_S} {e2 lo : Nat} (he : e2 ≤ n) (hB : Bk γ) (hX : ∀ σ β hd w, tX B n σ → gd B n e w → ∃ w2, gd B n e2 w2 ∧ fX (XT σ β hd n B e w γ) = some (0, XT σ β hd n B e2 w2 γ)) (hM : ∀ τ, tM B n τ → fM (MT τ n B e 0 γ) = some (MT τ n B e2 1 γ)) : Sim B n e γ fX fM lo := ⟨false, e2, γ, fun z => absurd z (by decide), he, hB, fun σ β hd w hx hg => by simpa using hX σ β hd w hx hg, fun τ ht => by simpa using hM τ ht⟩
theorem Sim.yes {fX : zw_S → Option (Int32 × zw_S)} {fM : zw_S → Option zw_S} {e2 lo : Nat} {γ2 : zw_S} (hl : lo ≤ e2) (he : e2 ≤ n) (hB : Bk γ2) (hX : ∀ σ β hd w, tX B n σ → gd B n e w → ∃ w2, gd B n e2 w2 ∧ fX (XT σ β hd n B e w γ) = some (1, XT σ β hd n B e2 w2 γ2)) (hM : ∀ τ, tM B n τ → fM (MT τ n B e 0 γ) = some (MT τ n B e2 0 γ2)) : Sim B n e γ fX fM lo := ⟨true, e2, γ2, fun _ => hl, he, hB, fun σ β hd w hx hg => by simpa using hX σ β hd w hx hg, fun τ ht => by simpa using hM τ ht⟩
theorem x_numP (h : tX B n σ) {lo hi : Int32} (he : e ≤ n) (hg : gd B n e w) (hlo : lo ≤ 1) (hhi : hi ≤ 999) (c : snm B n e lo hi) : ∃ w2, gd B n (tE B n e) w2 ∧ m_X4_passNumber (XT σ β hd n B e w γ) lo hi = some (nI (tV B n e), XT σ β hd n B (tE B n e) w2 γ) := by
  rcases x_num2 (σ := σ) (β := β) (hd := hd) (γ := γ) h he hg hlo hhi with ⟨-, q⟩ | ⟨q, -⟩
  · exact q
  · exact absurd c q
theorem x_numN (h : tX B n σ) {lo hi : Int32} (he : e ≤ n) (hg : gd B n e w) (hlo : lo ≤ 1) (hhi : hi ≤ 999) (c : ¬ snm B n e lo hi) : m_X4_passNumber (XT σ β hd n B e w γ) lo hi = some (-1, XT σ β hd n B e w γ) := by
  rcases x_num2 (σ := σ) (β := β) (hd := hd) (γ := γ) h he hg hlo hhi with ⟨q, -⟩ | ⟨-, q⟩
  · exact absurd q c
  · exact q
theorem x_passP (h : tX B n σ) {b : Nat} (he : e ≤ n) (hb : b < 15) (c : swd B n e b = true) : ∃ w2, gd B n (tE B n e) w2 ∧ m_X4_passWord b (XT σ β hd n B e w γ) = some (1, XT σ β hd n B (tE B n e) w2 γ) := by
  rcases x_pass (σ := σ) (β := β) (hd := hd) (γ := γ) (w := w) h he hb with ⟨-, q⟩ | ⟨q, -⟩
  · exact q
  · exact absurd c q
theorem x_passN (h : tX B n σ) {b : Nat} (he : e ≤ n) (hb : b < 15) (c : ¬ swd B n e b = true) : m_X4_passWord b (XT σ β hd n B e w γ) = some (0, XT σ β hd n B e w γ) := by
  rcases x_pass (σ := σ) (β := β) (hd := hd) (γ := γ) (w := w) h he hb with ⟨q, -⟩ | ⟨-, q⟩
  · exact absurd q c
  · exact q
theorem xt_s {j : Nat} (hj : j < 4) : XT σ β hd n B e w γ 25 j = γ 0 j := ct_s hj
theorem xt_w1 {α : Type} {i : Nat} {v : Int32} {F : zw_S → Option α} (hi : i < 8) : wt (XT σ β hd n B e w γ) 26 8 (nI i) v F = F (XT σ β hd n B e w (zw_wr γ 1 i v)) := ct_w1 hi
theorem xt_task (h : Wf T N y γ) (hT : T < 20) (a b c d : Int32) : m_X0_addTask 25 (XT σ β hd n B e w γ) a b c d = some (nI T, XT σ β hd n B e w (scome γ a b c d)) := (c_addTask (by decide) h a b c d).trans (if_pos hT)
theorem xt_pers (h : Wf T N y γ) (hN : N < 8) (a b c : Int32) : m_X0_addPerson 25 (XT σ β hd n B e w γ) a b c = some (nI N, XT σ β hd n B e w (sborn γ a b c)) := (c_addPerson (by decide) h a b c).trans (if_pos hN)
theorem xt_bear (h : Wf T N y γ) (x : Int32) : m_X0_bearerOf 25 (XT σ β hd n B e w γ) x = some (sbear γ x, XT σ β hd n B e w γ) := c_bearer (by decide) h x
theorem mt_w1 {α : Type} {i : Nat} {v : Int32} {F : zw_S → Option α} (hi : i < 8) : wt (MT τ n B e bd γ) 58 142 (4 + 2 * nI i) v F = F (MT τ n B e bd (zw_wr γ 1 i v)) := by
  rw [xn0]
  exact r_wt (f := 1) hi
theorem mt_T {α : Type} {F : Int32 → Option α} : rd (MT τ n B e bd γ) 58 142 2 F = F (γ 0 2) := r_T
theorem mt_N {α : Type} {F : Int32 → Option α} : rd (MT τ n B e bd γ) 58 142 3 F = F (γ 0 3) := r_N
theorem mt_task (h : Wf T N y γ) (hT : T < 20) (a b c d : Int32) : m_X7_comes (MT τ n B e bd γ) a b c d = some (MT τ n B e bd (scome γ a b c d)) := r_comes h hT a b c d
theorem mt_pers (h : Wf T N y γ) (hN : N < 8) (a b c : Int32) : m_X7_isBorn (MT τ n B e bd γ) a b c = some (MT τ n B e bd (sborn γ a b c)) := r_isBorn h hN a b c
theorem mt_bear (h : Wf T N y γ) (x : Int32) : m_X7_bearer (MT τ n B e bd γ) x = some (sbear γ x, MT τ n B e bd γ) := r_bearer h x
theorem snm_n {lo hi : Int32} {m : Nat} (h : snm B n e lo hi) (hm : hi = nI m) (hb : m ≤ 1000) : tV B n e ≤ m := by
  have hv := tV_b (B := B) (n := n) (e := e)
  have := h.2.2
  rw [hm, nI_leI (by omega) (by omega)] at this
  exact this
theorem sim_name (he : e ≤ n) (hB : Bk γ) : Sim B n e γ (fun s => m_X4_readName 25 s) (fun t => m_X7_nameItem t) e := by
  have b1 := tE_b (B := B) he
  have b0 := tS_b (B := B) he
  have b2 := tE_b (B := B) b1.2
  have b2' := tS_b (B := B) b1.2
  have b3 := tE_b (B := B) b2.2
  have b3' := tS_b (B := B) b2.2
  by_cases c1 : snm B n e 0 7
  · have v1 : tV B n e < 8 := by
      have := snm_n (m := 7) c1 rfl (by decide)
      omega
    by_cases c2 : swd B n (tE B n e) 1 = true
    · by_cases c3 : snm B n (tE B n (tE B n e)) 0 99
      · have v3 := snm_n (m := 99) c3 rfl (by decide)
        refine Sim.yes (e2 := tE B n (tE B n (tE B n e))) (γ2 := zw_wr γ 1 (tV B n e) (nI (tV B n (tE B n (tE B n e))))) (by omega) b3.2 (hB.w1 v1 ⟨c3.2.1, c3.2.2⟩) (fun σ β hd w hx hg => ?_) (fun τ ht => ?_)
        · obtain ⟨w1, g1, q1⟩ := x_numP (σ := σ) (β := β) (hd := hd) (γ := γ) hx he hg (by decide) (by decide) c1
          obtain ⟨w2, g2, q2⟩ := x_passP (σ := σ) (β := β) (hd := hd) (γ := γ) (w := w1) hx b1.2 (b := 1) (by decide) c2
          obtain ⟨w3, g3, q3⟩ := x_numP (σ := σ) (β := β) (hd := hd) (γ := γ) hx b2.2 g2 (by decide) (by decide) c3
          refine ⟨w3, g3, ?_⟩
          show m_X4_readName 25 _ = _
          unfold m_X4_readName
          rw [q1, cl_ok, if_neg (nI_pos (by omega)), q2, cl_ok, z10, q3, cl_ok, if_pos (nI_pos' (by omega)), xt_w1 v1]
        · show m_X7_nameItem _ = _
          unfold m_X7_nameItem
          rw [(m_num ht he).1 c1, cl_ok, m_word ht b1.2 (by decide), if_pos c2, cv_ok, (m_num ht b2.2).1 c3, cl_ok, mt14, if_pos rfl, mt_w1 v1]
      · refine Sim.no b2.2 hB (fun σ β hd w hx hg => ?_) (fun τ ht => ?_)
        · obtain ⟨w1, g1, q1⟩ := x_numP (σ := σ) (β := β) (hd := hd) (γ := γ) hx he hg (by decide) (by decide) c1
          obtain ⟨w2, g2, q2⟩ := x_passP (σ := σ) (β := β) (hd := hd) (γ := γ) (w := w1) hx b1.2 (b := 1) (by decide) c2
          have q3 := x_numN (σ := σ) (β := β) (hd := hd) (γ := γ) hx b2.2 g2 (by decide) (by decide) c3
          refine ⟨w2, g2, ?_⟩
          show m_X4_readName 25 _ = _
          unfold m_X4_readName
          rw [q1, cl_ok, if_neg (nI_pos (by omega)), q2, cl_ok, z10, q3, cl_ok, if_neg (by decide)]
        · show m_X7_nameItem _ = _
          unfold m_X7_nameItem
          rw [(m_num ht he).1 c1, cl_ok, m_word ht b1.2 (by decide), if_pos c2, cv_ok, (m_num ht b2.2).2 c3, cl_ok, mt14, if_neg (by decide)]
    · refine Sim.no b1.2 hB (fun σ β hd w hx hg => ?_) (fun τ ht => ?_)
      · obtain ⟨w1, g1, q1⟩ := x_numP (σ := σ) (β := β) (hd := hd) (γ := γ) hx he hg (by decide) (by decide) c1
        have q2 := x_passN (σ := σ) (β := β) (hd := hd) (γ := γ) (w := w1) hx b1.2 (b := 1) (by decide) c2
        refine ⟨w1, g1, ?_⟩
        show m_X4_readName 25 _ = _
        unfold m_X4_readName
        rw [q1, cl_ok, if_neg (nI_pos (by omega)), q2, cl_ok, z00]
      · show m_X7_nameItem _ = _
        unfold m_X7_nameItem
        rw [(m_num ht he).1 c1, cl_ok, m_word ht b1.2 (by decide), if_neg c2, cv_ok, m_numB, cl_ok, mt14, if_neg (by decide)]
  · refine Sim.no he hB (fun σ β hd w hx hg => ⟨w, hg, ?_⟩) (fun τ ht => ?_)
    · show m_X4_readName 25 _ = _
      unfold m_X4_readName
      rw [x_numN hx he hg (by decide) (by decide) c1, cl_ok, if_pos (by decide)]
    · show m_X7_nameItem _ = _
      unfold m_X7_nameItem
      rw [(m_num ht he).2 c1, cl_ok, m_wordB, cv_ok, m_numB, cl_ok, mt14, if_neg (by decide)]
theorem m_93B {a b c d : Int32} : m_X7_taskItem_93 (MT τ n B e 1 γ) a b c d = some (MT τ n B e 1 γ) := by
  unfold m_X7_taskItem_93
  rw [mt14, if_neg (by decide)]
theorem sim_task (he : e ≤ n) (hB : Bk γ) {kd : Nat} (hk : kd < 7) : Sim B n e γ (fun s => if 20 ≤ s 25 2 then some (0, s) else cl (m_X4_readTask 25 s (nI kd)) fun r s => if r = 0 then some ((0 : Int32), s) else some (1, s)) (fun t => m_X7_taskItem t (nI kd)) (tE B n e) := by
  obtain ⟨T, N, y, hW, hy, h40⟩ := id hB
  have hT20 := hW.T20
  have b1 := tE_b (B := B) he
  have b2 := tE_b (B := B) b1.2
  have b2' := tS_b (B := B) b1.2
  have b3 := tE_b (B := B) b2.2
  have b3' := tS_b (B := B) b2.2
  have b4 := tE_b (B := B) b3.2
  have b4' := tS_b (B := B) b3.2
  have b5 := tE_b (B := B) b4.2
  have b5' := tS_b (B := B) b4.2
  have b6 := tE_b (B := B) b5.2
  have b6' := tS_b (B := B) b5.2
  by_cases hT : T < 20
  · have t20 : ¬ (20 : Int32) ≤ nI T := by rw [show (20 : Int32) = nI 20 from rfl]; exact nI_ge hT (by omega)
    have t20' : ¬ nI T = 20 := by rw [show (20 : Int32) = nI 20 from rfl, nI_eq (by omega) (by omega)]; omega
    have t20b : γ 0 2 < 20 := by rw [hW.eT]; grind
    have hlim : nI T - 1 ≤ 999 := by
      have := nI_le (a := T) (b := 20) hT20 (by omega)
      have h0 := nI_pos' (n := T) (by omega)
      have : nI 20 = 20 := rfl
      grind
    -- both go on from the first token behind the kind
    have pX : ∀ σ β hd w, tX B n σ → gd B n e w → ∃ w2, gd B n (tE B n e) w2 ∧ (if (20 : Int32) ≤ XT σ β hd n B e w γ 25 2 then some ((0 : Int32), XT σ β hd n B e w γ) else cl (m_X4_readTask 25 (XT σ β hd n B e w γ) (nI kd)) fun r s => if r = 0 then some ((0 : Int32), s) else some (1, s)) = cl (cl (m_X4_passNumber (XT σ β hd n B (tE B n e) w2 γ) 0 7) fun r3 s2 => if r3 < 0 then some (0, s2) else cl (m_X4_passWord 13 s2) fun r6 s5 => if r6 = 0 then some (0, s5) else cl (m_X4_passNumber s5 1 999) fun r9 s8 => if 0 ≤ r9 then cl (m_X4_passWord 14 s8) fun r12 s11 => if r12 = 0 then m_X4_readTask_76 25 s11 (nI kd) r3 r9 (-1) else cl (m_X4_passNumber s11 0 ((s11 25 2) - 1)) fun r15 s14 => if 0 ≤ r15 then m_X4_readTask_76 25 s14 (nI kd) r3 r9 r15 else some (0, s14) else some (0, s8)) fun r s => if r = 0 then some ((0 : Int32), s) else some (1, s) := by
      intro σ β hd w hx hg
      obtain ⟨w2, g2, q2⟩ := xt_adv (σ := σ) (β := β) (hd := hd) (γ := γ) (w := w) hx he
      refine ⟨w2, g2, ?_⟩
      rw [xt_s (by decide), hW.eT, if_neg t20]
      unfold m_X4_readTask
      rw [q2, cv_ok]
    have pM : ∀ τ, tM B n τ → m_X7_taskItem (MT τ n B e 0 γ) (nI kd) = cl (m_X7_number (MT τ n B (tE B n e) 0 γ) 0 7 1) fun r6 s5 => cv (m_X7_word 13 s5) fun s7 => cl (m_X7_number s7 1 999 1) fun r9 s8 => cl (m_X7_takes 14 s8) fun r11 s10 => if r11 = 0 then m_X7_taskItem_93 s10 (nI kd) r6 r9 (-1) else rd s10 58 142 2 fun v13 => cl (m_X7_number s10 0 (v13 - 1) 1) fun r15 s14 => m_X7_taskItem_93 s14 (nI kd) r6 r9 r15 := by
      intro τ ht
      unfold m_X7_taskItem m_X7_taskItem_24
      rw [mt14, if_pos rfl, mt_T, hW.eT, if_neg t20', tt_ok (by decide), mtw14, nm_ok, mt14, if_pos rfl, mt_tok ht he, cv_ok]
    by_cases c1 : snm B n (tE B n e) 0 7
    · have v1 := snm_n (m := 7) c1 rfl (by decide)
      by_cases c2 : swd B n (tE B n (tE B n e)) 13 = true
      · by_cases c3 : snm B n (tE B n (tE B n (tE B n e))) 1 999
        · have v3 := snm_n (m := 999) c3 rfl (by decide)
          by_cases c4 : swd B n (tE B n (tE B n (tE B n (tE B n e)))) 14 = true
          · by_cases c5 : snm B n (tE B n (tE B n (tE B n (tE B n (tE B n e))))) 0 (nI T - 1)
            · have v5 : 0 ≤ nI (tV B n (tE B n (tE B n (tE B n (tE B n (tE B n e)))))) := nI_pos' (by have := tV_b (B := B) (n := n) (e := tE B n (tE B n (tE B n (tE B n (tE B n e))))); omega)
              have hn5 := (le_pred (T := T) (by omega)).mp ⟨v5, c5.2.2⟩
              refine Sim.yes (e2 := tE B n (tE B n (tE B n (tE B n (tE B n (tE B n e)))))) (γ2 := scome γ (nI kd) (nI (tV B n (tE B n e))) (nI (tV B n (tE B n (tE B n (tE B n e))))) (nI (tV B n (tE B n (tE B n (tE B n (tE B n (tE B n e)))))))) (by omega) b6.2 (hB.come t20b ⟨nI_pos' (by omega), nI_le (b := 6) (by omega) (by omega)⟩ c1.2 ⟨by have := c3.2.1; grind, c3.2.2⟩ (Or.inr (by rw [hW.eT]; exact hn5))) (fun σ β hd w hx hg => ?_) (fun τ ht => ?_)
              · obtain ⟨w1, g1, q1⟩ := pX σ β hd w hx hg
                obtain ⟨w2, g2, q2⟩ := x_numP (σ := σ) (β := β) (hd := hd) (γ := γ) hx b1.2 g1 (by decide) (by decide) c1
                obtain ⟨w3, g3, q3⟩ := x_passP (σ := σ) (β := β) (hd := hd) (γ := γ) (w := w2) hx b2.2 (b := 13) (by decide) c2
                obtain ⟨w4, g4, q4⟩ := x_numP (σ := σ) (β := β) (hd := hd) (γ := γ) hx b3.2 g3 (by decide) (by decide) c3
                obtain ⟨w5, g5, q5⟩ := x_passP (σ := σ) (β := β) (hd := hd) (γ := γ) (w := w4) hx b4.2 (b := 14) (by decide) c4
                obtain ⟨w6, g6, q6⟩ := x_numP (σ := σ) (β := β) (hd := hd) (γ := γ) hx b5.2 g5 (by decide) hlim c5
                refine ⟨w6, g6, ?_⟩
                refine Eq.trans q1 ?_
                rw [q2, cl_ok, if_neg (nI_pos (by omega)), q3, cl_ok, z10, q4, cl_ok, if_pos (nI_pos' (by omega)), q5, cl_ok, z10, xt_s (by decide), hW.eT, q6, cl_ok, if_pos v5]
                unfold m_X4_readTask_76
                rw [xt_task hW hT, cl_ok, cl_ok, z10]
              · refine Eq.trans (pM τ ht) ?_
                rw [(m_num ht b1.2).1 c1, cl_ok, m_word ht b2.2 (by decide), if_pos c2, cv_ok, (m_num ht b3.2).1 c3, cl_ok, m_takes ht b4.2 (by decide), if_pos c4, cl_ok, z10, mt_T, hW.eT, (m_num ht b5.2).1 c5, cl_ok]
                unfold m_X7_taskItem_93
                rw [mt14, if_pos rfl, mt_task hW hT, cv_ok]
            · refine Sim.no b5.2 hB (fun σ β hd w hx hg => ?_) (fun τ ht => ?_)
              · obtain ⟨w1, g1, q1⟩ := pX σ β hd w hx hg
                obtain ⟨w2, g2, q2⟩ := x_numP (σ := σ) (β := β) (hd := hd) (γ := γ) hx b1.2 g1 (by decide) (by decide) c1
                obtain ⟨w3, g3, q3⟩ := x_passP (σ := σ) (β := β) (hd := hd) (γ := γ) (w := w2) hx b2.2 (b := 13) (by decide) c2
                obtain ⟨w4, g4, q4⟩ := x_numP (σ := σ) (β := β) (hd := hd) (γ := γ) hx b3.2 g3 (by decide) (by decide) c3
                obtain ⟨w5, g5, q5⟩ := x_passP (σ := σ) (β := β) (hd := hd) (γ := γ) (w := w4) hx b4.2 (b := 14) (by decide) c4
                have q6 := x_numN (σ := σ) (β := β) (hd := hd) (γ := γ) hx b5.2 g5 (by decide) hlim c5
                refine ⟨w5, g5, ?_⟩
                refine Eq.trans q1 ?_
                rw [q2, cl_ok, if_neg (nI_pos (by omega)), q3, cl_ok, z10, q4, cl_ok, if_pos (nI_pos' (by omega)), q5, cl_ok, z10, xt_s (by decide), hW.eT, q6, cl_ok, if_neg (by decide), cl_ok, z00]
              · refine Eq.trans (pM τ ht) ?_
                rw [(m_num ht b1.2).1 c1, cl_ok, m_word ht b2.2 (by decide), if_pos c2, cv_ok, (m_num ht b3.2).1 c3, cl_ok, m_takes ht b4.2 (by decide), if_pos c4, cl_ok, z10, mt_T, hW.eT, (m_num ht b5.2).2 c5, cl_ok, m_93B]
          · refine Sim.yes (e2 := tE B n (tE B n (tE B n (tE B n e)))) (γ2 := scome γ (nI kd) (nI (tV B n (tE B n e))) (nI (tV B n (tE B n (tE B n (tE B n e))))) (-1)) (by omega) b4.2 (hB.come t20b ⟨nI_pos' (by omega), nI_le (b := 6) (by omega) (by omega)⟩ c1.2 ⟨by have := c3.2.1; grind, c3.2.2⟩ (Or.inl rfl)) (fun σ β hd w hx hg => ?_) (fun τ ht => ?_)
            · obtain ⟨w1, g1, q1⟩ := pX σ β hd w hx hg
              obtain ⟨w2, g2, q2⟩ := x_numP (σ := σ) (β := β) (hd := hd) (γ := γ) hx b1.2 g1 (by decide) (by decide) c1
              obtain ⟨w3, g3, q3⟩ := x_passP (σ := σ) (β := β) (hd := hd) (γ := γ) (w := w2) hx b2.2 (b := 13) (by decide) c2
              obtain ⟨w4, g4, q4⟩ := x_numP (σ := σ) (β := β) (hd := hd) (γ := γ) hx b3.2 g3 (by decide) (by decide) c3
              have q5 := x_passN (σ := σ) (β := β) (hd := hd) (γ := γ) (w := w4) hx b4.2 (b := 14) (by decide) c4
              refine ⟨w4, g4, ?_⟩
              refine Eq.trans q1 ?_
              rw [q2, cl_ok, if_neg (nI_pos (by omega)), q3, cl_ok, z10, q4, cl_ok, if_pos (nI_pos' (by omega)), q5, cl_ok, z00]
              unfold m_X4_readTask_76
              rw [xt_task hW hT, cl_ok, cl_ok, z10]
            · refine Eq.trans (pM τ ht) ?_
              rw [(m_num ht b1.2).1 c1, cl_ok, m_word ht b2.2 (by decide), if_pos c2, cv_ok, (m_num ht b3.2).1 c3, cl_ok, m_takes ht b4.2 (by decide), if_neg c4, cl_ok, z00]
              unfold m_X7_taskItem_93
              rw [mt14, if_pos rfl, mt_task hW hT, cv_ok]
        · refine Sim.no b3.2 hB (fun σ β hd w hx hg => ?_) (fun τ ht => ?_)
          · obtain ⟨w1, g1, q1⟩ := pX σ β hd w hx hg
            obtain ⟨w2, g2, q2⟩ := x_numP (σ := σ) (β := β) (hd := hd) (γ := γ) hx b1.2 g1 (by decide) (by decide) c1
            obtain ⟨w3, g3, q3⟩ := x_passP (σ := σ) (β := β) (hd := hd) (γ := γ) (w := w2) hx b2.2 (b := 13) (by decide) c2
            have q4 := x_numN (σ := σ) (β := β) (hd := hd) (γ := γ) hx b3.2 g3 (by decide) (by decide) c3
            refine ⟨w3, g3, ?_⟩
            refine Eq.trans q1 ?_
            rw [q2, cl_ok, if_neg (nI_pos (by omega)), q3, cl_ok, z10, q4, cl_ok, if_neg (by decide), cl_ok, z00]
          · refine Eq.trans (pM τ ht) ?_
            rw [(m_num ht b1.2).1 c1, cl_ok, m_word ht b2.2 (by decide), if_pos c2, cv_ok, (m_num ht b3.2).2 c3, cl_ok, m_takesB, cl_ok, z00, m_93B]
      · refine Sim.no b2.2 hB (fun σ β hd w hx hg => ?_) (fun τ ht => ?_)
        · obtain ⟨w1, g1, q1⟩ := pX σ β hd w hx hg
          obtain ⟨w2, g2, q2⟩ := x_numP (σ := σ) (β := β) (hd := hd) (γ := γ) hx b1.2 g1 (by decide) (by decide) c1
          have q3 := x_passN (σ := σ) (β := β) (hd := hd) (γ := γ) (w := w2) hx b2.2 (b := 13) (by decide) c2
          refine ⟨w2, g2, ?_⟩
          refine Eq.trans q1 ?_
          rw [q2, cl_ok, if_neg (nI_pos (by omega)), q3, cl_ok, z00, cl_ok, z00]
        · refine Eq.trans (pM τ ht) ?_
          rw [(m_num ht b1.2).1 c1, cl_ok, m_word ht b2.2 (by decide), if_neg c2, cv_ok, m_numB, cl_ok, m_takesB, cl_ok, z00, m_93B]
    · refine Sim.no b1.2 hB (fun σ β hd w hx hg => ?_) (fun τ ht => ?_)
      · obtain ⟨w1, g1, q1⟩ := pX σ β hd w hx hg
        have q2 := x_numN (σ := σ) (β := β) (hd := hd) (γ := γ) hx b1.2 g1 (by decide) (by decide) c1
        refine ⟨w1, g1, ?_⟩
        refine Eq.trans q1 ?_
        rw [q2, cl_ok, if_pos (by decide), cl_ok, z00]
      · refine Eq.trans (pM τ ht) ?_
        rw [(m_num ht b1.2).2 c1, cl_ok, m_wordB, cv_ok, m_numB, cl_ok, m_takesB, cl_ok, z00, m_93B]
  · have eT : T = 20 := by omega
    subst eT
    refine Sim.no he hB (fun σ β hd w hx hg => ⟨w, hg, ?_⟩) (fun τ ht => ?_)
    · show (if (20 : Int32) ≤ XT σ β hd n B e w γ 25 2 then _ else _) = _
      rw [xt_s (by decide), hW.eT, if_pos (by decide)]
    · show m_X7_taskItem _ _ = _
      unfold m_X7_taskItem m_X7_taskItem_24
      rw [mt14, if_pos rfl, mt_T, hW.eT, if_pos (show nI 20 = 20 from rfl), tt_ok (by decide), mtw14, nm_ok, mt14, if_neg (by decide)]
/-! a person -/
theorem m_141B {a b c : Int32} : m_X7_personItem_141 (MT τ n B e 1 γ) a b c = some (MT τ n B e 1 γ) := by
  unfold m_X7_personItem_141
  rw [mt14, if_neg (by decide)]
theorem m_94B {a b : Int32} : m_X7_personItem_94 (MT τ n B e 1 γ) a b = some (MT τ n B e 1 γ) := by
  unfold m_X7_personItem_94
  rw [m_takesB, cl_ok, z00, m_141B]
theorem m_71B {a : Int32} : m_X7_personItem_71 (MT τ n B e 1 γ) a = some (MT τ n B e 1 γ) := by
  unfold m_X7_personItem_71
  rw [m_takesB, cl_ok, z00, m_94B]
theorem sim_bears (he : e ≤ n) (hB : Bk γ) (hN : γ 0 3 < 8) {h a : Nat} (hh : 1 ≤ h ∧ h ≤ 9) (ha : a ≤ 39) : Sim B n e γ (fun s => m_X4_readPerson_51 25 s (nI h) (nI a)) (fun t => m_X7_personItem_94 t (nI h) (nI a)) e := by
  obtain ⟨T, N, y, hW, hy, h40⟩ := id hB
  have hN8 := hW.N8
  have hN2 : N < 8 := by
    rw [hW.eN, show (8 : Int32) = nI 8 from rfl, nI_ltI (by omega) (by omega)] at hN
    exact hN
  have h19 : 1 ≤ nI h ∧ nI h ≤ 9 := ⟨nI_le (a := 1) hh.1 (by omega), nI_le (b := 9) hh.2 (by omega)⟩
  have a39 : 0 ≤ nI a ∧ nI a ≤ 39 := ⟨nI_pos' (by omega), nI_le (b := 39) ha (by omega)⟩
  have b0 := tS_b (B := B) he
  have b1 := tE_b (B := B) he
  have b2 := tE_b (B := B) b1.2
  have b2' := tS_b (B := B) b1.2
  have hv := tV_b (B := B) (n := n) (e := tE B n e)
  by_cases d1 : swd B n e 5 = true
  · -- both stand at the number
    have pX : ∀ σ β hd w, tX B n σ → gd B n e w → ∃ w2, gd B n (tE B n e) w2 ∧ m_X4_readPerson_51 25 (XT σ β hd n B e w γ) (nI h) (nI a) = if kX B n (tE B n e) = 2 then (if (8 : Int32) ≤ w2 then m_X4_readPerson_100 25 (XT σ β hd n B (tE B n e) w2 γ) (nI h) (nI a) else if sbear γ w2 < 0 then m_X4_readPerson_100 25 (XT σ β hd n B (tE B n e) w2 γ) (nI h) (nI a) else some (0, XT σ β hd n B (tE B n e) w2 γ)) else m_X4_readPerson_100 25 (XT σ β hd n B (tE B n e) w2 γ) (nI h) (nI a) := by
      intro σ β hd w hx hg
      obtain ⟨w2, g2, q2⟩ := x_passP (σ := σ) (β := β) (hd := hd) (γ := γ) (w := w) hx he (b := 5) (by decide) d1
      refine ⟨w2, g2, ?_⟩
      have s2 : XT σ β hd n B (tE B n e) w2 γ 45 2 = kX B n (tE B n e) := by unfold XT; rw [xs2]
      have s5 : XT σ β hd n B (tE B n e) w2 γ 45 5 = w2 := by unfold XT; rw [xs5]
      unfold m_X4_readPerson_51
      rw [if_pos a39.1, q2, cl_ok, z10, s2, s5, xt_bear hW, cl_ok]
    have pM : ∀ τ, tM B n τ → m_X7_personItem_94 (MT τ n B e 0 γ) (nI h) (nI a) = if 0 ≤ nI (tV B n (tE B n e)) ∧ nI (tV B n (tE B n e)) ≤ 7 then (if 0 ≤ sbear γ (nI (tV B n (tE B n e))) then cl (m_X7_number (MT τ n B (tE B n e) 0 γ) 0 7 0) fun r s => m_X7_personItem_141 s (nI h) (nI a) r else cl (m_X7_number (MT τ n B (tE B n e) 0 γ) 0 7 1) fun r s => m_X7_personItem_141 s (nI h) (nI a) r) else cl (m_X7_number (MT τ n B (tE B n e) 0 γ) 0 7 1) fun r s => m_X7_personItem_141 s (nI h) (nI a) r := by
      intro τ ht
      unfold m_X7_personItem_94
      rw [m_takes ht he (by decide), if_pos d1, cl_ok, z10, mt13, r_isName, cl_ok, mt_bear hW, cl_ok]
      by_cases q : 0 ≤ nI (tV B n (tE B n e)) ∧ nI (tV B n (tE B n e)) ≤ 7
      · rw [if1 q, z10, if_pos q, mt13]
      · rw [if0 q, z00, if_neg q]
    by_cases k2 : tK B n (tE B n e) = 2
    · have eK : kX B n (tE B n e) = 2 := by
        unfold kX
        rw [k2, if_neg (by omega)]
        rfl
      by_cases hV : tV B n (tE B n e) ≤ 7
      · have in7 : 0 ≤ nI (tV B n (tE B n e)) ∧ nI (tV B n (tE B n e)) ≤ 7 := ⟨nI_pos' (by omega), nI_le (b := 7) hV (by omega)⟩
        have c1 : snm B n (tE B n e) 0 7 := ⟨k2, in7⟩
        have n8 : ¬ (8 : Int32) ≤ nI (tV B n (tE B n e)) := nI_ge (b := 8) (by omega) (by omega)
        by_cases hs : sbear γ (nI (tV B n (tE B n e))) < 0
        · refine Sim.yes (e2 := tE B n (tE B n e)) (γ2 := sborn γ (nI h) (nI a) (nI (tV B n (tE B n e)))) (by omega) b2.2 (hB.born hN h19 a39 (Or.inr ⟨in7.1, in7.2, hs⟩)) (fun σ β hd w hx hg => ?_) (fun τ ht => ?_)
          · obtain ⟨w2, g2, q2⟩ := pX σ β hd w hx hg
            obtain ⟨w3, g3, q3⟩ := x_numP (σ := σ) (β := β) (hd := hd) (γ := γ) hx b1.2 g2 (by decide) (by decide) c1
            have ew : w2 = nI (tV B n (tE B n e)) := by rw [g2 k2, Nat.min_eq_right (by omega)]
            refine ⟨w3, g3, ?_⟩
            refine Eq.trans q2 ?_
            rw [if_pos eK, if_neg (by rw [ew]; exact n8), if_pos (by rw [ew]; exact hs)]
            unfold m_X4_readPerson_100
            rw [q3, cl_ok, if_pos in7.1, xt_pers hW hN2, cl_ok]
          · refine Eq.trans (pM τ ht) ?_
            rw [if_pos in7, if_neg (by grind), (m_num ht b1.2).1 c1, cl_ok]
            unfold m_X7_personItem_141
            rw [mt14, if_pos rfl, mt_pers hW hN2, cv_ok]
        · refine Sim.no b1.2 hB (fun σ β hd w hx hg => ?_) (fun τ ht => ?_)
          · obtain ⟨w2, g2, q2⟩ := pX σ β hd w hx hg
            have ew : w2 = nI (tV B n (tE B n e)) := by rw [g2 k2, Nat.min_eq_right (by omega)]
            refine ⟨w2, g2, ?_⟩
            refine Eq.trans q2 ?_
            rw [if_pos eK, if_neg (by rw [ew]; exact n8), if_neg (by rw [ew]; exact hs)]
          · refine Eq.trans (pM τ ht) ?_
            rw [if_pos in7, if_pos (by grind), m_num0, cl_ok, m_141B]
      · have n7 : ¬ (0 ≤ nI (tV B n (tE B n e)) ∧ nI (tV B n (tE B n e)) ≤ 7) := fun z => absurd z.2 (nI_ge (a := 7) (by omega) (by omega))
        have c1 : ¬ snm B n (tE B n e) 0 7 := fun z => n7 z.2
        refine Sim.no b1.2 hB (fun σ β hd w hx hg => ?_) (fun τ ht => ?_)
        · obtain ⟨w2, g2, q2⟩ := pX σ β hd w hx hg
          have e8 : (8 : Int32) ≤ w2 := by rw [g2 k2]; exact nI_le (a := 8) (by omega) (by omega)
          refine ⟨w2, g2, ?_⟩
          refine Eq.trans q2 ?_
          rw [if_pos eK, if_pos e8]
          unfold m_X4_readPerson_100
          rw [x_numN hx b1.2 g2 (by decide) (by decide) c1, cl_ok, if_neg (by decide)]
        · refine Eq.trans (pM τ ht) ?_
          rw [if_neg n7, (m_num ht b1.2).2 c1, cl_ok, m_141B]
    · have eK : ¬ kX B n (tE B n e) = 2 := by
        unfold kX
        have := tK_c (B := B) (n := n) (tE B n e)
        split
        · decide
        · intro z
          rw [show (2 : Int32) = nI 2 from rfl, nI_eq (by omega) (by omega)] at z
          exact k2 z
      have c1 : ¬ snm B n (tE B n e) 0 7 := fun z => k2 z.1
      refine Sim.no b1.2 hB (fun σ β hd w hx hg => ?_) (fun τ ht => ?_)
      · obtain ⟨w2, g2, q2⟩ := pX σ β hd w hx hg
        refine ⟨w2, g2, ?_⟩
        refine Eq.trans q2 ?_
        rw [if_neg eK]
        unfold m_X4_readPerson_100
        rw [x_numN hx b1.2 g2 (by decide) (by decide) c1, cl_ok, if_neg (by decide)]
      · refine Eq.trans (pM τ ht) ?_
        rw [m_num0, cl_ok, (m_num ht b1.2).2 c1, cl_ok, m_141B]
        split
        · split <;> rfl
        · rfl
  · refine Sim.yes (e2 := e) (γ2 := sborn γ (nI h) (nI a) (-1)) (by omega) he (hB.born hN h19 a39 (Or.inl rfl)) (fun σ β hd w hx hg => ⟨w, hg, ?_⟩) (fun τ ht => ?_)
    · show m_X4_readPerson_51 25 _ _ _ = _
      unfold m_X4_readPerson_51
      rw [if_pos a39.1, x_passN hx he (by decide) d1, cl_ok, z00, xt_pers hW hN2, cl_ok]
    · show m_X7_personItem_94 _ _ _ = _
      unfold m_X7_personItem_94 m_X7_personItem_141
      rw [m_takes ht he (by decide), if_neg d1, cl_ok, z00, mt14, if_pos rfl, mt_pers hW hN2, cv_ok]
theorem Sim.mono {lo lo2 : Nat} {fX : zw_S → Option (Int32 × zw_S)} {fM : zw_S → Option zw_S} (h : Sim B n e γ fX fM lo) (hl : lo2 ≤ lo) : Sim B n e γ fX fM lo2 := by
  obtain ⟨ok, e2, γ2, h1, h2⟩ := h
  exact ⟨ok, e2, γ2, fun z => Nat.le_trans hl (h1 z), h2⟩
theorem sim_age (he : e ≤ n) (hB : Bk γ) (hN : γ 0 3 < 8) {h : Nat} (hh : 1 ≤ h ∧ h ≤ 9) : Sim B n e γ (fun s => m_X4_readPerson_24 25 s (nI h)) (fun t => m_X7_personItem_71 t (nI h)) e := by
  have b0 := tS_b (B := B) he
  have b1 := tE_b (B := B) he
  have b2 := tE_b (B := B) b1.2
  have b2' := tS_b (B := B) b1.2
  have h0 : 0 ≤ nI h := nI_pos' (by omega)
  by_cases d1 : swd B n e 4 = true
  · by_cases c1 : snm B n (tE B n e) 0 39
    · have v1 := snm_n (m := 39) c1 rfl (by decide)
      refine Sim.from (Sim.mono (sim_bears b2.2 hB hN hh v1) (by omega)) (fun σ β hd w hx hg => ?_) (fun τ ht => ?_)
      · obtain ⟨w2, g2, q2⟩ := x_passP (σ := σ) (β := β) (hd := hd) (γ := γ) (w := w) hx he (b := 4) (by decide) d1
        obtain ⟨w3, g3, q3⟩ := x_numP (σ := σ) (β := β) (hd := hd) (γ := γ) hx b1.2 g2 (by decide) (by decide) c1
        refine ⟨w3, g3, ?_⟩
        show m_X4_readPerson_24 25 _ _ = _
        unfold m_X4_readPerson_24
        rw [if_pos h0, q2, cl_ok, z10, q3, cl_ok]
      · show m_X7_personItem_71 _ _ = _
        unfold m_X7_personItem_71
        rw [m_takes ht he (by decide), if_pos d1, cl_ok, z10, (m_num ht b1.2).1 c1, cl_ok]
    · refine Sim.no b1.2 hB (fun σ β hd w hx hg => ?_) (fun τ ht => ?_)
      · obtain ⟨w2, g2, q2⟩ := x_passP (σ := σ) (β := β) (hd := hd) (γ := γ) (w := w) hx he (b := 4) (by decide) d1
        refine ⟨w2, g2, ?_⟩
        show m_X4_readPerson_24 25 _ _ = _
        unfold m_X4_readPerson_24
        rw [if_pos h0, q2, cl_ok, z10, x_numN hx b1.2 g2 (by decide) (by decide) c1, cl_ok]
        unfold m_X4_readPerson_51
        rw [if_neg (by decide)]
      · show m_X7_personItem_71 _ _ = _
        unfold m_X7_personItem_71
        rw [m_takes ht he (by decide), if_pos d1, cl_ok, z10, (m_num ht b1.2).2 c1, cl_ok, m_94B]
  · refine Sim.from (sim_bears he hB hN hh (a := 0) (by omega)) (fun σ β hd w hx hg => ⟨w, hg, ?_⟩) (fun τ ht => ?_)
    · show m_X4_readPerson_24 25 _ _ = _
      unfold m_X4_readPerson_24
      rw [if_pos h0, x_passN hx he (by decide) d1, cl_ok, z00]
      rfl
    · show m_X7_personItem_71 _ _ = _
      unfold m_X7_personItem_71
      rw [m_takes ht he (by decide), if_neg d1, cl_ok, z00]
      rfl
theorem sim_person (he : e ≤ n) (hB : Bk γ) (hp : swd B n e 2 = true) : Sim B n e γ (fun s => if 8 ≤ s 25 3 then some (0, s) else cl (m_X4_readPerson 25 s) fun r s => if r = 0 then some ((0 : Int32), s) else some (1, s)) (fun t => m_X7_personItem t) (tE B n e) := by
  obtain ⟨T, N, y, hW, hy, h40⟩ := id hB
  have hN8 := hW.N8
  have b0 := tS_b (B := B) he
  have b1 := tE_b (B := B) he
  have b2 := tE_b (B := B) b1.2
  have b2' := tS_b (B := B) b1.2
  have b3 := tE_b (B := B) b2.2
  have b3' := tS_b (B := B) b2.2
  by_cases hN : N < 8
  · have n8 : ¬ (8 : Int32) ≤ nI N := nI_ge (b := 8) hN (by omega)
    have n8' : ¬ nI N = 8 := by rw [show (8 : Int32) = nI 8 from rfl, nI_eq (by omega) (by omega)]; omega
    have n8b : γ 0 3 < 8 := by rw [hW.eN]; grind
    have pX : ∀ σ β hd w, tX B n σ → gd B n e w → ∃ w2, gd B n (tE B n e) w2 ∧ (if (8 : Int32) ≤ XT σ β hd n B e w γ 25 3 then some ((0 : Int32), XT σ β hd n B e w γ) else cl (m_X4_readPerson 25 (XT σ β hd n B e w γ)) fun r s => if r = 0 then some ((0 : Int32), s) else some (1, s)) = cl (cl (m_X4_passWord 3 (XT σ β hd n B (tE B n e) w2 γ)) fun r3 s2 => if r3 = 0 then m_X4_readPerson_24 25 s2 3 else cl (m_X4_passNumber s2 1 9) fun r6 s5 => m_X4_readPerson_24 25 s5 r6) fun r s => if r = 0 then some ((0 : Int32), s) else some (1, s) := by
      intro σ β hd w hx hg
      obtain ⟨w2, g2, q2⟩ := xt_adv (σ := σ) (β := β) (hd := hd) (γ := γ) (w := w) hx he
      refine ⟨w2, g2, ?_⟩
      rw [xt_s (by decide), hW.eN, if_neg n8]
      unfold m_X4_readPerson
      rw [q2, cv_ok]
    have pM : ∀ τ, tM B n τ → m_X7_personItem (MT τ n B e 0 γ) = cl (m_X7_takes 3 (MT τ n B (tE B n e) 0 γ)) fun r6 s5 => if r6 = 0 then m_X7_personItem_71 s5 3 else cl (m_X7_number s5 1 9 1) fun r9 s8 => m_X7_personItem_71 s8 r9 := by
      intro τ ht
      unfold m_X7_personItem m_X7_personItem_34
      rw [mt14, if_pos rfl, m_isWord ht he (by decide), cl_ok, if1 hp, z10, mt_N, hW.eN, if_neg n8', tt_ok (by decide), mtw14, nm_ok, mt14, if_pos rfl, mt_tok ht he, cv_ok]
    have wrap : ∀ (ok : Bool) (s : zw_S), (cl (some (if ok = true then (1 : Int32) else 0, s)) fun r s => if r = 0 then some ((0 : Int32), s) else some (1, s)) = some (if ok = true then 1 else 0, s) := by
      intro ok s
      cases ok <;> rfl
    by_cases d1 : swd B n (tE B n e) 3 = true
    · by_cases c1 : snm B n (tE B n (tE B n e)) 1 9
      · have v1 := snm_n (m := 9) c1 rfl (by decide)
        have v0 : 1 ≤ tV B n (tE B n (tE B n e)) := by
          have := c1.2.1
          rw [show (1 : Int32) = nI 1 from rfl, nI_leI (by omega) (by omega)] at this
          exact this
        obtain ⟨ok, e2, γ2, z1, z2, z3, z4, z5⟩ := sim_age b3.2 hB n8b (h := tV B n (tE B n (tE B n e))) ⟨v0, v1⟩
        refine ⟨ok, e2, γ2, fun z => by have := z1 z; omega, z2, z3, fun σ β hd w hx hg => ?_, fun τ ht => ?_⟩
        · obtain ⟨w2, g2, q2⟩ := pX σ β hd w hx hg
          obtain ⟨w3, g3, q3⟩ := x_passP (σ := σ) (β := β) (hd := hd) (γ := γ) (w := w2) hx b1.2 (b := 3) (by decide) d1
          obtain ⟨w4, g4, q4⟩ := x_numP (σ := σ) (β := β) (hd := hd) (γ := γ) hx b2.2 g3 (by decide) (by decide) c1
          obtain ⟨w5, g5, q5⟩ := z4 σ β hd w4 hx g4
          refine ⟨w5, g5, ?_⟩
          refine Eq.trans q2 ?_
          rw [q3, cl_ok, z10, q4, cl_ok]
          refine Eq.trans (congrArg (fun z => cl z _) q5) ?_
          exact wrap ok _
        · refine Eq.trans (pM τ ht) ?_
          rw [m_takes ht b1.2 (by decide), if_pos d1, cl_ok, z10, (m_num ht b2.2).1 c1, cl_ok]
          exact z5 τ ht
      · refine Sim.no b2.2 hB (fun σ β hd w hx hg => ?_) (fun τ ht => ?_)
        · obtain ⟨w2, g2, q2⟩ := pX σ β hd w hx hg
          obtain ⟨w3, g3, q3⟩ := x_passP (σ := σ) (β := β) (hd := hd) (γ := γ) (w := w2) hx b1.2 (b := 3) (by decide) d1
          refine ⟨w3, g3, ?_⟩
          refine Eq.trans q2 ?_
          rw [q3, cl_ok, z10, x_numN hx b2.2 g3 (by decide) (by decide) c1, cl_ok]
          unfold m_X4_readPerson_24
          rw [if_neg (by decide), cl_ok, z00]
        · refine Eq.trans (pM τ ht) ?_
          rw [m_takes ht b1.2 (by decide), if_pos d1, cl_ok, z10, (m_num ht b2.2).2 c1, cl_ok, m_71B]
    · obtain ⟨ok, e2, γ2, z1, z2, z3, z4, z5⟩ := sim_age b1.2 hB n8b (h := 3) ⟨by omega, by omega⟩
      refine ⟨ok, e2, γ2, fun z => by have := z1 z; omega, z2, z3, fun σ β hd w hx hg => ?_, fun τ ht => ?_⟩
      · obtain ⟨w2, g2, q2⟩ := pX σ β hd w hx hg
        obtain ⟨w5, g5, q5⟩ := z4 σ β hd w2 hx g2
        refine ⟨w5, g5, ?_⟩
        refine Eq.trans q2 ?_
        rw [x_passN hx b1.2 (by decide) d1, cl_ok, z00]
        refine Eq.trans (congrArg (fun z => cl z _) q5) ?_
        exact wrap ok _
      · refine Eq.trans (pM τ ht) ?_
        rw [m_takes ht b1.2 (by decide), if_neg d1, cl_ok, z00]
        exact z5 τ ht
  · have eN : N = 8 := by omega
    subst eN
    refine Sim.no he hB (fun σ β hd w hx hg => ⟨w, hg, ?_⟩) (fun τ ht => ?_)
    · show (if (8 : Int32) ≤ XT σ β hd n B e w γ 25 3 then _ else _) = _
      rw [xt_s (by decide), hW.eN, if_pos (by decide)]
    · show m_X7_personItem _ = _
      unfold m_X7_personItem m_X7_personItem_34
      rw [mt14, if_pos rfl, m_isWord ht he (by decide), cl_ok, if1 hp, z10, mt_N, hW.eN, if_pos (show nI 8 = 8 from rfl), tt_ok (by decide), mtw14, nm_ok, mt14, if_neg (by decide)]
end IT
