-- X7_openNames
set_option maxRecDepth 100000 in
set_option maxHeartbeats 4000000 in
theorem t_X7_openNames_4 {B : zw_B} {P : zw_P} {r : Int32} {τ : zw_S} (E : zf B P cX7_openNames RX7 3 3) (hr : B.2.2.2.2.2.2.2.2.1.sig.returnType = some .int) : ∀ (n : Nat) (σ : zw_S) (x1 : Int32) (x2 : Int32), m_X7_openNames_4 n σ x1 x2 = some (r, τ) → zw_G B P (zq_i B P r τ) 3 σ 4 [(0, .ref (zw_ad P 57)), (1, .int x1), (2, .int x2)] [] := by
  intro n
  induction n with
  | zero => intro σ x1 x2 hm; cases hm
  | succ n ih =>
    intro σ x1 x2 hm
    unfold m_X7_openNames_4 at hm
    refine zr_iload_n E dX7_openNames_4 2 rfl ?_
    refine zr_bipush (v := 8) E dX7_openNames_5 (by decide) ?_
    refine zr_icmp_ge (tgt := 34) E dX7_openNames_7 (by decide) (fun c1 => ?_) (fun c1 => ?_)
    · rw [if_pos c1] at hm
      refine zr_iload_n E dX7_openNames_34 1 rfl ?_
      exact zr_iret E hr rfl hm dX7_openNames_35
    · rw [if_neg c1] at hm
      refine zr_iload_n E dX7_openNames_10 1 rfl ?_
      refine zr_aload_n E dX7_openNames_11 0 rfl ?_
      refine zr_iload_n E dX7_openNames_12 2 rfl ?_
      obtain ⟨r3, s2, os2, hm⟩ := cl_some hm
      refine zr_cVi (st := [.int x1]) E mw_281 cm_X7_isOpen (c_X7_isOpen B.2.1 P σ x2) os2 (rc_57 P) ⟨by decide, by decide⟩ rfl rfl (Nat.le_of_ble_eq_true rfl) dX7_openNames_13 ?_
      refine zr_if_eq (tgt := 25) E dX7_openNames_16 (by decide) (fun c4 => ?_) (fun c4 => ?_)
      · rw [if_pos c4] at hm
        refine zr_iconst (v := 0) E dX7_openNames_25 (by decide) ?_
        refine zr_ior E dX7_openNames_26 ?_
        obtain ⟨v5, ev5, hm⟩ := nm_some hm
        refine zr_top ev5 ?_
        refine zr_istore_n (lv' := [(1, .int v5), (0, .ref (zw_ad P 57)), (2, .int x2)]) E dX7_openNames_27 (by decide) rfl ?_
        obtain ⟨v6, ev6, hm⟩ := nm_some hm
        refine zr_iinc (j := 2) (lv' := [(2, .int v6), (1, .int v5), (0, .ref (zw_ad P 57))]) E dX7_openNames_28 rfl ev6 (by decide) rfl ?_
        refine zr_goto (tgt := 4) E dX7_openNames_31 (by decide) ?_
        refine zr_sub (lv' := [(0, .ref (zw_ad P 57)), (1, .int v5), (2, .int v6)]) [2, 1, 0] rfl ?_
        exact ih s2 v5 v6 hm
      · rw [if_neg c4] at hm
        refine zr_iconst (v := 1) E dX7_openNames_19 (by decide) ?_
        refine zr_iload_n E dX7_openNames_20 2 rfl ?_
        refine zr_ishl E dX7_openNames_21 ?_
        refine zr_goto (tgt := 26) E dX7_openNames_22 (by decide) ?_
        refine zr_ior E dX7_openNames_26 ?_
        obtain ⟨v7, ev7, hm⟩ := nm_some hm
        refine zr_top ev7 ?_
        refine zr_istore_n (lv' := [(1, .int v7), (0, .ref (zw_ad P 57)), (2, .int x2)]) E dX7_openNames_27 (by decide) rfl ?_
        obtain ⟨v8, ev8, hm⟩ := nm_some hm
        refine zr_iinc (j := 2) (lv' := [(2, .int v8), (1, .int v7), (0, .ref (zw_ad P 57))]) E dX7_openNames_28 rfl ev8 (by decide) rfl ?_
        refine zr_goto (tgt := 4) E dX7_openNames_31 (by decide) ?_
        refine zr_sub (lv' := [(0, .ref (zw_ad P 57)), (1, .int v7), (2, .int v8)]) [2, 1, 0] rfl ?_
        exact ih s2 v7 v8 hm
set_option maxRecDepth 100000 in
set_option maxHeartbeats 4000000 in
theorem c_X7_openNames (l : Launch) (P : zw_P) (σ : zw_S) : zc_i l P yX7_openNames cX7_openNames 3 .int 3 [.ref (zw_ad P 57)] σ (m_X7_openNames σ) := by
  refine zc_i.of (by decide) (Nat.le_of_ble_eq_true rfl) (fun B r τ E hl hr hm => ?_)
  subst hl
  refine zr_sub (lv' := [(0, .ref (zw_ad P 57))]) [0] rfl ?_
  unfold m_X7_openNames at hm
  refine zr_iconst (v := 0) E dX7_openNames_0 (by decide) ?_
  refine zr_istore_n (lv' := [(1, .int 0), (0, .ref (zw_ad P 57))]) E dX7_openNames_1 (by decide) rfl ?_
  refine zr_iconst (v := 0) E dX7_openNames_2 (by decide) ?_
  refine zr_istore_n (lv' := [(2, .int 0), (1, .int 0), (0, .ref (zw_ad P 57))]) E dX7_openNames_3 (by decide) rfl ?_
  refine zr_sub (lv' := [(0, .ref (zw_ad P 57)), (1, .int 0), (2, .int 0)]) [2, 1, 0] rfl ?_
  exact t_X7_openNames_4 E hr 200 σ 0 0 hm
-- X7_allLives
set_option maxRecDepth 100000 in
set_option maxHeartbeats 4000000 in
theorem t_X7_allLives_4 {B : zw_B} {P : zw_P} {r : Int32} {τ : zw_S} (E : zf B P cX7_allLives RX7 3 0) (hr : B.2.2.2.2.2.2.2.2.1.sig.returnType = some .int) : ∀ (n : Nat) (σ : zw_S) (x1 : Int32) (x2 : Int32), m_X7_allLives_4 n σ x1 x2 = some (r, τ) → zw_G B P (zq_i B P r τ) 3 σ 4 [(0, .ref (zw_ad P 57)), (1, .int x1), (2, .int x2)] [] := by
  intro n
  induction n with
  | zero => intro σ x1 x2 hm; cases hm
  | succ n ih =>
    intro σ x1 x2 hm
    unfold m_X7_allLives_4 at hm
    refine zr_iload_n E dX7_allLives_4 2 rfl ?_
    refine zr_bipush (v := 8) E dX7_allLives_5 (by decide) ?_
    refine zr_icmp_ge (tgt := 31) E dX7_allLives_7 (by decide) (fun c1 => ?_) (fun c1 => ?_)
    · rw [if_pos c1] at hm
      refine zr_iload_n E dX7_allLives_31 1 rfl ?_
      exact zr_iret E hr rfl hm dX7_allLives_32
    · rw [if_neg c1] at hm
      refine zr_iload_n E dX7_allLives_10 1 rfl ?_
      refine zr_aload_n E dX7_allLives_11 0 rfl ?_
      refine fg_X7_9 E dX7_allLives_12 ?_
      refine zr_iconst (v := 4) E dX7_allLives_15 (by decide) ?_
      refine zr_iconst (v := 2) E dX7_allLives_16 (by decide) ?_
      refine zr_iload_n E dX7_allLives_17 2 rfl ?_
      refine zr_imul E dX7_allLives_18 ?_
      refine zr_iadd E dX7_allLives_19 ?_
      refine zr_iconst (v := 1) E dX7_allLives_20 (by decide) ?_
      refine zr_iadd E dX7_allLives_21 ?_
      obtain ⟨hv2, v2, ev2, hm⟩ := rd_some hm
      refine zr_iald E ac_58 hv2 ev2 dX7_allLives_22 ?_
      refine zr_iadd E dX7_allLives_23 ?_
      obtain ⟨v3, ev3, hm⟩ := nm_some hm
      refine zr_top ev3 ?_
      refine zr_istore_n (lv' := [(1, .int v3), (0, .ref (zw_ad P 57)), (2, .int x2)]) E dX7_allLives_24 (by decide) rfl ?_
      obtain ⟨v4, ev4, hm⟩ := nm_some hm
      refine zr_iinc (j := 2) (lv' := [(2, .int v4), (1, .int v3), (0, .ref (zw_ad P 57))]) E dX7_allLives_25 rfl ev4 (by decide) rfl ?_
      refine zr_goto (tgt := 4) E dX7_allLives_28 (by decide) ?_
      refine zr_sub (lv' := [(0, .ref (zw_ad P 57)), (1, .int v3), (2, .int v4)]) [2, 1, 0] rfl ?_
      exact ih σ v3 v4 hm
set_option maxRecDepth 100000 in
set_option maxHeartbeats 4000000 in
theorem c_X7_allLives (l : Launch) (P : zw_P) (σ : zw_S) : zc_i l P yX7_allLives cX7_allLives 3 .int 0 [.ref (zw_ad P 57)] σ (m_X7_allLives σ) := by
  refine zc_i.of (by decide) (Nat.le_of_ble_eq_true rfl) (fun B r τ E hl hr hm => ?_)
  subst hl
  refine zr_sub (lv' := [(0, .ref (zw_ad P 57))]) [0] rfl ?_
  unfold m_X7_allLives at hm
  refine zr_iconst (v := 0) E dX7_allLives_0 (by decide) ?_
  refine zr_istore_n (lv' := [(1, .int 0), (0, .ref (zw_ad P 57))]) E dX7_allLives_1 (by decide) rfl ?_
  refine zr_iconst (v := 0) E dX7_allLives_2 (by decide) ?_
  refine zr_istore_n (lv' := [(2, .int 0), (1, .int 0), (0, .ref (zw_ad P 57))]) E dX7_allLives_3 (by decide) rfl ?_
  refine zr_sub (lv' := [(0, .ref (zw_ad P 57)), (1, .int 0), (2, .int 0)]) [2, 1, 0] rfl ?_
  exact t_X7_allLives_4 E hr 200 σ 0 0 hm
-- X7_ahead
set_option maxRecDepth 100000 in
set_option maxHeartbeats 4000000 in
theorem c_X7_ahead (l : Launch) (P : zw_P) (σ : zw_S) (x1 : Int32) (x2 : Int32) : zc_i l P yX7_ahead cX7_ahead 4 .int 8 [.ref (zw_ad P 57), .int x1, .int x2] σ (m_X7_ahead σ x1 x2) := by
  refine zc_i.of (by decide) (Nat.le_of_ble_eq_true rfl) (fun B r τ E hl hr hm => ?_)
  subst hl
  refine zr_sub (lv' := [(0, .ref (zw_ad P 57)), (1, .int x1), (2, .int x2)]) [0, 1, 2] rfl ?_
  unfold m_X7_ahead at hm
  refine zr_iload_n E dX7_ahead_0 1 rfl ?_
  refine zr_i2l E dX7_ahead_1 ?_
  refine zr_lconst (v := 0) E dX7_ahead_2 (by decide) ?_
  refine zr_ldc2 E mw_583 dX7_ahead_3 ?_
  obtain ⟨r2, s1, os1, hm⟩ := cl_some hm
  refine zr_cSi (st := []) E mw_120 cm_X7_in (c_X7_in B.2.1 P σ x1.toInt64 0 100) os1 ⟨by decide, by decide⟩ rfl rfl (Nat.le_of_ble_eq_true rfl) dX7_ahead_6 ?_
  refine zr_if_eq (tgt := 24) E dX7_ahead_9 (by decide) (fun c3 => ?_) (fun c3 => ?_)
  · rw [if_pos c3] at hm
    refine zr_aload_n E dX7_ahead_24 0 rfl ?_
    refine zr_ldc E mw_115 dX7_ahead_25 ?_
    obtain ⟨r5, s4, os4, hm⟩ := cl_some hm
    refine zr_cVi (st := []) E mw_127 cm_X7_finds (c_X7_finds B.2.1 P s1 (-1000001)) os4 (rc_57 P) ⟨by decide, by decide⟩ rfl rfl (Nat.le_of_ble_eq_true rfl) dX7_ahead_27 ?_
    exact zr_iret E hr rfl hm dX7_ahead_30
  · rw [if_neg c3] at hm
    refine zr_iload_n E dX7_ahead_12 2 rfl ?_
    refine zr_i2l E dX7_ahead_13 ?_
    refine zr_lconst (v := 0) E dX7_ahead_14 (by decide) ?_
    refine zr_ldc2 E mw_584 dX7_ahead_15 ?_
    obtain ⟨r7, s6, os6, hm⟩ := cl_some hm
    refine zr_cSi (st := []) E mw_120 cm_X7_in (c_X7_in B.2.1 P s1 x2.toInt64 0 4) os6 ⟨by decide, by decide⟩ rfl rfl (Nat.le_of_ble_eq_true rfl) dX7_ahead_18 ?_
    refine zr_if_ne (tgt := 31) E dX7_ahead_21 (by decide) (fun c8 => ?_) (fun c8 => ?_)
    · rw [if_neg c8] at hm
      refine zr_aload_n E dX7_ahead_31 0 rfl ?_
      refine zr_iload_n E dX7_ahead_32 1 rfl ?_
      obtain ⟨r10, s9, os9, hm⟩ := cl_some hm
      refine zr_cVi (st := []) E mw_499 cm_X7_isFarOn (c_X7_isFarOn B.2.1 P s6 x1) os9 (rc_57 P) ⟨by decide, by decide⟩ rfl rfl (Nat.le_of_ble_eq_true rfl) dX7_ahead_33 ?_
      refine zr_if_eq (tgt := 46) E dX7_ahead_36 (by decide) (fun c11 => ?_) (fun c11 => ?_)
      · rw [if_pos c11] at hm
        refine zr_aload_n E dX7_ahead_46 0 rfl ?_
        refine fg_X7_9 E dX7_ahead_47 ?_
        refine zr_aload_n E dX7_ahead_50 0 rfl ?_
        refine fg_X7_16 E dX7_ahead_51 ?_
        obtain ⟨s12, os12, hm⟩ := cv_some hm
        refine zr_cSv (st := []) E mw_585 cm_X7_row (c_X7_row B.2.1 P 58 60 ac_58 ac_60 s9) os12 ⟨by decide, by decide⟩ rfl rfl (Nat.le_of_ble_eq_true rfl) dX7_ahead_54 ?_
        refine zr_aload_n E dX7_ahead_57 0 rfl ?_
        refine zr_iload_n E dX7_ahead_58 1 rfl ?_
        obtain ⟨s13, os13, hm⟩ := cv_some hm
        refine zr_cVv (st := []) E mw_511 cm_X7_yearsGo (c_X7_yearsGo B.2.1 P s12 x1) os13 (rc_57 P) ⟨by decide, by decide⟩ rfl rfl (Nat.le_of_ble_eq_true rfl) dX7_ahead_59 ?_
        refine zr_iload_n E dX7_ahead_62 2 rfl ?_
        refine zr_if_ne (tgt := 73) E dX7_ahead_63 (by decide) (fun c14 => ?_) (fun c14 => ?_)
        · rw [if_neg c14] at hm
          refine zr_iload_n E dX7_ahead_73 2 rfl ?_
          refine zr_iconst (v := 1) E dX7_ahead_74 (by decide) ?_
          refine zr_icmp_ne (tgt := 85) E dX7_ahead_75 (by decide) (fun c15 => ?_) (fun c15 => ?_)
          · rw [if_neg c15] at hm
            refine zr_iload_n E dX7_ahead_85 2 rfl ?_
            refine zr_iconst (v := 2) E dX7_ahead_86 (by decide) ?_
            refine zr_icmp_ne (tgt := 97) E dX7_ahead_87 (by decide) (fun c16 => ?_) (fun c16 => ?_)
            · rw [if_neg c16] at hm
              refine zr_iload_n E dX7_ahead_97 2 rfl ?_
              refine zr_iconst (v := 3) E dX7_ahead_98 (by decide) ?_
              refine zr_icmp_ne (tgt := 109) E dX7_ahead_99 (by decide) (fun c17 => ?_) (fun c17 => ?_)
              · rw [if_neg c17] at hm
                refine zr_aload_n E dX7_ahead_109 0 rfl ?_
                obtain ⟨r19, s18, os18, hm⟩ := cl_some hm
                refine zr_cVi (st := []) E mw_600 cm_X7_allLives (c_X7_allLives B.2.1 P s13) os18 (rc_57 P) ⟨by decide, by decide⟩ rfl rfl (Nat.le_of_ble_eq_true rfl) dX7_ahead_110 ?_
                refine zr_istore_n (lv' := [(3, .int r19), (0, .ref (zw_ad P 57)), (1, .int x1), (2, .int x2)]) E dX7_ahead_113 (by decide) rfl ?_
                refine zr_aload_n E dX7_ahead_114 1 rfl ?_
                refine fg_X7_16 E dX7_ahead_115 ?_
                refine zr_aload_n E dX7_ahead_118 1 rfl ?_
                refine fg_X7_9 E dX7_ahead_119 ?_
                obtain ⟨s20, os20, hm⟩ := cv_some hm
                refine zr_cSv (st := []) E mw_585 cm_X7_row (c_X7_row B.2.1 P 60 58 ac_60 ac_58 s18) os20 ⟨by decide, by decide⟩ rfl rfl (Nat.le_of_ble_eq_true rfl) dX7_ahead_122 ?_
                refine zr_iload_n E dX7_ahead_125 0 rfl ?_
                exact zr_iret E hr rfl hm dX7_ahead_126
              · rw [if_pos c17] at hm
                refine zr_aload_n E dX7_ahead_102 0 rfl ?_
                obtain ⟨r22, s21, os21, hm⟩ := cl_some hm
                refine zr_cVi (st := []) E mw_596 cm_X7_endedWorth (c_X7_endedWorth B.2.1 P s13) os21 (rc_57 P) ⟨by decide, by decide⟩ rfl rfl (Nat.le_of_ble_eq_true rfl) dX7_ahead_103 ?_
                refine zr_goto (tgt := 113) E dX7_ahead_106 (by decide) ?_
                refine zr_istore_n (lv' := [(3, .int r22), (0, .ref (zw_ad P 57)), (1, .int x1), (2, .int x2)]) E dX7_ahead_113 (by decide) rfl ?_
                refine zr_aload_n E dX7_ahead_114 1 rfl ?_
                refine fg_X7_16 E dX7_ahead_115 ?_
                refine zr_aload_n E dX7_ahead_118 1 rfl ?_
                refine fg_X7_9 E dX7_ahead_119 ?_
                obtain ⟨s23, os23, hm⟩ := cv_some hm
                refine zr_cSv (st := []) E mw_585 cm_X7_row (c_X7_row B.2.1 P 60 58 ac_60 ac_58 s21) os23 ⟨by decide, by decide⟩ rfl rfl (Nat.le_of_ble_eq_true rfl) dX7_ahead_122 ?_
                refine zr_iload_n E dX7_ahead_125 0 rfl ?_
                exact zr_iret E hr rfl hm dX7_ahead_126
            · rw [if_pos c16] at hm
              refine zr_aload_n E dX7_ahead_90 0 rfl ?_
              obtain ⟨r25, s24, os24, hm⟩ := cl_some hm
              refine zr_cVi (st := []) E mw_592 cm_X7_openNames (c_X7_openNames B.2.1 P s13) os24 (rc_57 P) ⟨by decide, by decide⟩ rfl rfl (Nat.le_of_ble_eq_true rfl) dX7_ahead_91 ?_
              refine zr_goto (tgt := 113) E dX7_ahead_94 (by decide) ?_
              refine zr_istore_n (lv' := [(3, .int r25), (0, .ref (zw_ad P 57)), (1, .int x1), (2, .int x2)]) E dX7_ahead_113 (by decide) rfl ?_
              refine zr_aload_n E dX7_ahead_114 1 rfl ?_
              refine fg_X7_16 E dX7_ahead_115 ?_
              refine zr_aload_n E dX7_ahead_118 1 rfl ?_
              refine fg_X7_9 E dX7_ahead_119 ?_
              obtain ⟨s26, os26, hm⟩ := cv_some hm
              refine zr_cSv (st := []) E mw_585 cm_X7_row (c_X7_row B.2.1 P 60 58 ac_60 ac_58 s24) os26 ⟨by decide, by decide⟩ rfl rfl (Nat.le_of_ble_eq_true rfl) dX7_ahead_122 ?_
              refine zr_iload_n E dX7_ahead_125 0 rfl ?_
              exact zr_iret E hr rfl hm dX7_ahead_126
          · rw [if_pos c15] at hm
            refine zr_aload_n E dX7_ahead_78 0 rfl ?_
            obtain ⟨r28, s27, os27, hm⟩ := cl_some hm
            refine zr_cVi (st := []) E mw_588 cm_X7_hours (c_X7_hours B.2.1 P s13) os27 (rc_57 P) ⟨by decide, by decide⟩ rfl rfl (Nat.le_of_ble_eq_true rfl) dX7_ahead_79 ?_
            refine zr_goto (tgt := 113) E dX7_ahead_82 (by decide) ?_
            refine zr_istore_n (lv' := [(3, .int r28), (0, .ref (zw_ad P 57)), (1, .int x1), (2, .int x2)]) E dX7_ahead_113 (by decide) rfl ?_
            refine zr_aload_n E dX7_ahead_114 1 rfl ?_
            refine fg_X7_16 E dX7_ahead_115 ?_
            refine zr_aload_n E dX7_ahead_118 1 rfl ?_
            refine fg_X7_9 E dX7_ahead_119 ?_
            obtain ⟨s29, os29, hm⟩ := cv_some hm
            refine zr_cSv (st := []) E mw_585 cm_X7_row (c_X7_row B.2.1 P 60 58 ac_60 ac_58 s27) os29 ⟨by decide, by decide⟩ rfl rfl (Nat.le_of_ble_eq_true rfl) dX7_ahead_122 ?_
            refine zr_iload_n E dX7_ahead_125 0 rfl ?_
            exact zr_iret E hr rfl hm dX7_ahead_126
        · rw [if_pos c14] at hm
          refine zr_aload_n E dX7_ahead_66 0 rfl ?_
          obtain ⟨r31, s30, os30, hm⟩ := cl_some hm
          refine zr_cVi (st := []) E mw_507 cm_X7_unended (c_X7_unended B.2.1 P s13) os30 (rc_57 P) ⟨by decide, by decide⟩ rfl rfl (Nat.le_of_ble_eq_true rfl) dX7_ahead_67 ?_
          refine zr_goto (tgt := 113) E dX7_ahead_70 (by decide) ?_
          refine zr_istore_n (lv' := [(3, .int r31), (0, .ref (zw_ad P 57)), (1, .int x1), (2, .int x2)]) E dX7_ahead_113 (by decide) rfl ?_
          refine zr_aload_n E dX7_ahead_114 1 rfl ?_
          refine fg_X7_16 E dX7_ahead_115 ?_
          refine zr_aload_n E dX7_ahead_118 1 rfl ?_
          refine fg_X7_9 E dX7_ahead_119 ?_
          obtain ⟨s32, os32, hm⟩ := cv_some hm
          refine zr_cSv (st := []) E mw_585 cm_X7_row (c_X7_row B.2.1 P 60 58 ac_60 ac_58 s30) os32 ⟨by decide, by decide⟩ rfl rfl (Nat.le_of_ble_eq_true rfl) dX7_ahead_122 ?_
          refine zr_iload_n E dX7_ahead_125 0 rfl ?_
          exact zr_iret E hr rfl hm dX7_ahead_126
      · rw [if_neg c11] at hm
        refine zr_aload_n E dX7_ahead_39 0 rfl ?_
        refine zr_ldc E mw_394 dX7_ahead_40 ?_
        obtain ⟨r34, s33, os33, hm⟩ := cl_some hm
        refine zr_cVi (st := []) E mw_127 cm_X7_finds (c_X7_finds B.2.1 P s9 (-1000005)) os33 (rc_57 P) ⟨by decide, by decide⟩ rfl rfl (Nat.le_of_ble_eq_true rfl) dX7_ahead_42 ?_
        exact zr_iret E hr rfl hm dX7_ahead_45
    · rw [if_pos c8] at hm
      refine zr_aload_n E dX7_ahead_24 0 rfl ?_
      refine zr_ldc E mw_115 dX7_ahead_25 ?_
      obtain ⟨r36, s35, os35, hm⟩ := cl_some hm
      refine zr_cVi (st := []) E mw_127 cm_X7_finds (c_X7_finds B.2.1 P s6 (-1000001)) os35 (rc_57 P) ⟨by decide, by decide⟩ rfl rfl (Nat.le_of_ble_eq_true rfl) dX7_ahead_27 ?_
      exact zr_iret E hr rfl hm dX7_ahead_30
-- X7_overIn
set_option maxRecDepth 100000 in
set_option maxHeartbeats 4000000 in
theorem t_X7_overIn_59 {B : zw_B} {P : zw_P} {r : Int32} {τ : zw_S} (E : zf B P cX7_overIn RX7 5 7) (hr : B.2.2.2.2.2.2.2.2.1.sig.returnType = some .int) (σ : zw_S) (x4 : Int32) (hm : m_X7_overIn_59 σ x4 = some (r, τ)) : zw_G B P (zq_i B P r τ) 5 σ 59 [(0, .ref (zw_ad P 57)), (4, .int x4)] [] := by
  unfold m_X7_overIn_59 at hm
  refine zr_aload_n E dX7_overIn_59 0 rfl ?_
  refine fg_X7_16 E dX7_overIn_60 ?_
  refine zr_aload_n E dX7_overIn_63 0 rfl ?_
  refine fg_X7_9 E dX7_overIn_64 ?_
  obtain ⟨s1, os1, hm⟩ := cv_some hm
  refine zr_cSv (st := []) E mw_585 cm_X7_row (c_X7_row B.2.1 P 60 58 ac_60 ac_58 σ) os1 ⟨by decide, by decide⟩ rfl rfl (Nat.le_of_ble_eq_true rfl) dX7_overIn_67 ?_
  refine zr_iload E dX7_overIn_70 1 rfl ?_
  exact zr_iret E hr rfl hm dX7_overIn_72
set_option maxRecDepth 100000 in
set_option maxHeartbeats 4000000 in
theorem t_X7_overIn_43 {B : zw_B} {P : zw_P} {r : Int32} {τ : zw_S} (E : zf B P cX7_overIn RX7 5 7) (hr : B.2.2.2.2.2.2.2.2.1.sig.returnType = some .int) (R14 : zw_S → Int32 → Int32 → Int32 → Int32 → Option (Int32 × zw_S)) (hR14 : ∀ (σ : zw_S) (x1 : Int32) (x2 : Int32) (x3 : Int32) (x4 : Int32), R14 σ x1 x2 x3 x4 = some (r, τ) → zw_G B P (zq_i B P r τ) 5 σ 14 [(0, .ref (zw_ad P 57)), (1, .int x1), (2, .int x2), (3, .int x3), (4, .int x4)] []) (σ : zw_S) (x1 : Int32) (x2 : Int32) (x3 : Int32) (x4 : Int32) (hm : m_X7_overIn_43 R14 σ x1 x2 x3 x4 = some (r, τ)) : zw_G B P (zq_i B P r τ) 5 σ 43 [(0, .ref (zw_ad P 57)), (1, .int x1), (2, .int x2), (3, .int x3), (4, .int x4)] [] := by
  unfold m_X7_overIn_43 at hm
  refine zr_iload E dX7_overIn_43 4 rfl ?_
  refine zr_iload_n E dX7_overIn_45 3 rfl ?_
  refine zr_icmp_ge (tgt := 53) E dX7_overIn_46 (by decide) (fun c1 => ?_) (fun c1 => ?_)
  · rw [if_pos c1] at hm
    obtain ⟨v2, ev2, hm⟩ := nm_some hm
    refine zr_iinc (j := 4) (lv' := [(4, .int v2), (0, .ref (zw_ad P 57)), (1, .int x1), (2, .int x2), (3, .int x3)]) E dX7_overIn_53 rfl ev2 (by decide) rfl ?_
    refine zr_goto (tgt := 14) E dX7_overIn_56 (by decide) ?_
    refine zr_sub (lv' := [(0, .ref (zw_ad P 57)), (1, .int x1), (2, .int x2), (3, .int x3), (4, .int v2)]) [1, 2, 3, 4, 0] rfl ?_
    exact hR14 σ x1 x2 x3 v2 hm
  · rw [if_neg c1] at hm
    refine zr_aload_n E dX7_overIn_49 0 rfl ?_
    obtain ⟨s3, os3, hm⟩ := cv_some hm
    refine zr_cVv (st := []) E mw_515 cm_X7_year (c_X7_year B.2.1 P σ) os3 (rc_57 P) ⟨by decide, by decide⟩ rfl rfl (Nat.le_of_ble_eq_true rfl) dX7_overIn_50 ?_
    obtain ⟨v4, ev4, hm⟩ := nm_some hm
    refine zr_iinc (j := 4) (lv' := [(4, .int v4), (0, .ref (zw_ad P 57)), (1, .int x1), (2, .int x2), (3, .int x3)]) E dX7_overIn_53 rfl ev4 (by decide) rfl ?_
    refine zr_goto (tgt := 14) E dX7_overIn_56 (by decide) ?_
    refine zr_sub (lv' := [(0, .ref (zw_ad P 57)), (1, .int x1), (2, .int x2), (3, .int x3), (4, .int v4)]) [1, 2, 3, 4, 0] rfl ?_
    exact hR14 s3 x1 x2 x3 v4 hm
set_option maxRecDepth 100000 in
set_option maxHeartbeats 4000000 in
theorem t_X7_overIn_14 {B : zw_B} {P : zw_P} {r : Int32} {τ : zw_S} (E : zf B P cX7_overIn RX7 5 7) (hr : B.2.2.2.2.2.2.2.2.1.sig.returnType = some .int) : ∀ (n : Nat) (σ : zw_S) (x1 : Int32) (x2 : Int32) (x3 : Int32) (x4 : Int32), m_X7_overIn_14 n σ x1 x2 x3 x4 = some (r, τ) → zw_G B P (zq_i B P r τ) 5 σ 14 [(0, .ref (zw_ad P 57)), (1, .int x1), (2, .int x2), (3, .int x3), (4, .int x4)] [] := by
  intro n
  induction n with
  | zero => intro σ x1 x2 x3 x4 hm; cases hm
  | succ n ih =>
    intro σ x1 x2 x3 x4 hm
    unfold m_X7_overIn_14 at hm
    refine zr_iload E dX7_overIn_14 4 rfl ?_
    refine zr_iload_n E dX7_overIn_16 3 rfl ?_
    refine zr_icmp_gt (tgt := 59) E dX7_overIn_17 (by decide) (fun c1 => ?_) (fun c1 => ?_)
    · rw [if_pos c1] at hm
      refine zr_sub (lv' := [(0, .ref (zw_ad P 57)), (4, .int x4)]) [0, 4] rfl ?_
      exact t_X7_overIn_59 E hr σ x4 hm
    · rw [if_neg c1] at hm
      refine zr_iload_n E dX7_overIn_20 1 rfl ?_
      refine zr_if_lt (tgt := 35) E dX7_overIn_21 (by decide) (fun c2 => ?_) (fun c2 => ?_)
      · rw [if_pos c2] at hm
        refine zr_aload_n E dX7_overIn_35 0 rfl ?_
        refine zr_iload_n E dX7_overIn_36 2 rfl ?_
        obtain ⟨r4, s3, os3, hm⟩ := cl_some hm
        refine zr_cVi (st := []) E mw_207 cm_X7_isEnded (c_X7_isEnded B.2.1 P σ x2) os3 (rc_57 P) ⟨by decide, by decide⟩ rfl rfl (Nat.le_of_ble_eq_true rfl) dX7_overIn_37 ?_
        refine zr_if_ne (tgt := 59) E dX7_overIn_40 (by decide) (fun c5 => ?_) (fun c5 => ?_)
        · rw [if_neg c5] at hm
          refine zr_sub (lv' := [(0, .ref (zw_ad P 57)), (4, .int x4)]) [0, 4] rfl ?_
          exact t_X7_overIn_59 E hr s3 x4 hm
        · rw [if_pos c5] at hm
          refine zr_sub (lv' := [(0, .ref (zw_ad P 57)), (1, .int x1), (2, .int x2), (3, .int x3), (4, .int x4)]) [0, 1, 2, 3, 4] rfl ?_
          exact t_X7_overIn_43 E hr (m_X7_overIn_14 n) ih s3 x1 x2 x3 x4 hm
      · rw [if_neg c2] at hm
        refine zr_aload_n E dX7_overIn_24 0 rfl ?_
        refine zr_iload_n E dX7_overIn_25 1 rfl ?_
        obtain ⟨r7, s6, os6, hm⟩ := cl_some hm
        refine zr_cVi (st := []) E mw_281 cm_X7_isOpen (c_X7_isOpen B.2.1 P σ x1) os6 (rc_57 P) ⟨by decide, by decide⟩ rfl rfl (Nat.le_of_ble_eq_true rfl) dX7_overIn_26 ?_
        refine zr_if_eq (tgt := 59) E dX7_overIn_29 (by decide) (fun c8 => ?_) (fun c8 => ?_)
        · rw [if_pos c8] at hm
          refine zr_sub (lv' := [(0, .ref (zw_ad P 57)), (4, .int x4)]) [0, 4] rfl ?_
          exact t_X7_overIn_59 E hr s6 x4 hm
        · rw [if_neg c8] at hm
          refine zr_goto (tgt := 43) E dX7_overIn_32 (by decide) ?_
          refine zr_sub (lv' := [(0, .ref (zw_ad P 57)), (1, .int x1), (2, .int x2), (3, .int x3), (4, .int x4)]) [0, 1, 2, 3, 4] rfl ?_
          exact t_X7_overIn_43 E hr (m_X7_overIn_14 n) ih s6 x1 x2 x3 x4 hm
set_option maxRecDepth 100000 in
set_option maxHeartbeats 4000000 in
theorem c_X7_overIn (l : Launch) (P : zw_P) (σ : zw_S) (x1 : Int32) (x2 : Int32) (x3 : Int32) : zc_i l P yX7_overIn cX7_overIn 5 .int 7 [.ref (zw_ad P 57), .int x1, .int x2, .int x3] σ (m_X7_overIn σ x1 x2 x3) := by
  refine zc_i.of (by decide) (Nat.le_of_ble_eq_true rfl) (fun B r τ E hl hr hm => ?_)
  subst hl
  refine zr_sub (lv' := [(0, .ref (zw_ad P 57)), (1, .int x1), (2, .int x2), (3, .int x3)]) [0, 1, 2, 3] rfl ?_
  unfold m_X7_overIn at hm
  refine zr_aload_n E dX7_overIn_0 0 rfl ?_
  refine fg_X7_9 E dX7_overIn_1 ?_
  refine zr_aload_n E dX7_overIn_4 0 rfl ?_
  refine fg_X7_16 E dX7_overIn_5 ?_
  obtain ⟨s1, os1, hm⟩ := cv_some hm
  refine zr_cSv (st := []) E mw_585 cm_X7_row (c_X7_row B.2.1 P 58 60 ac_58 ac_60 σ) os1 ⟨by decide, by decide⟩ rfl rfl (Nat.le_of_ble_eq_true rfl) dX7_overIn_8 ?_
  refine zr_iconst (v := 0) E dX7_overIn_11 (by decide) ?_
  refine zr_istore (lv' := [(4, .int 0), (0, .ref (zw_ad P 57)), (1, .int x1), (2, .int x2), (3, .int x3)]) E dX7_overIn_12 (by decide) rfl ?_
  refine zr_sub (lv' := [(0, .ref (zw_ad P 57)), (1, .int x1), (2, .int x2), (3, .int x3), (4, .int 0)]) [1, 2, 3, 4, 0] rfl ?_
  exact t_X7_overIn_14 E hr 200 s1 x1 x2 x3 0 hm
-- X7_shut
set_option maxRecDepth 100000 in
set_option maxHeartbeats 4000000 in
theorem c_X7_shut (l : Launch) (P : zw_P) (σ : zw_S) (x1 : Int32) : zc_i l P yX7_shut cX7_shut 3 .int 8 [.ref (zw_ad P 57), .int x1] σ (m_X7_shut σ x1) := by
  refine zc_i.of (by decide) (Nat.le_of_ble_eq_true rfl) (fun B r τ E hl hr hm => ?_)
  subst hl
  refine zr_sub (lv' := [(0, .ref (zw_ad P 57)), (1, .int x1)]) [0, 1] rfl ?_
  unfold m_X7_shut at hm
  refine zr_iload_n E dX7_shut_0 1 rfl ?_
  obtain ⟨r2, s1, os1, hm⟩ := cl_some hm
  refine zr_cSi (st := []) E mw_116 cm_X7_isName (c_X7_isName B.2.1 P σ x1) os1 ⟨by decide, by decide⟩ rfl rfl (Nat.le_of_ble_eq_true rfl) dX7_shut_1 ?_
  refine zr_if_ne (tgt := 14) E dX7_shut_4 (by decide) (fun c3 => ?_) (fun c3 => ?_)
  · rw [if_neg c3] at hm
    refine zr_aload_n E dX7_shut_14 0 rfl ?_
    refine zr_bipush (v := 100) E dX7_shut_15 (by decide) ?_
    obtain ⟨r5, s4, os4, hm⟩ := cl_some hm
    refine zr_cVi (st := []) E mw_499 cm_X7_isFarOn (c_X7_isFarOn B.2.1 P s1 100) os4 (rc_57 P) ⟨by decide, by decide⟩ rfl rfl (Nat.le_of_ble_eq_true rfl) dX7_shut_17 ?_
    refine zr_if_eq (tgt := 30) E dX7_shut_20 (by decide) (fun c6 => ?_) (fun c6 => ?_)
    · rw [if_pos c6] at hm
      refine zr_aload_n E dX7_shut_30 0 rfl ?_
      refine zr_iload_n E dX7_shut_31 1 rfl ?_
      refine zr_iconst (v := 0) E dX7_shut_32 (by decide) ?_
      refine zr_bipush (v := 100) E dX7_shut_33 (by decide) ?_
      obtain ⟨r8, s7, os7, hm⟩ := cl_some hm
      refine zr_cVi (st := []) E mw_614 cm_X7_overIn (c_X7_overIn B.2.1 P s4 x1 0 100) os7 (rc_57 P) ⟨by decide, by decide⟩ rfl rfl (Nat.le_of_ble_eq_true rfl) dX7_shut_35 ?_
      refine zr_istore_n (lv' := [(2, .int r8), (0, .ref (zw_ad P 57)), (1, .int x1)]) E dX7_shut_38 (by decide) rfl ?_
      refine zr_iload_n E dX7_shut_39 0 rfl ?_
      refine zr_bipush (v := 100) E dX7_shut_40 (by decide) ?_
      refine zr_icmp_le (tgt := 54) E dX7_shut_42 (by decide) (fun c9 => ?_) (fun c9 => ?_)
      · rw [if_pos c9] at hm
        refine zr_iload_n E dX7_shut_54 0 rfl ?_
        exact zr_iret E hr rfl hm dX7_shut_55
      · rw [if_neg c9] at hm
        refine zr_aload_n E dX7_shut_45 1 rfl ?_
        refine zr_ldc E mw_613 dX7_shut_46 ?_
        obtain ⟨r11, s10, os10, hm⟩ := cl_some hm
        refine zr_cVi (st := []) E mw_127 cm_X7_finds (c_X7_finds B.2.1 P s7 (-1000004)) os10 (rc_57 P) ⟨by decide, by decide⟩ rfl rfl (Nat.le_of_ble_eq_true rfl) dX7_shut_48 ?_
        refine zr_goto (tgt := 55) E dX7_shut_51 (by decide) ?_
        exact zr_iret E hr rfl hm dX7_shut_55
    · rw [if_neg c6] at hm
      refine zr_aload_n E dX7_shut_23 0 rfl ?_
      refine zr_ldc E mw_394 dX7_shut_24 ?_
      obtain ⟨r13, s12, os12, hm⟩ := cl_some hm
      refine zr_cVi (st := []) E mw_127 cm_X7_finds (c_X7_finds B.2.1 P s4 (-1000005)) os12 (rc_57 P) ⟨by decide, by decide⟩ rfl rfl (Nat.le_of_ble_eq_true rfl) dX7_shut_26 ?_
      exact zr_iret E hr rfl hm dX7_shut_29
  · rw [if_pos c3] at hm
    refine zr_aload_n E dX7_shut_7 0 rfl ?_
    refine zr_ldc E mw_115 dX7_shut_8 ?_
    obtain ⟨r15, s14, os14, hm⟩ := cl_some hm
    refine zr_cVi (st := []) E mw_127 cm_X7_finds (c_X7_finds B.2.1 P s1 (-1000001)) os14 (rc_57 P) ⟨by decide, by decide⟩ rfl rfl (Nat.le_of_ble_eq_true rfl) dX7_shut_10 ?_
    exact zr_iret E hr rfl hm dX7_shut_13
-- X7_ends
set_option maxRecDepth 100000 in
set_option maxHeartbeats 4000000 in
theorem c_X7_ends (l : Launch) (P : zw_P) (σ : zw_S) (x1 : Int32) : zc_i l P yX7_ends cX7_ends 3 .int 8 [.ref (zw_ad P 57), .int x1] σ (m_X7_ends σ x1) := by
  refine zc_i.of (by decide) (Nat.le_of_ble_eq_true rfl) (fun B r τ E hl hr hm => ?_)
  subst hl
  refine zr_sub (lv' := [(0, .ref (zw_ad P 57)), (1, .int x1)]) [0, 1] rfl ?_
  unfold m_X7_ends at hm
  refine zr_aload_n E dX7_ends_0 0 rfl ?_
  refine zr_iload_n E dX7_ends_1 1 rfl ?_
  obtain ⟨r2, s1, os1, hm⟩ := cl_some hm
  refine zr_cVi (st := []) E mw_195 cm_X7_isTask (c_X7_isTask B.2.1 P σ x1) os1 (rc_57 P) ⟨by decide, by decide⟩ rfl rfl (Nat.le_of_ble_eq_true rfl) dX7_ends_2 ?_
  refine zr_if_ne (tgt := 15) E dX7_ends_5 (by decide) (fun c3 => ?_) (fun c3 => ?_)
  · rw [if_neg c3] at hm
    refine zr_aload_n E dX7_ends_15 0 rfl ?_
    refine zr_bipush (v := 100) E dX7_ends_16 (by decide) ?_
    obtain ⟨r5, s4, os4, hm⟩ := cl_some hm
    refine zr_cVi (st := []) E mw_499 cm_X7_isFarOn (c_X7_isFarOn B.2.1 P s1 100) os4 (rc_57 P) ⟨by decide, by decide⟩ rfl rfl (Nat.le_of_ble_eq_true rfl) dX7_ends_18 ?_
    refine zr_if_eq (tgt := 31) E dX7_ends_21 (by decide) (fun c6 => ?_) (fun c6 => ?_)
    · rw [if_pos c6] at hm
      refine zr_aload_n E dX7_ends_31 0 rfl ?_
      refine zr_iconst (v := (-1)) E dX7_ends_32 (by decide) ?_
      refine zr_iload_n E dX7_ends_33 1 rfl ?_
      refine zr_bipush (v := 100) E dX7_ends_34 (by decide) ?_
      obtain ⟨r8, s7, os7, hm⟩ := cl_some hm
      refine zr_cVi (st := []) E mw_614 cm_X7_overIn (c_X7_overIn B.2.1 P s4 (-1) x1 100) os7 (rc_57 P) ⟨by decide, by decide⟩ rfl rfl (Nat.le_of_ble_eq_true rfl) dX7_ends_36 ?_
      refine zr_istore_n (lv' := [(2, .int r8), (0, .ref (zw_ad P 57)), (1, .int x1)]) E dX7_ends_39 (by decide) rfl ?_
      refine zr_iload_n E dX7_ends_40 0 rfl ?_
      refine zr_bipush (v := 100) E dX7_ends_41 (by decide) ?_
      refine zr_icmp_le (tgt := 55) E dX7_ends_43 (by decide) (fun c9 => ?_) (fun c9 => ?_)
      · rw [if_pos c9] at hm
        refine zr_iload_n E dX7_ends_55 0 rfl ?_
        exact zr_iret E hr rfl hm dX7_ends_56
      · rw [if_neg c9] at hm
        refine zr_aload_n E dX7_ends_46 1 rfl ?_
        refine zr_ldc E mw_613 dX7_ends_47 ?_
        obtain ⟨r11, s10, os10, hm⟩ := cl_some hm
        refine zr_cVi (st := []) E mw_127 cm_X7_finds (c_X7_finds B.2.1 P s7 (-1000004)) os10 (rc_57 P) ⟨by decide, by decide⟩ rfl rfl (Nat.le_of_ble_eq_true rfl) dX7_ends_49 ?_
        refine zr_goto (tgt := 56) E dX7_ends_52 (by decide) ?_
        exact zr_iret E hr rfl hm dX7_ends_56
    · rw [if_neg c6] at hm
      refine zr_aload_n E dX7_ends_24 0 rfl ?_
      refine zr_ldc E mw_394 dX7_ends_25 ?_
      obtain ⟨r13, s12, os12, hm⟩ := cl_some hm
      refine zr_cVi (st := []) E mw_127 cm_X7_finds (c_X7_finds B.2.1 P s4 (-1000005)) os12 (rc_57 P) ⟨by decide, by decide⟩ rfl rfl (Nat.le_of_ble_eq_true rfl) dX7_ends_27 ?_
      exact zr_iret E hr rfl hm dX7_ends_30
  · rw [if_pos c3] at hm
    refine zr_aload_n E dX7_ends_8 0 rfl ?_
    refine zr_ldc E mw_115 dX7_ends_9 ?_
    obtain ⟨r15, s14, os14, hm⟩ := cl_some hm
    refine zr_cVi (st := []) E mw_127 cm_X7_finds (c_X7_finds B.2.1 P s1 (-1000001)) os14 (rc_57 P) ⟨by decide, by decide⟩ rfl rfl (Nat.le_of_ble_eq_true rfl) dX7_ends_11 ?_
    exact zr_iret E hr rfl hm dX7_ends_14
-- X7_isShutInTime
set_option maxRecDepth 100000 in
set_option maxHeartbeats 4000000 in
theorem c_X7_isShutInTime (l : Launch) (P : zw_P) (σ : zw_S) (x1 : Int32) (x2 : Int32) : zc_i l P yX7_isShutInTime cX7_isShutInTime 4 .boolean 8 [.ref (zw_ad P 57), .int x1, .int x2] σ (m_X7_isShutInTime σ x1 x2) := by
  refine zc_i.of (by decide) (Nat.le_of_ble_eq_true rfl) (fun B r τ E hl hr hm => ?_)
  subst hl
  refine zr_sub (lv' := [(0, .ref (zw_ad P 57)), (1, .int x1), (2, .int x2)]) [0, 1, 2] rfl ?_
  unfold m_X7_isShutInTime at hm
  refine zr_bipush (v := 40) E dX7_isShutInTime_0 (by decide) ?_
  refine zr_aload_n E dX7_isShutInTime_2 0 rfl ?_
  refine zr_iload_n E dX7_isShutInTime_3 1 rfl ?_
  refine zr_iconst (v := 1) E dX7_isShutInTime_4 (by decide) ?_
  obtain ⟨r2, s1, os1, hm⟩ := cl_some hm
  refine zr_cVi (st := [.int 40]) E mw_289 cm_X7_person0 (c_X7_person0 B.2.1 P σ x1 1) os1 (rc_57 P) ⟨by decide, by decide⟩ rfl rfl (Nat.le_of_ble_eq_true rfl) dX7_isShutInTime_5 ?_
  refine zr_isub E dX7_isShutInTime_8 ?_
  obtain ⟨v3, ev3, hm⟩ := nm_some hm
  refine zr_top ev3 ?_
  refine zr_istore_n (lv' := [(3, .int v3), (0, .ref (zw_ad P 57)), (1, .int x1), (2, .int x2)]) E dX7_isShutInTime_9 (by decide) rfl ?_
  refine zr_aload_n E dX7_isShutInTime_10 1 rfl ?_
  refine zr_iload_n E dX7_isShutInTime_11 3 rfl ?_
  refine zr_iconst (v := 0) E dX7_isShutInTime_12 (by decide) ?_
  refine zr_iload_n E dX7_isShutInTime_13 0 rfl ?_
  obtain ⟨r5, s4, os4, hm⟩ := cl_some hm
  refine zr_cVi (st := []) E mw_614 cm_X7_overIn (c_X7_overIn B.2.1 P s1 x2 0 v3) os4 (rc_57 P) ⟨by decide, by decide⟩ rfl rfl (Nat.le_of_ble_eq_true rfl) dX7_isShutInTime_14 ?_
  refine zr_iload_n E dX7_isShutInTime_17 0 rfl ?_
  refine zr_icmp_gt (tgt := 25) E dX7_isShutInTime_18 (by decide) (fun c6 => ?_) (fun c6 => ?_)
  · rw [if_pos c6] at hm
    refine zr_iconst (v := 0) E dX7_isShutInTime_25 (by decide) ?_
    exact zr_iret E hr (by decide) hm dX7_isShutInTime_26
  · rw [if_neg c6] at hm
    refine zr_iconst (v := 1) E dX7_isShutInTime_21 (by decide) ?_
    refine zr_goto (tgt := 26) E dX7_isShutInTime_22 (by decide) ?_
    exact zr_iret E hr (by decide) hm dX7_isShutInTime_26
-- X7_choose
set_option maxRecDepth 100000 in
set_option maxHeartbeats 4000000 in
theorem t_X7_choose_152 {B : zw_B} {P : zw_P} {r : Int32} {τ : zw_S} (E : zf B P cX7_choose RX7 4 9) (hr : B.2.2.2.2.2.2.2.2.1.sig.returnType = some .int) (σ : zw_S) (x2 : Int32) (hm : m_X7_choose_152 σ x2 = some (r, τ)) : zw_G B P (zq_i B P r τ) 4 σ 152 [(0, .ref (zw_ad P 57)), (2, .int x2)] [] := by
  unfold m_X7_choose_152 at hm
  refine zr_aload_n E dX7_choose_152 0 rfl ?_
  refine zr_iload_n E dX7_choose_153 1 rfl ?_
  obtain ⟨r2, s1, os1, hm⟩ := cl_some hm
  refine zr_cVi (st := []) E mw_647 cm_X7_orNone (c_X7_orNone B.2.1 P σ x2) os1 (rc_57 P) ⟨by decide, by decide⟩ rfl rfl (Nat.le_of_ble_eq_true rfl) dX7_choose_154 ?_
  exact zr_iret E hr rfl hm dX7_choose_157
set_option maxRecDepth 100000 in
set_option maxHeartbeats 4000000 in
theorem t_X7_choose_133 {B : zw_B} {P : zw_P} {r : Int32} {τ : zw_S} (E : zf B P cX7_choose RX7 4 9) (hr : B.2.2.2.2.2.2.2.2.1.sig.returnType = some .int) (R55 : zw_S → Int32 → Int32 → Int32 → Option (Int32 × zw_S)) (hR55 : ∀ (σ : zw_S) (x1 : Int32) (x2 : Int32) (x3 : Int32), R55 σ x1 x2 x3 = some (r, τ) → zw_G B P (zq_i B P r τ) 4 σ 55 [(0, .ref (zw_ad P 57)), (1, .int x1), (2, .int x2), (3, .int x3)] []) (σ : zw_S) (x1 : Int32) (x3 : Int32) (y0 : Int32) (hm : m_X7_choose_133 R55 σ x1 x3 y0 = some (r, τ)) : zw_G B P (zq_i B P r τ) 4 σ 133 [(0, .ref (zw_ad P 57)), (1, .int x1), (3, .int x3)] [.int y0] := by
  unfold m_X7_choose_133 at hm
  refine zr_istore_n (lv' := [(2, .int y0), (0, .ref (zw_ad P 57)), (1, .int x1), (3, .int x3)]) E dX7_choose_133 (by decide) rfl ?_
  refine zr_aload_n E dX7_choose_134 1 rfl ?_
  refine fg_X7_9 E dX7_choose_135 ?_
  refine zr_bipush (v := 100) E dX7_choose_138 (by decide) ?_
  refine zr_iconst (v := 4) E dX7_choose_140 (by decide) ?_
  refine zr_iload_n E dX7_choose_141 2 rfl ?_
  refine zr_imul E dX7_choose_142 ?_
  refine zr_iadd E dX7_choose_143 ?_
  refine zr_iconst (v := (-1)) E dX7_choose_144 (by decide) ?_
  obtain ⟨hs1, s1, es1, hm⟩ := wt_some hm
  refine zr_iast E ac_58 hs1 es1 dX7_choose_145 ?_
  obtain ⟨v2, ev2, hm⟩ := nm_some hm
  refine zr_iinc (j := 3) (lv' := [(3, .int v2), (2, .int y0), (0, .ref (zw_ad P 57)), (1, .int x1)]) E dX7_choose_146 rfl ev2 (by decide) rfl ?_
  refine zr_goto (tgt := 55) E dX7_choose_149 (by decide) ?_
  refine zr_sub (lv' := [(0, .ref (zw_ad P 57)), (1, .int x1), (2, .int y0), (3, .int v2)]) [2, 3, 1, 0] rfl ?_
  exact hR55 s1 x1 y0 v2 hm
set_option maxRecDepth 100000 in
set_option maxHeartbeats 4000000 in
theorem t_X7_choose_107 {B : zw_B} {P : zw_P} {r : Int32} {τ : zw_S} (E : zf B P cX7_choose RX7 4 9) (hr : B.2.2.2.2.2.2.2.2.1.sig.returnType = some .int) (R55 : zw_S → Int32 → Int32 → Int32 → Option (Int32 × zw_S)) (hR55 : ∀ (σ : zw_S) (x1 : Int32) (x2 : Int32) (x3 : Int32), R55 σ x1 x2 x3 = some (r, τ) → zw_G B P (zq_i B P r τ) 4 σ 55 [(0, .ref (zw_ad P 57)), (1, .int x1), (2, .int x2), (3, .int x3)] []) (σ : zw_S) (x1 : Int32) (x2 : Int32) (x3 : Int32) (hm : m_X7_choose_107 R55 σ x1 x2 x3 = some (r, τ)) : zw_G B P (zq_i B P r τ) 4 σ 107 [(0, .ref (zw_ad P 57)), (1, .int x1), (2, .int x2), (3, .int x3)] [] := by
  unfold m_X7_choose_107 at hm
  refine zr_aload_n E dX7_choose_107 0 rfl ?_
  refine fg_X7_9 E dX7_choose_108 ?_
  refine zr_bipush (v := 100) E dX7_choose_111 (by decide) ?_
  refine zr_iconst (v := 4) E dX7_choose_113 (by decide) ?_
  refine zr_iload_n E dX7_choose_114 1 rfl ?_
  refine zr_imul E dX7_choose_115 ?_
  refine zr_iadd E dX7_choose_116 ?_
  refine zr_iload_n E dX7_choose_117 3 rfl ?_
  obtain ⟨hs1, s1, es1, hm⟩ := wt_some hm
  refine zr_iast E ac_58 hs1 es1 dX7_choose_118 ?_
  refine zr_aload_n E dX7_choose_119 0 rfl ?_
  refine zr_iload_n E dX7_choose_120 1 rfl ?_
  refine zr_iload_n E dX7_choose_121 3 rfl ?_
  obtain ⟨r3, s2, os2, hm⟩ := cl_some hm
  refine zr_cVi (st := []) E mw_643 cm_X7_isShutInTime (c_X7_isShutInTime B.2.1 P s1 x1 x3) os2 (rc_57 P) ⟨by decide, by decide⟩ rfl rfl (Nat.le_of_ble_eq_true rfl) dX7_choose_122 ?_
  refine zr_if_eq (tgt := 132) E dX7_choose_125 (by decide) (fun c4 => ?_) (fun c4 => ?_)
  · rw [if_pos c4] at hm
    refine zr_iload_n E dX7_choose_132 2 rfl ?_
    refine zr_sub (lv' := [(0, .ref (zw_ad P 57)), (1, .int x1), (3, .int x3)]) [0, 1, 3] rfl ?_
    exact t_X7_choose_133 E hr R55 hR55 s2 x1 x3 x2 hm
  · rw [if_neg c4] at hm
    refine zr_iload_n E dX7_choose_128 3 rfl ?_
    refine zr_goto (tgt := 133) E dX7_choose_129 (by decide) ?_
    refine zr_sub (lv' := [(0, .ref (zw_ad P 57)), (1, .int x1), (3, .int x3)]) [0, 1, 3] rfl ?_
    exact t_X7_choose_133 E hr R55 hR55 s2 x1 x3 x3 hm
set_option maxRecDepth 100000 in
set_option maxHeartbeats 4000000 in
theorem t_X7_choose_55 {B : zw_B} {P : zw_P} {r : Int32} {τ : zw_S} (E : zf B P cX7_choose RX7 4 9) (hr : B.2.2.2.2.2.2.2.2.1.sig.returnType = some .int) : ∀ (n : Nat) (σ : zw_S) (x1 : Int32) (x2 : Int32) (x3 : Int32), m_X7_choose_55 n σ x1 x2 x3 = some (r, τ) → zw_G B P (zq_i B P r τ) 4 σ 55 [(0, .ref (zw_ad P 57)), (1, .int x1), (2, .int x2), (3, .int x3)] [] := by
  intro n
  induction n with
  | zero => intro σ x1 x2 x3 hm; cases hm
  | succ n ih =>
    intro σ x1 x2 x3 hm
    unfold m_X7_choose_55 at hm
    refine zr_iload_n E dX7_choose_55 3 rfl ?_
    refine zr_bipush (v := 8) E dX7_choose_56 (by decide) ?_
    refine zr_icmp_ge (tgt := 152) E dX7_choose_58 (by decide) (fun c1 => ?_) (fun c1 => ?_)
    · rw [if_pos c1] at hm
      refine zr_sub (lv' := [(0, .ref (zw_ad P 57)), (2, .int x2)]) [0, 2] rfl ?_
      exact t_X7_choose_152 E hr σ x2 hm
    · rw [if_neg c1] at hm
      refine zr_aload_n E dX7_choose_61 0 rfl ?_
      refine zr_iload_n E dX7_choose_62 3 rfl ?_
      obtain ⟨r3, s2, os2, hm⟩ := cl_some hm
      refine zr_cVi (st := []) E mw_281 cm_X7_isOpen (c_X7_isOpen B.2.1 P σ x3) os2 (rc_57 P) ⟨by decide, by decide⟩ rfl rfl (Nat.le_of_ble_eq_true rfl) dX7_choose_63 ?_
      refine zr_if_eq (tgt := 146) E dX7_choose_66 (by decide) (fun c4 => ?_) (fun c4 => ?_)
      · rw [if_pos c4] at hm
        obtain ⟨v5, ev5, hm⟩ := nm_some hm
        refine zr_iinc (j := 3) (lv' := [(3, .int v5), (0, .ref (zw_ad P 57)), (1, .int x1), (2, .int x2)]) E dX7_choose_146 rfl ev5 (by decide) rfl ?_
        refine zr_goto (tgt := 55) E dX7_choose_149 (by decide) ?_
        refine zr_sub (lv' := [(0, .ref (zw_ad P 57)), (1, .int x1), (2, .int x2), (3, .int v5)]) [1, 2, 3, 0] rfl ?_
        exact ih s2 x1 x2 v5 hm
      · rw [if_neg c4] at hm
        refine zr_aload_n E dX7_choose_69 0 rfl ?_
        refine zr_iload_n E dX7_choose_70 3 rfl ?_
        obtain ⟨r7, s6, os6, hm⟩ := cl_some hm
        refine zr_cVi (st := []) E mw_285 cm_X7_bearer (c_X7_bearer B.2.1 P s2 x3) os6 (rc_57 P) ⟨by decide, by decide⟩ rfl rfl (Nat.le_of_ble_eq_true rfl) dX7_choose_71 ?_
        refine zr_if_ge (tgt := 146) E dX7_choose_74 (by decide) (fun c8 => ?_) (fun c8 => ?_)
        · rw [if_pos c8] at hm
          obtain ⟨v9, ev9, hm⟩ := nm_some hm
          refine zr_iinc (j := 3) (lv' := [(3, .int v9), (0, .ref (zw_ad P 57)), (1, .int x1), (2, .int x2)]) E dX7_choose_146 rfl ev9 (by decide) rfl ?_
          refine zr_goto (tgt := 55) E dX7_choose_149 (by decide) ?_
          refine zr_sub (lv' := [(0, .ref (zw_ad P 57)), (1, .int x1), (2, .int x2), (3, .int v9)]) [1, 2, 3, 0] rfl ?_
          exact ih s6 x1 x2 v9 hm
        · rw [if_neg c8] at hm
          refine zr_iload_n E dX7_choose_77 2 rfl ?_
          refine zr_if_lt (tgt := 107) E dX7_choose_78 (by decide) (fun c10 => ?_) (fun c10 => ?_)
          · rw [if_pos c10] at hm
            refine zr_sub (lv' := [(0, .ref (zw_ad P 57)), (1, .int x1), (2, .int x2), (3, .int x3)]) [0, 1, 2, 3] rfl ?_
            exact t_X7_choose_107 E hr (m_X7_choose_55 n) ih s6 x1 x2 x3 hm
          · rw [if_neg c10] at hm
            refine zr_aload_n E dX7_choose_81 0 rfl ?_
            refine fg_X7_9 E dX7_choose_82 ?_
            refine zr_iconst (v := 4) E dX7_choose_85 (by decide) ?_
            refine zr_iconst (v := 2) E dX7_choose_86 (by decide) ?_
            refine zr_iload_n E dX7_choose_87 3 rfl ?_
            refine zr_imul E dX7_choose_88 ?_
            refine zr_iadd E dX7_choose_89 ?_
            obtain ⟨hv11, v11, ev11, hm⟩ := rd_some hm
            refine zr_iald E ac_58 hv11 ev11 dX7_choose_90 ?_
            refine zr_aload_n E dX7_choose_91 0 rfl ?_
            refine fg_X7_9 E dX7_choose_92 ?_
            refine zr_iconst (v := 4) E dX7_choose_95 (by decide) ?_
            refine zr_iconst (v := 2) E dX7_choose_96 (by decide) ?_
            refine zr_iload_n E dX7_choose_97 2 rfl ?_
            refine zr_imul E dX7_choose_98 ?_
            refine zr_iadd E dX7_choose_99 ?_
            obtain ⟨hv12, v12, ev12, hm⟩ := rd_some hm
            refine zr_iald E ac_58 hv12 ev12 dX7_choose_100 ?_
            refine zr_icmp_gt (tgt := 107) E dX7_choose_101 (by decide) (fun c13 => ?_) (fun c13 => ?_)
            · rw [if_pos c13] at hm
              refine zr_sub (lv' := [(0, .ref (zw_ad P 57)), (1, .int x1), (2, .int x2), (3, .int x3)]) [0, 1, 2, 3] rfl ?_
              exact t_X7_choose_107 E hr (m_X7_choose_55 n) ih s6 x1 x2 x3 hm
            · rw [if_neg c13] at hm
              refine zr_goto (tgt := 146) E dX7_choose_104 (by decide) ?_
              obtain ⟨v14, ev14, hm⟩ := nm_some hm
              refine zr_iinc (j := 3) (lv' := [(3, .int v14), (0, .ref (zw_ad P 57)), (1, .int x1), (2, .int x2)]) E dX7_choose_146 rfl ev14 (by decide) rfl ?_
              refine zr_goto (tgt := 55) E dX7_choose_149 (by decide) ?_
              refine zr_sub (lv' := [(0, .ref (zw_ad P 57)), (1, .int x1), (2, .int x2), (3, .int v14)]) [1, 2, 3, 0] rfl ?_
              exact ih s6 x1 x2 v14 hm
set_option maxRecDepth 100000 in
set_option maxHeartbeats 4000000 in
theorem c_X7_choose (l : Launch) (P : zw_P) (σ : zw_S) (x1 : Int32) : zc_i l P yX7_choose cX7_choose 4 .int 9 [.ref (zw_ad P 57), .int x1] σ (m_X7_choose σ x1) := by
  refine zc_i.of (by decide) (Nat.le_of_ble_eq_true rfl) (fun B r τ E hl hr hm => ?_)
  subst hl
  refine zr_sub (lv' := [(0, .ref (zw_ad P 57)), (1, .int x1)]) [0, 1] rfl ?_
  unfold m_X7_choose at hm
  refine zr_aload_n E dX7_choose_0 0 rfl ?_
  refine zr_iload_n E dX7_choose_1 1 rfl ?_
  obtain ⟨r2, s1, os1, hm⟩ := cl_some hm
  refine zr_cVi (st := []) E mw_355 cm_X7_isPerson (c_X7_isPerson B.2.1 P σ x1) os1 (rc_57 P) ⟨by decide, by decide⟩ rfl rfl (Nat.le_of_ble_eq_true rfl) dX7_choose_2 ?_
  refine zr_if_ne (tgt := 15) E dX7_choose_5 (by decide) (fun c3 => ?_) (fun c3 => ?_)
  · rw [if_neg c3] at hm
    refine zr_aload_n E dX7_choose_15 0 rfl ?_
    refine zr_iload_n E dX7_choose_16 1 rfl ?_
    refine zr_iconst (v := 0) E dX7_choose_17 (by decide) ?_
    obtain ⟨r5, s4, os4, hm⟩ := cl_some hm
    refine zr_cVi (st := []) E mw_289 cm_X7_person0 (c_X7_person0 B.2.1 P s1 x1 0) os4 (rc_57 P) ⟨by decide, by decide⟩ rfl rfl (Nat.le_of_ble_eq_true rfl) dX7_choose_18 ?_
    refine zr_if_ge (tgt := 44) E dX7_choose_21 (by decide) (fun c6 => ?_) (fun c6 => ?_)
    · rw [if_pos c6] at hm
      refine zr_aload_n E dX7_choose_44 0 rfl ?_
      refine zr_ldc E mw_394 dX7_choose_45 ?_
      obtain ⟨r8, s7, os7, hm⟩ := cl_some hm
      refine zr_cVi (st := []) E mw_127 cm_X7_finds (c_X7_finds B.2.1 P s4 (-1000005)) os7 (rc_57 P) ⟨by decide, by decide⟩ rfl rfl (Nat.le_of_ble_eq_true rfl) dX7_choose_47 ?_
      exact zr_iret E hr rfl hm dX7_choose_50
    · rw [if_neg c6] at hm
      refine zr_aload_n E dX7_choose_24 0 rfl ?_
      refine zr_iload_n E dX7_choose_25 1 rfl ?_
      refine zr_iconst (v := 1) E dX7_choose_26 (by decide) ?_
      obtain ⟨r10, s9, os9, hm⟩ := cl_some hm
      refine zr_cVi (st := []) E mw_289 cm_X7_person0 (c_X7_person0 B.2.1 P s4 x1 1) os9 (rc_57 P) ⟨by decide, by decide⟩ rfl rfl (Nat.le_of_ble_eq_true rfl) dX7_choose_27 ?_
      refine zr_bipush (v := 40) E dX7_choose_30 (by decide) ?_
      refine zr_icmp_eq (tgt := 44) E dX7_choose_32 (by decide) (fun c11 => ?_) (fun c11 => ?_)
      · rw [if_pos c11] at hm
        refine zr_aload_n E dX7_choose_44 0 rfl ?_
        refine zr_ldc E mw_394 dX7_choose_45 ?_
        obtain ⟨r13, s12, os12, hm⟩ := cl_some hm
        refine zr_cVi (st := []) E mw_127 cm_X7_finds (c_X7_finds B.2.1 P s9 (-1000005)) os12 (rc_57 P) ⟨by decide, by decide⟩ rfl rfl (Nat.le_of_ble_eq_true rfl) dX7_choose_47 ?_
        exact zr_iret E hr rfl hm dX7_choose_50
      · rw [if_neg c11] at hm
        refine zr_aload_n E dX7_choose_35 0 rfl ?_
        refine zr_bipush (v := 40) E dX7_choose_36 (by decide) ?_
        obtain ⟨r15, s14, os14, hm⟩ := cl_some hm
        refine zr_cVi (st := []) E mw_499 cm_X7_isFarOn (c_X7_isFarOn B.2.1 P s9 40) os14 (rc_57 P) ⟨by decide, by decide⟩ rfl rfl (Nat.le_of_ble_eq_true rfl) dX7_choose_38 ?_
        refine zr_if_eq (tgt := 51) E dX7_choose_41 (by decide) (fun c16 => ?_) (fun c16 => ?_)
        · rw [if_pos c16] at hm
          refine zr_iconst (v := (-1)) E dX7_choose_51 (by decide) ?_
          refine zr_istore_n (lv' := [(2, .int ((-1))), (0, .ref (zw_ad P 57)), (1, .int x1)]) E dX7_choose_52 (by decide) rfl ?_
          refine zr_iconst (v := 0) E dX7_choose_53 (by decide) ?_
          refine zr_istore_n (lv' := [(3, .int 0), (2, .int ((-1))), (0, .ref (zw_ad P 57)), (1, .int x1)]) E dX7_choose_54 (by decide) rfl ?_
          refine zr_sub (lv' := [(0, .ref (zw_ad P 57)), (1, .int x1), (2, .int ((-1))), (3, .int 0)]) [2, 3, 1, 0] rfl ?_
          exact t_X7_choose_55 E hr 200 s14 x1 (-1) 0 hm
        · rw [if_neg c16] at hm
          refine zr_aload_n E dX7_choose_44 0 rfl ?_
          refine zr_ldc E mw_394 dX7_choose_45 ?_
          obtain ⟨r18, s17, os17, hm⟩ := cl_some hm
          refine zr_cVi (st := []) E mw_127 cm_X7_finds (c_X7_finds B.2.1 P s14 (-1000005)) os17 (rc_57 P) ⟨by decide, by decide⟩ rfl rfl (Nat.le_of_ble_eq_true rfl) dX7_choose_47 ?_
          exact zr_iret E hr rfl hm dX7_choose_50
  · rw [if_pos c3] at hm
    refine zr_aload_n E dX7_choose_8 0 rfl ?_
    refine zr_ldc E mw_115 dX7_choose_9 ?_
    obtain ⟨r20, s19, os19, hm⟩ := cl_some hm
    refine zr_cVi (st := []) E mw_127 cm_X7_finds (c_X7_finds B.2.1 P s1 (-1000001)) os19 (rc_57 P) ⟨by decide, by decide⟩ rfl rfl (Nat.le_of_ble_eq_true rfl) dX7_choose_11 ?_
    exact zr_iret E hr rfl hm dX7_choose_14
-- X7_handsFor
set_option maxRecDepth 100000 in
set_option maxHeartbeats 4000000 in
theorem t_X7_handsFor_105 {B : zw_B} {P : zw_P} {r : Int32} {τ : zw_S} (E : zf B P cX7_handsFor RX7 5 9) (hr : B.2.2.2.2.2.2.2.2.1.sig.returnType = some .int) (σ : zw_S) (x1 : Int32) (x2 : Int32) (x3 : Int32) (hm : m_X7_handsFor_105 σ x1 x2 x3 = some (r, τ)) : zw_G B P (zq_i B P r τ) 5 σ 105 [(0, .ref (zw_ad P 57)), (1, .int x1), (2, .int x2), (3, .int x3)] [] := by
  unfold m_X7_handsFor_105 at hm
  refine zr_aload_n E dX7_handsFor_105 0 rfl ?_
  refine fg_X7_9 E dX7_handsFor_106 ?_
  refine zr_bipush (v := 100) E dX7_handsFor_109 (by decide) ?_
  refine zr_iconst (v := 4) E dX7_handsFor_111 (by decide) ?_
  refine zr_iload_n E dX7_handsFor_112 1 rfl ?_
  refine zr_imul E dX7_handsFor_113 ?_
  refine zr_iadd E dX7_handsFor_114 ?_
  refine zr_iconst (v := 2) E dX7_handsFor_115 (by decide) ?_
  refine zr_iadd E dX7_handsFor_116 ?_
  refine zr_iload_n E dX7_handsFor_117 2 rfl ?_
  obtain ⟨hs1, s1, es1, hm⟩ := wt_some hm
  refine zr_iast E ac_58 hs1 es1 dX7_handsFor_118 ?_
  refine zr_aload_n E dX7_handsFor_119 0 rfl ?_
  refine zr_iload_n E dX7_handsFor_120 3 rfl ?_
  obtain ⟨r3, s2, os2, hm⟩ := cl_some hm
  refine zr_cVi (st := []) E mw_647 cm_X7_orNone (c_X7_orNone B.2.1 P s1 x3) os2 (rc_57 P) ⟨by decide, by decide⟩ rfl rfl (Nat.le_of_ble_eq_true rfl) dX7_handsFor_121 ?_
  exact zr_iret E hr rfl hm dX7_handsFor_124
set_option maxRecDepth 100000 in
set_option maxHeartbeats 4000000 in
theorem t_X7_handsFor_52 {B : zw_B} {P : zw_P} {r : Int32} {τ : zw_S} (E : zf B P cX7_handsFor RX7 5 9) (hr : B.2.2.2.2.2.2.2.2.1.sig.returnType = some .int) : ∀ (n : Nat) (σ : zw_S) (x1 : Int32) (x2 : Int32) (x3 : Int32) (x4 : Int32), m_X7_handsFor_52 n σ x1 x2 x3 x4 = some (r, τ) → zw_G B P (zq_i B P r τ) 5 σ 52 [(0, .ref (zw_ad P 57)), (1, .int x1), (2, .int x2), (3, .int x3), (4, .int x4)] [] := by
  intro n
  induction n with
  | zero => intro σ x1 x2 x3 x4 hm; cases hm
  | succ n ih =>
    intro σ x1 x2 x3 x4 hm
    unfold m_X7_handsFor_52 at hm
    refine zr_iload E dX7_handsFor_52 4 rfl ?_
    refine zr_bipush (v := 9) E dX7_handsFor_54 (by decide) ?_
    refine zr_icmp_gt (tgt := 105) E dX7_handsFor_56 (by decide) (fun c1 => ?_) (fun c1 => ?_)
    · rw [if_pos c1] at hm
      refine zr_sub (lv' := [(0, .ref (zw_ad P 57)), (1, .int x1), (2, .int x2), (3, .int x3)]) [0, 1, 2, 3] rfl ?_
      exact t_X7_handsFor_105 E hr σ x1 x2 x3 hm
    · rw [if_neg c1] at hm
      refine zr_iload_n E dX7_handsFor_59 3 rfl ?_
      refine zr_if_ge (tgt := 105) E dX7_handsFor_60 (by decide) (fun c2 => ?_) (fun c2 => ?_)
      · rw [if_pos c2] at hm
        refine zr_sub (lv' := [(0, .ref (zw_ad P 57)), (1, .int x1), (2, .int x2), (3, .int x3)]) [0, 1, 2, 3] rfl ?_
        exact t_X7_handsFor_105 E hr σ x1 x2 x3 hm
      · rw [if_neg c2] at hm
        refine zr_aload_n E dX7_handsFor_63 0 rfl ?_
        refine fg_X7_9 E dX7_handsFor_64 ?_
        refine zr_bipush (v := 100) E dX7_handsFor_67 (by decide) ?_
        refine zr_iconst (v := 4) E dX7_handsFor_69 (by decide) ?_
        refine zr_iload_n E dX7_handsFor_70 1 rfl ?_
        refine zr_imul E dX7_handsFor_71 ?_
        refine zr_iadd E dX7_handsFor_72 ?_
        refine zr_iconst (v := 2) E dX7_handsFor_73 (by decide) ?_
        refine zr_iadd E dX7_handsFor_74 ?_
        refine zr_iload E dX7_handsFor_75 4 rfl ?_
        obtain ⟨hs3, s3, es3, hm⟩ := wt_some hm
        refine zr_iast E ac_58 hs3 es3 dX7_handsFor_77 ?_
        refine zr_aload_n E dX7_handsFor_78 0 rfl ?_
        refine zr_iload_n E dX7_handsFor_79 1 rfl ?_
        refine zr_aload_n E dX7_handsFor_80 0 rfl ?_
        refine zr_iload_n E dX7_handsFor_81 1 rfl ?_
        refine zr_iconst (v := 0) E dX7_handsFor_82 (by decide) ?_
        obtain ⟨r5, s4, os4, hm⟩ := cl_some hm
        refine zr_cVi (st := [.int x1, .ref (zw_ad P 57)]) E mw_289 cm_X7_person0 (c_X7_person0 B.2.1 P s3 x1 0) os4 (rc_57 P) ⟨by decide, by decide⟩ rfl rfl (Nat.le_of_ble_eq_true rfl) dX7_handsFor_83 ?_
        obtain ⟨r7, s6, os6, hm⟩ := cl_some hm
        refine zr_cVi (st := []) E mw_643 cm_X7_isShutInTime (c_X7_isShutInTime B.2.1 P s4 x1 r5) os6 (rc_57 P) ⟨by decide, by decide⟩ rfl rfl (Nat.le_of_ble_eq_true rfl) dX7_handsFor_86 ?_
        refine zr_if_eq (tgt := 97) E dX7_handsFor_89 (by decide) (fun c8 => ?_) (fun c8 => ?_)
        · rw [if_pos c8] at hm
          refine zr_iconst (v := (-1)) E dX7_handsFor_97 (by decide) ?_
          refine zr_istore_n (lv' := [(3, .int ((-1))), (0, .ref (zw_ad P 57)), (1, .int x1), (2, .int x2), (4, .int x4)]) E dX7_handsFor_98 (by decide) rfl ?_
          obtain ⟨v9, ev9, hm⟩ := nm_some hm
          refine zr_iinc (j := 4) (lv' := [(4, .int v9), (3, .int ((-1))), (0, .ref (zw_ad P 57)), (1, .int x1), (2, .int x2)]) E dX7_handsFor_99 rfl ev9 (by decide) rfl ?_
          refine zr_goto (tgt := 52) E dX7_handsFor_102 (by decide) ?_
          refine zr_sub (lv' := [(0, .ref (zw_ad P 57)), (1, .int x1), (2, .int x2), (3, .int ((-1))), (4, .int v9)]) [2, 3, 4, 1, 0] rfl ?_
          exact ih s6 x1 x2 (-1) v9 hm
        · rw [if_neg c8] at hm
          refine zr_iload E dX7_handsFor_92 4 rfl ?_
          refine zr_goto (tgt := 98) E dX7_handsFor_94 (by decide) ?_
          refine zr_istore_n (lv' := [(3, .int x4), (0, .ref (zw_ad P 57)), (1, .int x1), (2, .int x2), (4, .int x4)]) E dX7_handsFor_98 (by decide) rfl ?_
          obtain ⟨v10, ev10, hm⟩ := nm_some hm
          refine zr_iinc (j := 4) (lv' := [(4, .int v10), (3, .int x4), (0, .ref (zw_ad P 57)), (1, .int x1), (2, .int x2)]) E dX7_handsFor_99 rfl ev10 (by decide) rfl ?_
          refine zr_goto (tgt := 52) E dX7_handsFor_102 (by decide) ?_
          refine zr_sub (lv' := [(0, .ref (zw_ad P 57)), (1, .int x1), (2, .int x2), (3, .int x4), (4, .int v10)]) [2, 3, 4, 1, 0] rfl ?_
          exact ih s6 x1 x2 x4 v10 hm
set_option maxRecDepth 100000 in
set_option maxHeartbeats 4000000 in
theorem c_X7_handsFor (l : Launch) (P : zw_P) (σ : zw_S) (x1 : Int32) : zc_i l P yX7_handsFor cX7_handsFor 5 .int 9 [.ref (zw_ad P 57), .int x1] σ (m_X7_handsFor σ x1) := by
  refine zc_i.of (by decide) (Nat.le_of_ble_eq_true rfl) (fun B r τ E hl hr hm => ?_)
  subst hl
  refine zr_sub (lv' := [(0, .ref (zw_ad P 57)), (1, .int x1)]) [0, 1] rfl ?_
  unfold m_X7_handsFor at hm
  refine zr_aload_n E dX7_handsFor_0 0 rfl ?_
  refine zr_iload_n E dX7_handsFor_1 1 rfl ?_
  obtain ⟨r2, s1, os1, hm⟩ := cl_some hm
  refine zr_cVi (st := []) E mw_355 cm_X7_isPerson (c_X7_isPerson B.2.1 P σ x1) os1 (rc_57 P) ⟨by decide, by decide⟩ rfl rfl (Nat.le_of_ble_eq_true rfl) dX7_handsFor_2 ?_
  refine zr_if_ne (tgt := 15) E dX7_handsFor_5 (by decide) (fun c3 => ?_) (fun c3 => ?_)
  · rw [if_neg c3] at hm
    refine zr_aload_n E dX7_handsFor_15 0 rfl ?_
    refine zr_iload_n E dX7_handsFor_16 1 rfl ?_
    refine zr_iconst (v := 0) E dX7_handsFor_17 (by decide) ?_
    obtain ⟨r5, s4, os4, hm⟩ := cl_some hm
    refine zr_cVi (st := []) E mw_289 cm_X7_person0 (c_X7_person0 B.2.1 P s1 x1 0) os4 (rc_57 P) ⟨by decide, by decide⟩ rfl rfl (Nat.le_of_ble_eq_true rfl) dX7_handsFor_18 ?_
    refine zr_if_lt (tgt := 33) E dX7_handsFor_21 (by decide) (fun c6 => ?_) (fun c6 => ?_)
    · rw [if_pos c6] at hm
      refine zr_aload_n E dX7_handsFor_33 0 rfl ?_
      refine zr_ldc E mw_394 dX7_handsFor_34 ?_
      obtain ⟨r8, s7, os7, hm⟩ := cl_some hm
      refine zr_cVi (st := []) E mw_127 cm_X7_finds (c_X7_finds B.2.1 P s4 (-1000005)) os7 (rc_57 P) ⟨by decide, by decide⟩ rfl rfl (Nat.le_of_ble_eq_true rfl) dX7_handsFor_36 ?_
      exact zr_iret E hr rfl hm dX7_handsFor_39
    · rw [if_neg c6] at hm
      refine zr_aload_n E dX7_handsFor_24 0 rfl ?_
      refine zr_bipush (v := 40) E dX7_handsFor_25 (by decide) ?_
      obtain ⟨r10, s9, os9, hm⟩ := cl_some hm
      refine zr_cVi (st := []) E mw_499 cm_X7_isFarOn (c_X7_isFarOn B.2.1 P s4 40) os9 (rc_57 P) ⟨by decide, by decide⟩ rfl rfl (Nat.le_of_ble_eq_true rfl) dX7_handsFor_27 ?_
      refine zr_if_eq (tgt := 40) E dX7_handsFor_30 (by decide) (fun c11 => ?_) (fun c11 => ?_)
      · rw [if_pos c11] at hm
        refine zr_aload_n E dX7_handsFor_40 0 rfl ?_
        refine zr_iload_n E dX7_handsFor_41 1 rfl ?_
        refine zr_iconst (v := 2) E dX7_handsFor_42 (by decide) ?_
        obtain ⟨r13, s12, os12, hm⟩ := cl_some hm
        refine zr_cVi (st := []) E mw_289 cm_X7_person0 (c_X7_person0 B.2.1 P s9 x1 2) os12 (rc_57 P) ⟨by decide, by decide⟩ rfl rfl (Nat.le_of_ble_eq_true rfl) dX7_handsFor_43 ?_
        refine zr_istore_n (lv' := [(2, .int r13), (0, .ref (zw_ad P 57)), (1, .int x1)]) E dX7_handsFor_46 (by decide) rfl ?_
        refine zr_iconst (v := (-1)) E dX7_handsFor_47 (by decide) ?_
        refine zr_istore_n (lv' := [(3, .int ((-1))), (2, .int r13), (0, .ref (zw_ad P 57)), (1, .int x1)]) E dX7_handsFor_48 (by decide) rfl ?_
        refine zr_iconst (v := 1) E dX7_handsFor_49 (by decide) ?_
        refine zr_istore (lv' := [(4, .int 1), (3, .int ((-1))), (2, .int r13), (0, .ref (zw_ad P 57)), (1, .int x1)]) E dX7_handsFor_50 (by decide) rfl ?_
        refine zr_sub (lv' := [(0, .ref (zw_ad P 57)), (1, .int x1), (2, .int r13), (3, .int ((-1))), (4, .int 1)]) [3, 4, 2, 1, 0] rfl ?_
        exact t_X7_handsFor_52 E hr 200 s12 x1 r13 (-1) 1 hm
      · rw [if_neg c11] at hm
        refine zr_aload_n E dX7_handsFor_33 0 rfl ?_
        refine zr_ldc E mw_394 dX7_handsFor_34 ?_
        obtain ⟨r15, s14, os14, hm⟩ := cl_some hm
        refine zr_cVi (st := []) E mw_127 cm_X7_finds (c_X7_finds B.2.1 P s9 (-1000005)) os14 (rc_57 P) ⟨by decide, by decide⟩ rfl rfl (Nat.le_of_ble_eq_true rfl) dX7_handsFor_36 ?_
        exact zr_iret E hr rfl hm dX7_handsFor_39
  · rw [if_pos c3] at hm
    refine zr_aload_n E dX7_handsFor_8 0 rfl ?_
    refine zr_ldc E mw_115 dX7_handsFor_9 ?_
    obtain ⟨r17, s16, os16, hm⟩ := cl_some hm
    refine zr_cVi (st := []) E mw_127 cm_X7_finds (c_X7_finds B.2.1 P s1 (-1000001)) os16 (rc_57 P) ⟨by decide, by decide⟩ rfl rfl (Nat.le_of_ble_eq_true rfl) dX7_handsFor_11 ?_
    exact zr_iret E hr rfl hm dX7_handsFor_14
-- X7_mayGet
set_option maxRecDepth 100000 in
set_option maxHeartbeats 4000000 in
theorem c_X7_mayGet (l : Launch) (P : zw_P) (σ : zw_S) (x1 : Int32) : zc_i l P yX7_mayGet cX7_mayGet 2 .boolean 1 [.ref (zw_ad P 57), .int x1] σ (m_X7_mayGet σ x1) := by
  refine zc_i.of (by decide) (Nat.le_of_ble_eq_true rfl) (fun B r τ E hl hr hm => ?_)
  subst hl
  refine zr_sub (lv' := [(0, .ref (zw_ad P 57)), (1, .int x1)]) [0, 1] rfl ?_
  unfold m_X7_mayGet at hm
  refine zr_aload_n E dX7_mayGet_0 0 rfl ?_
  refine zr_iload_n E dX7_mayGet_1 1 rfl ?_
  refine zr_iconst (v := 0) E dX7_mayGet_2 (by decide) ?_
  obtain ⟨r2, s1, os1, hm⟩ := cl_some hm
  refine zr_cVi (st := []) E mw_289 cm_X7_person0 (c_X7_person0 B.2.1 P σ x1 0) os1 (rc_57 P) ⟨by decide, by decide⟩ rfl rfl (Nat.le_of_ble_eq_true rfl) dX7_mayGet_3 ?_
  refine zr_if_ge (tgt := 24) E dX7_mayGet_6 (by decide) (fun c3 => ?_) (fun c3 => ?_)
  · rw [if_pos c3] at hm
    refine zr_iconst (v := 0) E dX7_mayGet_24 (by decide) ?_
    exact zr_iret E hr (by decide) hm dX7_mayGet_25
  · rw [if_neg c3] at hm
    refine zr_aload_n E dX7_mayGet_9 0 rfl ?_
    refine zr_iload_n E dX7_mayGet_10 1 rfl ?_
    refine zr_iconst (v := 1) E dX7_mayGet_11 (by decide) ?_
    obtain ⟨r5, s4, os4, hm⟩ := cl_some hm
    refine zr_cVi (st := []) E mw_289 cm_X7_person0 (c_X7_person0 B.2.1 P s1 x1 1) os4 (rc_57 P) ⟨by decide, by decide⟩ rfl rfl (Nat.le_of_ble_eq_true rfl) dX7_mayGet_12 ?_
    refine zr_bipush (v := 40) E dX7_mayGet_15 (by decide) ?_
    refine zr_icmp_ge (tgt := 24) E dX7_mayGet_17 (by decide) (fun c6 => ?_) (fun c6 => ?_)
    · rw [if_pos c6] at hm
      refine zr_iconst (v := 0) E dX7_mayGet_24 (by decide) ?_
      exact zr_iret E hr (by decide) hm dX7_mayGet_25
    · rw [if_neg c6] at hm
      refine zr_iconst (v := 1) E dX7_mayGet_20 (by decide) ?_
      refine zr_goto (tgt := 25) E dX7_mayGet_21 (by decide) ?_
      exact zr_iret E hr (by decide) hm dX7_mayGet_25
-- X7_waiting
set_option maxRecDepth 100000 in
set_option maxHeartbeats 4000000 in
theorem t_X7_waiting_4 {B : zw_B} {P : zw_P} {r : Int32} {τ : zw_S} (E : zf B P cX7_waiting RX7 3 2) (hr : B.2.2.2.2.2.2.2.2.1.sig.returnType = some .int) : ∀ (n : Nat) (σ : zw_S) (x1 : Int32) (x2 : Int32), m_X7_waiting_4 n σ x1 x2 = some (r, τ) → zw_G B P (zq_i B P r τ) 3 σ 4 [(0, .ref (zw_ad P 57)), (1, .int x1), (2, .int x2)] [] := by
  intro n
  induction n with
  | zero => intro σ x1 x2 hm; cases hm
  | succ n ih =>
    intro σ x1 x2 hm
    unfold m_X7_waiting_4 at hm
    refine zr_iload_n E dX7_waiting_4 2 rfl ?_
    refine zr_aload_n E dX7_waiting_5 0 rfl ?_
    refine fg_X7_9 E dX7_waiting_6 ?_
    refine zr_iconst (v := 3) E dX7_waiting_9 (by decide) ?_
    obtain ⟨hv1, v1, ev1, hm⟩ := rd_some hm
    refine zr_iald E ac_58 hv1 ev1 dX7_waiting_10 ?_
    refine zr_icmp_ge (tgt := 36) E dX7_waiting_11 (by decide) (fun c2 => ?_) (fun c2 => ?_)
    · rw [if_pos c2] at hm
      refine zr_iload_n E dX7_waiting_36 1 rfl ?_
      exact zr_iret E hr rfl hm dX7_waiting_37
    · rw [if_neg c2] at hm
      refine zr_iload_n E dX7_waiting_14 1 rfl ?_
      refine zr_aload_n E dX7_waiting_15 0 rfl ?_
      refine zr_iload_n E dX7_waiting_16 2 rfl ?_
      obtain ⟨r4, s3, os3, hm⟩ := cl_some hm
      refine zr_cVi (st := [.int x1]) E mw_736 cm_X7_mayGet (c_X7_mayGet B.2.1 P σ x2) os3 (rc_57 P) ⟨by decide, by decide⟩ rfl rfl (Nat.le_of_ble_eq_true rfl) dX7_waiting_17 ?_
      refine zr_if_eq (tgt := 27) E dX7_waiting_20 (by decide) (fun c5 => ?_) (fun c5 => ?_)
      · rw [if_pos c5] at hm
        refine zr_iconst (v := 0) E dX7_waiting_27 (by decide) ?_
        refine zr_iadd E dX7_waiting_28 ?_
        obtain ⟨v6, ev6, hm⟩ := nm_some hm
        refine zr_top ev6 ?_
        refine zr_istore_n (lv' := [(1, .int v6), (0, .ref (zw_ad P 57)), (2, .int x2)]) E dX7_waiting_29 (by decide) rfl ?_
        obtain ⟨v7, ev7, hm⟩ := nm_some hm
        refine zr_iinc (j := 2) (lv' := [(2, .int v7), (1, .int v6), (0, .ref (zw_ad P 57))]) E dX7_waiting_30 rfl ev7 (by decide) rfl ?_
        refine zr_goto (tgt := 4) E dX7_waiting_33 (by decide) ?_
        refine zr_sub (lv' := [(0, .ref (zw_ad P 57)), (1, .int v6), (2, .int v7)]) [2, 1, 0] rfl ?_
        exact ih s3 v6 v7 hm
      · rw [if_neg c5] at hm
        refine zr_iconst (v := 1) E dX7_waiting_23 (by decide) ?_
        refine zr_goto (tgt := 28) E dX7_waiting_24 (by decide) ?_
        refine zr_iadd E dX7_waiting_28 ?_
        obtain ⟨v8, ev8, hm⟩ := nm_some hm
        refine zr_top ev8 ?_
        refine zr_istore_n (lv' := [(1, .int v8), (0, .ref (zw_ad P 57)), (2, .int x2)]) E dX7_waiting_29 (by decide) rfl ?_
        obtain ⟨v9, ev9, hm⟩ := nm_some hm
        refine zr_iinc (j := 2) (lv' := [(2, .int v9), (1, .int v8), (0, .ref (zw_ad P 57))]) E dX7_waiting_30 rfl ev9 (by decide) rfl ?_
        refine zr_goto (tgt := 4) E dX7_waiting_33 (by decide) ?_
        refine zr_sub (lv' := [(0, .ref (zw_ad P 57)), (1, .int v8), (2, .int v9)]) [2, 1, 0] rfl ?_
        exact ih s3 v8 v9 hm
set_option maxRecDepth 100000 in
set_option maxHeartbeats 4000000 in
theorem c_X7_waiting (l : Launch) (P : zw_P) (σ : zw_S) : zc_i l P yX7_waiting cX7_waiting 3 .int 2 [.ref (zw_ad P 57)] σ (m_X7_waiting σ) := by
  refine zc_i.of (by decide) (Nat.le_of_ble_eq_true rfl) (fun B r τ E hl hr hm => ?_)
  subst hl
  refine zr_sub (lv' := [(0, .ref (zw_ad P 57))]) [0] rfl ?_
  unfold m_X7_waiting at hm
  refine zr_iconst (v := 0) E dX7_waiting_0 (by decide) ?_
  refine zr_istore_n (lv' := [(1, .int 0), (0, .ref (zw_ad P 57))]) E dX7_waiting_1 (by decide) rfl ?_
  refine zr_iconst (v := 0) E dX7_waiting_2 (by decide) ?_
  refine zr_istore_n (lv' := [(2, .int 0), (1, .int 0), (0, .ref (zw_ad P 57))]) E dX7_waiting_3 (by decide) rfl ?_
  refine zr_sub (lv' := [(0, .ref (zw_ad P 57)), (1, .int 0), (2, .int 0)]) [2, 1, 0] rfl ?_
  exact t_X7_waiting_4 E hr 200 σ 0 0 hm
-- X7_bestWay
set_option maxRecDepth 100000 in
set_option maxHeartbeats 4000000 in
theorem t_X7_bestWay_392 {B : zw_B} {P : zw_P} {r : Int32} {τ : zw_S} (E : zf B P cX7_bestWay RX7 10 8) (hr : B.2.2.2.2.2.2.2.2.1.sig.returnType = some .int) (R125 : zw_S → Int32 → Int32 → Int32 → Int32 → Int32 → Option (Int32 × zw_S)) (hR125 : ∀ (σ : zw_S) (x1 : Int32) (x2 : Int32) (x3 : Int32) (x4 : Int32) (x5 : Int32), R125 σ x1 x2 x3 x4 x5 = some (r, τ) → zw_G B P (zq_i B P r τ) 10 σ 125 [(0, .ref (zw_ad P 57)), (1, .int x1), (2, .int x2), (3, .int x3), (4, .int x4), (5, .int x5)] []) (R353 : zw_S → Int32 → Int32 → Int32 → Int32 → Int32 → Int32 → Option (Int32 × zw_S)) (hR353 : ∀ (σ : zw_S) (x1 : Int32) (x2 : Int32) (x3 : Int32) (x4 : Int32) (x5 : Int32) (x8 : Int32), R353 σ x1 x2 x3 x4 x5 x8 = some (r, τ) → zw_G B P (zq_i B P r τ) 10 σ 353 [(0, .ref (zw_ad P 57)), (1, .int x1), (2, .int x2), (3, .int x3), (4, .int x4), (5, .int x5), (8, .int x8)] []) (σ : zw_S) (x1 : Int32) (x2 : Int32) (x3 : Int32) (x4 : Int32) (x8 : Int32) (y0 : Int32) (hm : m_X7_bestWay_392 R125 R353 σ x1 x2 x3 x4 x8 y0 = some (r, τ)) : zw_G B P (zq_i B P r τ) 10 σ 392 [(0, .ref (zw_ad P 57)), (1, .int x1), (2, .int x2), (3, .int x3), (4, .int x4), (8, .int x8)] [.int y0] := by
  unfold m_X7_bestWay_392 at hm
  refine zr_istore (lv' := [(5, .int y0), (0, .ref (zw_ad P 57)), (1, .int x1), (2, .int x2), (3, .int x3), (4, .int x4), (8, .int x8)]) E dX7_bestWay_392 (by decide) rfl ?_
  refine zr_aload_n E dX7_bestWay_394 1 rfl ?_
  refine fg_X7_25 E dX7_bestWay_395 ?_
  refine zr_iload E dX7_bestWay_398 6 rfl ?_
  refine zr_iload E dX7_bestWay_400 0 rfl ?_
  refine zr_if_eq (tgt := 417) E dX7_bestWay_402 (by decide) (fun c1 => ?_) (fun c1 => ?_)
  · rw [if_pos c1] at hm
    refine zr_iconst (v := (-1)) E dX7_bestWay_417 (by decide) ?_
    obtain ⟨hs2, s2, es2, hm⟩ := wt_some hm
    refine zr_iast E ac_63 hs2 es2 dX7_bestWay_418 ?_
    obtain ⟨v3, ev3, hm⟩ := nm_some hm
    refine zr_iinc (j := 6) (lv' := [(8, .int v3), (5, .int y0), (0, .ref (zw_ad P 57)), (1, .int x1), (2, .int x2), (3, .int x3), (4, .int x4)]) E dX7_bestWay_419 rfl ev3 (by decide) rfl ?_
    refine zr_goto (tgt := 353) E dX7_bestWay_422 (by decide) ?_
    refine zr_sub (lv' := [(0, .ref (zw_ad P 57)), (1, .int x1), (2, .int x2), (3, .int x3), (4, .int x4), (5, .int y0), (8, .int v3)]) [2, 3, 4, 5, 6, 1, 0] rfl ?_
    exact hR353 s2 x1 x2 x3 x4 y0 v3 hm
  · rw [if_neg c1] at hm
    refine zr_aload_n E dX7_bestWay_405 1 rfl ?_
    refine fg_X7_25 E dX7_bestWay_406 ?_
    refine zr_iload E dX7_bestWay_409 6 rfl ?_
    obtain ⟨hv4, v4, ev4, hm⟩ := rd_some hm
    refine zr_iald E ac_63 hv4 ev4 dX7_bestWay_411 ?_
    refine zr_iconst (v := 1) E dX7_bestWay_412 (by decide) ?_
    refine zr_iadd E dX7_bestWay_413 ?_
    refine zr_goto (tgt := 418) E dX7_bestWay_414 (by decide) ?_
    obtain ⟨hs5, s5, es5, hm⟩ := wt_some hm
    refine zr_iast E ac_63 hs5 es5 dX7_bestWay_418 ?_
    obtain ⟨v6, ev6, hm⟩ := nm_some hm
    refine zr_iinc (j := 6) (lv' := [(8, .int v6), (5, .int y0), (0, .ref (zw_ad P 57)), (1, .int x1), (2, .int x2), (3, .int x3), (4, .int x4)]) E dX7_bestWay_419 rfl ev6 (by decide) rfl ?_
    refine zr_goto (tgt := 353) E dX7_bestWay_422 (by decide) ?_
    refine zr_sub (lv' := [(0, .ref (zw_ad P 57)), (1, .int x1), (2, .int x2), (3, .int x3), (4, .int x4), (5, .int y0), (8, .int v6)]) [2, 3, 4, 5, 6, 1, 0] rfl ?_
    exact hR353 s5 x1 x2 x3 x4 y0 v6 hm
set_option maxRecDepth 100000 in
set_option maxHeartbeats 4000000 in
theorem t_X7_bestWay_353 {B : zw_B} {P : zw_P} {r : Int32} {τ : zw_S} (E : zf B P cX7_bestWay RX7 10 8) (hr : B.2.2.2.2.2.2.2.2.1.sig.returnType = some .int) (R125 : zw_S → Int32 → Int32 → Int32 → Int32 → Int32 → Option (Int32 × zw_S)) (hR125 : ∀ (σ : zw_S) (x1 : Int32) (x2 : Int32) (x3 : Int32) (x4 : Int32) (x5 : Int32), R125 σ x1 x2 x3 x4 x5 = some (r, τ) → zw_G B P (zq_i B P r τ) 10 σ 125 [(0, .ref (zw_ad P 57)), (1, .int x1), (2, .int x2), (3, .int x3), (4, .int x4), (5, .int x5)] []) : ∀ (n : Nat) (σ : zw_S) (x1 : Int32) (x2 : Int32) (x3 : Int32) (x4 : Int32) (x5 : Int32) (x8 : Int32), m_X7_bestWay_353 R125 n σ x1 x2 x3 x4 x5 x8 = some (r, τ) → zw_G B P (zq_i B P r τ) 10 σ 353 [(0, .ref (zw_ad P 57)), (1, .int x1), (2, .int x2), (3, .int x3), (4, .int x4), (5, .int x5), (8, .int x8)] [] := by
  intro n
  induction n with
  | zero => intro σ x1 x2 x3 x4 x5 x8 hm; cases hm
  | succ n ih =>
    intro σ x1 x2 x3 x4 x5 x8 hm
    unfold m_X7_bestWay_353 at hm
    refine zr_iload E dX7_bestWay_353 6 rfl ?_
    refine zr_if_lt (tgt := 425) E dX7_bestWay_355 (by decide) (fun c1 => ?_) (fun c1 => ?_)
    · rw [if_pos c1] at hm
      refine zr_goto (tgt := 125) E dX7_bestWay_425 (by decide) ?_
      refine zr_sub (lv' := [(0, .ref (zw_ad P 57)), (1, .int x1), (2, .int x2), (3, .int x3), (4, .int x4), (5, .int x5)]) [0, 1, 2, 3, 4, 5] rfl ?_
      exact hR125 σ x1 x2 x3 x4 x5 hm
    · rw [if_neg c1] at hm
      refine zr_iload E dX7_bestWay_358 5 rfl ?_
      refine zr_if_ne (tgt := 425) E dX7_bestWay_360 (by decide) (fun c2 => ?_) (fun c2 => ?_)
      · rw [if_neg c2] at hm
        refine zr_goto (tgt := 125) E dX7_bestWay_425 (by decide) ?_
        refine zr_sub (lv' := [(0, .ref (zw_ad P 57)), (1, .int x1), (2, .int x2), (3, .int x3), (4, .int x4), (5, .int x5)]) [0, 1, 2, 3, 4, 5] rfl ?_
        exact hR125 σ x1 x2 x3 x4 x5 hm
      · rw [if_pos c2] at hm
        refine zr_iload_n E dX7_bestWay_363 3 rfl ?_
        refine zr_iload E dX7_bestWay_364 6 rfl ?_
        refine zr_ishr E dX7_bestWay_366 ?_
        refine zr_iconst (v := 1) E dX7_bestWay_367 (by decide) ?_
        refine zr_iand E dX7_bestWay_368 ?_
        refine zr_if_ne (tgt := 375) E dX7_bestWay_369 (by decide) (fun c3 => ?_) (fun c3 => ?_)
        · rw [if_neg c3] at hm
          refine zr_aload_n E dX7_bestWay_375 0 rfl ?_
          refine fg_X7_25 E dX7_bestWay_376 ?_
          refine zr_iload E dX7_bestWay_379 6 rfl ?_
          obtain ⟨hv4, v4, ev4, hm⟩ := rd_some hm
          refine zr_iald E ac_63 hv4 ev4 dX7_bestWay_381 ?_
          refine zr_bipush (v := 7) E dX7_bestWay_382 (by decide) ?_
          refine zr_icmp_ge (tgt := 391) E dX7_bestWay_384 (by decide) (fun c5 => ?_) (fun c5 => ?_)
          · rw [if_pos c5] at hm
            refine zr_iconst (v := 0) E dX7_bestWay_391 (by decide) ?_
            refine zr_sub (lv' := [(0, .ref (zw_ad P 57)), (1, .int x1), (2, .int x2), (3, .int x3), (4, .int x4), (8, .int x8)]) [0, 1, 2, 3, 4, 6] rfl ?_
            exact t_X7_bestWay_392 E hr R125 hR125 (m_X7_bestWay_353 R125 n) ih σ x1 x2 x3 x4 x8 0 hm
          · rw [if_neg c5] at hm
            refine zr_iconst (v := 1) E dX7_bestWay_387 (by decide) ?_
            refine zr_goto (tgt := 392) E dX7_bestWay_388 (by decide) ?_
            refine zr_sub (lv' := [(0, .ref (zw_ad P 57)), (1, .int x1), (2, .int x2), (3, .int x3), (4, .int x4), (8, .int x8)]) [0, 1, 2, 3, 4, 6] rfl ?_
            exact t_X7_bestWay_392 E hr R125 hR125 (m_X7_bestWay_353 R125 n) ih σ x1 x2 x3 x4 x8 1 hm
        · rw [if_pos c3] at hm
          refine zr_goto (tgt := 419) E dX7_bestWay_372 (by decide) ?_
          obtain ⟨v6, ev6, hm⟩ := nm_some hm
          refine zr_iinc (j := 6) (lv' := [(8, .int v6), (0, .ref (zw_ad P 57)), (1, .int x1), (2, .int x2), (3, .int x3), (4, .int x4), (5, .int x5)]) E dX7_bestWay_419 rfl ev6 (by decide) rfl ?_
          refine zr_goto (tgt := 353) E dX7_bestWay_422 (by decide) ?_
          refine zr_sub (lv' := [(0, .ref (zw_ad P 57)), (1, .int x1), (2, .int x2), (3, .int x3), (4, .int x4), (5, .int x5), (8, .int v6)]) [1, 2, 3, 4, 5, 6, 0] rfl ?_
          exact ih σ x1 x2 x3 x4 x5 v6 hm
set_option maxRecDepth 100000 in
set_option maxHeartbeats 4000000 in
theorem t_X7_bestWay_330 {B : zw_B} {P : zw_P} {r : Int32} {τ : zw_S} (E : zf B P cX7_bestWay RX7 10 8) (hr : B.2.2.2.2.2.2.2.2.1.sig.returnType = some .int) (R125 : zw_S → Int32 → Int32 → Int32 → Int32 → Int32 → Option (Int32 × zw_S)) (hR125 : ∀ (σ : zw_S) (x1 : Int32) (x2 : Int32) (x3 : Int32) (x4 : Int32) (x5 : Int32), R125 σ x1 x2 x3 x4 x5 = some (r, τ) → zw_G B P (zq_i B P r τ) 10 σ 125 [(0, .ref (zw_ad P 57)), (1, .int x1), (2, .int x2), (3, .int x3), (4, .int x4), (5, .int x5)] []) (σ : zw_S) (x1 : Int32) (x2 : Int32) (x3 : Int32) (x4 : Int32) (x8 : Int32) (hm : m_X7_bestWay_330 R125 σ x1 x2 x3 x4 x8 = some (r, τ)) : zw_G B P (zq_i B P r τ) 10 σ 330 [(0, .ref (zw_ad P 57)), (1, .int x1), (2, .int x2), (3, .int x3), (4, .int x4), (8, .int x8)] [] := by
  unfold m_X7_bestWay_330 at hm
  refine zr_iload E dX7_bestWay_330 5 rfl ?_
  refine zr_iload E dX7_bestWay_332 4 rfl ?_
  refine zr_icmp_le (tgt := 342) E dX7_bestWay_334 (by decide) (fun c1 => ?_) (fun c1 => ?_)
  · rw [if_pos c1] at hm
    refine zr_iload E dX7_bestWay_342 4 rfl ?_
    refine zr_istore (lv' := [(4, .int x4), (0, .ref (zw_ad P 57)), (1, .int x1), (2, .int x2), (3, .int x3), (8, .int x8)]) E dX7_bestWay_344 (by decide) rfl ?_
    refine zr_iconst (v := 0) E dX7_bestWay_346 (by decide) ?_
    refine zr_istore (lv' := [(5, .int 0), (4, .int x4), (0, .ref (zw_ad P 57)), (1, .int x1), (2, .int x2), (3, .int x3), (8, .int x8)]) E dX7_bestWay_347 (by decide) rfl ?_
    refine zr_bipush (v := 7) E dX7_bestWay_349 (by decide) ?_
    refine zr_istore (lv' := [(8, .int 7), (5, .int 0), (4, .int x4), (0, .ref (zw_ad P 57)), (1, .int x1), (2, .int x2), (3, .int x3)]) E dX7_bestWay_351 (by decide) rfl ?_
    refine zr_sub (lv' := [(0, .ref (zw_ad P 57)), (1, .int x1), (2, .int x2), (3, .int x3), (4, .int x4), (5, .int 0), (8, .int 7)]) [3, 4, 5, 6, 2, 1, 0] rfl ?_
    exact t_X7_bestWay_353 E hr R125 hR125 200 σ x1 x2 x3 x4 0 7 hm
  · rw [if_neg c1] at hm
    refine zr_iload E dX7_bestWay_337 5 rfl ?_
    refine zr_goto (tgt := 344) E dX7_bestWay_339 (by decide) ?_
    refine zr_istore (lv' := [(4, .int x8), (0, .ref (zw_ad P 57)), (1, .int x1), (2, .int x2), (3, .int x3), (8, .int x8)]) E dX7_bestWay_344 (by decide) rfl ?_
    refine zr_iconst (v := 0) E dX7_bestWay_346 (by decide) ?_
    refine zr_istore (lv' := [(5, .int 0), (4, .int x8), (0, .ref (zw_ad P 57)), (1, .int x1), (2, .int x2), (3, .int x3), (8, .int x8)]) E dX7_bestWay_347 (by decide) rfl ?_
    refine zr_bipush (v := 7) E dX7_bestWay_349 (by decide) ?_
    refine zr_istore (lv' := [(8, .int 7), (5, .int 0), (4, .int x8), (0, .ref (zw_ad P 57)), (1, .int x1), (2, .int x2), (3, .int x3)]) E dX7_bestWay_351 (by decide) rfl ?_
    refine zr_sub (lv' := [(0, .ref (zw_ad P 57)), (1, .int x1), (2, .int x2), (3, .int x3), (4, .int x8), (5, .int 0), (8, .int 7)]) [3, 4, 5, 6, 2, 1, 0] rfl ?_
    exact t_X7_bestWay_353 E hr R125 hR125 200 σ x1 x2 x3 x8 0 7 hm
set_option maxRecDepth 100000 in
set_option maxHeartbeats 4000000 in
theorem t_X7_bestWay_296 {B : zw_B} {P : zw_P} {r : Int32} {τ : zw_S} (E : zf B P cX7_bestWay RX7 10 8) (hr : B.2.2.2.2.2.2.2.2.1.sig.returnType = some .int) (R125 : zw_S → Int32 → Int32 → Int32 → Int32 → Int32 → Option (Int32 × zw_S)) (hR125 : ∀ (σ : zw_S) (x1 : Int32) (x2 : Int32) (x3 : Int32) (x4 : Int32) (x5 : Int32), R125 σ x1 x2 x3 x4 x5 = some (r, τ) → zw_G B P (zq_i B P r τ) 10 σ 125 [(0, .ref (zw_ad P 57)), (1, .int x1), (2, .int x2), (3, .int x3), (4, .int x4), (5, .int x5)] []) : ∀ (n : Nat) (σ : zw_S) (x1 : Int32) (x2 : Int32) (x3 : Int32) (x4 : Int32) (x8 : Int32) (x9 : Int32), m_X7_bestWay_296 R125 n σ x1 x2 x3 x4 x8 x9 = some (r, τ) → zw_G B P (zq_i B P r τ) 10 σ 296 [(0, .ref (zw_ad P 57)), (1, .int x1), (2, .int x2), (3, .int x3), (4, .int x4), (8, .int x8), (9, .int x9)] [] := by
  intro n
  induction n with
  | zero => intro σ x1 x2 x3 x4 x8 x9 hm; cases hm
  | succ n ih =>
    intro σ x1 x2 x3 x4 x8 x9 hm
    unfold m_X7_bestWay_296 at hm
    refine zr_iload E dX7_bestWay_296 6 rfl ?_
    refine zr_bipush (v := 8) E dX7_bestWay_298 (by decide) ?_
    refine zr_icmp_ge (tgt := 330) E dX7_bestWay_300 (by decide) (fun c1 => ?_) (fun c1 => ?_)
    · rw [if_pos c1] at hm
      refine zr_sub (lv' := [(0, .ref (zw_ad P 57)), (1, .int x1), (2, .int x2), (3, .int x3), (4, .int x4), (8, .int x8)]) [0, 1, 2, 3, 4, 5] rfl ?_
      exact t_X7_bestWay_330 E hr R125 hR125 σ x1 x2 x3 x4 x8 hm
    · rw [if_neg c1] at hm
      refine zr_iload E dX7_bestWay_303 5 rfl ?_
      refine zr_iload E dX7_bestWay_305 4 rfl ?_
      refine zr_icmp_le (tgt := 330) E dX7_bestWay_307 (by decide) (fun c2 => ?_) (fun c2 => ?_)
      · rw [if_pos c2] at hm
        refine zr_sub (lv' := [(0, .ref (zw_ad P 57)), (1, .int x1), (2, .int x2), (3, .int x3), (4, .int x4), (8, .int x8)]) [0, 1, 2, 3, 4, 5] rfl ?_
        exact t_X7_bestWay_330 E hr R125 hR125 σ x1 x2 x3 x4 x8 hm
      · rw [if_neg c2] at hm
        refine zr_aload_n E dX7_bestWay_310 0 rfl ?_
        refine fg_X7_28 E dX7_bestWay_311 ?_
        refine zr_iload E dX7_bestWay_314 6 rfl ?_
        refine zr_aload_n E dX7_bestWay_316 0 rfl ?_
        refine fg_X7_25 E dX7_bestWay_317 ?_
        refine zr_iload E dX7_bestWay_320 6 rfl ?_
        obtain ⟨hv3, v3, ev3, hm⟩ := rd_some hm
        refine zr_iald E ac_63 hv3 ev3 dX7_bestWay_322 ?_
        obtain ⟨hs4, s4, es4, hm⟩ := wt_some hm
        refine zr_iast E ac_64 hs4 es4 dX7_bestWay_323 ?_
        obtain ⟨v5, ev5, hm⟩ := nm_some hm
        refine zr_iinc (j := 6) (lv' := [(9, .int v5), (0, .ref (zw_ad P 57)), (1, .int x1), (2, .int x2), (3, .int x3), (4, .int x4), (8, .int x8)]) E dX7_bestWay_324 rfl ev5 (by decide) rfl ?_
        refine zr_goto (tgt := 296) E dX7_bestWay_327 (by decide) ?_
        refine zr_sub (lv' := [(0, .ref (zw_ad P 57)), (1, .int x1), (2, .int x2), (3, .int x3), (4, .int x4), (8, .int x8), (9, .int v5)]) [1, 2, 3, 4, 5, 6, 0] rfl ?_
        exact ih s4 x1 x2 x3 x4 x8 v5 hm
set_option maxRecDepth 100000 in
set_option maxHeartbeats 4000000 in
theorem t_X7_bestWay_271 {B : zw_B} {P : zw_P} {r : Int32} {τ : zw_S} (E : zf B P cX7_bestWay RX7 10 8) (hr : B.2.2.2.2.2.2.2.2.1.sig.returnType = some .int) (R125 : zw_S → Int32 → Int32 → Int32 → Int32 → Int32 → Option (Int32 × zw_S)) (hR125 : ∀ (σ : zw_S) (x1 : Int32) (x2 : Int32) (x3 : Int32) (x4 : Int32) (x5 : Int32), R125 σ x1 x2 x3 x4 x5 = some (r, τ) → zw_G B P (zq_i B P r τ) 10 σ 125 [(0, .ref (zw_ad P 57)), (1, .int x1), (2, .int x2), (3, .int x3), (4, .int x4), (5, .int x5)] []) (σ : zw_S) (x1 : Int32) (x2 : Int32) (x3 : Int32) (x4 : Int32) (hm : m_X7_bestWay_271 R125 σ x1 x2 x3 x4 = some (r, τ)) : zw_G B P (zq_i B P r τ) 10 σ 271 [(0, .ref (zw_ad P 57)), (1, .int x1), (2, .int x2), (3, .int x3), (4, .int x4)] [] := by
  unfold m_X7_bestWay_271 at hm
  refine zr_aload_n E dX7_bestWay_271 0 rfl ?_
  refine zr_iload_n E dX7_bestWay_272 1 rfl ?_
  obtain ⟨s1, os1, hm⟩ := cv_some hm
  refine zr_cVv (st := []) E mw_511 cm_X7_yearsGo (c_X7_yearsGo B.2.1 P σ x1) os1 (rc_57 P) ⟨by decide, by decide⟩ rfl rfl (Nat.le_of_ble_eq_true rfl) dX7_bestWay_273 ?_
  refine zr_aload_n E dX7_bestWay_276 0 rfl ?_
  obtain ⟨r3, s2, os2, hm⟩ := cl_some hm
  refine zr_cVi (st := []) E mw_596 cm_X7_endedWorth (c_X7_endedWorth B.2.1 P s1) os2 (rc_57 P) ⟨by decide, by decide⟩ rfl rfl (Nat.le_of_ble_eq_true rfl) dX7_bestWay_277 ?_
  refine zr_istore (lv' := [(8, .int r3), (0, .ref (zw_ad P 57)), (1, .int x1), (2, .int x2), (3, .int x3), (4, .int x4)]) E dX7_bestWay_280 (by decide) rfl ?_
  refine zr_aload_n E dX7_bestWay_282 1 rfl ?_
  refine fg_X7_19 E dX7_bestWay_283 ?_
  refine zr_aload_n E dX7_bestWay_286 1 rfl ?_
  refine fg_X7_9 E dX7_bestWay_287 ?_
  obtain ⟨s4, os4, hm⟩ := cv_some hm
  refine zr_cSv (st := []) E mw_585 cm_X7_row (c_X7_row B.2.1 P 61 58 ac_61 ac_58 s2) os4 ⟨by decide, by decide⟩ rfl rfl (Nat.le_of_ble_eq_true rfl) dX7_bestWay_290 ?_
  refine zr_iconst (v := 0) E dX7_bestWay_293 (by decide) ?_
  refine zr_istore (lv' := [(9, .int 0), (8, .int r3), (0, .ref (zw_ad P 57)), (1, .int x1), (2, .int x2), (3, .int x3), (4, .int x4)]) E dX7_bestWay_294 (by decide) rfl ?_
  refine zr_sub (lv' := [(0, .ref (zw_ad P 57)), (1, .int x1), (2, .int x2), (3, .int x3), (4, .int x4), (8, .int r3), (9, .int 0)]) [2, 3, 4, 5, 6, 1, 0] rfl ?_
  exact t_X7_bestWay_296 E hr R125 hR125 200 s4 x1 x2 x3 x4 r3 0 hm
set_option maxRecDepth 100000 in
set_option maxHeartbeats 4000000 in
theorem t_X7_bestWay_229 {B : zw_B} {P : zw_P} {r : Int32} {τ : zw_S} (E : zf B P cX7_bestWay RX7 10 8) (hr : B.2.2.2.2.2.2.2.2.1.sig.returnType = some .int) (R125 : zw_S → Int32 → Int32 → Int32 → Int32 → Int32 → Option (Int32 × zw_S)) (hR125 : ∀ (σ : zw_S) (x1 : Int32) (x2 : Int32) (x3 : Int32) (x4 : Int32) (x5 : Int32), R125 σ x1 x2 x3 x4 x5 = some (r, τ) → zw_G B P (zq_i B P r τ) 10 σ 125 [(0, .ref (zw_ad P 57)), (1, .int x1), (2, .int x2), (3, .int x3), (4, .int x4), (5, .int x5)] []) : ∀ (n : Nat) (σ : zw_S) (x1 : Int32) (x2 : Int32) (x3 : Int32) (x4 : Int32) (x8 : Int32), m_X7_bestWay_229 R125 n σ x1 x2 x3 x4 x8 = some (r, τ) → zw_G B P (zq_i B P r τ) 10 σ 229 [(0, .ref (zw_ad P 57)), (1, .int x1), (2, .int x2), (3, .int x3), (4, .int x4), (8, .int x8)] [] := by
  intro n
  induction n with
  | zero => intro σ x1 x2 x3 x4 x8 hm; cases hm
  | succ n ih =>
    intro σ x1 x2 x3 x4 x8 hm
    unfold m_X7_bestWay_229 at hm
    refine zr_iload E dX7_bestWay_229 5 rfl ?_
    refine zr_bipush (v := 8) E dX7_bestWay_231 (by decide) ?_
    refine zr_icmp_ge (tgt := 271) E dX7_bestWay_233 (by decide) (fun c1 => ?_) (fun c1 => ?_)
    · rw [if_pos c1] at hm
      refine zr_sub (lv' := [(0, .ref (zw_ad P 57)), (1, .int x1), (2, .int x2), (3, .int x3), (4, .int x4)]) [0, 1, 2, 3, 4] rfl ?_
      exact t_X7_bestWay_271 E hr R125 hR125 σ x1 x2 x3 x4 hm
    · rw [if_neg c1] at hm
      refine zr_aload_n E dX7_bestWay_236 0 rfl ?_
      refine fg_X7_25 E dX7_bestWay_237 ?_
      refine zr_iload E dX7_bestWay_240 5 rfl ?_
      obtain ⟨hv2, v2, ev2, hm⟩ := rd_some hm
      refine zr_iald E ac_63 hv2 ev2 dX7_bestWay_242 ?_
      refine zr_if_lt (tgt := 265) E dX7_bestWay_243 (by decide) (fun c3 => ?_) (fun c3 => ?_)
      · rw [if_pos c3] at hm
        obtain ⟨v4, ev4, hm⟩ := nm_some hm
        refine zr_iinc (j := 5) (lv' := [(8, .int v4), (0, .ref (zw_ad P 57)), (1, .int x1), (2, .int x2), (3, .int x3), (4, .int x4)]) E dX7_bestWay_265 rfl ev4 (by decide) rfl ?_
        refine zr_goto (tgt := 229) E dX7_bestWay_268 (by decide) ?_
        refine zr_sub (lv' := [(0, .ref (zw_ad P 57)), (1, .int x1), (2, .int x2), (3, .int x3), (4, .int x4), (8, .int v4)]) [1, 2, 3, 4, 5, 0] rfl ?_
        exact ih σ x1 x2 x3 x4 v4 hm
      · rw [if_neg c3] at hm
        refine zr_aload_n E dX7_bestWay_246 0 rfl ?_
        refine fg_X7_9 E dX7_bestWay_247 ?_
        refine zr_bipush (v := 100) E dX7_bestWay_250 (by decide) ?_
        refine zr_iconst (v := 4) E dX7_bestWay_252 (by decide) ?_
        refine zr_iload E dX7_bestWay_253 5 rfl ?_
        refine zr_imul E dX7_bestWay_255 ?_
        refine zr_iadd E dX7_bestWay_256 ?_
        refine zr_aload_n E dX7_bestWay_257 0 rfl ?_
        refine fg_X7_25 E dX7_bestWay_258 ?_
        refine zr_iload E dX7_bestWay_261 5 rfl ?_
        obtain ⟨hv5, v5, ev5, hm⟩ := rd_some hm
        refine zr_iald E ac_63 hv5 ev5 dX7_bestWay_263 ?_
        obtain ⟨hs6, s6, es6, hm⟩ := wt_some hm
        refine zr_iast E ac_58 hs6 es6 dX7_bestWay_264 ?_
        obtain ⟨v7, ev7, hm⟩ := nm_some hm
        refine zr_iinc (j := 5) (lv' := [(8, .int v7), (0, .ref (zw_ad P 57)), (1, .int x1), (2, .int x2), (3, .int x3), (4, .int x4)]) E dX7_bestWay_265 rfl ev7 (by decide) rfl ?_
        refine zr_goto (tgt := 229) E dX7_bestWay_268 (by decide) ?_
        refine zr_sub (lv' := [(0, .ref (zw_ad P 57)), (1, .int x1), (2, .int x2), (3, .int x3), (4, .int x4), (8, .int v7)]) [1, 2, 3, 4, 5, 0] rfl ?_
        exact ih s6 x1 x2 x3 x4 v7 hm
set_option maxRecDepth 100000 in
set_option maxHeartbeats 4000000 in
theorem t_X7_bestWay_221 {B : zw_B} {P : zw_P} {r : Int32} {τ : zw_S} (E : zf B P cX7_bestWay RX7 10 8) (hr : B.2.2.2.2.2.2.2.2.1.sig.returnType = some .int) (R125 : zw_S → Int32 → Int32 → Int32 → Int32 → Int32 → Option (Int32 × zw_S)) (hR125 : ∀ (σ : zw_S) (x1 : Int32) (x2 : Int32) (x3 : Int32) (x4 : Int32) (x5 : Int32), R125 σ x1 x2 x3 x4 x5 = some (r, τ) → zw_G B P (zq_i B P r τ) 10 σ 125 [(0, .ref (zw_ad P 57)), (1, .int x1), (2, .int x2), (3, .int x3), (4, .int x4), (5, .int x5)] []) (σ : zw_S) (x1 : Int32) (x2 : Int32) (x3 : Int32) (x4 : Int32) (x7 : Int32) (hm : m_X7_bestWay_221 R125 σ x1 x2 x3 x4 x7 = some (r, τ)) : zw_G B P (zq_i B P r τ) 10 σ 221 [(0, .ref (zw_ad P 57)), (1, .int x1), (2, .int x2), (3, .int x3), (4, .int x4), (7, .int x7)] [] := by
  unfold m_X7_bestWay_221 at hm
  refine zr_iload E dX7_bestWay_221 5 rfl ?_
  refine zr_if_eq (tgt := 346) E dX7_bestWay_223 (by decide) (fun c1 => ?_) (fun c1 => ?_)
  · rw [if_pos c1] at hm
    refine zr_iconst (v := 0) E dX7_bestWay_346 (by decide) ?_
    refine zr_istore (lv' := [(5, .int 0), (0, .ref (zw_ad P 57)), (1, .int x1), (2, .int x2), (3, .int x3), (4, .int x4), (7, .int x7)]) E dX7_bestWay_347 (by decide) rfl ?_
    refine zr_bipush (v := 7) E dX7_bestWay_349 (by decide) ?_
    refine zr_istore (lv' := [(8, .int 7), (5, .int 0), (0, .ref (zw_ad P 57)), (1, .int x1), (2, .int x2), (3, .int x3), (4, .int x4), (7, .int x7)]) E dX7_bestWay_351 (by decide) rfl ?_
    refine zr_sub (lv' := [(0, .ref (zw_ad P 57)), (1, .int x1), (2, .int x2), (3, .int x3), (4, .int x4), (5, .int 0), (8, .int 7)]) [2, 3, 4, 5, 6, 1, 0] rfl ?_
    exact t_X7_bestWay_353 E hr R125 hR125 200 σ x1 x2 x3 x4 0 7 hm
  · rw [if_neg c1] at hm
    refine zr_iconst (v := 0) E dX7_bestWay_226 (by decide) ?_
    refine zr_istore (lv' := [(8, .int 0), (0, .ref (zw_ad P 57)), (1, .int x1), (2, .int x2), (3, .int x3), (4, .int x4), (7, .int x7)]) E dX7_bestWay_227 (by decide) rfl ?_
    refine zr_sub (lv' := [(0, .ref (zw_ad P 57)), (1, .int x1), (2, .int x2), (3, .int x3), (4, .int x4), (8, .int 0)]) [1, 2, 3, 4, 5, 0] rfl ?_
    exact t_X7_bestWay_229 E hr R125 hR125 200 σ x1 x2 x3 x4 0 hm
set_option maxRecDepth 100000 in
set_option maxHeartbeats 4000000 in
theorem t_X7_bestWay_199 {B : zw_B} {P : zw_P} {r : Int32} {τ : zw_S} (E : zf B P cX7_bestWay RX7 10 8) (hr : B.2.2.2.2.2.2.2.2.1.sig.returnType = some .int) (R125 : zw_S → Int32 → Int32 → Int32 → Int32 → Int32 → Option (Int32 × zw_S)) (hR125 : ∀ (σ : zw_S) (x1 : Int32) (x2 : Int32) (x3 : Int32) (x4 : Int32) (x5 : Int32), R125 σ x1 x2 x3 x4 x5 = some (r, τ) → zw_G B P (zq_i B P r τ) 10 σ 125 [(0, .ref (zw_ad P 57)), (1, .int x1), (2, .int x2), (3, .int x3), (4, .int x4), (5, .int x5)] []) (R139 : zw_S → Int32 → Int32 → Int32 → Int32 → Int32 → Int32 → Int32 → Option (Int32 × zw_S)) (hR139 : ∀ (σ : zw_S) (x1 : Int32) (x2 : Int32) (x3 : Int32) (x4 : Int32) (x6 : Int32) (x7 : Int32) (x8 : Int32), R139 σ x1 x2 x3 x4 x6 x7 x8 = some (r, τ) → zw_G B P (zq_i B P r τ) 10 σ 139 [(0, .ref (zw_ad P 57)), (1, .int x1), (2, .int x2), (3, .int x3), (4, .int x4), (6, .int x6), (7, .int x7), (8, .int x8)] []) (σ : zw_S) (x1 : Int32) (x2 : Int32) (x3 : Int32) (x4 : Int32) (x6 : Int32) (x8 : Int32) (y0 : Int32) (hm : m_X7_bestWay_199 R125 R139 σ x1 x2 x3 x4 x6 x8 y0 = some (r, τ)) : zw_G B P (zq_i B P r τ) 10 σ 199 [(0, .ref (zw_ad P 57)), (1, .int x1), (2, .int x2), (3, .int x3), (4, .int x4), (6, .int x6), (8, .int x8)] [.int y0] := by
  unfold m_X7_bestWay_199 at hm
  refine zr_istore (lv' := [(7, .int y0), (0, .ref (zw_ad P 57)), (1, .int x1), (2, .int x2), (3, .int x3), (4, .int x4), (6, .int x6), (8, .int x8)]) E dX7_bestWay_199 (by decide) rfl ?_
  refine zr_iload E dX7_bestWay_201 6 rfl ?_
  refine zr_iconst (v := 1) E dX7_bestWay_203 (by decide) ?_
  refine zr_aload_n E dX7_bestWay_204 1 rfl ?_
  refine fg_X7_25 E dX7_bestWay_205 ?_
  refine zr_iload E dX7_bestWay_208 7 rfl ?_
  obtain ⟨hv1, v1, ev1, hm⟩ := rd_some hm
  refine zr_iald E ac_63 hv1 ev1 dX7_bestWay_210 ?_
  refine zr_ishl E dX7_bestWay_211 ?_
  refine zr_ior E dX7_bestWay_212 ?_
  obtain ⟨v2, ev2, hm⟩ := nm_some hm
  refine zr_top ev2 ?_
  refine zr_istore (lv' := [(6, .int v2), (7, .int y0), (0, .ref (zw_ad P 57)), (1, .int x1), (2, .int x2), (3, .int x3), (4, .int x4), (8, .int x8)]) E dX7_bestWay_213 (by decide) rfl ?_
  obtain ⟨v3, ev3, hm⟩ := nm_some hm
  refine zr_iinc (j := 7) (lv' := [(8, .int v3), (6, .int v2), (7, .int y0), (0, .ref (zw_ad P 57)), (1, .int x1), (2, .int x2), (3, .int x3), (4, .int x4)]) E dX7_bestWay_215 rfl ev3 (by decide) rfl ?_
  refine zr_goto (tgt := 139) E dX7_bestWay_218 (by decide) ?_
  refine zr_sub (lv' := [(0, .ref (zw_ad P 57)), (1, .int x1), (2, .int x2), (3, .int x3), (4, .int x4), (6, .int v2), (7, .int y0), (8, .int v3)]) [3, 4, 5, 6, 7, 1, 2, 0] rfl ?_
  exact hR139 σ x1 x2 x3 x4 v2 y0 v3 hm
set_option maxRecDepth 100000 in
set_option maxHeartbeats 4000000 in
theorem t_X7_bestWay_139 {B : zw_B} {P : zw_P} {r : Int32} {τ : zw_S} (E : zf B P cX7_bestWay RX7 10 8) (hr : B.2.2.2.2.2.2.2.2.1.sig.returnType = some .int) (R125 : zw_S → Int32 → Int32 → Int32 → Int32 → Int32 → Option (Int32 × zw_S)) (hR125 : ∀ (σ : zw_S) (x1 : Int32) (x2 : Int32) (x3 : Int32) (x4 : Int32) (x5 : Int32), R125 σ x1 x2 x3 x4 x5 = some (r, τ) → zw_G B P (zq_i B P r τ) 10 σ 125 [(0, .ref (zw_ad P 57)), (1, .int x1), (2, .int x2), (3, .int x3), (4, .int x4), (5, .int x5)] []) : ∀ (n : Nat) (σ : zw_S) (x1 : Int32) (x2 : Int32) (x3 : Int32) (x4 : Int32) (x6 : Int32) (x7 : Int32) (x8 : Int32), m_X7_bestWay_139 R125 n σ x1 x2 x3 x4 x6 x7 x8 = some (r, τ) → zw_G B P (zq_i B P r τ) 10 σ 139 [(0, .ref (zw_ad P 57)), (1, .int x1), (2, .int x2), (3, .int x3), (4, .int x4), (6, .int x6), (7, .int x7), (8, .int x8)] [] := by
  intro n
  induction n with
  | zero => intro σ x1 x2 x3 x4 x6 x7 x8 hm; cases hm
  | succ n ih =>
    intro σ x1 x2 x3 x4 x6 x7 x8 hm
    unfold m_X7_bestWay_139 at hm
    refine zr_iload E dX7_bestWay_139 7 rfl ?_
    refine zr_bipush (v := 8) E dX7_bestWay_141 (by decide) ?_
    refine zr_icmp_ge (tgt := 221) E dX7_bestWay_143 (by decide) (fun c1 => ?_) (fun c1 => ?_)
    · rw [if_pos c1] at hm
      refine zr_sub (lv' := [(0, .ref (zw_ad P 57)), (1, .int x1), (2, .int x2), (3, .int x3), (4, .int x4), (7, .int x7)]) [0, 1, 2, 3, 4, 6] rfl ?_
      exact t_X7_bestWay_221 E hr R125 hR125 σ x1 x2 x3 x4 x7 hm
    · rw [if_neg c1] at hm
      refine zr_aload_n E dX7_bestWay_146 0 rfl ?_
      refine fg_X7_25 E dX7_bestWay_147 ?_
      refine zr_iload E dX7_bestWay_150 7 rfl ?_
      obtain ⟨hv2, v2, ev2, hm⟩ := rd_some hm
      refine zr_iald E ac_63 hv2 ev2 dX7_bestWay_152 ?_
      refine zr_if_ge (tgt := 159) E dX7_bestWay_153 (by decide) (fun c3 => ?_) (fun c3 => ?_)
      · rw [if_pos c3] at hm
        refine zr_iload E dX7_bestWay_159 6 rfl ?_
        refine zr_if_eq (tgt := 198) E dX7_bestWay_161 (by decide) (fun c4 => ?_) (fun c4 => ?_)
        · rw [if_pos c4] at hm
          refine zr_iconst (v := 0) E dX7_bestWay_198 (by decide) ?_
          refine zr_sub (lv' := [(0, .ref (zw_ad P 57)), (1, .int x1), (2, .int x2), (3, .int x3), (4, .int x4), (6, .int x6), (8, .int x8)]) [0, 1, 2, 3, 4, 5, 7] rfl ?_
          exact t_X7_bestWay_199 E hr R125 hR125 (m_X7_bestWay_139 R125 n) ih σ x1 x2 x3 x4 x6 x8 0 hm
        · rw [if_neg c4] at hm
          refine zr_iload_n E dX7_bestWay_164 2 rfl ?_
          refine zr_aload_n E dX7_bestWay_165 0 rfl ?_
          refine fg_X7_25 E dX7_bestWay_166 ?_
          refine zr_iload E dX7_bestWay_169 7 rfl ?_
          obtain ⟨hv5, v5, ev5, hm⟩ := rd_some hm
          refine zr_iald E ac_63 hv5 ev5 dX7_bestWay_171 ?_
          refine zr_ishr E dX7_bestWay_172 ?_
          refine zr_iconst (v := 1) E dX7_bestWay_173 (by decide) ?_
          refine zr_iand E dX7_bestWay_174 ?_
          refine zr_iconst (v := 1) E dX7_bestWay_175 (by decide) ?_
          refine zr_icmp_ne (tgt := 198) E dX7_bestWay_176 (by decide) (fun c6 => ?_) (fun c6 => ?_)
          · rw [if_neg c6] at hm
            refine zr_iconst (v := 0) E dX7_bestWay_198 (by decide) ?_
            refine zr_sub (lv' := [(0, .ref (zw_ad P 57)), (1, .int x1), (2, .int x2), (3, .int x3), (4, .int x4), (6, .int x6), (8, .int x8)]) [0, 1, 2, 3, 4, 5, 7] rfl ?_
            exact t_X7_bestWay_199 E hr R125 hR125 (m_X7_bestWay_139 R125 n) ih σ x1 x2 x3 x4 x6 x8 0 hm
          · rw [if_pos c6] at hm
            refine zr_iload E dX7_bestWay_179 5 rfl ?_
            refine zr_aload_n E dX7_bestWay_181 0 rfl ?_
            refine fg_X7_25 E dX7_bestWay_182 ?_
            refine zr_iload E dX7_bestWay_185 7 rfl ?_
            obtain ⟨hv7, v7, ev7, hm⟩ := rd_some hm
            refine zr_iald E ac_63 hv7 ev7 dX7_bestWay_187 ?_
            refine zr_ishr E dX7_bestWay_188 ?_
            refine zr_iconst (v := 1) E dX7_bestWay_189 (by decide) ?_
            refine zr_iand E dX7_bestWay_190 ?_
            refine zr_if_ne (tgt := 198) E dX7_bestWay_191 (by decide) (fun c8 => ?_) (fun c8 => ?_)
            · rw [if_neg c8] at hm
              refine zr_iconst (v := 0) E dX7_bestWay_198 (by decide) ?_
              refine zr_sub (lv' := [(0, .ref (zw_ad P 57)), (1, .int x1), (2, .int x2), (3, .int x3), (4, .int x4), (6, .int x6), (8, .int x8)]) [0, 1, 2, 3, 4, 5, 7] rfl ?_
              exact t_X7_bestWay_199 E hr R125 hR125 (m_X7_bestWay_139 R125 n) ih σ x1 x2 x3 x4 x6 x8 0 hm
            · rw [if_pos c8] at hm
              refine zr_iconst (v := 1) E dX7_bestWay_194 (by decide) ?_
              refine zr_goto (tgt := 199) E dX7_bestWay_195 (by decide) ?_
              refine zr_sub (lv' := [(0, .ref (zw_ad P 57)), (1, .int x1), (2, .int x2), (3, .int x3), (4, .int x4), (6, .int x6), (8, .int x8)]) [0, 1, 2, 3, 4, 5, 7] rfl ?_
              exact t_X7_bestWay_199 E hr R125 hR125 (m_X7_bestWay_139 R125 n) ih σ x1 x2 x3 x4 x6 x8 1 hm
      · rw [if_neg c3] at hm
        refine zr_goto (tgt := 215) E dX7_bestWay_156 (by decide) ?_
        obtain ⟨v9, ev9, hm⟩ := nm_some hm
        refine zr_iinc (j := 7) (lv' := [(8, .int v9), (0, .ref (zw_ad P 57)), (1, .int x1), (2, .int x2), (3, .int x3), (4, .int x4), (6, .int x6), (7, .int x7)]) E dX7_bestWay_215 rfl ev9 (by decide) rfl ?_
        refine zr_goto (tgt := 139) E dX7_bestWay_218 (by decide) ?_
        refine zr_sub (lv' := [(0, .ref (zw_ad P 57)), (1, .int x1), (2, .int x2), (3, .int x3), (4, .int x4), (6, .int x6), (7, .int x7), (8, .int v9)]) [1, 2, 3, 4, 5, 6, 7, 0] rfl ?_
        exact ih σ x1 x2 x3 x4 x6 x7 v9 hm
set_option maxRecDepth 100000 in
set_option maxHeartbeats 4000000 in
theorem t_X7_bestWay_125 {B : zw_B} {P : zw_P} {r : Int32} {τ : zw_S} (E : zf B P cX7_bestWay RX7 10 8) (hr : B.2.2.2.2.2.2.2.2.1.sig.returnType = some .int) : ∀ (n : Nat) (σ : zw_S) (x1 : Int32) (x2 : Int32) (x3 : Int32) (x4 : Int32) (x5 : Int32), m_X7_bestWay_125 n σ x1 x2 x3 x4 x5 = some (r, τ) → zw_G B P (zq_i B P r τ) 10 σ 125 [(0, .ref (zw_ad P 57)), (1, .int x1), (2, .int x2), (3, .int x3), (4, .int x4), (5, .int x5)] [] := by
  intro n
  induction n with
  | zero => intro σ x1 x2 x3 x4 x5 hm; cases hm
  | succ n ih =>
    intro σ x1 x2 x3 x4 x5 hm
    unfold m_X7_bestWay_125 at hm
    refine zr_iload E dX7_bestWay_125 5 rfl ?_
    refine zr_if_eq (tgt := 428) E dX7_bestWay_127 (by decide) (fun c1 => ?_) (fun c1 => ?_)
    · rw [if_pos c1] at hm
      refine zr_iload E dX7_bestWay_428 4 rfl ?_
      exact zr_iret E hr rfl hm dX7_bestWay_430
    · rw [if_neg c1] at hm
      refine zr_iconst (v := 0) E dX7_bestWay_130 (by decide) ?_
      refine zr_istore (lv' := [(6, .int 0), (0, .ref (zw_ad P 57)), (1, .int x1), (2, .int x2), (3, .int x3), (4, .int x4), (5, .int x5)]) E dX7_bestWay_131 (by decide) rfl ?_
      refine zr_iconst (v := 1) E dX7_bestWay_133 (by decide) ?_
      refine zr_istore (lv' := [(7, .int 1), (6, .int 0), (0, .ref (zw_ad P 57)), (1, .int x1), (2, .int x2), (3, .int x3), (4, .int x4), (5, .int x5)]) E dX7_bestWay_134 (by decide) rfl ?_
      refine zr_iconst (v := 0) E dX7_bestWay_136 (by decide) ?_
      refine zr_istore (lv' := [(8, .int 0), (7, .int 1), (6, .int 0), (0, .ref (zw_ad P 57)), (1, .int x1), (2, .int x2), (3, .int x3), (4, .int x4), (5, .int x5)]) E dX7_bestWay_137 (by decide) rfl ?_
      refine zr_sub (lv' := [(0, .ref (zw_ad P 57)), (1, .int x1), (2, .int x2), (3, .int x3), (4, .int x4), (6, .int 0), (7, .int 1), (8, .int 0)]) [3, 4, 5, 6, 7, 2, 1, 0] rfl ?_
      exact t_X7_bestWay_139 E hr (m_X7_bestWay_125 n) ih 200 σ x1 x2 x3 x4 0 1 0 hm
set_option maxRecDepth 100000 in
set_option maxHeartbeats 4000000 in
theorem t_X7_bestWay_108 {B : zw_B} {P : zw_P} {r : Int32} {τ : zw_S} (E : zf B P cX7_bestWay RX7 10 8) (hr : B.2.2.2.2.2.2.2.2.1.sig.returnType = some .int) (σ : zw_S) (x1 : Int32) (x2 : Int32) (x3 : Int32) (hm : m_X7_bestWay_108 σ x1 x2 x3 = some (r, τ)) : zw_G B P (zq_i B P r τ) 10 σ 108 [(0, .ref (zw_ad P 57)), (1, .int x1), (2, .int x2), (3, .int x3)] [] := by
  unfold m_X7_bestWay_108 at hm
  refine zr_aload_n E dX7_bestWay_108 0 rfl ?_
  refine fg_X7_9 E dX7_bestWay_109 ?_
  refine zr_aload_n E dX7_bestWay_112 0 rfl ?_
  refine fg_X7_19 E dX7_bestWay_113 ?_
  obtain ⟨s1, os1, hm⟩ := cv_some hm
  refine zr_cSv (st := []) E mw_585 cm_X7_row (c_X7_row B.2.1 P 58 61 ac_58 ac_61 σ) os1 ⟨by decide, by decide⟩ rfl rfl (Nat.le_of_ble_eq_true rfl) dX7_bestWay_116 ?_
  refine zr_iconst (v := (-1)) E dX7_bestWay_119 (by decide) ?_
  refine zr_istore (lv' := [(4, .int ((-1))), (0, .ref (zw_ad P 57)), (1, .int x1), (2, .int x2), (3, .int x3)]) E dX7_bestWay_120 (by decide) rfl ?_
  refine zr_iconst (v := 1) E dX7_bestWay_122 (by decide) ?_
  refine zr_istore (lv' := [(5, .int 1), (4, .int ((-1))), (0, .ref (zw_ad P 57)), (1, .int x1), (2, .int x2), (3, .int x3)]) E dX7_bestWay_123 (by decide) rfl ?_
  refine zr_sub (lv' := [(0, .ref (zw_ad P 57)), (1, .int x1), (2, .int x2), (3, .int x3), (4, .int ((-1))), (5, .int 1)]) [2, 3, 4, 5, 1, 0] rfl ?_
  exact t_X7_bestWay_125 E hr 7000 s1 x1 x2 x3 (-1) 1 hm
set_option maxRecDepth 100000 in
set_option maxHeartbeats 4000000 in
theorem t_X7_bestWay_87 {B : zw_B} {P : zw_P} {r : Int32} {τ : zw_S} (E : zf B P cX7_bestWay RX7 10 8) (hr : B.2.2.2.2.2.2.2.2.1.sig.returnType = some .int) : ∀ (n : Nat) (σ : zw_S) (x1 : Int32) (x2 : Int32) (x3 : Int32) (x4 : Int32), m_X7_bestWay_87 n σ x1 x2 x3 x4 = some (r, τ) → zw_G B P (zq_i B P r τ) 10 σ 87 [(0, .ref (zw_ad P 57)), (1, .int x1), (2, .int x2), (3, .int x3), (4, .int x4)] [] := by
  intro n
  induction n with
  | zero => intro σ x1 x2 x3 x4 hm; cases hm
  | succ n ih =>
    intro σ x1 x2 x3 x4 hm
    unfold m_X7_bestWay_87 at hm
    refine zr_iload E dX7_bestWay_87 4 rfl ?_
    refine zr_bipush (v := 8) E dX7_bestWay_89 (by decide) ?_
    refine zr_icmp_ge (tgt := 108) E dX7_bestWay_91 (by decide) (fun c1 => ?_) (fun c1 => ?_)
    · rw [if_pos c1] at hm
      refine zr_sub (lv' := [(0, .ref (zw_ad P 57)), (1, .int x1), (2, .int x2), (3, .int x3)]) [0, 1, 2, 3] rfl ?_
      exact t_X7_bestWay_108 E hr σ x1 x2 x3 hm
    · rw [if_neg c1] at hm
      refine zr_aload_n E dX7_bestWay_94 0 rfl ?_
      refine fg_X7_25 E dX7_bestWay_95 ?_
      refine zr_iload E dX7_bestWay_98 4 rfl ?_
      refine zr_iconst (v := (-1)) E dX7_bestWay_100 (by decide) ?_
      obtain ⟨hs2, s2, es2, hm⟩ := wt_some hm
      refine zr_iast E ac_63 hs2 es2 dX7_bestWay_101 ?_
      obtain ⟨v3, ev3, hm⟩ := nm_some hm
      refine zr_iinc (j := 4) (lv' := [(4, .int v3), (0, .ref (zw_ad P 57)), (1, .int x1), (2, .int x2), (3, .int x3)]) E dX7_bestWay_102 rfl ev3 (by decide) rfl ?_
      refine zr_goto (tgt := 87) E dX7_bestWay_105 (by decide) ?_
      refine zr_sub (lv' := [(0, .ref (zw_ad P 57)), (1, .int x1), (2, .int x2), (3, .int x3), (4, .int v3)]) [1, 2, 3, 4, 0] rfl ?_
      exact ih s2 x1 x2 x3 v3 hm
set_option maxRecDepth 100000 in
set_option maxHeartbeats 4000000 in
theorem t_X7_bestWay_47 {B : zw_B} {P : zw_P} {r : Int32} {τ : zw_S} (E : zf B P cX7_bestWay RX7 10 8) (hr : B.2.2.2.2.2.2.2.2.1.sig.returnType = some .int) : ∀ (n : Nat) (σ : zw_S) (x1 : Int32) (x2 : Int32) (x3 : Int32) (x4 : Int32), m_X7_bestWay_47 n σ x1 x2 x3 x4 = some (r, τ) → zw_G B P (zq_i B P r τ) 10 σ 47 [(0, .ref (zw_ad P 57)), (1, .int x1), (2, .int x2), (3, .int x3), (4, .int x4)] [] := by
  intro n
  induction n with
  | zero => intro σ x1 x2 x3 x4 hm; cases hm
  | succ n ih =>
    intro σ x1 x2 x3 x4 hm
    unfold m_X7_bestWay_47 at hm
    refine zr_iload E dX7_bestWay_47 4 rfl ?_
    refine zr_aload_n E dX7_bestWay_49 0 rfl ?_
    refine fg_X7_9 E dX7_bestWay_50 ?_
    refine zr_iconst (v := 3) E dX7_bestWay_53 (by decide) ?_
    obtain ⟨hv1, v1, ev1, hm⟩ := rd_some hm
    refine zr_iald E ac_58 hv1 ev1 dX7_bestWay_54 ?_
    refine zr_icmp_ge (tgt := 84) E dX7_bestWay_55 (by decide) (fun c2 => ?_) (fun c2 => ?_)
    · rw [if_pos c2] at hm
      refine zr_iconst (v := 0) E dX7_bestWay_84 (by decide) ?_
      refine zr_istore (lv' := [(4, .int 0), (0, .ref (zw_ad P 57)), (1, .int x1), (2, .int x2), (3, .int x3)]) E dX7_bestWay_85 (by decide) rfl ?_
      refine zr_sub (lv' := [(0, .ref (zw_ad P 57)), (1, .int x1), (2, .int x2), (3, .int x3), (4, .int 0)]) [1, 2, 3, 4, 0] rfl ?_
      exact t_X7_bestWay_87 E hr 200 σ x1 x2 x3 0 hm
    · rw [if_neg c2] at hm
      refine zr_iload_n E dX7_bestWay_58 3 rfl ?_
      refine zr_aload_n E dX7_bestWay_59 0 rfl ?_
      refine zr_iload E dX7_bestWay_60 4 rfl ?_
      obtain ⟨r4, s3, os3, hm⟩ := cl_some hm
      refine zr_cVi (st := [.int x3]) E mw_736 cm_X7_mayGet (c_X7_mayGet B.2.1 P σ x4) os3 (rc_57 P) ⟨by decide, by decide⟩ rfl rfl (Nat.le_of_ble_eq_true rfl) dX7_bestWay_62 ?_
      refine zr_if_eq (tgt := 75) E dX7_bestWay_65 (by decide) (fun c5 => ?_) (fun c5 => ?_)
      · rw [if_pos c5] at hm
        refine zr_iconst (v := 0) E dX7_bestWay_75 (by decide) ?_
        refine zr_ior E dX7_bestWay_76 ?_
        obtain ⟨v6, ev6, hm⟩ := nm_some hm
        refine zr_top ev6 ?_
        refine zr_istore_n (lv' := [(3, .int v6), (0, .ref (zw_ad P 57)), (1, .int x1), (2, .int x2), (4, .int x4)]) E dX7_bestWay_77 (by decide) rfl ?_
        obtain ⟨v7, ev7, hm⟩ := nm_some hm
        refine zr_iinc (j := 4) (lv' := [(4, .int v7), (3, .int v6), (0, .ref (zw_ad P 57)), (1, .int x1), (2, .int x2)]) E dX7_bestWay_78 rfl ev7 (by decide) rfl ?_
        refine zr_goto (tgt := 47) E dX7_bestWay_81 (by decide) ?_
        refine zr_sub (lv' := [(0, .ref (zw_ad P 57)), (1, .int x1), (2, .int x2), (3, .int v6), (4, .int v7)]) [2, 3, 4, 1, 0] rfl ?_
        exact ih s3 x1 x2 v6 v7 hm
      · rw [if_neg c5] at hm
        refine zr_iconst (v := 1) E dX7_bestWay_68 (by decide) ?_
        refine zr_iload E dX7_bestWay_69 4 rfl ?_
        refine zr_ishl E dX7_bestWay_71 ?_
        refine zr_goto (tgt := 76) E dX7_bestWay_72 (by decide) ?_
        refine zr_ior E dX7_bestWay_76 ?_
        obtain ⟨v8, ev8, hm⟩ := nm_some hm
        refine zr_top ev8 ?_
        refine zr_istore_n (lv' := [(3, .int v8), (0, .ref (zw_ad P 57)), (1, .int x1), (2, .int x2), (4, .int x4)]) E dX7_bestWay_77 (by decide) rfl ?_
        obtain ⟨v9, ev9, hm⟩ := nm_some hm
        refine zr_iinc (j := 4) (lv' := [(4, .int v9), (3, .int v8), (0, .ref (zw_ad P 57)), (1, .int x1), (2, .int x2)]) E dX7_bestWay_78 rfl ev9 (by decide) rfl ?_
        refine zr_goto (tgt := 47) E dX7_bestWay_81 (by decide) ?_
        refine zr_sub (lv' := [(0, .ref (zw_ad P 57)), (1, .int x1), (2, .int x2), (3, .int v8), (4, .int v9)]) [2, 3, 4, 1, 0] rfl ?_
        exact ih s3 x1 x2 v8 v9 hm
set_option maxRecDepth 100000 in
set_option maxHeartbeats 4000000 in
theorem t_X7_bestWay_42 {B : zw_B} {P : zw_P} {r : Int32} {τ : zw_S} (E : zf B P cX7_bestWay RX7 10 8) (hr : B.2.2.2.2.2.2.2.2.1.sig.returnType = some .int) (σ : zw_S) (x1 : Int32) (x2 : Int32) (hm : m_X7_bestWay_42 σ x1 x2 = some (r, τ)) : zw_G B P (zq_i B P r τ) 10 σ 42 [(0, .ref (zw_ad P 57)), (1, .int x1), (2, .int x2)] [] := by
  unfold m_X7_bestWay_42 at hm
  refine zr_iconst (v := 0) E dX7_bestWay_42 (by decide) ?_
  refine zr_istore_n (lv' := [(3, .int 0), (0, .ref (zw_ad P 57)), (1, .int x1), (2, .int x2)]) E dX7_bestWay_43 (by decide) rfl ?_
  refine zr_iconst (v := 0) E dX7_bestWay_44 (by decide) ?_
  refine zr_istore (lv' := [(4, .int 0), (3, .int 0), (0, .ref (zw_ad P 57)), (1, .int x1), (2, .int x2)]) E dX7_bestWay_45 (by decide) rfl ?_
  refine zr_sub (lv' := [(0, .ref (zw_ad P 57)), (1, .int x1), (2, .int x2), (3, .int 0), (4, .int 0)]) [2, 3, 4, 1, 0] rfl ?_
  exact t_X7_bestWay_47 E hr 200 σ x1 x2 0 0 hm
set_option maxRecDepth 100000 in
set_option maxHeartbeats 4000000 in
theorem t_X7_bestWay_4 {B : zw_B} {P : zw_P} {r : Int32} {τ : zw_S} (E : zf B P cX7_bestWay RX7 10 8) (hr : B.2.2.2.2.2.2.2.2.1.sig.returnType = some .int) : ∀ (n : Nat) (σ : zw_S) (x1 : Int32) (x2 : Int32) (x3 : Int32), m_X7_bestWay_4 n σ x1 x2 x3 = some (r, τ) → zw_G B P (zq_i B P r τ) 10 σ 4 [(0, .ref (zw_ad P 57)), (1, .int x1), (2, .int x2), (3, .int x3)] [] := by
  intro n
  induction n with
  | zero => intro σ x1 x2 x3 hm; cases hm
  | succ n ih =>
    intro σ x1 x2 x3 hm
    unfold m_X7_bestWay_4 at hm
    refine zr_iload_n E dX7_bestWay_4 3 rfl ?_
    refine zr_bipush (v := 8) E dX7_bestWay_5 (by decide) ?_
    refine zr_icmp_ge (tgt := 42) E dX7_bestWay_7 (by decide) (fun c1 => ?_) (fun c1 => ?_)
    · rw [if_pos c1] at hm
      refine zr_sub (lv' := [(0, .ref (zw_ad P 57)), (1, .int x1), (2, .int x2)]) [0, 1, 2] rfl ?_
      exact t_X7_bestWay_42 E hr σ x1 x2 hm
    · rw [if_neg c1] at hm
      refine zr_iload_n E dX7_bestWay_10 2 rfl ?_
      refine zr_aload_n E dX7_bestWay_11 0 rfl ?_
      refine zr_iload_n E dX7_bestWay_12 3 rfl ?_
      obtain ⟨r3, s2, os2, hm⟩ := cl_some hm
      refine zr_cVi (st := [.int x2]) E mw_281 cm_X7_isOpen (c_X7_isOpen B.2.1 P σ x3) os2 (rc_57 P) ⟨by decide, by decide⟩ rfl rfl (Nat.le_of_ble_eq_true rfl) dX7_bestWay_13 ?_
      refine zr_if_eq (tgt := 33) E dX7_bestWay_16 (by decide) (fun c4 => ?_) (fun c4 => ?_)
      · rw [if_pos c4] at hm
        refine zr_iconst (v := 0) E dX7_bestWay_33 (by decide) ?_
        refine zr_ior E dX7_bestWay_34 ?_
        obtain ⟨v5, ev5, hm⟩ := nm_some hm
        refine zr_top ev5 ?_
        refine zr_istore_n (lv' := [(2, .int v5), (0, .ref (zw_ad P 57)), (1, .int x1), (3, .int x3)]) E dX7_bestWay_35 (by decide) rfl ?_
        obtain ⟨v6, ev6, hm⟩ := nm_some hm
        refine zr_iinc (j := 3) (lv' := [(3, .int v6), (2, .int v5), (0, .ref (zw_ad P 57)), (1, .int x1)]) E dX7_bestWay_36 rfl ev6 (by decide) rfl ?_
        refine zr_goto (tgt := 4) E dX7_bestWay_39 (by decide) ?_
        refine zr_sub (lv' := [(0, .ref (zw_ad P 57)), (1, .int x1), (2, .int v5), (3, .int v6)]) [2, 3, 1, 0] rfl ?_
        exact ih s2 x1 v5 v6 hm
      · rw [if_neg c4] at hm
        refine zr_aload_n E dX7_bestWay_19 0 rfl ?_
        refine zr_iload_n E dX7_bestWay_20 3 rfl ?_
        obtain ⟨r8, s7, os7, hm⟩ := cl_some hm
        refine zr_cVi (st := [.int x2]) E mw_285 cm_X7_bearer (c_X7_bearer B.2.1 P s2 x3) os7 (rc_57 P) ⟨by decide, by decide⟩ rfl rfl (Nat.le_of_ble_eq_true rfl) dX7_bestWay_21 ?_
        refine zr_if_ge (tgt := 33) E dX7_bestWay_24 (by decide) (fun c9 => ?_) (fun c9 => ?_)
        · rw [if_pos c9] at hm
          refine zr_iconst (v := 0) E dX7_bestWay_33 (by decide) ?_
          refine zr_ior E dX7_bestWay_34 ?_
          obtain ⟨v10, ev10, hm⟩ := nm_some hm
          refine zr_top ev10 ?_
          refine zr_istore_n (lv' := [(2, .int v10), (0, .ref (zw_ad P 57)), (1, .int x1), (3, .int x3)]) E dX7_bestWay_35 (by decide) rfl ?_
          obtain ⟨v11, ev11, hm⟩ := nm_some hm
          refine zr_iinc (j := 3) (lv' := [(3, .int v11), (2, .int v10), (0, .ref (zw_ad P 57)), (1, .int x1)]) E dX7_bestWay_36 rfl ev11 (by decide) rfl ?_
          refine zr_goto (tgt := 4) E dX7_bestWay_39 (by decide) ?_
          refine zr_sub (lv' := [(0, .ref (zw_ad P 57)), (1, .int x1), (2, .int v10), (3, .int v11)]) [2, 3, 1, 0] rfl ?_
          exact ih s7 x1 v10 v11 hm
        · rw [if_neg c9] at hm
          refine zr_iconst (v := 1) E dX7_bestWay_27 (by decide) ?_
          refine zr_iload_n E dX7_bestWay_28 3 rfl ?_
          refine zr_ishl E dX7_bestWay_29 ?_
          refine zr_goto (tgt := 34) E dX7_bestWay_30 (by decide) ?_
          refine zr_ior E dX7_bestWay_34 ?_
          obtain ⟨v12, ev12, hm⟩ := nm_some hm
          refine zr_top ev12 ?_
          refine zr_istore_n (lv' := [(2, .int v12), (0, .ref (zw_ad P 57)), (1, .int x1), (3, .int x3)]) E dX7_bestWay_35 (by decide) rfl ?_
          obtain ⟨v13, ev13, hm⟩ := nm_some hm
          refine zr_iinc (j := 3) (lv' := [(3, .int v13), (2, .int v12), (0, .ref (zw_ad P 57)), (1, .int x1)]) E dX7_bestWay_36 rfl ev13 (by decide) rfl ?_
          refine zr_goto (tgt := 4) E dX7_bestWay_39 (by decide) ?_
          refine zr_sub (lv' := [(0, .ref (zw_ad P 57)), (1, .int x1), (2, .int v12), (3, .int v13)]) [2, 3, 1, 0] rfl ?_
          exact ih s7 x1 v12 v13 hm
set_option maxRecDepth 100000 in
set_option maxHeartbeats 4000000 in
theorem c_X7_bestWay (l : Launch) (P : zw_P) (σ : zw_S) (x1 : Int32) : zc_i l P yX7_bestWay cX7_bestWay 10 .int 8 [.ref (zw_ad P 57), .int x1] σ (m_X7_bestWay σ x1) := by
  refine zc_i.of (by decide) (Nat.le_of_ble_eq_true rfl) (fun B r τ E hl hr hm => ?_)
  subst hl
  refine zr_sub (lv' := [(0, .ref (zw_ad P 57)), (1, .int x1)]) [0, 1] rfl ?_
  unfold m_X7_bestWay at hm
  refine zr_iconst (v := 0) E dX7_bestWay_0 (by decide) ?_
  refine zr_istore_n (lv' := [(2, .int 0), (0, .ref (zw_ad P 57)), (1, .int x1)]) E dX7_bestWay_1 (by decide) rfl ?_
  refine zr_iconst (v := 0) E dX7_bestWay_2 (by decide) ?_
  refine zr_istore_n (lv' := [(3, .int 0), (2, .int 0), (0, .ref (zw_ad P 57)), (1, .int x1)]) E dX7_bestWay_3 (by decide) rfl ?_
  refine zr_sub (lv' := [(0, .ref (zw_ad P 57)), (1, .int x1), (2, .int 0), (3, .int 0)]) [2, 3, 1, 0] rfl ?_
  exact t_X7_bestWay_4 E hr 200 σ x1 0 0 hm
