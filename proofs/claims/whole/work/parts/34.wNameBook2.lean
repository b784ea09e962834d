-- X6_ends
set_option maxRecDepth 100000 in
set_option maxHeartbeats 4000000 in
theorem t_X6_ends_78 {B : zw_B} {P : zw_P} {r : Int32} {τ : zw_S} (E : zf B P cX6_ends RX6 3 6) (hr : B.2.2.2.2.2.2.2.2.1.sig.returnType = some .int) (σ : zw_S) (hm : m_X6_ends_78 σ = some (r, τ)) : zw_G B P (zq_i B P r τ) 3 σ 78 [(0, .ref (zw_ad P 0))] [] := by
  unfold m_X6_ends_78 at hm
  refine zr_aload_n E dX6_ends_78 0 rfl ?_
  refine zr_ldc E mw_608 dX6_ends_79 ?_
  obtain ⟨r2, s1, os1, hm⟩ := cl_some hm
  refine zr_cVi (st := []) E mw_106 cm_X6_found (c_X6_found B.2.1 P σ (-1000004)) os1 (rc_0 P) ⟨by decide, by decide⟩ rfl rfl (Nat.le_of_ble_eq_true rfl) dX6_ends_81 ?_
  exact zr_iret E hr rfl hm dX6_ends_84
set_option maxRecDepth 100000 in
set_option maxHeartbeats 4000000 in
theorem t_X6_ends_41 {B : zw_B} {P : zw_P} {r : Int32} {τ : zw_S} (E : zf B P cX6_ends RX6 3 6) (hr : B.2.2.2.2.2.2.2.2.1.sig.returnType = some .int) : ∀ (n : Nat) (σ : zw_S) (x1 : Int32) (x2 : Int32), m_X6_ends_41 n σ x1 x2 = some (r, τ) → zw_G B P (zq_i B P r τ) 3 σ 41 [(0, .ref (zw_ad P 0)), (1, .int x1), (2, .int x2)] [] := by
  intro n
  induction n with
  | zero => intro σ x1 x2 hm; cases hm
  | succ n ih =>
    intro σ x1 x2 hm
    unfold m_X6_ends_41 at hm
    refine zr_iload_n E dX6_ends_41 2 rfl ?_
    refine zr_bipush (v := 100) E dX6_ends_42 (by decide) ?_
    refine zr_icmp_gt (tgt := 78) E dX6_ends_44 (by decide) (fun c1 => ?_) (fun c1 => ?_)
    · rw [if_pos c1] at hm
      refine zr_sub (lv' := [(0, .ref (zw_ad P 0))]) [0] rfl ?_
      exact t_X6_ends_78 E hr σ hm
    · rw [if_neg c1] at hm
      refine zr_aload_n E dX6_ends_47 0 rfl ?_
      refine fg_X6_19 E dX6_ends_48 ?_
      refine zr_iload_n E dX6_ends_51 1 rfl ?_
      obtain ⟨r3, s2, os2, hm⟩ := cl_some hm
      refine zr_cVi (st := []) E mw_622 cm_X0_isEnded (c_X0_isEnded B.2.1 P 25 bk_25 σ x1) os2 (rc_bk P bk_25) ⟨by decide, by decide⟩ rfl rfl (Nat.le_of_ble_eq_true rfl) dX6_ends_52 ?_
      refine zr_if_eq (tgt := 60) E dX6_ends_55 (by decide) (fun c4 => ?_) (fun c4 => ?_)
      · rw [if_pos c4] at hm
        refine zr_aload_n E dX6_ends_60 0 rfl ?_
        refine fg_X6_25 E dX6_ends_61 ?_
        refine zr_aload_n E dX6_ends_64 0 rfl ?_
        refine fg_X6_19 E dX6_ends_65 ?_
        refine zr_iconst (v := 1) E dX6_ends_68 (by decide) ?_
        obtain ⟨s5, os5, hm⟩ := cv_some hm
        refine zr_cVv (st := []) E mw_435 cm_X5_go (c_X5_go B.2.1 P 25 bk_25 s2 1) os5 (rc_37 P) ⟨by decide, by decide⟩ rfl rfl (Nat.le_of_ble_eq_true rfl) dX6_ends_69 ?_
        obtain ⟨v6, ev6, hm⟩ := nm_some hm
        refine zr_iinc (j := 2) (lv' := [(2, .int v6), (0, .ref (zw_ad P 0)), (1, .int x1)]) E dX6_ends_72 rfl ev6 (by decide) rfl ?_
        refine zr_goto (tgt := 41) E dX6_ends_75 (by decide) ?_
        refine zr_sub (lv' := [(0, .ref (zw_ad P 0)), (1, .int x1), (2, .int v6)]) [1, 2, 0] rfl ?_
        exact ih s5 x1 v6 hm
      · rw [if_neg c4] at hm
        refine zr_iload_n E dX6_ends_58 2 rfl ?_
        exact zr_iret E hr rfl hm dX6_ends_59
set_option maxRecDepth 100000 in
set_option maxHeartbeats 4000000 in
theorem c_X6_ends (l : Launch) (P : zw_P) (σ : zw_S) (x1 : Int32) : zc_i l P yX6_ends cX6_ends 3 .int 6 [.ref (zw_ad P 0), .int x1] σ (m_X6_ends σ x1) := by
  refine zc_i.of (by decide) (Nat.le_of_ble_eq_true rfl) (fun B r τ E hl hr hm => ?_)
  subst hl
  refine zr_sub (lv' := [(0, .ref (zw_ad P 0)), (1, .int x1)]) [0, 1] rfl ?_
  unfold m_X6_ends at hm
  refine zr_aload_n E dX6_ends_0 0 rfl ?_
  refine fg_X6_12 E dX6_ends_1 ?_
  refine zr_iload_n E dX6_ends_4 1 rfl ?_
  obtain ⟨r2, s1, os1, hm⟩ := cl_some hm
  refine zr_cVi (st := []) E mw_169 cm_X0_hasTask (c_X0_hasTask B.2.1 P 1 bk_1 σ x1) os1 (rc_bk P bk_1) ⟨by decide, by decide⟩ rfl rfl (Nat.le_of_ble_eq_true rfl) dX6_ends_5 ?_
  refine zr_if_ne (tgt := 18) E dX6_ends_8 (by decide) (fun c3 => ?_) (fun c3 => ?_)
  · rw [if_neg c3] at hm
    refine zr_aload_n E dX6_ends_18 0 rfl ?_
    refine zr_bipush (v := 100) E dX6_ends_19 (by decide) ?_
    obtain ⟨r5, s4, os4, hm⟩ := cl_some hm
    refine zr_cVi (st := []) E mw_426 cm_X6_isTooLate (c_X6_isTooLate B.2.1 P s1 100) os4 (rc_0 P) ⟨by decide, by decide⟩ rfl rfl (Nat.le_of_ble_eq_true rfl) dX6_ends_21 ?_
    refine zr_if_eq (tgt := 34) E dX6_ends_24 (by decide) (fun c6 => ?_) (fun c6 => ?_)
    · rw [if_pos c6] at hm
      refine zr_aload_n E dX6_ends_34 0 rfl ?_
      refine zr_iconst (v := 0) E dX6_ends_35 (by decide) ?_
      obtain ⟨s7, os7, hm⟩ := cv_some hm
      refine zr_cVv (st := []) E mw_550 cm_X6_lookAhead (c_X6_lookAhead B.2.1 P s4 0) os7 (rc_0 P) ⟨by decide, by decide⟩ rfl rfl (Nat.le_of_ble_eq_true rfl) dX6_ends_36 ?_
      refine zr_iconst (v := 0) E dX6_ends_39 (by decide) ?_
      refine zr_istore_n (lv' := [(2, .int 0), (0, .ref (zw_ad P 0)), (1, .int x1)]) E dX6_ends_40 (by decide) rfl ?_
      refine zr_sub (lv' := [(0, .ref (zw_ad P 0)), (1, .int x1), (2, .int 0)]) [1, 2, 0] rfl ?_
      exact t_X6_ends_41 E hr 200 s7 x1 0 hm
    · rw [if_neg c6] at hm
      refine zr_aload_n E dX6_ends_27 0 rfl ?_
      refine zr_ldc E mw_380 dX6_ends_28 ?_
      obtain ⟨r9, s8, os8, hm⟩ := cl_some hm
      refine zr_cVi (st := []) E mw_106 cm_X6_found (c_X6_found B.2.1 P s4 (-1000005)) os8 (rc_0 P) ⟨by decide, by decide⟩ rfl rfl (Nat.le_of_ble_eq_true rfl) dX6_ends_30 ?_
      exact zr_iret E hr rfl hm dX6_ends_33
  · rw [if_pos c3] at hm
    refine zr_aload_n E dX6_ends_11 0 rfl ?_
    refine zr_ldc E mw_98 dX6_ends_12 ?_
    obtain ⟨r11, s10, os10, hm⟩ := cl_some hm
    refine zr_cVi (st := []) E mw_106 cm_X6_found (c_X6_found B.2.1 P s1 (-1000001)) os10 (rc_0 P) ⟨by decide, by decide⟩ rfl rfl (Nat.le_of_ble_eq_true rfl) dX6_ends_14 ?_
    exact zr_iret E hr rfl hm dX6_ends_17
-- X6_isShutInTime
set_option maxRecDepth 100000 in
set_option maxHeartbeats 4000000 in
theorem c_X6_isShutInTime (l : Launch) (P : zw_P) (σ : zw_S) (x1 : Int32) (x2 : Int32) (x3 : Int32) : zc_i l P yX6_isShutInTime cX6_isShutInTime 4 .boolean 5 [.ref (zw_ad P 0), .int x1, .int x2, .int x3] σ (m_X6_isShutInTime σ x1 x2 x3) := by
  refine zc_i.of (by decide) (Nat.le_of_ble_eq_true rfl) (fun B r τ E hl hr hm => ?_)
  subst hl
  refine zr_sub (lv' := [(0, .ref (zw_ad P 0)), (1, .int x1), (2, .int x2), (3, .int x3)]) [0, 1, 2, 3] rfl ?_
  unfold m_X6_isShutInTime at hm
  refine zr_aload_n E dX6_isShutInTime_0 0 rfl ?_
  refine fg_X6_19 E dX6_isShutInTime_1 ?_
  refine zr_aload_n E dX6_isShutInTime_4 0 rfl ?_
  refine fg_X6_12 E dX6_isShutInTime_5 ?_
  obtain ⟨s1, os1, hm⟩ := cv_some hm
  refine zr_cVv (st := []) E mw_554 cm_X0_setTo (c_X0_setTo B.2.1 P 25 1 bk_25 bk_1 σ) os1 (rc_bk P bk_25) ⟨by decide, by decide⟩ rfl rfl (Nat.le_of_ble_eq_true rfl) dX6_isShutInTime_8 ?_
  refine zr_aload_n E dX6_isShutInTime_11 0 rfl ?_
  refine fg_X6_19 E dX6_isShutInTime_12 ?_
  refine fg_X6_136 bk_25 E dX6_isShutInTime_15 ?_
  refine zr_iload_n E dX6_isShutInTime_18 1 rfl ?_
  refine zr_iload_n E dX6_isShutInTime_19 2 rfl ?_
  obtain ⟨hs2, s2, es2, hm⟩ := wt_some hm
  refine zr_iast E ac_32 hs2 es2 dX6_isShutInTime_20 ?_
  refine zr_aload_n E dX6_isShutInTime_21 0 rfl ?_
  refine fg_X6_19 E dX6_isShutInTime_22 ?_
  refine fg_X6_142 bk_25 E dX6_isShutInTime_25 ?_
  refine zr_iload_n E dX6_isShutInTime_28 1 rfl ?_
  refine zr_iload_n E dX6_isShutInTime_29 3 rfl ?_
  obtain ⟨hs3, s3, es3, hm⟩ := wt_some hm
  refine zr_iast E ac_34 hs3 es3 dX6_isShutInTime_30 ?_
  refine zr_aload_n E dX6_isShutInTime_31 0 rfl ?_
  refine fg_X6_25 E dX6_isShutInTime_32 ?_
  refine zr_aload_n E dX6_isShutInTime_35 0 rfl ?_
  refine fg_X6_19 E dX6_isShutInTime_36 ?_
  refine zr_bipush (v := 40) E dX6_isShutInTime_39 (by decide) ?_
  refine zr_aload_n E dX6_isShutInTime_41 0 rfl ?_
  refine fg_X6_12 E dX6_isShutInTime_42 ?_
  refine fg_X6_139 bk_1 E dX6_isShutInTime_45 ?_
  refine zr_iload_n E dX6_isShutInTime_48 1 rfl ?_
  obtain ⟨hv4, v4, ev4, hm⟩ := rd_some hm
  refine zr_iald E ac_9 hv4 ev4 dX6_isShutInTime_49 ?_
  refine zr_isub E dX6_isShutInTime_50 ?_
  obtain ⟨s5, os5, hm⟩ := cv_some hm
  refine zr_cVv (st := []) E mw_435 cm_X5_go (c_X5_go B.2.1 P 25 bk_25 s3 (40 - v4)) os5 (rc_37 P) ⟨by decide, by decide⟩ rfl rfl (Nat.le_of_ble_eq_true rfl) dX6_isShutInTime_51 ?_
  refine zr_aload_n E dX6_isShutInTime_54 0 rfl ?_
  refine fg_X6_19 E dX6_isShutInTime_55 ?_
  refine zr_iload_n E dX6_isShutInTime_58 2 rfl ?_
  obtain ⟨r7, s6, os6, hm⟩ := cl_some hm
  refine zr_cVi (st := []) E mw_248 cm_X0_isOpen (c_X0_isOpen B.2.1 P 25 bk_25 s5 x2) os6 (rc_bk P bk_25) ⟨by decide, by decide⟩ rfl rfl (Nat.le_of_ble_eq_true rfl) dX6_isShutInTime_59 ?_
  refine zr_if_ne (tgt := 69) E dX6_isShutInTime_62 (by decide) (fun c8 => ?_) (fun c8 => ?_)
  · rw [if_neg c8] at hm
    refine zr_iconst (v := 0) E dX6_isShutInTime_69 (by decide) ?_
    exact zr_iret E hr (by decide) hm dX6_isShutInTime_70
  · rw [if_pos c8] at hm
    refine zr_iconst (v := 1) E dX6_isShutInTime_65 (by decide) ?_
    refine zr_goto (tgt := 70) E dX6_isShutInTime_66 (by decide) ?_
    exact zr_iret E hr (by decide) hm dX6_isShutInTime_70
-- X6_choose
set_option maxRecDepth 100000 in
set_option maxHeartbeats 4000000 in
theorem t_X6_choose_156 {B : zw_B} {P : zw_P} {r : Int32} {τ : zw_S} (E : zf B P cX6_choose RX6 6 6) (hr : B.2.2.2.2.2.2.2.2.1.sig.returnType = some .int) (σ : zw_S) (x3 : Int32) (hm : m_X6_choose_156 σ x3 = some (r, τ)) : zw_G B P (zq_i B P r τ) 6 σ 156 [(0, .ref (zw_ad P 0)), (3, .int x3)] [] := by
  unfold m_X6_choose_156 at hm
  refine zr_iload_n E dX6_choose_156 1 rfl ?_
  refine zr_if_ge (tgt := 169) E dX6_choose_157 (by decide) (fun c1 => ?_) (fun c1 => ?_)
  · rw [if_pos c1] at hm
    refine zr_iload_n E dX6_choose_169 1 rfl ?_
    exact zr_iret E hr rfl hm dX6_choose_170
  · rw [if_neg c1] at hm
    refine zr_aload_n E dX6_choose_160 0 rfl ?_
    refine zr_ldc E mw_608 dX6_choose_161 ?_
    obtain ⟨r3, s2, os2, hm⟩ := cl_some hm
    refine zr_cVi (st := []) E mw_106 cm_X6_found (c_X6_found B.2.1 P σ (-1000004)) os2 (rc_0 P) ⟨by decide, by decide⟩ rfl rfl (Nat.le_of_ble_eq_true rfl) dX6_choose_163 ?_
    refine zr_goto (tgt := 170) E dX6_choose_166 (by decide) ?_
    exact zr_iret E hr rfl hm dX6_choose_170
set_option maxRecDepth 100000 in
set_option maxHeartbeats 4000000 in
theorem t_X6_choose_111 {B : zw_B} {P : zw_P} {r : Int32} {τ : zw_S} (E : zf B P cX6_choose RX6 6 6) (hr : B.2.2.2.2.2.2.2.2.1.sig.returnType = some .int) (R73 : zw_S → Int32 → Int32 → Int32 → Int32 → Option (Int32 × zw_S)) (hR73 : ∀ (σ : zw_S) (x1 : Int32) (x2 : Int32) (x3 : Int32) (x4 : Int32), R73 σ x1 x2 x3 x4 = some (r, τ) → zw_G B P (zq_i B P r τ) 6 σ 73 [(0, .ref (zw_ad P 0)), (1, .int x1), (2, .int x2), (3, .int x3), (4, .int x4)] []) (σ : zw_S) (x1 : Int32) (x2 : Int32) (x3 : Int32) (x4 : Int32) (y0 : Int32) (hm : m_X6_choose_111 R73 σ x1 x2 x3 x4 y0 = some (r, τ)) : zw_G B P (zq_i B P r τ) 6 σ 111 [(0, .ref (zw_ad P 0)), (1, .int x1), (2, .int x2), (3, .int x3), (4, .int x4)] [.int y0] := by
  unfold m_X6_choose_111 at hm
  refine zr_istore (lv' := [(5, .int y0), (0, .ref (zw_ad P 0)), (1, .int x1), (2, .int x2), (3, .int x3), (4, .int x4)]) E dX6_choose_111 (by decide) rfl ?_
  refine zr_iload_n E dX6_choose_113 3 rfl ?_
  refine zr_iload E dX6_choose_114 5 rfl ?_
  refine zr_iushr E dX6_choose_116 ?_
  refine zr_iconst (v := 1) E dX6_choose_117 (by decide) ?_
  refine zr_iand E dX6_choose_118 ?_
  refine zr_iconst (v := 1) E dX6_choose_119 (by decide) ?_
  refine zr_icmp_ne (tgt := 150) E dX6_choose_120 (by decide) (fun c1 => ?_) (fun c1 => ?_)
  · rw [if_neg c1] at hm
    obtain ⟨v2, ev2, hm⟩ := nm_some hm
    refine zr_iinc (j := 5) (lv' := [(4, .int v2), (5, .int y0), (0, .ref (zw_ad P 0)), (1, .int x1), (2, .int x2), (3, .int x3)]) E dX6_choose_150 rfl ev2 (by decide) rfl ?_
    refine zr_goto (tgt := 73) E dX6_choose_153 (by decide) ?_
    refine zr_sub (lv' := [(0, .ref (zw_ad P 0)), (1, .int x1), (2, .int x2), (3, .int x3), (4, .int v2)]) [2, 3, 4, 5, 0] rfl ?_
    exact hR73 σ x1 x2 x3 v2 hm
  · rw [if_pos c1] at hm
    refine zr_iload E dX6_choose_123 0 rfl ?_
    refine zr_if_eq (tgt := 150) E dX6_choose_125 (by decide) (fun c3 => ?_) (fun c3 => ?_)
    · rw [if_pos c3] at hm
      obtain ⟨v4, ev4, hm⟩ := nm_some hm
      refine zr_iinc (j := 5) (lv' := [(4, .int v4), (5, .int y0), (0, .ref (zw_ad P 0)), (1, .int x1), (2, .int x2), (3, .int x3)]) E dX6_choose_150 rfl ev4 (by decide) rfl ?_
      refine zr_goto (tgt := 73) E dX6_choose_153 (by decide) ?_
      refine zr_sub (lv' := [(0, .ref (zw_ad P 0)), (1, .int x1), (2, .int x2), (3, .int x3), (4, .int v4)]) [2, 3, 4, 5, 0] rfl ?_
      exact hR73 σ x1 x2 x3 v4 hm
    · rw [if_neg c3] at hm
      refine zr_aload_n E dX6_choose_128 1 rfl ?_
      refine zr_iload_n E dX6_choose_129 2 rfl ?_
      refine zr_iload E dX6_choose_130 5 rfl ?_
      refine zr_aload_n E dX6_choose_132 1 rfl ?_
      refine fg_X6_12 E dX6_choose_133 ?_
      refine fg_X6_142 bk_1 E dX6_choose_136 ?_
      refine zr_iload_n E dX6_choose_139 2 rfl ?_
      obtain ⟨hv5, v5, ev5, hm⟩ := rd_some hm
      refine zr_iald E ac_10 hv5 ev5 dX6_choose_140 ?_
      obtain ⟨r7, s6, os6, hm⟩ := cl_some hm
      refine zr_cVi (st := []) E mw_635 cm_X6_isShutInTime (c_X6_isShutInTime B.2.1 P σ x1 x4 v5) os6 (rc_0 P) ⟨by decide, by decide⟩ rfl rfl (Nat.le_of_ble_eq_true rfl) dX6_choose_141 ?_
      refine zr_if_eq (tgt := 150) E dX6_choose_144 (by decide) (fun c8 => ?_) (fun c8 => ?_)
      · rw [if_pos c8] at hm
        obtain ⟨v9, ev9, hm⟩ := nm_some hm
        refine zr_iinc (j := 5) (lv' := [(4, .int v9), (5, .int y0), (0, .ref (zw_ad P 0)), (1, .int x1), (2, .int x2), (3, .int x3)]) E dX6_choose_150 rfl ev9 (by decide) rfl ?_
        refine zr_goto (tgt := 73) E dX6_choose_153 (by decide) ?_
        refine zr_sub (lv' := [(0, .ref (zw_ad P 0)), (1, .int x1), (2, .int x2), (3, .int x3), (4, .int v9)]) [2, 3, 4, 5, 0] rfl ?_
        exact hR73 s6 x1 x2 x3 v9 hm
      · rw [if_neg c8] at hm
        refine zr_iload E dX6_choose_147 5 rfl ?_
        refine zr_istore_n (lv' := [(3, .int x4), (5, .int y0), (0, .ref (zw_ad P 0)), (1, .int x1), (2, .int x2), (4, .int x4)]) E dX6_choose_149 (by decide) rfl ?_
        obtain ⟨v10, ev10, hm⟩ := nm_some hm
        refine zr_iinc (j := 5) (lv' := [(4, .int v10), (3, .int x4), (5, .int y0), (0, .ref (zw_ad P 0)), (1, .int x1), (2, .int x2)]) E dX6_choose_150 rfl ev10 (by decide) rfl ?_
        refine zr_goto (tgt := 73) E dX6_choose_153 (by decide) ?_
        refine zr_sub (lv' := [(0, .ref (zw_ad P 0)), (1, .int x1), (2, .int x2), (3, .int x4), (4, .int v10)]) [3, 4, 5, 1, 0] rfl ?_
        exact hR73 s6 x1 x2 x4 v10 hm
set_option maxRecDepth 100000 in
set_option maxHeartbeats 4000000 in
theorem t_X6_choose_73 {B : zw_B} {P : zw_P} {r : Int32} {τ : zw_S} (E : zf B P cX6_choose RX6 6 6) (hr : B.2.2.2.2.2.2.2.2.1.sig.returnType = some .int) : ∀ (n : Nat) (σ : zw_S) (x1 : Int32) (x2 : Int32) (x3 : Int32) (x4 : Int32), m_X6_choose_73 n σ x1 x2 x3 x4 = some (r, τ) → zw_G B P (zq_i B P r τ) 6 σ 73 [(0, .ref (zw_ad P 0)), (1, .int x1), (2, .int x2), (3, .int x3), (4, .int x4)] [] := by
  intro n
  induction n with
  | zero => intro σ x1 x2 x3 x4 hm; cases hm
  | succ n ih =>
    intro σ x1 x2 x3 x4 hm
    unfold m_X6_choose_73 at hm
    refine zr_iload E dX6_choose_73 4 rfl ?_
    refine zr_bipush (v := 8) E dX6_choose_75 (by decide) ?_
    refine zr_icmp_ge (tgt := 156) E dX6_choose_77 (by decide) (fun c1 => ?_) (fun c1 => ?_)
    · rw [if_pos c1] at hm
      refine zr_sub (lv' := [(0, .ref (zw_ad P 0)), (3, .int x3)]) [0, 3] rfl ?_
      exact t_X6_choose_156 E hr σ x3 hm
    · rw [if_neg c1] at hm
      refine zr_iload_n E dX6_choose_80 3 rfl ?_
      refine zr_if_lt (tgt := 106) E dX6_choose_81 (by decide) (fun c2 => ?_) (fun c2 => ?_)
      · rw [if_pos c2] at hm
        refine zr_iconst (v := 1) E dX6_choose_106 (by decide) ?_
        refine zr_goto (tgt := 111) E dX6_choose_107 (by decide) ?_
        refine zr_sub (lv' := [(0, .ref (zw_ad P 0)), (1, .int x1), (2, .int x2), (3, .int x3), (4, .int x4)]) [0, 1, 2, 3, 4] rfl ?_
        exact t_X6_choose_111 E hr (m_X6_choose_73 n) ih σ x1 x2 x3 x4 1 hm
      · rw [if_neg c2] at hm
        refine zr_aload_n E dX6_choose_84 0 rfl ?_
        refine fg_X6_12 E dX6_choose_85 ?_
        refine fg_X6_69 bk_1 E dX6_choose_88 ?_
        refine zr_iload E dX6_choose_91 4 rfl ?_
        obtain ⟨hv3, v3, ev3, hm⟩ := rd_some hm
        refine zr_iald E ac_2 hv3 ev3 dX6_choose_93 ?_
        refine zr_aload_n E dX6_choose_94 0 rfl ?_
        refine fg_X6_12 E dX6_choose_95 ?_
        refine fg_X6_69 bk_1 E dX6_choose_98 ?_
        refine zr_iload_n E dX6_choose_101 3 rfl ?_
        obtain ⟨hv4, v4, ev4, hm⟩ := rd_some hm
        refine zr_iald E ac_2 hv4 ev4 dX6_choose_102 ?_
        refine zr_icmp_le (tgt := 110) E dX6_choose_103 (by decide) (fun c5 => ?_) (fun c5 => ?_)
        · rw [if_pos c5] at hm
          refine zr_iconst (v := 0) E dX6_choose_110 (by decide) ?_
          refine zr_sub (lv' := [(0, .ref (zw_ad P 0)), (1, .int x1), (2, .int x2), (3, .int x3), (4, .int x4)]) [0, 1, 2, 3, 4] rfl ?_
          exact t_X6_choose_111 E hr (m_X6_choose_73 n) ih σ x1 x2 x3 x4 0 hm
        · rw [if_neg c5] at hm
          refine zr_iconst (v := 1) E dX6_choose_106 (by decide) ?_
          refine zr_goto (tgt := 111) E dX6_choose_107 (by decide) ?_
          refine zr_sub (lv' := [(0, .ref (zw_ad P 0)), (1, .int x1), (2, .int x2), (3, .int x3), (4, .int x4)]) [0, 1, 2, 3, 4] rfl ?_
          exact t_X6_choose_111 E hr (m_X6_choose_73 n) ih σ x1 x2 x3 x4 1 hm
set_option maxRecDepth 100000 in
set_option maxHeartbeats 4000000 in
theorem c_X6_choose (l : Launch) (P : zw_P) (σ : zw_S) (x1 : Int32) : zc_i l P yX6_choose cX6_choose 6 .int 6 [.ref (zw_ad P 0), .int x1] σ (m_X6_choose σ x1) := by
  refine zc_i.of (by decide) (Nat.le_of_ble_eq_true rfl) (fun B r τ E hl hr hm => ?_)
  subst hl
  refine zr_sub (lv' := [(0, .ref (zw_ad P 0)), (1, .int x1)]) [0, 1] rfl ?_
  unfold m_X6_choose at hm
  refine zr_aload_n E dX6_choose_0 0 rfl ?_
  refine fg_X6_12 E dX6_choose_1 ?_
  refine zr_iload_n E dX6_choose_4 1 rfl ?_
  obtain ⟨r2, s1, os1, hm⟩ := cl_some hm
  refine zr_cVi (st := []) E mw_346 cm_X0_hasPerson (c_X0_hasPerson B.2.1 P 1 bk_1 σ x1) os1 (rc_bk P bk_1) ⟨by decide, by decide⟩ rfl rfl (Nat.le_of_ble_eq_true rfl) dX6_choose_5 ?_
  refine zr_if_ne (tgt := 18) E dX6_choose_8 (by decide) (fun c3 => ?_) (fun c3 => ?_)
  · rw [if_neg c3] at hm
    refine zr_aload_n E dX6_choose_18 0 rfl ?_
    refine fg_X6_12 E dX6_choose_19 ?_
    refine fg_X6_136 bk_1 E dX6_choose_22 ?_
    refine zr_iload_n E dX6_choose_25 1 rfl ?_
    obtain ⟨hv4, v4, ev4, hm⟩ := rd_some hm
    refine zr_iald E ac_8 hv4 ev4 dX6_choose_26 ?_
    refine zr_if_ge (tgt := 53) E dX6_choose_27 (by decide) (fun c5 => ?_) (fun c5 => ?_)
    · rw [if_pos c5] at hm
      refine zr_aload_n E dX6_choose_53 0 rfl ?_
      refine zr_ldc E mw_380 dX6_choose_54 ?_
      obtain ⟨r7, s6, os6, hm⟩ := cl_some hm
      refine zr_cVi (st := []) E mw_106 cm_X6_found (c_X6_found B.2.1 P s1 (-1000005)) os6 (rc_0 P) ⟨by decide, by decide⟩ rfl rfl (Nat.le_of_ble_eq_true rfl) dX6_choose_56 ?_
      exact zr_iret E hr rfl hm dX6_choose_59
    · rw [if_neg c5] at hm
      refine zr_aload_n E dX6_choose_30 0 rfl ?_
      refine fg_X6_12 E dX6_choose_31 ?_
      refine fg_X6_139 bk_1 E dX6_choose_34 ?_
      refine zr_iload_n E dX6_choose_37 1 rfl ?_
      obtain ⟨hv8, v8, ev8, hm⟩ := rd_some hm
      refine zr_iald E ac_9 hv8 ev8 dX6_choose_38 ?_
      refine zr_bipush (v := 40) E dX6_choose_39 (by decide) ?_
      refine zr_icmp_ge (tgt := 53) E dX6_choose_41 (by decide) (fun c9 => ?_) (fun c9 => ?_)
      · rw [if_pos c9] at hm
        refine zr_aload_n E dX6_choose_53 0 rfl ?_
        refine zr_ldc E mw_380 dX6_choose_54 ?_
        obtain ⟨r11, s10, os10, hm⟩ := cl_some hm
        refine zr_cVi (st := []) E mw_106 cm_X6_found (c_X6_found B.2.1 P s1 (-1000005)) os10 (rc_0 P) ⟨by decide, by decide⟩ rfl rfl (Nat.le_of_ble_eq_true rfl) dX6_choose_56 ?_
        exact zr_iret E hr rfl hm dX6_choose_59
      · rw [if_neg c9] at hm
        refine zr_aload_n E dX6_choose_44 0 rfl ?_
        refine zr_bipush (v := 40) E dX6_choose_45 (by decide) ?_
        obtain ⟨r13, s12, os12, hm⟩ := cl_some hm
        refine zr_cVi (st := []) E mw_426 cm_X6_isTooLate (c_X6_isTooLate B.2.1 P s1 40) os12 (rc_0 P) ⟨by decide, by decide⟩ rfl rfl (Nat.le_of_ble_eq_true rfl) dX6_choose_47 ?_
        refine zr_if_eq (tgt := 60) E dX6_choose_50 (by decide) (fun c14 => ?_) (fun c14 => ?_)
        · rw [if_pos c14] at hm
          refine zr_aload_n E dX6_choose_60 0 rfl ?_
          refine fg_X6_12 E dX6_choose_61 ?_
          obtain ⟨r16, s15, os15, hm⟩ := cl_some hm
          refine zr_cVi (st := []) E mw_631 cm_X0_freeNames (c_X0_freeNames B.2.1 P 1 bk_1 s12) os15 (rc_bk P bk_1) ⟨by decide, by decide⟩ rfl rfl (Nat.le_of_ble_eq_true rfl) dX6_choose_64 ?_
          refine zr_istore_n (lv' := [(2, .int r16), (0, .ref (zw_ad P 0)), (1, .int x1)]) E dX6_choose_67 (by decide) rfl ?_
          refine zr_iconst (v := (-1)) E dX6_choose_68 (by decide) ?_
          refine zr_istore_n (lv' := [(3, .int ((-1))), (2, .int r16), (0, .ref (zw_ad P 0)), (1, .int x1)]) E dX6_choose_69 (by decide) rfl ?_
          refine zr_iconst (v := 0) E dX6_choose_70 (by decide) ?_
          refine zr_istore (lv' := [(4, .int 0), (3, .int ((-1))), (2, .int r16), (0, .ref (zw_ad P 0)), (1, .int x1)]) E dX6_choose_71 (by decide) rfl ?_
          refine zr_sub (lv' := [(0, .ref (zw_ad P 0)), (1, .int x1), (2, .int r16), (3, .int ((-1))), (4, .int 0)]) [3, 4, 2, 1, 0] rfl ?_
          exact t_X6_choose_73 E hr 200 s15 x1 r16 (-1) 0 hm
        · rw [if_neg c14] at hm
          refine zr_aload_n E dX6_choose_53 0 rfl ?_
          refine zr_ldc E mw_380 dX6_choose_54 ?_
          obtain ⟨r18, s17, os17, hm⟩ := cl_some hm
          refine zr_cVi (st := []) E mw_106 cm_X6_found (c_X6_found B.2.1 P s12 (-1000005)) os17 (rc_0 P) ⟨by decide, by decide⟩ rfl rfl (Nat.le_of_ble_eq_true rfl) dX6_choose_56 ?_
          exact zr_iret E hr rfl hm dX6_choose_59
  · rw [if_pos c3] at hm
    refine zr_aload_n E dX6_choose_11 0 rfl ?_
    refine zr_ldc E mw_98 dX6_choose_12 ?_
    obtain ⟨r20, s19, os19, hm⟩ := cl_some hm
    refine zr_cVi (st := []) E mw_106 cm_X6_found (c_X6_found B.2.1 P s1 (-1000001)) os19 (rc_0 P) ⟨by decide, by decide⟩ rfl rfl (Nat.le_of_ble_eq_true rfl) dX6_choose_14 ?_
    exact zr_iret E hr rfl hm dX6_choose_17
-- X6_handsFor
set_option maxRecDepth 100000 in
set_option maxHeartbeats 4000000 in
theorem t_X6_handsFor_74 {B : zw_B} {P : zw_P} {r : Int32} {τ : zw_S} (E : zf B P cX6_handsFor RX6 4 6) (hr : B.2.2.2.2.2.2.2.2.1.sig.returnType = some .int) (σ : zw_S) (hm : m_X6_handsFor_74 σ = some (r, τ)) : zw_G B P (zq_i B P r τ) 4 σ 74 [(0, .ref (zw_ad P 0))] [] := by
  unfold m_X6_handsFor_74 at hm
  refine zr_aload_n E dX6_handsFor_74 0 rfl ?_
  refine zr_ldc E mw_608 dX6_handsFor_75 ?_
  obtain ⟨r2, s1, os1, hm⟩ := cl_some hm
  refine zr_cVi (st := []) E mw_106 cm_X6_found (c_X6_found B.2.1 P σ (-1000004)) os1 (rc_0 P) ⟨by decide, by decide⟩ rfl rfl (Nat.le_of_ble_eq_true rfl) dX6_handsFor_77 ?_
  exact zr_iret E hr rfl hm dX6_handsFor_80
set_option maxRecDepth 100000 in
set_option maxHeartbeats 4000000 in
theorem t_X6_handsFor_50 {B : zw_B} {P : zw_P} {r : Int32} {τ : zw_S} (E : zf B P cX6_handsFor RX6 4 6) (hr : B.2.2.2.2.2.2.2.2.1.sig.returnType = some .int) : ∀ (n : Nat) (σ : zw_S) (x1 : Int32) (x2 : Int32) (x3 : Int32), m_X6_handsFor_50 n σ x1 x2 x3 = some (r, τ) → zw_G B P (zq_i B P r τ) 4 σ 50 [(0, .ref (zw_ad P 0)), (1, .int x1), (2, .int x2), (3, .int x3)] [] := by
  intro n
  induction n with
  | zero => intro σ x1 x2 x3 hm; cases hm
  | succ n ih =>
    intro σ x1 x2 x3 hm
    unfold m_X6_handsFor_50 at hm
    refine zr_iload_n E dX6_handsFor_50 3 rfl ?_
    refine zr_bipush (v := 9) E dX6_handsFor_51 (by decide) ?_
    refine zr_icmp_gt (tgt := 74) E dX6_handsFor_53 (by decide) (fun c1 => ?_) (fun c1 => ?_)
    · rw [if_pos c1] at hm
      refine zr_sub (lv' := [(0, .ref (zw_ad P 0))]) [0] rfl ?_
      exact t_X6_handsFor_74 E hr σ hm
    · rw [if_neg c1] at hm
      refine zr_aload_n E dX6_handsFor_56 0 rfl ?_
      refine zr_iload_n E dX6_handsFor_57 1 rfl ?_
      refine zr_iload_n E dX6_handsFor_58 2 rfl ?_
      refine zr_iload_n E dX6_handsFor_59 3 rfl ?_
      obtain ⟨r3, s2, os2, hm⟩ := cl_some hm
      refine zr_cVi (st := []) E mw_635 cm_X6_isShutInTime (c_X6_isShutInTime B.2.1 P σ x1 x2 x3) os2 (rc_0 P) ⟨by decide, by decide⟩ rfl rfl (Nat.le_of_ble_eq_true rfl) dX6_handsFor_60 ?_
      refine zr_if_eq (tgt := 68) E dX6_handsFor_63 (by decide) (fun c4 => ?_) (fun c4 => ?_)
      · rw [if_pos c4] at hm
        obtain ⟨v5, ev5, hm⟩ := nm_some hm
        refine zr_iinc (j := 3) (lv' := [(3, .int v5), (0, .ref (zw_ad P 0)), (1, .int x1), (2, .int x2)]) E dX6_handsFor_68 rfl ev5 (by decide) rfl ?_
        refine zr_goto (tgt := 50) E dX6_handsFor_71 (by decide) ?_
        refine zr_sub (lv' := [(0, .ref (zw_ad P 0)), (1, .int x1), (2, .int x2), (3, .int v5)]) [1, 2, 3, 0] rfl ?_
        exact ih s2 x1 x2 v5 hm
      · rw [if_neg c4] at hm
        refine zr_iload_n E dX6_handsFor_66 3 rfl ?_
        exact zr_iret E hr rfl hm dX6_handsFor_67
set_option maxRecDepth 100000 in
set_option maxHeartbeats 4000000 in
theorem c_X6_handsFor (l : Launch) (P : zw_P) (σ : zw_S) (x1 : Int32) : zc_i l P yX6_handsFor cX6_handsFor 4 .int 6 [.ref (zw_ad P 0), .int x1] σ (m_X6_handsFor σ x1) := by
  refine zc_i.of (by decide) (Nat.le_of_ble_eq_true rfl) (fun B r τ E hl hr hm => ?_)
  subst hl
  refine zr_sub (lv' := [(0, .ref (zw_ad P 0)), (1, .int x1)]) [0, 1] rfl ?_
  unfold m_X6_handsFor at hm
  refine zr_aload_n E dX6_handsFor_0 0 rfl ?_
  refine fg_X6_12 E dX6_handsFor_1 ?_
  refine zr_iload_n E dX6_handsFor_4 1 rfl ?_
  obtain ⟨r2, s1, os1, hm⟩ := cl_some hm
  refine zr_cVi (st := []) E mw_346 cm_X0_hasPerson (c_X0_hasPerson B.2.1 P 1 bk_1 σ x1) os1 (rc_bk P bk_1) ⟨by decide, by decide⟩ rfl rfl (Nat.le_of_ble_eq_true rfl) dX6_handsFor_5 ?_
  refine zr_if_ne (tgt := 18) E dX6_handsFor_8 (by decide) (fun c3 => ?_) (fun c3 => ?_)
  · rw [if_neg c3] at hm
    refine zr_aload_n E dX6_handsFor_18 0 rfl ?_
    refine fg_X6_12 E dX6_handsFor_19 ?_
    refine fg_X6_136 bk_1 E dX6_handsFor_22 ?_
    refine zr_iload_n E dX6_handsFor_25 1 rfl ?_
    obtain ⟨hv4, v4, ev4, hm⟩ := rd_some hm
    refine zr_iald E ac_8 hv4 ev4 dX6_handsFor_26 ?_
    refine zr_istore_n (lv' := [(2, .int v4), (0, .ref (zw_ad P 0)), (1, .int x1)]) E dX6_handsFor_27 (by decide) rfl ?_
    refine zr_iload_n E dX6_handsFor_28 0 rfl ?_
    refine zr_if_lt (tgt := 41) E dX6_handsFor_29 (by decide) (fun c5 => ?_) (fun c5 => ?_)
    · rw [if_pos c5] at hm
      refine zr_aload_n E dX6_handsFor_41 1 rfl ?_
      refine zr_ldc E mw_380 dX6_handsFor_42 ?_
      obtain ⟨r7, s6, os6, hm⟩ := cl_some hm
      refine zr_cVi (st := []) E mw_106 cm_X6_found (c_X6_found B.2.1 P s1 (-1000005)) os6 (rc_0 P) ⟨by decide, by decide⟩ rfl rfl (Nat.le_of_ble_eq_true rfl) dX6_handsFor_44 ?_
      exact zr_iret E hr rfl hm dX6_handsFor_47
    · rw [if_neg c5] at hm
      refine zr_aload_n E dX6_handsFor_32 1 rfl ?_
      refine zr_bipush (v := 40) E dX6_handsFor_33 (by decide) ?_
      obtain ⟨r9, s8, os8, hm⟩ := cl_some hm
      refine zr_cVi (st := []) E mw_426 cm_X6_isTooLate (c_X6_isTooLate B.2.1 P s1 40) os8 (rc_0 P) ⟨by decide, by decide⟩ rfl rfl (Nat.le_of_ble_eq_true rfl) dX6_handsFor_35 ?_
      refine zr_if_eq (tgt := 48) E dX6_handsFor_38 (by decide) (fun c10 => ?_) (fun c10 => ?_)
      · rw [if_pos c10] at hm
        refine zr_iconst (v := 1) E dX6_handsFor_48 (by decide) ?_
        refine zr_istore_n (lv' := [(3, .int 1), (2, .int v4), (0, .ref (zw_ad P 0)), (1, .int x1)]) E dX6_handsFor_49 (by decide) rfl ?_
        refine zr_sub (lv' := [(0, .ref (zw_ad P 0)), (1, .int x1), (2, .int v4), (3, .int 1)]) [2, 3, 1, 0] rfl ?_
        exact t_X6_handsFor_50 E hr 200 s8 x1 v4 1 hm
      · rw [if_neg c10] at hm
        refine zr_aload_n E dX6_handsFor_41 1 rfl ?_
        refine zr_ldc E mw_380 dX6_handsFor_42 ?_
        obtain ⟨r12, s11, os11, hm⟩ := cl_some hm
        refine zr_cVi (st := []) E mw_106 cm_X6_found (c_X6_found B.2.1 P s8 (-1000005)) os11 (rc_0 P) ⟨by decide, by decide⟩ rfl rfl (Nat.le_of_ble_eq_true rfl) dX6_handsFor_44 ?_
        exact zr_iret E hr rfl hm dX6_handsFor_47
  · rw [if_pos c3] at hm
    refine zr_aload_n E dX6_handsFor_11 0 rfl ?_
    refine zr_ldc E mw_98 dX6_handsFor_12 ?_
    obtain ⟨r14, s13, os13, hm⟩ := cl_some hm
    refine zr_cVi (st := []) E mw_106 cm_X6_found (c_X6_found B.2.1 P s1 (-1000001)) os13 (rc_0 P) ⟨by decide, by decide⟩ rfl rfl (Nat.le_of_ble_eq_true rfl) dX6_handsFor_14 ?_
    exact zr_iret E hr rfl hm dX6_handsFor_17
-- X6_whyNoGiving
set_option maxRecDepth 100000 in
set_option maxHeartbeats 4000000 in
theorem c_X6_whyNoGiving (l : Launch) (P : zw_P) (σ : zw_S) (x1 : Int32) : zc_i l P yX6_whyNoGiving cX6_whyNoGiving 2 .int 1 [.ref (zw_ad P 0), .int x1] σ (m_X6_whyNoGiving σ x1) := by
  refine zc_i.of (by decide) (Nat.le_of_ble_eq_true rfl) (fun B r τ E hl hr hm => ?_)
  subst hl
  refine zr_sub (lv' := [(0, .ref (zw_ad P 0)), (1, .int x1)]) [0, 1] rfl ?_
  unfold m_X6_whyNoGiving at hm
  refine zr_iload_n E dX6_whyNoGiving_0 1 rfl ?_
  refine zr_iconst (v := 1) E dX6_whyNoGiving_1 (by decide) ?_
  refine zr_bipush (v := 40) E dX6_whyNoGiving_2 (by decide) ?_
  obtain ⟨r2, s1, os1, hm⟩ := cl_some hm
  refine zr_cSi (st := []) E mw_103 cm_X6_isIn (c_X6_isIn B.2.1 P σ x1 1 40) os1 ⟨by decide, by decide⟩ rfl rfl (Nat.le_of_ble_eq_true rfl) dX6_whyNoGiving_4 ?_
  refine zr_if_ne (tgt := 13) E dX6_whyNoGiving_7 (by decide) (fun c3 => ?_) (fun c3 => ?_)
  · rw [if_neg c3] at hm
    refine zr_aload_n E dX6_whyNoGiving_13 0 rfl ?_
    refine zr_iload_n E dX6_whyNoGiving_14 1 rfl ?_
    obtain ⟨r5, s4, os4, hm⟩ := cl_some hm
    refine zr_cVi (st := []) E mw_426 cm_X6_isTooLate (c_X6_isTooLate B.2.1 P s1 x1) os4 (rc_0 P) ⟨by decide, by decide⟩ rfl rfl (Nat.le_of_ble_eq_true rfl) dX6_whyNoGiving_15 ?_
    refine zr_if_eq (tgt := 24) E dX6_whyNoGiving_18 (by decide) (fun c6 => ?_) (fun c6 => ?_)
    · rw [if_pos c6] at hm
      refine zr_aload_n E dX6_whyNoGiving_24 0 rfl ?_
      refine fg_X6_34 E dX6_whyNoGiving_25 ?_
      refine zr_aload_n E dX6_whyNoGiving_28 0 rfl ?_
      refine fg_X6_12 E dX6_whyNoGiving_29 ?_
      obtain ⟨r8, s7, os7, hm⟩ := cl_some hm
      refine zr_cVi (st := []) E mw_670 cm_X1_gather (c_X1_gather B.2.1 P 1 bk_1 s4) os7 (rc_39 P) ⟨by decide, by decide⟩ rfl rfl (Nat.le_of_ble_eq_true rfl) dX6_whyNoGiving_32 ?_
      refine zr_if_eq (tgt := 42) E dX6_whyNoGiving_35 (by decide) (fun c9 => ?_) (fun c9 => ?_)
      · rw [if_pos c9] at hm
        refine zr_ldc E mw_669 dX6_whyNoGiving_42 ?_
        exact zr_iret E hr rfl hm dX6_whyNoGiving_44
      · rw [if_neg c9] at hm
        refine zr_iconst (v := 0) E dX6_whyNoGiving_38 (by decide) ?_
        refine zr_goto (tgt := 44) E dX6_whyNoGiving_39 (by decide) ?_
        exact zr_iret E hr rfl hm dX6_whyNoGiving_44
    · rw [if_neg c6] at hm
      refine zr_ldc E mw_380 dX6_whyNoGiving_21 ?_
      exact zr_iret E hr rfl hm dX6_whyNoGiving_23
  · rw [if_pos c3] at hm
    refine zr_ldc E mw_98 dX6_whyNoGiving_10 ?_
    exact zr_iret E hr rfl hm dX6_whyNoGiving_12
-- X6_most
set_option maxRecDepth 100000 in
set_option maxHeartbeats 4000000 in
theorem c_X6_most (l : Launch) (P : zw_P) (σ : zw_S) (x1 : Int32) : zc_i l P yX6_most cX6_most 3 .int 12 [.ref (zw_ad P 0), .int x1] σ (m_X6_most σ x1) := by
  refine zc_i.of (by decide) (Nat.le_of_ble_eq_true rfl) (fun B r τ E hl hr hm => ?_)
  subst hl
  refine zr_sub (lv' := [(0, .ref (zw_ad P 0)), (1, .int x1)]) [0, 1] rfl ?_
  unfold m_X6_most at hm
  refine zr_aload_n E dX6_most_0 0 rfl ?_
  refine zr_iload_n E dX6_most_1 1 rfl ?_
  obtain ⟨r2, s1, os1, hm⟩ := cl_some hm
  refine zr_cVi (st := []) E mw_665 cm_X6_whyNoGiving (c_X6_whyNoGiving B.2.1 P σ x1) os1 (rc_0 P) ⟨by decide, by decide⟩ rfl rfl (Nat.le_of_ble_eq_true rfl) dX6_most_2 ?_
  refine zr_istore_n (lv' := [(2, .int r2), (0, .ref (zw_ad P 0)), (1, .int x1)]) E dX6_most_5 (by decide) rfl ?_
  refine zr_iload_n E dX6_most_6 0 rfl ?_
  refine zr_if_eq (tgt := 16) E dX6_most_7 (by decide) (fun c3 => ?_) (fun c3 => ?_)
  · rw [if_pos c3] at hm
    refine zr_aload_n E dX6_most_16 1 rfl ?_
    refine fg_X6_34 E dX6_most_17 ?_
    refine zr_aload_n E dX6_most_20 1 rfl ?_
    refine fg_X6_12 E dX6_most_21 ?_
    refine zr_iload_n E dX6_most_24 2 rfl ?_
    obtain ⟨s4, os4, hm⟩ := cv_some hm
    refine zr_cVv (st := []) E mw_678 cm_X1_begin (c_X1_begin B.2.1 P 1 bk_1 s1 x1) os4 (rc_39 P) ⟨by decide, by decide⟩ rfl rfl (Nat.le_of_ble_eq_true rfl) dX6_most_25 ?_
    refine zr_aload_n E dX6_most_28 1 rfl ?_
    refine fg_X6_34 E dX6_most_29 ?_
    refine zr_aload_n E dX6_most_32 1 rfl ?_
    refine fg_X6_12 E dX6_most_33 ?_
    refine zr_iload_n E dX6_most_36 2 rfl ?_
    refine zr_iconst (v := 0) E dX6_most_37 (by decide) ?_
    refine zr_aload_n E dX6_most_38 1 rfl ?_
    refine fg_X6_12 E dX6_most_39 ?_
    obtain ⟨r6, s5, os5, hm⟩ := cl_some hm
    refine zr_cVi (st := [.int 0, .int x1, .ref (zw_ad P 1), .ref (zw_ad P 39)]) E mw_631 cm_X0_freeNames (c_X0_freeNames B.2.1 P 1 bk_1 s4) os5 (rc_bk P bk_1) ⟨by decide, by decide⟩ rfl rfl (Nat.le_of_ble_eq_true rfl) dX6_most_42 ?_
    refine zr_aload_n E dX6_most_45 1 rfl ?_
    refine fg_X6_34 E dX6_most_46 ?_
    refine fg_X6_198 E dX6_most_49 ?_
    obtain ⟨s7, os7, hm⟩ := cv_some hm
    refine zr_cVv (st := []) E mw_710 cm_X1_weighFrom (c_X1_weighFrom B.2.1 P 1 bk_1 s5 x1 0 r6 (s5 39 8)) os7 (rc_39 P) ⟨by decide, by decide⟩ rfl rfl (Nat.le_of_ble_eq_true rfl) dX6_most_52 ?_
    refine zr_aload_n E dX6_most_55 1 rfl ?_
    refine fg_X6_34 E dX6_most_56 ?_
    refine fg_X6_205 E dX6_most_59 ?_
    exact zr_iret E hr rfl hm dX6_most_62
  · rw [if_neg c3] at hm
    refine zr_aload_n E dX6_most_10 1 rfl ?_
    refine zr_iload_n E dX6_most_11 0 rfl ?_
    obtain ⟨r9, s8, os8, hm⟩ := cl_some hm
    refine zr_cVi (st := []) E mw_106 cm_X6_found (c_X6_found B.2.1 P s1 r2) os8 (rc_0 P) ⟨by decide, by decide⟩ rfl rfl (Nat.le_of_ble_eq_true rfl) dX6_most_12 ?_
    exact zr_iret E hr rfl hm dX6_most_15
-- X6_give
set_option maxRecDepth 100000 in
set_option maxHeartbeats 4000000 in
theorem c_X6_give (l : Launch) (P : zw_P) (σ : zw_S) (x1 : Int32) : zc_i l P yX6_give cX6_give 3 .int 12 [.ref (zw_ad P 0), .int x1] σ (m_X6_give σ x1) := by
  refine zc_i.of (by decide) (Nat.le_of_ble_eq_true rfl) (fun B r τ E hl hr hm => ?_)
  subst hl
  refine zr_sub (lv' := [(0, .ref (zw_ad P 0)), (1, .int x1)]) [0, 1] rfl ?_
  unfold m_X6_give at hm
  refine zr_aload_n E dX6_give_0 0 rfl ?_
  refine zr_iload_n E dX6_give_1 1 rfl ?_
  obtain ⟨r2, s1, os1, hm⟩ := cl_some hm
  refine zr_cVi (st := []) E mw_665 cm_X6_whyNoGiving (c_X6_whyNoGiving B.2.1 P σ x1) os1 (rc_0 P) ⟨by decide, by decide⟩ rfl rfl (Nat.le_of_ble_eq_true rfl) dX6_give_2 ?_
  refine zr_istore_n (lv' := [(2, .int r2), (0, .ref (zw_ad P 0)), (1, .int x1)]) E dX6_give_5 (by decide) rfl ?_
  refine zr_iload_n E dX6_give_6 0 rfl ?_
  refine zr_if_eq (tgt := 16) E dX6_give_7 (by decide) (fun c3 => ?_) (fun c3 => ?_)
  · rw [if_pos c3] at hm
    refine zr_aload_n E dX6_give_16 1 rfl ?_
    refine fg_X6_34 E dX6_give_17 ?_
    refine zr_aload_n E dX6_give_20 1 rfl ?_
    refine fg_X6_12 E dX6_give_21 ?_
    refine zr_iload_n E dX6_give_24 2 rfl ?_
    obtain ⟨s4, os4, hm⟩ := cv_some hm
    refine zr_cVv (st := []) E mw_678 cm_X1_begin (c_X1_begin B.2.1 P 1 bk_1 s1 x1) os4 (rc_39 P) ⟨by decide, by decide⟩ rfl rfl (Nat.le_of_ble_eq_true rfl) dX6_give_25 ?_
    refine zr_aload_n E dX6_give_28 1 rfl ?_
    refine fg_X6_34 E dX6_give_29 ?_
    refine zr_aload_n E dX6_give_32 1 rfl ?_
    refine fg_X6_12 E dX6_give_33 ?_
    refine zr_iload_n E dX6_give_36 2 rfl ?_
    refine zr_iconst (v := 0) E dX6_give_37 (by decide) ?_
    refine zr_aload_n E dX6_give_38 1 rfl ?_
    refine fg_X6_12 E dX6_give_39 ?_
    obtain ⟨r6, s5, os5, hm⟩ := cl_some hm
    refine zr_cVi (st := [.int 0, .int x1, .ref (zw_ad P 1), .ref (zw_ad P 39)]) E mw_631 cm_X0_freeNames (c_X0_freeNames B.2.1 P 1 bk_1 s4) os5 (rc_bk P bk_1) ⟨by decide, by decide⟩ rfl rfl (Nat.le_of_ble_eq_true rfl) dX6_give_42 ?_
    refine zr_aload_n E dX6_give_45 1 rfl ?_
    refine fg_X6_34 E dX6_give_46 ?_
    refine fg_X6_198 E dX6_give_49 ?_
    obtain ⟨s7, os7, hm⟩ := cv_some hm
    refine zr_cVv (st := []) E mw_710 cm_X1_weighFrom (c_X1_weighFrom B.2.1 P 1 bk_1 s5 x1 0 r6 (s5 39 8)) os7 (rc_39 P) ⟨by decide, by decide⟩ rfl rfl (Nat.le_of_ble_eq_true rfl) dX6_give_52 ?_
    refine zr_aload_n E dX6_give_55 1 rfl ?_
    refine fg_X6_34 E dX6_give_56 ?_
    refine zr_aload_n E dX6_give_59 1 rfl ?_
    refine fg_X6_12 E dX6_give_60 ?_
    obtain ⟨r9, s8, os8, hm⟩ := cl_some hm
    refine zr_cVi (st := []) E mw_748 cm_X1_carryOut (c_X1_carryOut B.2.1 P 1 bk_1 s7) os8 (rc_39 P) ⟨by decide, by decide⟩ rfl rfl (Nat.le_of_ble_eq_true rfl) dX6_give_63 ?_
    exact zr_iret E hr rfl hm dX6_give_66
  · rw [if_neg c3] at hm
    refine zr_aload_n E dX6_give_10 1 rfl ?_
    refine zr_iload_n E dX6_give_11 0 rfl ?_
    obtain ⟨r11, s10, os10, hm⟩ := cl_some hm
    refine zr_cVi (st := []) E mw_106 cm_X6_found (c_X6_found B.2.1 P s1 r2) os10 (rc_0 P) ⟨by decide, by decide⟩ rfl rfl (Nat.le_of_ble_eq_true rfl) dX6_give_12 ?_
    exact zr_iret E hr rfl hm dX6_give_15
-- X6_lives
set_option maxRecDepth 100000 in
set_option maxHeartbeats 4000000 in
theorem t_X6_lives_106 {B : zw_B} {P : zw_P} {r : Int32} {τ : zw_S} (E : zf B P cX6_lives RX6 4 6) (hr : B.2.2.2.2.2.2.2.2.1.sig.returnType = some .int) (σ : zw_S) (hm : m_X6_lives_106 σ = some (r, τ)) : zw_G B P (zq_i B P r τ) 4 σ 106 [(0, .ref (zw_ad P 0))] [] := by
  unfold m_X6_lives_106 at hm
  refine zr_aload_n E dX6_lives_106 0 rfl ?_
  refine zr_ldc E mw_608 dX6_lives_107 ?_
  obtain ⟨r2, s1, os1, hm⟩ := cl_some hm
  refine zr_cVi (st := []) E mw_106 cm_X6_found (c_X6_found B.2.1 P σ (-1000004)) os1 (rc_0 P) ⟨by decide, by decide⟩ rfl rfl (Nat.le_of_ble_eq_true rfl) dX6_lives_109 ?_
  exact zr_iret E hr rfl hm dX6_lives_112
set_option maxRecDepth 100000 in
set_option maxHeartbeats 4000000 in
theorem t_X6_lives_49 {B : zw_B} {P : zw_P} {r : Int32} {τ : zw_S} (E : zf B P cX6_lives RX6 4 6) (hr : B.2.2.2.2.2.2.2.2.1.sig.returnType = some .int) : ∀ (n : Nat) (σ : zw_S) (x1 : Int32) (x2 : Int32) (x3 : Int32), m_X6_lives_49 n σ x1 x2 x3 = some (r, τ) → zw_G B P (zq_i B P r τ) 4 σ 49 [(0, .ref (zw_ad P 0)), (1, .int x1), (2, .int x2), (3, .int x3)] [] := by
  intro n
  induction n with
  | zero => intro σ x1 x2 x3 hm; cases hm
  | succ n ih =>
    intro σ x1 x2 x3 hm
    unfold m_X6_lives_49 at hm
    refine zr_iload_n E dX6_lives_49 3 rfl ?_
    refine zr_bipush (v := 9) E dX6_lives_50 (by decide) ?_
    refine zr_icmp_gt (tgt := 106) E dX6_lives_52 (by decide) (fun c1 => ?_) (fun c1 => ?_)
    · rw [if_pos c1] at hm
      refine zr_sub (lv' := [(0, .ref (zw_ad P 0))]) [0] rfl ?_
      exact t_X6_lives_106 E hr σ hm
    · rw [if_neg c1] at hm
      refine zr_aload_n E dX6_lives_55 0 rfl ?_
      refine fg_X6_19 E dX6_lives_56 ?_
      refine zr_iconst (v := 0) E dX6_lives_59 (by decide) ?_
      obtain ⟨s2, es2, hm⟩ := nm_some hm
      refine fp_X6_126 bk_25 E es2 dX6_lives_60 ?_
      refine zr_aload_n E dX6_lives_63 0 rfl ?_
      refine fg_X6_19 E dX6_lives_64 ?_
      refine zr_iload_n E dX6_lives_67 2 rfl ?_
      refine zr_iconst (v := 0) E dX6_lives_68 (by decide) ?_
      refine zr_iload_n E dX6_lives_69 1 rfl ?_
      obtain ⟨r4, s3, os3, hm⟩ := cl_some hm
      refine zr_cVi (st := []) E mw_322 cm_X0_addPerson (c_X0_addPerson B.2.1 P 25 bk_25 s2 x2 0 x1) os3 (rc_bk P bk_25) ⟨by decide, by decide⟩ rfl rfl (Nat.le_of_ble_eq_true rfl) dX6_lives_70 ?_
      refine zr_pop E dX6_lives_73 rfl ?_
      refine zr_aload_n E dX6_lives_74 0 rfl ?_
      refine fg_X6_25 E dX6_lives_75 ?_
      refine zr_aload_n E dX6_lives_78 0 rfl ?_
      refine fg_X6_19 E dX6_lives_79 ?_
      refine zr_bipush (v := 40) E dX6_lives_82 (by decide) ?_
      obtain ⟨s5, os5, hm⟩ := cv_some hm
      refine zr_cVv (st := []) E mw_435 cm_X5_go (c_X5_go B.2.1 P 25 bk_25 s3 40) os5 (rc_37 P) ⟨by decide, by decide⟩ rfl rfl (Nat.le_of_ble_eq_true rfl) dX6_lives_84 ?_
      refine zr_aload_n E dX6_lives_87 0 rfl ?_
      refine fg_X6_19 E dX6_lives_88 ?_
      refine zr_iload_n E dX6_lives_91 1 rfl ?_
      obtain ⟨r7, s6, os6, hm⟩ := cl_some hm
      refine zr_cVi (st := []) E mw_248 cm_X0_isOpen (c_X0_isOpen B.2.1 P 25 bk_25 s5 x1) os6 (rc_bk P bk_25) ⟨by decide, by decide⟩ rfl rfl (Nat.le_of_ble_eq_true rfl) dX6_lives_92 ?_
      refine zr_if_ne (tgt := 100) E dX6_lives_95 (by decide) (fun c8 => ?_) (fun c8 => ?_)
      · rw [if_neg c8] at hm
        obtain ⟨v9, ev9, hm⟩ := nm_some hm
        refine zr_iinc (j := 3) (lv' := [(3, .int v9), (0, .ref (zw_ad P 0)), (1, .int x1), (2, .int x2)]) E dX6_lives_100 rfl ev9 (by decide) rfl ?_
        refine zr_goto (tgt := 49) E dX6_lives_103 (by decide) ?_
        refine zr_sub (lv' := [(0, .ref (zw_ad P 0)), (1, .int x1), (2, .int x2), (3, .int v9)]) [1, 2, 3, 0] rfl ?_
        exact ih s6 x1 x2 v9 hm
      · rw [if_pos c8] at hm
        refine zr_iload_n E dX6_lives_98 3 rfl ?_
        exact zr_iret E hr rfl hm dX6_lives_99
set_option maxRecDepth 100000 in
set_option maxHeartbeats 4000000 in
theorem c_X6_lives (l : Launch) (P : zw_P) (σ : zw_S) (x1 : Int32) (x2 : Int32) : zc_i l P yX6_lives cX6_lives 4 .int 6 [.ref (zw_ad P 0), .int x1, .int x2] σ (m_X6_lives σ x1 x2) := by
  refine zc_i.of (by decide) (Nat.le_of_ble_eq_true rfl) (fun B r τ E hl hr hm => ?_)
  subst hl
  refine zr_sub (lv' := [(0, .ref (zw_ad P 0)), (1, .int x1), (2, .int x2)]) [0, 1, 2] rfl ?_
  unfold m_X6_lives at hm
  refine zr_iload_n E dX6_lives_0 1 rfl ?_
  obtain ⟨r2, s1, os1, hm⟩ := cl_some hm
  refine zr_cSi (st := []) E mw_100 cm_X6_isName (c_X6_isName B.2.1 P σ x1) os1 ⟨by decide, by decide⟩ rfl rfl (Nat.le_of_ble_eq_true rfl) dX6_lives_1 ?_
  refine zr_if_eq (tgt := 17) E dX6_lives_4 (by decide) (fun c3 => ?_) (fun c3 => ?_)
  · rw [if_pos c3] at hm
    refine zr_aload_n E dX6_lives_17 0 rfl ?_
    refine zr_ldc E mw_98 dX6_lives_18 ?_
    obtain ⟨r5, s4, os4, hm⟩ := cl_some hm
    refine zr_cVi (st := []) E mw_106 cm_X6_found (c_X6_found B.2.1 P s1 (-1000001)) os4 (rc_0 P) ⟨by decide, by decide⟩ rfl rfl (Nat.le_of_ble_eq_true rfl) dX6_lives_20 ?_
    exact zr_iret E hr rfl hm dX6_lives_23
  · rw [if_neg c3] at hm
    refine zr_iload_n E dX6_lives_7 2 rfl ?_
    refine zr_iconst (v := 1) E dX6_lives_8 (by decide) ?_
    refine zr_bipush (v := 9) E dX6_lives_9 (by decide) ?_
    obtain ⟨r7, s6, os6, hm⟩ := cl_some hm
    refine zr_cSi (st := []) E mw_103 cm_X6_isIn (c_X6_isIn B.2.1 P s1 x2 1 9) os6 ⟨by decide, by decide⟩ rfl rfl (Nat.le_of_ble_eq_true rfl) dX6_lives_11 ?_
    refine zr_if_ne (tgt := 24) E dX6_lives_14 (by decide) (fun c8 => ?_) (fun c8 => ?_)
    · rw [if_neg c8] at hm
      refine zr_aload_n E dX6_lives_24 0 rfl ?_
      refine fg_X6_12 E dX6_lives_25 ?_
      refine zr_iload_n E dX6_lives_28 1 rfl ?_
      obtain ⟨r10, s9, os9, hm⟩ := cl_some hm
      refine zr_cVi (st := []) E mw_248 cm_X0_isOpen (c_X0_isOpen B.2.1 P 1 bk_1 s6 x1) os9 (rc_bk P bk_1) ⟨by decide, by decide⟩ rfl rfl (Nat.le_of_ble_eq_true rfl) dX6_lives_29 ?_
      refine zr_if_ne (tgt := 42) E dX6_lives_32 (by decide) (fun c11 => ?_) (fun c11 => ?_)
      · rw [if_neg c11] at hm
        refine zr_aload_n E dX6_lives_42 0 rfl ?_
        refine zr_iconst (v := 0) E dX6_lives_43 (by decide) ?_
        obtain ⟨s12, os12, hm⟩ := cv_some hm
        refine zr_cVv (st := []) E mw_550 cm_X6_lookAhead (c_X6_lookAhead B.2.1 P s9 0) os12 (rc_0 P) ⟨by decide, by decide⟩ rfl rfl (Nat.le_of_ble_eq_true rfl) dX6_lives_44 ?_
        refine zr_iconst (v := 1) E dX6_lives_47 (by decide) ?_
        refine zr_istore_n (lv' := [(3, .int 1), (0, .ref (zw_ad P 0)), (1, .int x1), (2, .int x2)]) E dX6_lives_48 (by decide) rfl ?_
        refine zr_sub (lv' := [(0, .ref (zw_ad P 0)), (1, .int x1), (2, .int x2), (3, .int 1)]) [1, 2, 3, 0] rfl ?_
        exact t_X6_lives_49 E hr 200 s12 x1 x2 1 hm
      · rw [if_pos c11] at hm
        refine zr_aload_n E dX6_lives_35 0 rfl ?_
        refine zr_ldc E mw_380 dX6_lives_36 ?_
        obtain ⟨r14, s13, os13, hm⟩ := cl_some hm
        refine zr_cVi (st := []) E mw_106 cm_X6_found (c_X6_found B.2.1 P s9 (-1000005)) os13 (rc_0 P) ⟨by decide, by decide⟩ rfl rfl (Nat.le_of_ble_eq_true rfl) dX6_lives_38 ?_
        exact zr_iret E hr rfl hm dX6_lives_41
    · rw [if_pos c8] at hm
      refine zr_aload_n E dX6_lives_17 0 rfl ?_
      refine zr_ldc E mw_98 dX6_lives_18 ?_
      obtain ⟨r16, s15, os15, hm⟩ := cl_some hm
      refine zr_cVi (st := []) E mw_106 cm_X6_found (c_X6_found B.2.1 P s6 (-1000001)) os15 (rc_0 P) ⟨by decide, by decide⟩ rfl rfl (Nat.le_of_ble_eq_true rfl) dX6_lives_20 ?_
      exact zr_iret E hr rfl hm dX6_lives_23
-- X6_best
set_option maxRecDepth 100000 in
set_option maxHeartbeats 4000000 in
theorem t_X6_best_131 {B : zw_B} {P : zw_P} {r : Int32} {τ : zw_S} (E : zf B P cX6_best RX6 6 5) (hr : B.2.2.2.2.2.2.2.2.1.sig.returnType = some .int) (σ : zw_S) (x2 : Int32) (hm : m_X6_best_131 σ x2 = some (r, τ)) : zw_G B P (zq_i B P r τ) 6 σ 131 [(0, .ref (zw_ad P 0)), (2, .int x2)] [] := by
  unfold m_X6_best_131 at hm
  refine zr_iload_n E dX6_best_131 1 rfl ?_
  refine zr_if_ge (tgt := 144) E dX6_best_132 (by decide) (fun c1 => ?_) (fun c1 => ?_)
  · rw [if_pos c1] at hm
    refine zr_iload_n E dX6_best_144 1 rfl ?_
    exact zr_iret E hr rfl hm dX6_best_145
  · rw [if_neg c1] at hm
    refine zr_aload_n E dX6_best_135 0 rfl ?_
    refine zr_ldc E mw_608 dX6_best_136 ?_
    obtain ⟨r3, s2, os2, hm⟩ := cl_some hm
    refine zr_cVi (st := []) E mw_106 cm_X6_found (c_X6_found B.2.1 P σ (-1000004)) os2 (rc_0 P) ⟨by decide, by decide⟩ rfl rfl (Nat.le_of_ble_eq_true rfl) dX6_best_138 ?_
    refine zr_goto (tgt := 145) E dX6_best_141 (by decide) ?_
    exact zr_iret E hr rfl hm dX6_best_145
set_option maxRecDepth 100000 in
set_option maxHeartbeats 4000000 in
theorem t_X6_best_39 {B : zw_B} {P : zw_P} {r : Int32} {τ : zw_S} (E : zf B P cX6_best RX6 6 5) (hr : B.2.2.2.2.2.2.2.2.1.sig.returnType = some .int) : ∀ (n : Nat) (σ : zw_S) (x1 : Int32) (x2 : Int32) (x3 : Int32) (x4 : Int32), m_X6_best_39 n σ x1 x2 x3 x4 = some (r, τ) → zw_G B P (zq_i B P r τ) 6 σ 39 [(0, .ref (zw_ad P 0)), (1, .int x1), (2, .int x2), (3, .int x3), (4, .int x4)] [] := by
  intro n
  induction n with
  | zero => intro σ x1 x2 x3 x4 hm; cases hm
  | succ n ih =>
    intro σ x1 x2 x3 x4 hm
    unfold m_X6_best_39 at hm
    refine zr_iload E dX6_best_39 4 rfl ?_
    refine zr_aload_n E dX6_best_41 0 rfl ?_
    refine fg_X6_12 E dX6_best_42 ?_
    refine fg_X6_77 bk_1 E dX6_best_45 ?_
    refine zr_icmp_ge (tgt := 131) E dX6_best_48 (by decide) (fun c1 => ?_) (fun c1 => ?_)
    · rw [if_pos c1] at hm
      refine zr_sub (lv' := [(0, .ref (zw_ad P 0)), (2, .int x2)]) [0, 2] rfl ?_
      exact t_X6_best_131 E hr σ x2 hm
    · rw [if_neg c1] at hm
      refine zr_aload_n E dX6_best_51 0 rfl ?_
      refine fg_X6_12 E dX6_best_52 ?_
      refine zr_iload E dX6_best_55 4 rfl ?_
      obtain ⟨r3, s2, os2, hm⟩ := cl_some hm
      refine zr_cVi (st := []) E mw_622 cm_X0_isEnded (c_X0_isEnded B.2.1 P 1 bk_1 σ x4) os2 (rc_bk P bk_1) ⟨by decide, by decide⟩ rfl rfl (Nat.le_of_ble_eq_true rfl) dX6_best_57 ?_
      refine zr_if_eq (tgt := 66) E dX6_best_60 (by decide) (fun c4 => ?_) (fun c4 => ?_)
      · rw [if_pos c4] at hm
        refine zr_aload_n E dX6_best_66 0 rfl ?_
        refine fg_X6_19 E dX6_best_67 ?_
        refine zr_aload_n E dX6_best_70 0 rfl ?_
        refine fg_X6_12 E dX6_best_71 ?_
        obtain ⟨s5, os5, hm⟩ := cv_some hm
        refine zr_cVv (st := []) E mw_554 cm_X0_setTo (c_X0_setTo B.2.1 P 25 1 bk_25 bk_1 s2) os5 (rc_bk P bk_25) ⟨by decide, by decide⟩ rfl rfl (Nat.le_of_ble_eq_true rfl) dX6_best_74 ?_
        refine zr_aload_n E dX6_best_77 0 rfl ?_
        refine fg_X6_19 E dX6_best_78 ?_
        refine fg_X6_95 bk_25 E dX6_best_81 ?_
        refine zr_iload E dX6_best_84 4 rfl ?_
        refine zr_iconst (v := 0) E dX6_best_86 (by decide) ?_
        obtain ⟨hs6, s6, es6, hm⟩ := wt_some hm
        refine zr_iast E ac_30 hs6 es6 dX6_best_87 ?_
        refine zr_aload_n E dX6_best_88 0 rfl ?_
        refine fg_X6_25 E dX6_best_89 ?_
        refine zr_aload_n E dX6_best_92 0 rfl ?_
        refine fg_X6_19 E dX6_best_93 ?_
        refine zr_iload_n E dX6_best_96 1 rfl ?_
        obtain ⟨s7, os7, hm⟩ := cv_some hm
        refine zr_cVv (st := []) E mw_435 cm_X5_go (c_X5_go B.2.1 P 25 bk_25 s6 x1) os7 (rc_37 P) ⟨by decide, by decide⟩ rfl rfl (Nat.le_of_ble_eq_true rfl) dX6_best_97 ?_
        refine zr_aload_n E dX6_best_100 0 rfl ?_
        refine fg_X6_19 E dX6_best_101 ?_
        obtain ⟨r9, s8, os8, hm⟩ := cl_some hm
        refine zr_cVi (st := []) E mw_562 cm_X0_hoursOfAll (c_X0_hoursOfAll B.2.1 P 25 bk_25 s7) os8 (rc_bk P bk_25) ⟨by decide, by decide⟩ rfl rfl (Nat.le_of_ble_eq_true rfl) dX6_best_104 ?_
        refine zr_istore (lv' := [(5, .int r9), (0, .ref (zw_ad P 0)), (1, .int x1), (2, .int x2), (3, .int x3), (4, .int x4)]) E dX6_best_107 (by decide) rfl ?_
        refine zr_iload_n E dX6_best_109 3 rfl ?_
        refine zr_if_lt (tgt := 119) E dX6_best_110 (by decide) (fun c10 => ?_) (fun c10 => ?_)
        · rw [if_pos c10] at hm
          refine zr_iload E dX6_best_119 5 rfl ?_
          refine zr_istore_n (lv' := [(2, .int x4), (5, .int r9), (0, .ref (zw_ad P 0)), (1, .int x1), (3, .int x3), (4, .int x4)]) E dX6_best_121 (by decide) rfl ?_
          refine zr_iload E dX6_best_122 1 rfl ?_
          refine zr_istore_n (lv' := [(3, .int r9), (2, .int x4), (5, .int r9), (0, .ref (zw_ad P 0)), (1, .int x1), (4, .int x4)]) E dX6_best_124 (by decide) rfl ?_
          obtain ⟨v11, ev11, hm⟩ := nm_some hm
          refine zr_iinc (j := 5) (lv' := [(4, .int v11), (3, .int r9), (2, .int x4), (5, .int r9), (0, .ref (zw_ad P 0)), (1, .int x1)]) E dX6_best_125 rfl ev11 (by decide) rfl ?_
          refine zr_goto (tgt := 39) E dX6_best_128 (by decide) ?_
          refine zr_sub (lv' := [(0, .ref (zw_ad P 0)), (1, .int x1), (2, .int x4), (3, .int r9), (4, .int v11)]) [4, 5, 2, 1, 0] rfl ?_
          exact ih s8 x1 x4 r9 v11 hm
        · rw [if_neg c10] at hm
          refine zr_iload E dX6_best_113 0 rfl ?_
          refine zr_iload_n E dX6_best_115 4 rfl ?_
          refine zr_icmp_ge (tgt := 125) E dX6_best_116 (by decide) (fun c12 => ?_) (fun c12 => ?_)
          · rw [if_pos c12] at hm
            obtain ⟨v13, ev13, hm⟩ := nm_some hm
            refine zr_iinc (j := 5) (lv' := [(4, .int v13), (5, .int r9), (0, .ref (zw_ad P 0)), (1, .int x1), (2, .int x2), (3, .int x3)]) E dX6_best_125 rfl ev13 (by decide) rfl ?_
            refine zr_goto (tgt := 39) E dX6_best_128 (by decide) ?_
            refine zr_sub (lv' := [(0, .ref (zw_ad P 0)), (1, .int x1), (2, .int x2), (3, .int x3), (4, .int v13)]) [2, 3, 4, 5, 0] rfl ?_
            exact ih s8 x1 x2 x3 v13 hm
          · rw [if_neg c12] at hm
            refine zr_iload E dX6_best_119 5 rfl ?_
            refine zr_istore_n (lv' := [(2, .int x4), (5, .int r9), (0, .ref (zw_ad P 0)), (1, .int x1), (3, .int x3), (4, .int x4)]) E dX6_best_121 (by decide) rfl ?_
            refine zr_iload E dX6_best_122 1 rfl ?_
            refine zr_istore_n (lv' := [(3, .int r9), (2, .int x4), (5, .int r9), (0, .ref (zw_ad P 0)), (1, .int x1), (4, .int x4)]) E dX6_best_124 (by decide) rfl ?_
            obtain ⟨v14, ev14, hm⟩ := nm_some hm
            refine zr_iinc (j := 5) (lv' := [(4, .int v14), (3, .int r9), (2, .int x4), (5, .int r9), (0, .ref (zw_ad P 0)), (1, .int x1)]) E dX6_best_125 rfl ev14 (by decide) rfl ?_
            refine zr_goto (tgt := 39) E dX6_best_128 (by decide) ?_
            refine zr_sub (lv' := [(0, .ref (zw_ad P 0)), (1, .int x1), (2, .int x4), (3, .int r9), (4, .int v14)]) [4, 5, 2, 1, 0] rfl ?_
            exact ih s8 x1 x4 r9 v14 hm
      · rw [if_neg c4] at hm
        refine zr_goto (tgt := 125) E dX6_best_63 (by decide) ?_
        obtain ⟨v15, ev15, hm⟩ := nm_some hm
        refine zr_iinc (j := 4) (lv' := [(4, .int v15), (0, .ref (zw_ad P 0)), (1, .int x1), (2, .int x2), (3, .int x3)]) E dX6_best_125 rfl ev15 (by decide) rfl ?_
        refine zr_goto (tgt := 39) E dX6_best_128 (by decide) ?_
        refine zr_sub (lv' := [(0, .ref (zw_ad P 0)), (1, .int x1), (2, .int x2), (3, .int x3), (4, .int v15)]) [1, 2, 3, 4, 0] rfl ?_
        exact ih s2 x1 x2 x3 v15 hm
set_option maxRecDepth 100000 in
set_option maxHeartbeats 4000000 in
theorem c_X6_best (l : Launch) (P : zw_P) (σ : zw_S) (x1 : Int32) : zc_i l P yX6_best cX6_best 6 .int 5 [.ref (zw_ad P 0), .int x1] σ (m_X6_best σ x1) := by
  refine zc_i.of (by decide) (Nat.le_of_ble_eq_true rfl) (fun B r τ E hl hr hm => ?_)
  subst hl
  refine zr_sub (lv' := [(0, .ref (zw_ad P 0)), (1, .int x1)]) [0, 1] rfl ?_
  unfold m_X6_best at hm
  refine zr_iload_n E dX6_best_0 1 rfl ?_
  refine zr_iconst (v := 1) E dX6_best_1 (by decide) ?_
  refine zr_bipush (v := 60) E dX6_best_2 (by decide) ?_
  obtain ⟨r2, s1, os1, hm⟩ := cl_some hm
  refine zr_cSi (st := []) E mw_103 cm_X6_isIn (c_X6_isIn B.2.1 P σ x1 1 60) os1 ⟨by decide, by decide⟩ rfl rfl (Nat.le_of_ble_eq_true rfl) dX6_best_4 ?_
  refine zr_if_ne (tgt := 17) E dX6_best_7 (by decide) (fun c3 => ?_) (fun c3 => ?_)
  · rw [if_neg c3] at hm
    refine zr_aload_n E dX6_best_17 0 rfl ?_
    refine zr_iload_n E dX6_best_18 1 rfl ?_
    obtain ⟨r5, s4, os4, hm⟩ := cl_some hm
    refine zr_cVi (st := []) E mw_426 cm_X6_isTooLate (c_X6_isTooLate B.2.1 P s1 x1) os4 (rc_0 P) ⟨by decide, by decide⟩ rfl rfl (Nat.le_of_ble_eq_true rfl) dX6_best_19 ?_
    refine zr_if_eq (tgt := 32) E dX6_best_22 (by decide) (fun c6 => ?_) (fun c6 => ?_)
    · rw [if_pos c6] at hm
      refine zr_iconst (v := (-1)) E dX6_best_32 (by decide) ?_
      refine zr_istore_n (lv' := [(2, .int ((-1))), (0, .ref (zw_ad P 0)), (1, .int x1)]) E dX6_best_33 (by decide) rfl ?_
      refine zr_iconst (v := 0) E dX6_best_34 (by decide) ?_
      refine zr_istore_n (lv' := [(3, .int 0), (2, .int ((-1))), (0, .ref (zw_ad P 0)), (1, .int x1)]) E dX6_best_35 (by decide) rfl ?_
      refine zr_iconst (v := 0) E dX6_best_36 (by decide) ?_
      refine zr_istore (lv' := [(4, .int 0), (3, .int 0), (2, .int ((-1))), (0, .ref (zw_ad P 0)), (1, .int x1)]) E dX6_best_37 (by decide) rfl ?_
      refine zr_sub (lv' := [(0, .ref (zw_ad P 0)), (1, .int x1), (2, .int ((-1))), (3, .int 0), (4, .int 0)]) [3, 4, 2, 1, 0] rfl ?_
      exact t_X6_best_39 E hr 200 s4 x1 (-1) 0 0 hm
    · rw [if_neg c6] at hm
      refine zr_aload_n E dX6_best_25 0 rfl ?_
      refine zr_ldc E mw_380 dX6_best_26 ?_
      obtain ⟨r8, s7, os7, hm⟩ := cl_some hm
      refine zr_cVi (st := []) E mw_106 cm_X6_found (c_X6_found B.2.1 P s4 (-1000005)) os7 (rc_0 P) ⟨by decide, by decide⟩ rfl rfl (Nat.le_of_ble_eq_true rfl) dX6_best_28 ?_
      exact zr_iret E hr rfl hm dX6_best_31
  · rw [if_pos c3] at hm
    refine zr_aload_n E dX6_best_10 0 rfl ?_
    refine zr_ldc E mw_98 dX6_best_11 ?_
    obtain ⟨r10, s9, os9, hm⟩ := cl_some hm
    refine zr_cVi (st := []) E mw_106 cm_X6_found (c_X6_found B.2.1 P s1 (-1000001)) os9 (rc_0 P) ⟨by decide, by decide⟩ rfl rfl (Nat.le_of_ble_eq_true rfl) dX6_best_13 ?_
    exact zr_iret E hr rfl hm dX6_best_16
-- X6_whom
set_option maxRecDepth 100000 in
set_option maxHeartbeats 4000000 in
theorem t_X6_whom_51 {B : zw_B} {P : zw_P} {r : Int32} {τ : zw_S} (E : zf B P cX6_whom RX6 7 5) (hr : B.2.2.2.2.2.2.2.2.1.sig.returnType = some .int) : ∀ (n : Nat) (σ : zw_S) (x1 : Int32) (x2 : Int32) (x3 : Int32) (x4 : Int32) (x5 : Int32), m_X6_whom_51 n σ x1 x2 x3 x4 x5 = some (r, τ) → zw_G B P (zq_i B P r τ) 7 σ 51 [(0, .ref (zw_ad P 0)), (1, .int x1), (2, .int x2), (3, .int x3), (4, .int x4), (5, .int x5)] [] := by
  intro n
  induction n with
  | zero => intro σ x1 x2 x3 x4 x5 hm; cases hm
  | succ n ih =>
    intro σ x1 x2 x3 x4 x5 hm
    unfold m_X6_whom_51 at hm
    refine zr_iload E dX6_whom_51 5 rfl ?_
    refine zr_aload_n E dX6_whom_53 0 rfl ?_
    refine fg_X6_12 E dX6_whom_54 ?_
    refine fg_X6_126 bk_1 E dX6_whom_57 ?_
    refine zr_icmp_ge (tgt := 140) E dX6_whom_60 (by decide) (fun c1 => ?_) (fun c1 => ?_)
    · rw [if_pos c1] at hm
      refine zr_iload_n E dX6_whom_140 3 rfl ?_
      exact zr_iret E hr rfl hm dX6_whom_141
    · rw [if_neg c1] at hm
      refine zr_iload E dX6_whom_63 5 rfl ?_
      refine zr_iload_n E dX6_whom_65 1 rfl ?_
      refine zr_icmp_ne (tgt := 72) E dX6_whom_66 (by decide) (fun c2 => ?_) (fun c2 => ?_)
      · rw [if_neg c2] at hm
        refine zr_aload_n E dX6_whom_72 0 rfl ?_
        refine fg_X6_19 E dX6_whom_73 ?_
        refine zr_aload_n E dX6_whom_76 0 rfl ?_
        refine fg_X6_12 E dX6_whom_77 ?_
        obtain ⟨s3, os3, hm⟩ := cv_some hm
        refine zr_cVv (st := []) E mw_554 cm_X0_setTo (c_X0_setTo B.2.1 P 25 1 bk_25 bk_1 σ) os3 (rc_bk P bk_25) ⟨by decide, by decide⟩ rfl rfl (Nat.le_of_ble_eq_true rfl) dX6_whom_80 ?_
        refine zr_aload_n E dX6_whom_83 0 rfl ?_
        refine fg_X6_19 E dX6_whom_84 ?_
        refine fg_X6_145 bk_25 E dX6_whom_87 ?_
        refine zr_iload_n E dX6_whom_90 1 rfl ?_
        refine zr_iload E dX6_whom_91 5 rfl ?_
        obtain ⟨hs4, s4, es4, hm⟩ := wt_some hm
        refine zr_iast E ac_35 hs4 es4 dX6_whom_93 ?_
        refine zr_aload_n E dX6_whom_94 0 rfl ?_
        refine fg_X6_25 E dX6_whom_95 ?_
        refine zr_aload_n E dX6_whom_98 0 rfl ?_
        refine fg_X6_19 E dX6_whom_99 ?_
        refine zr_iload_n E dX6_whom_102 2 rfl ?_
        obtain ⟨s5, os5, hm⟩ := cv_some hm
        refine zr_cVv (st := []) E mw_435 cm_X5_go (c_X5_go B.2.1 P 25 bk_25 s4 x2) os5 (rc_37 P) ⟨by decide, by decide⟩ rfl rfl (Nat.le_of_ble_eq_true rfl) dX6_whom_103 ?_
        refine zr_aload_n E dX6_whom_106 0 rfl ?_
        refine fg_X6_19 E dX6_whom_107 ?_
        obtain ⟨r7, s6, os6, hm⟩ := cl_some hm
        refine zr_cVi (st := []) E mw_562 cm_X0_hoursOfAll (c_X0_hoursOfAll B.2.1 P 25 bk_25 s5) os6 (rc_bk P bk_25) ⟨by decide, by decide⟩ rfl rfl (Nat.le_of_ble_eq_true rfl) dX6_whom_110 ?_
        refine zr_istore (lv' := [(6, .int r7), (0, .ref (zw_ad P 0)), (1, .int x1), (2, .int x2), (3, .int x3), (4, .int x4), (5, .int x5)]) E dX6_whom_113 (by decide) rfl ?_
        refine zr_iload E dX6_whom_115 6 rfl ?_
        refine zr_if_lt (tgt := 127) E dX6_whom_117 (by decide) (fun c8 => ?_) (fun c8 => ?_)
        · rw [if_pos c8] at hm
          refine zr_iload E dX6_whom_127 6 rfl ?_
          refine zr_istore_n (lv' := [(3, .int x5), (6, .int r7), (0, .ref (zw_ad P 0)), (1, .int x1), (2, .int x2), (4, .int x4), (5, .int x5)]) E dX6_whom_129 (by decide) rfl ?_
          refine zr_iload E dX6_whom_130 1 rfl ?_
          refine zr_istore (lv' := [(4, .int r7), (3, .int x5), (6, .int r7), (0, .ref (zw_ad P 0)), (1, .int x1), (2, .int x2), (5, .int x5)]) E dX6_whom_132 (by decide) rfl ?_
          obtain ⟨v9, ev9, hm⟩ := nm_some hm
          refine zr_iinc (j := 6) (lv' := [(5, .int v9), (4, .int r7), (3, .int x5), (6, .int r7), (0, .ref (zw_ad P 0)), (1, .int x1), (2, .int x2)]) E dX6_whom_134 rfl ev9 (by decide) rfl ?_
          refine zr_goto (tgt := 51) E dX6_whom_137 (by decide) ?_
          refine zr_sub (lv' := [(0, .ref (zw_ad P 0)), (1, .int x1), (2, .int x2), (3, .int x5), (4, .int r7), (5, .int v9)]) [4, 5, 6, 2, 1, 0] rfl ?_
          exact ih s6 x1 x2 x5 r7 v9 hm
        · rw [if_neg c8] at hm
          refine zr_iload E dX6_whom_120 0 rfl ?_
          refine zr_iload E dX6_whom_122 5 rfl ?_
          refine zr_icmp_ge (tgt := 134) E dX6_whom_124 (by decide) (fun c10 => ?_) (fun c10 => ?_)
          · rw [if_pos c10] at hm
            obtain ⟨v11, ev11, hm⟩ := nm_some hm
            refine zr_iinc (j := 6) (lv' := [(5, .int v11), (6, .int r7), (0, .ref (zw_ad P 0)), (1, .int x1), (2, .int x2), (3, .int x3), (4, .int x4)]) E dX6_whom_134 rfl ev11 (by decide) rfl ?_
            refine zr_goto (tgt := 51) E dX6_whom_137 (by decide) ?_
            refine zr_sub (lv' := [(0, .ref (zw_ad P 0)), (1, .int x1), (2, .int x2), (3, .int x3), (4, .int x4), (5, .int v11)]) [2, 3, 4, 5, 6, 0] rfl ?_
            exact ih s6 x1 x2 x3 x4 v11 hm
          · rw [if_neg c10] at hm
            refine zr_iload E dX6_whom_127 6 rfl ?_
            refine zr_istore_n (lv' := [(3, .int x5), (6, .int r7), (0, .ref (zw_ad P 0)), (1, .int x1), (2, .int x2), (4, .int x4), (5, .int x5)]) E dX6_whom_129 (by decide) rfl ?_
            refine zr_iload E dX6_whom_130 1 rfl ?_
            refine zr_istore (lv' := [(4, .int r7), (3, .int x5), (6, .int r7), (0, .ref (zw_ad P 0)), (1, .int x1), (2, .int x2), (5, .int x5)]) E dX6_whom_132 (by decide) rfl ?_
            obtain ⟨v12, ev12, hm⟩ := nm_some hm
            refine zr_iinc (j := 6) (lv' := [(5, .int v12), (4, .int r7), (3, .int x5), (6, .int r7), (0, .ref (zw_ad P 0)), (1, .int x1), (2, .int x2)]) E dX6_whom_134 rfl ev12 (by decide) rfl ?_
            refine zr_goto (tgt := 51) E dX6_whom_137 (by decide) ?_
            refine zr_sub (lv' := [(0, .ref (zw_ad P 0)), (1, .int x1), (2, .int x2), (3, .int x5), (4, .int r7), (5, .int v12)]) [4, 5, 6, 2, 1, 0] rfl ?_
            exact ih s6 x1 x2 x5 r7 v12 hm
      · rw [if_pos c2] at hm
        refine zr_goto (tgt := 134) E dX6_whom_69 (by decide) ?_
        obtain ⟨v13, ev13, hm⟩ := nm_some hm
        refine zr_iinc (j := 5) (lv' := [(5, .int v13), (0, .ref (zw_ad P 0)), (1, .int x1), (2, .int x2), (3, .int x3), (4, .int x4)]) E dX6_whom_134 rfl ev13 (by decide) rfl ?_
        refine zr_goto (tgt := 51) E dX6_whom_137 (by decide) ?_
        refine zr_sub (lv' := [(0, .ref (zw_ad P 0)), (1, .int x1), (2, .int x2), (3, .int x3), (4, .int x4), (5, .int v13)]) [1, 2, 3, 4, 5, 0] rfl ?_
        exact ih σ x1 x2 x3 x4 v13 hm
set_option maxRecDepth 100000 in
set_option maxHeartbeats 4000000 in
theorem c_X6_whom (l : Launch) (P : zw_P) (σ : zw_S) (x1 : Int32) (x2 : Int32) : zc_i l P yX6_whom cX6_whom 7 .int 5 [.ref (zw_ad P 0), .int x1, .int x2] σ (m_X6_whom σ x1 x2) := by
  refine zc_i.of (by decide) (Nat.le_of_ble_eq_true rfl) (fun B r τ E hl hr hm => ?_)
  subst hl
  refine zr_sub (lv' := [(0, .ref (zw_ad P 0)), (1, .int x1), (2, .int x2)]) [0, 1, 2] rfl ?_
  unfold m_X6_whom at hm
  refine zr_aload_n E dX6_whom_0 0 rfl ?_
  refine fg_X6_12 E dX6_whom_1 ?_
  refine zr_iload_n E dX6_whom_4 1 rfl ?_
  obtain ⟨r2, s1, os1, hm⟩ := cl_some hm
  refine zr_cVi (st := []) E mw_346 cm_X0_hasPerson (c_X0_hasPerson B.2.1 P 1 bk_1 σ x1) os1 (rc_bk P bk_1) ⟨by decide, by decide⟩ rfl rfl (Nat.le_of_ble_eq_true rfl) dX6_whom_5 ?_
  refine zr_if_eq (tgt := 21) E dX6_whom_8 (by decide) (fun c3 => ?_) (fun c3 => ?_)
  · rw [if_pos c3] at hm
    refine zr_aload_n E dX6_whom_21 0 rfl ?_
    refine zr_ldc E mw_98 dX6_whom_22 ?_
    obtain ⟨r5, s4, os4, hm⟩ := cl_some hm
    refine zr_cVi (st := []) E mw_106 cm_X6_found (c_X6_found B.2.1 P s1 (-1000001)) os4 (rc_0 P) ⟨by decide, by decide⟩ rfl rfl (Nat.le_of_ble_eq_true rfl) dX6_whom_24 ?_
    exact zr_iret E hr rfl hm dX6_whom_27
  · rw [if_neg c3] at hm
    refine zr_iload_n E dX6_whom_11 2 rfl ?_
    refine zr_iconst (v := 1) E dX6_whom_12 (by decide) ?_
    refine zr_bipush (v := 60) E dX6_whom_13 (by decide) ?_
    obtain ⟨r7, s6, os6, hm⟩ := cl_some hm
    refine zr_cSi (st := []) E mw_103 cm_X6_isIn (c_X6_isIn B.2.1 P s1 x2 1 60) os6 ⟨by decide, by decide⟩ rfl rfl (Nat.le_of_ble_eq_true rfl) dX6_whom_15 ?_
    refine zr_if_ne (tgt := 28) E dX6_whom_18 (by decide) (fun c8 => ?_) (fun c8 => ?_)
    · rw [if_neg c8] at hm
      refine zr_aload_n E dX6_whom_28 0 rfl ?_
      refine zr_iload_n E dX6_whom_29 2 rfl ?_
      obtain ⟨r10, s9, os9, hm⟩ := cl_some hm
      refine zr_cVi (st := []) E mw_426 cm_X6_isTooLate (c_X6_isTooLate B.2.1 P s6 x2) os9 (rc_0 P) ⟨by decide, by decide⟩ rfl rfl (Nat.le_of_ble_eq_true rfl) dX6_whom_30 ?_
      refine zr_if_eq (tgt := 43) E dX6_whom_33 (by decide) (fun c11 => ?_) (fun c11 => ?_)
      · rw [if_pos c11] at hm
        refine zr_iconst (v := (-1)) E dX6_whom_43 (by decide) ?_
        refine zr_istore_n (lv' := [(3, .int ((-1))), (0, .ref (zw_ad P 0)), (1, .int x1), (2, .int x2)]) E dX6_whom_44 (by decide) rfl ?_
        refine zr_iconst (v := 0) E dX6_whom_45 (by decide) ?_
        refine zr_istore (lv' := [(4, .int 0), (3, .int ((-1))), (0, .ref (zw_ad P 0)), (1, .int x1), (2, .int x2)]) E dX6_whom_46 (by decide) rfl ?_
        refine zr_iconst (v := (-1)) E dX6_whom_48 (by decide) ?_
        refine zr_istore (lv' := [(5, .int ((-1))), (4, .int 0), (3, .int ((-1))), (0, .ref (zw_ad P 0)), (1, .int x1), (2, .int x2)]) E dX6_whom_49 (by decide) rfl ?_
        refine zr_sub (lv' := [(0, .ref (zw_ad P 0)), (1, .int x1), (2, .int x2), (3, .int ((-1))), (4, .int 0), (5, .int ((-1)))]) [3, 4, 5, 2, 1, 0] rfl ?_
        exact t_X6_whom_51 E hr 200 s9 x1 x2 (-1) 0 (-1) hm
      · rw [if_neg c11] at hm
        refine zr_aload_n E dX6_whom_36 0 rfl ?_
        refine zr_ldc E mw_380 dX6_whom_37 ?_
        obtain ⟨r13, s12, os12, hm⟩ := cl_some hm
        refine zr_cVi (st := []) E mw_106 cm_X6_found (c_X6_found B.2.1 P s9 (-1000005)) os12 (rc_0 P) ⟨by decide, by decide⟩ rfl rfl (Nat.le_of_ble_eq_true rfl) dX6_whom_39 ?_
        exact zr_iret E hr rfl hm dX6_whom_42
    · rw [if_pos c8] at hm
      refine zr_aload_n E dX6_whom_21 0 rfl ?_
      refine zr_ldc E mw_98 dX6_whom_22 ?_
      obtain ⟨r15, s14, os14, hm⟩ := cl_some hm
      refine zr_cVi (st := []) E mw_106 cm_X6_found (c_X6_found B.2.1 P s6 (-1000001)) os14 (rc_0 P) ⟨by decide, by decide⟩ rfl rfl (Nat.le_of_ble_eq_true rfl) dX6_whom_24 ?_
      exact zr_iret E hr rfl hm dX6_whom_27
-- X6_seed
set_option maxRecDepth 100000 in
set_option maxHeartbeats 4000000 in
theorem c_X6_seed (l : Launch) (P : zw_P) (σ : zw_S) (x1 : Int32) : zc_i l P yX6_seed cX6_seed 3 .int 0 [.ref (zw_ad P 0), .int x1] σ (m_X6_seed σ x1) := by
  refine zc_i.of (by decide) (Nat.le_of_ble_eq_true rfl) (fun B r τ E hl hr hm => ?_)
  subst hl
  refine zr_sub (lv' := [(0, .ref (zw_ad P 0)), (1, .int x1)]) [0, 1] rfl ?_
  unfold m_X6_seed at hm
  refine zr_aload_n E dX6_seed_0 0 rfl ?_
  refine fg_X6_12 E dX6_seed_1 ?_
  refine fg_X6_216 bk_1 E dX6_seed_4 ?_
  obtain ⟨v1, ev1, hm⟩ := nm_some hm
  refine zr_top ev1 ?_
  refine zr_istore_n (lv' := [(2, .int v1), (0, .ref (zw_ad P 0)), (1, .int x1)]) E dX6_seed_7 (by decide) rfl ?_
  refine zr_aload_n E dX6_seed_8 1 rfl ?_
  refine fg_X6_12 E dX6_seed_9 ?_
  refine zr_iload_n E dX6_seed_12 2 rfl ?_
  obtain ⟨s2, es2, hm⟩ := nm_some hm
  refine fp_X6_216 bk_1 E es2 dX6_seed_13 ?_
  refine zr_iload_n E dX6_seed_16 0 rfl ?_
  exact zr_iret E hr rfl hm dX6_seed_17
-- X6_feed
set_option maxRecDepth 100000 in
set_option maxHeartbeats 4000000 in
theorem c_X6_feed (l : Launch) (P : zw_P) (σ : zw_S) (x1 : Int32) (x2 : Int32) : zc_i l P yX6_feed cX6_feed 3 .int 2 [.ref (zw_ad P 0), .int x1, .int x2] σ (m_X6_feed σ x1 x2) := by
  refine zc_i.of (by decide) (Nat.le_of_ble_eq_true rfl) (fun B r τ E hl hr hm => ?_)
  subst hl
  refine zr_sub (lv' := [(0, .ref (zw_ad P 0)), (1, .int x1), (2, .int x2)]) [0, 1, 2] rfl ?_
  unfold m_X6_feed at hm
  refine zr_iload_n E dX6_feed_0 2 rfl ?_
  refine zr_iconst (v := 1) E dX6_feed_1 (by decide) ?_
  refine zr_iconst (v := 4) E dX6_feed_2 (by decide) ?_
  obtain ⟨r2, s1, os1, hm⟩ := cl_some hm
  refine zr_cSi (st := []) E mw_103 cm_X6_isIn (c_X6_isIn B.2.1 P σ x2 1 4) os1 ⟨by decide, by decide⟩ rfl rfl (Nat.le_of_ble_eq_true rfl) dX6_feed_3 ?_
  refine zr_if_ne (tgt := 16) E dX6_feed_6 (by decide) (fun c3 => ?_) (fun c3 => ?_)
  · rw [if_neg c3] at hm
    refine zr_aload_n E dX6_feed_16 0 rfl ?_
    refine fg_X6_41 E dX6_feed_17 ?_
    refine zr_iload_n E dX6_feed_20 2 rfl ?_
    obtain ⟨r5, s4, os4, hm⟩ := cl_some hm
    refine zr_cVi (st := []) E mw_797 cm_X4_hasRoomFor (c_X4_hasRoomFor B.2.1 P s1 x2) os4 (rc_45 P) ⟨by decide, by decide⟩ rfl rfl (Nat.le_of_ble_eq_true rfl) dX6_feed_21 ?_
    refine zr_if_eq (tgt := 39) E dX6_feed_24 (by decide) (fun c6 => ?_) (fun c6 => ?_)
    · rw [if_pos c6] at hm
      refine zr_aload_n E dX6_feed_39 0 rfl ?_
      refine zr_ldc E mw_136 dX6_feed_40 ?_
      obtain ⟨r8, s7, os7, hm⟩ := cl_some hm
      refine zr_cVi (st := []) E mw_106 cm_X6_found (c_X6_found B.2.1 P s4 (-1000002)) os7 (rc_0 P) ⟨by decide, by decide⟩ rfl rfl (Nat.le_of_ble_eq_true rfl) dX6_feed_42 ?_
      exact zr_iret E hr rfl hm dX6_feed_45
    · rw [if_neg c6] at hm
      refine zr_aload_n E dX6_feed_27 0 rfl ?_
      refine fg_X6_41 E dX6_feed_28 ?_
      refine zr_iload_n E dX6_feed_31 1 rfl ?_
      refine zr_iload_n E dX6_feed_32 2 rfl ?_
      obtain ⟨r10, s9, os9, hm⟩ := cl_some hm
      refine zr_cVi (st := []) E mw_802 cm_X4_append (c_X4_append B.2.1 P s4 x1 x2) os9 (rc_45 P) ⟨by decide, by decide⟩ rfl rfl (Nat.le_of_ble_eq_true rfl) dX6_feed_33 ?_
      refine zr_goto (tgt := 45) E dX6_feed_36 (by decide) ?_
      exact zr_iret E hr rfl hm dX6_feed_45
  · rw [if_pos c3] at hm
    refine zr_aload_n E dX6_feed_9 0 rfl ?_
    refine zr_ldc E mw_98 dX6_feed_10 ?_
    obtain ⟨r12, s11, os11, hm⟩ := cl_some hm
    refine zr_cVi (st := []) E mw_106 cm_X6_found (c_X6_found B.2.1 P s1 (-1000001)) os11 (rc_0 P) ⟨by decide, by decide⟩ rfl rfl (Nat.le_of_ble_eq_true rfl) dX6_feed_12 ?_
    exact zr_iret E hr rfl hm dX6_feed_15
-- X6_wipe
set_option maxRecDepth 100000 in
set_option maxHeartbeats 4000000 in
theorem c_X6_wipe (l : Launch) (P : zw_P) (σ : zw_S) : zc_i l P yX6_wipe cX6_wipe 1 .int 1 [.ref (zw_ad P 0)] σ (m_X6_wipe σ) := by
  refine zc_i.of (by decide) (Nat.le_of_ble_eq_true rfl) (fun B r τ E hl hr hm => ?_)
  subst hl
  refine zr_sub (lv' := [(0, .ref (zw_ad P 0))]) [0] rfl ?_
  unfold m_X6_wipe at hm
  refine zr_aload_n E dX6_wipe_0 0 rfl ?_
  refine fg_X6_41 E dX6_wipe_1 ?_
  obtain ⟨r2, s1, os1, hm⟩ := cl_some hm
  refine zr_cVi (st := []) E mw_815 cm_X4_clear (c_X4_clear B.2.1 P σ) os1 (rc_45 P) ⟨by decide, by decide⟩ rfl rfl (Nat.le_of_ble_eq_true rfl) dX6_wipe_4 ?_
  exact zr_iret E hr rfl hm dX6_wipe_7
-- X6_text
set_option maxRecDepth 100000 in
set_option maxHeartbeats 4000000 in
theorem c_X6_text (l : Launch) (P : zw_P) (σ : zw_S) : zc_i l P yX6_text cX6_text 2 .int 9 [.ref (zw_ad P 0)] σ (m_X6_text σ) := by
  refine zc_i.of (by decide) (Nat.le_of_ble_eq_true rfl) (fun B r τ E hl hr hm => ?_)
  subst hl
  refine zr_sub (lv' := [(0, .ref (zw_ad P 0))]) [0] rfl ?_
  unfold m_X6_text at hm
  refine zr_aload_n E dX6_text_0 0 rfl ?_
  refine fg_X6_19 E dX6_text_1 ?_
  refine zr_aload_n E dX6_text_4 0 rfl ?_
  refine fg_X6_12 E dX6_text_5 ?_
  obtain ⟨s1, os1, hm⟩ := cv_some hm
  refine zr_cVv (st := []) E mw_554 cm_X0_setTo (c_X0_setTo B.2.1 P 25 1 bk_25 bk_1 σ) os1 (rc_bk P bk_25) ⟨by decide, by decide⟩ rfl rfl (Nat.le_of_ble_eq_true rfl) dX6_text_8 ?_
  refine zr_aload_n E dX6_text_11 0 rfl ?_
  refine fg_X6_41 E dX6_text_12 ?_
  refine zr_aload_n E dX6_text_15 0 rfl ?_
  refine fg_X6_19 E dX6_text_16 ?_
  obtain ⟨r3, s2, os2, hm⟩ := cl_some hm
  refine zr_cVi (st := []) E mw_827 cm_X4_readInto (c_X4_readInto B.2.1 P 25 bk_25 s1) os2 (rc_45 P) ⟨by decide, by decide⟩ rfl rfl (Nat.le_of_ble_eq_true rfl) dX6_text_19 ?_
  refine zr_istore_n (lv' := [(1, .int r3), (0, .ref (zw_ad P 0))]) E dX6_text_22 (by decide) rfl ?_
  refine zr_aload_n E dX6_text_23 1 rfl ?_
  refine fg_X6_41 E dX6_text_24 ?_
  obtain ⟨r5, s4, os4, hm⟩ := cl_some hm
  refine zr_cVi (st := []) E mw_815 cm_X4_clear (c_X4_clear B.2.1 P s2) os4 (rc_45 P) ⟨by decide, by decide⟩ rfl rfl (Nat.le_of_ble_eq_true rfl) dX6_text_27 ?_
  refine zr_pop E dX6_text_30 rfl ?_
  refine zr_iload_n E dX6_text_31 0 rfl ?_
  refine zr_if_lt (tgt := 46) E dX6_text_32 (by decide) (fun c6 => ?_) (fun c6 => ?_)
  · rw [if_pos c6] at hm
    refine zr_iload_n E dX6_text_46 0 rfl ?_
    exact zr_iret E hr rfl hm dX6_text_47
  · rw [if_neg c6] at hm
    refine zr_aload_n E dX6_text_35 1 rfl ?_
    refine fg_X6_12 E dX6_text_36 ?_
    refine zr_aload_n E dX6_text_39 1 rfl ?_
    refine fg_X6_19 E dX6_text_40 ?_
    obtain ⟨s7, os7, hm⟩ := cv_some hm
    refine zr_cVv (st := []) E mw_554 cm_X0_setTo (c_X0_setTo B.2.1 P 1 25 bk_1 bk_25 s4) os7 (rc_bk P bk_1) ⟨by decide, by decide⟩ rfl rfl (Nat.le_of_ble_eq_true rfl) dX6_text_43 ?_
    refine zr_iload_n E dX6_text_46 0 rfl ?_
    exact zr_iret E hr rfl hm dX6_text_47
-- X6_hold
set_option maxRecDepth 100000 in
set_option maxHeartbeats 4000000 in
theorem c_X6_hold (l : Launch) (P : zw_P) (σ : zw_S) (x1 : Int32) (x2 : Int32) : zc_i l P yX6_hold cX6_hold 3 .int 2 [.ref (zw_ad P 0), .int x1, .int x2] σ (m_X6_hold σ x1 x2) := by
  refine zc_i.of (by decide) (Nat.le_of_ble_eq_true rfl) (fun B r τ E hl hr hm => ?_)
  subst hl
  refine zr_sub (lv' := [(0, .ref (zw_ad P 0)), (1, .int x1), (2, .int x2)]) [0, 1, 2] rfl ?_
  unfold m_X6_hold at hm
  refine zr_iload_n E dX6_hold_0 1 rfl ?_
  refine zr_iconst (v := 0) E dX6_hold_1 (by decide) ?_
  refine zr_bipush (v := 9) E dX6_hold_2 (by decide) ?_
  obtain ⟨r2, s1, os1, hm⟩ := cl_some hm
  refine zr_cSi (st := []) E mw_103 cm_X6_isIn (c_X6_isIn B.2.1 P σ x1 0 9) os1 ⟨by decide, by decide⟩ rfl rfl (Nat.le_of_ble_eq_true rfl) dX6_hold_4 ?_
  refine zr_if_eq (tgt := 26) E dX6_hold_7 (by decide) (fun c3 => ?_) (fun c3 => ?_)
  · rw [if_pos c3] at hm
    refine zr_aload_n E dX6_hold_26 0 rfl ?_
    refine zr_ldc E mw_98 dX6_hold_27 ?_
    obtain ⟨r5, s4, os4, hm⟩ := cl_some hm
    refine zr_cVi (st := []) E mw_106 cm_X6_found (c_X6_found B.2.1 P s1 (-1000001)) os4 (rc_0 P) ⟨by decide, by decide⟩ rfl rfl (Nat.le_of_ble_eq_true rfl) dX6_hold_29 ?_
    exact zr_iret E hr rfl hm dX6_hold_32
  · rw [if_neg c3] at hm
    refine zr_iload_n E dX6_hold_10 2 rfl ?_
    refine zr_iconst (v := (-1)) E dX6_hold_11 (by decide) ?_
    refine zr_icmp_eq (tgt := 33) E dX6_hold_12 (by decide) (fun c6 => ?_) (fun c6 => ?_)
    · rw [if_pos c6] at hm
      refine zr_aload_n E dX6_hold_33 0 rfl ?_
      refine fg_X6_12 E dX6_hold_34 ?_
      refine fg_X6_232 bk_1 E dX6_hold_37 ?_
      refine zr_iload_n E dX6_hold_40 1 rfl ?_
      refine zr_iload_n E dX6_hold_41 2 rfl ?_
      obtain ⟨hs7, s7, es7, hm⟩ := wt_some hm
      refine zr_iast E ac_12 hs7 es7 dX6_hold_42 ?_
      refine zr_iconst (v := 1) E dX6_hold_43 (by decide) ?_
      exact zr_iret E hr rfl hm dX6_hold_44
    · rw [if_neg c6] at hm
      refine zr_aload_n E dX6_hold_15 0 rfl ?_
      refine fg_X6_12 E dX6_hold_16 ?_
      refine zr_iload_n E dX6_hold_19 2 rfl ?_
      obtain ⟨r9, s8, os8, hm⟩ := cl_some hm
      refine zr_cVi (st := []) E mw_169 cm_X0_hasTask (c_X0_hasTask B.2.1 P 1 bk_1 s1 x2) os8 (rc_bk P bk_1) ⟨by decide, by decide⟩ rfl rfl (Nat.le_of_ble_eq_true rfl) dX6_hold_20 ?_
      refine zr_if_ne (tgt := 33) E dX6_hold_23 (by decide) (fun c10 => ?_) (fun c10 => ?_)
      · rw [if_neg c10] at hm
        refine zr_aload_n E dX6_hold_33 0 rfl ?_
        refine fg_X6_12 E dX6_hold_34 ?_
        refine fg_X6_232 bk_1 E dX6_hold_37 ?_
        refine zr_iload_n E dX6_hold_40 1 rfl ?_
        refine zr_iload_n E dX6_hold_41 2 rfl ?_
        obtain ⟨hs11, s11, es11, hm⟩ := wt_some hm
        refine zr_iast E ac_12 hs11 es11 dX6_hold_42 ?_
        refine zr_iconst (v := 1) E dX6_hold_43 (by decide) ?_
        exact zr_iret E hr rfl hm dX6_hold_44
      · rw [if_pos c10] at hm
        refine zr_aload_n E dX6_hold_26 0 rfl ?_
        refine zr_ldc E mw_98 dX6_hold_27 ?_
        obtain ⟨r13, s12, os12, hm⟩ := cl_some hm
        refine zr_cVi (st := []) E mw_106 cm_X6_found (c_X6_found B.2.1 P s8 (-1000001)) os12 (rc_0 P) ⟨by decide, by decide⟩ rfl rfl (Nat.le_of_ble_eq_true rfl) dX6_hold_29 ?_
        exact zr_iret E hr rfl hm dX6_hold_32
-- X6_as
set_option maxRecDepth 100000 in
set_option maxHeartbeats 4000000 in
theorem c_X6_as (l : Launch) (P : zw_P) (σ : zw_S) (x1 : Int32) (x2 : Int32) : zc_i l P yX6_as cX6_as 4 .int 2 [.ref (zw_ad P 0), .int x1, .int x2] σ (m_X6_as σ x1 x2) := by
  refine zc_i.of (by decide) (Nat.le_of_ble_eq_true rfl) (fun B r τ E hl hr hm => ?_)
  subst hl
  refine zr_sub (lv' := [(0, .ref (zw_ad P 0)), (1, .int x1), (2, .int x2)]) [0, 1, 2] rfl ?_
  unfold m_X6_as at hm
  refine zr_iload_n E dX6_as_0 1 rfl ?_
  refine zr_iconst (v := 0) E dX6_as_1 (by decide) ?_
  refine zr_bipush (v := 9) E dX6_as_2 (by decide) ?_
  obtain ⟨r2, s1, os1, hm⟩ := cl_some hm
  refine zr_cSi (st := []) E mw_103 cm_X6_isIn (c_X6_isIn B.2.1 P σ x1 0 9) os1 ⟨by decide, by decide⟩ rfl rfl (Nat.le_of_ble_eq_true rfl) dX6_as_4 ?_
  refine zr_if_eq (tgt := 17) E dX6_as_7 (by decide) (fun c3 => ?_) (fun c3 => ?_)
  · rw [if_pos c3] at hm
    refine zr_aload_n E dX6_as_17 0 rfl ?_
    refine zr_ldc E mw_98 dX6_as_18 ?_
    obtain ⟨r5, s4, os4, hm⟩ := cl_some hm
    refine zr_cVi (st := []) E mw_106 cm_X6_found (c_X6_found B.2.1 P s1 (-1000001)) os4 (rc_0 P) ⟨by decide, by decide⟩ rfl rfl (Nat.le_of_ble_eq_true rfl) dX6_as_20 ?_
    exact zr_iret E hr rfl hm dX6_as_23
  · rw [if_neg c3] at hm
    refine zr_iload_n E dX6_as_10 2 rfl ?_
    obtain ⟨r7, s6, os6, hm⟩ := cl_some hm
    refine zr_cSi (st := []) E mw_137 cm_X2_isKind (c_X2_isKind B.2.1 P s1 x2) os6 ⟨by decide, by decide⟩ rfl rfl (Nat.le_of_ble_eq_true rfl) dX6_as_11 ?_
    refine zr_if_ne (tgt := 24) E dX6_as_14 (by decide) (fun c8 => ?_) (fun c8 => ?_)
    · rw [if_neg c8] at hm
      refine zr_aload_n E dX6_as_24 0 rfl ?_
      refine fg_X6_12 E dX6_as_25 ?_
      refine fg_X6_232 bk_1 E dX6_as_28 ?_
      refine zr_iload_n E dX6_as_31 1 rfl ?_
      obtain ⟨hv9, v9, ev9, hm⟩ := rd_some hm
      refine zr_iald E ac_12 hv9 ev9 dX6_as_32 ?_
      refine zr_istore_n (lv' := [(3, .int v9), (0, .ref (zw_ad P 0)), (1, .int x1), (2, .int x2)]) E dX6_as_33 (by decide) rfl ?_
      refine zr_aload_n E dX6_as_34 1 rfl ?_
      refine fg_X6_12 E dX6_as_35 ?_
      refine zr_iload_n E dX6_as_38 0 rfl ?_
      obtain ⟨r11, s10, os10, hm⟩ := cl_some hm
      refine zr_cVi (st := []) E mw_169 cm_X0_hasTask (c_X0_hasTask B.2.1 P 1 bk_1 s6 v9) os10 (rc_bk P bk_1) ⟨by decide, by decide⟩ rfl rfl (Nat.le_of_ble_eq_true rfl) dX6_as_39 ?_
      refine zr_if_ne (tgt := 52) E dX6_as_42 (by decide) (fun c12 => ?_) (fun c12 => ?_)
      · rw [if_neg c12] at hm
        refine zr_aload_n E dX6_as_52 1 rfl ?_
        refine fg_X6_12 E dX6_as_53 ?_
        refine fg_X6_89 bk_1 E dX6_as_56 ?_
        refine zr_iload_n E dX6_as_59 0 rfl ?_
        obtain ⟨hv13, v13, ev13, hm⟩ := rd_some hm
        refine zr_iald E ac_4 hv13 ev13 dX6_as_60 ?_
        refine zr_iload_n E dX6_as_61 3 rfl ?_
        obtain ⟨r15, s14, os14, hm⟩ := cl_some hm
        refine zr_cSi (st := []) E mw_1013 cm_X2_isUnder (c_X2_isUnder B.2.1 P s10 v13 x2) os14 ⟨by decide, by decide⟩ rfl rfl (Nat.le_of_ble_eq_true rfl) dX6_as_62 ?_
        refine zr_if_eq (tgt := 72) E dX6_as_65 (by decide) (fun c16 => ?_) (fun c16 => ?_)
        · rw [if_pos c16] at hm
          refine zr_aload_n E dX6_as_72 1 rfl ?_
          refine zr_ldc E mw_1012 dX6_as_73 ?_
          obtain ⟨r18, s17, os17, hm⟩ := cl_some hm
          refine zr_cVi (st := []) E mw_106 cm_X6_found (c_X6_found B.2.1 P s14 (-1000003)) os17 (rc_0 P) ⟨by decide, by decide⟩ rfl rfl (Nat.le_of_ble_eq_true rfl) dX6_as_75 ?_
          exact zr_iret E hr rfl hm dX6_as_78
        · rw [if_neg c16] at hm
          refine zr_iload_n E dX6_as_68 0 rfl ?_
          refine zr_goto (tgt := 78) E dX6_as_69 (by decide) ?_
          exact zr_iret E hr rfl hm dX6_as_78
      · rw [if_pos c12] at hm
        refine zr_aload_n E dX6_as_45 1 rfl ?_
        refine zr_ldc E mw_1011 dX6_as_46 ?_
        obtain ⟨r20, s19, os19, hm⟩ := cl_some hm
        refine zr_cVi (st := []) E mw_106 cm_X6_found (c_X6_found B.2.1 P s10 (-1000006)) os19 (rc_0 P) ⟨by decide, by decide⟩ rfl rfl (Nat.le_of_ble_eq_true rfl) dX6_as_48 ?_
        exact zr_iret E hr rfl hm dX6_as_51
    · rw [if_pos c8] at hm
      refine zr_aload_n E dX6_as_17 0 rfl ?_
      refine zr_ldc E mw_98 dX6_as_18 ?_
      obtain ⟨r22, s21, os21, hm⟩ := cl_some hm
      refine zr_cVi (st := []) E mw_106 cm_X6_found (c_X6_found B.2.1 P s6 (-1000001)) os21 (rc_0 P) ⟨by decide, by decide⟩ rfl rfl (Nat.le_of_ble_eq_true rfl) dX6_as_20 ?_
      exact zr_iret E hr rfl hm dX6_as_23
-- X6_isSheet
set_option maxRecDepth 100000 in
set_option maxHeartbeats 4000000 in
theorem c_X6_isSheet (l : Launch) (P : zw_P) (σ : zw_S) (x0 : Int32) : zc_i l P yX6_isSheet cX6_isSheet 1 .boolean 0 [.int x0] σ (m_X6_isSheet σ x0) := by
  refine zc_i.of (by decide) (Nat.le_of_ble_eq_true rfl) (fun B r τ E hl hr hm => ?_)
  subst hl
  refine zr_sub (lv' := [(0, .int x0)]) [0] rfl ?_
  unfold m_X6_isSheet at hm
  refine zr_iload_n E dX6_isSheet_0 0 rfl ?_
  refine zr_if_lt (tgt := 13) E dX6_isSheet_1 (by decide) (fun c1 => ?_) (fun c1 => ?_)
  · rw [if_pos c1] at hm
    refine zr_iconst (v := 0) E dX6_isSheet_13 (by decide) ?_
    exact zr_iret E hr (by decide) hm dX6_isSheet_14
  · rw [if_neg c1] at hm
    refine zr_iload_n E dX6_isSheet_4 0 rfl ?_
    refine zr_iconst (v := 4) E dX6_isSheet_5 (by decide) ?_
    refine zr_icmp_ge (tgt := 13) E dX6_isSheet_6 (by decide) (fun c2 => ?_) (fun c2 => ?_)
    · rw [if_pos c2] at hm
      refine zr_iconst (v := 0) E dX6_isSheet_13 (by decide) ?_
      exact zr_iret E hr (by decide) hm dX6_isSheet_14
    · rw [if_neg c2] at hm
      refine zr_iconst (v := 1) E dX6_isSheet_9 (by decide) ?_
      refine zr_goto (tgt := 14) E dX6_isSheet_10 (by decide) ?_
      exact zr_iret E hr (by decide) hm dX6_isSheet_14
-- X6_sheet
set_option maxRecDepth 100000 in
set_option maxHeartbeats 4000000 in
theorem t_X6_sheet_36 {B : zw_B} {P : zw_P} {r : Int32} {τ : zw_S} (E : zf B P cX6_sheet RX6 4 2) (hr : B.2.2.2.2.2.2.2.2.1.sig.returnType = some .int) (σ : zw_S) (x1 : Int32) (x2 : Int32) (x3 : Int32) (hm : m_X6_sheet_36 σ x1 x2 x3 = some (r, τ)) : zw_G B P (zq_i B P r τ) 4 σ 36 [(0, .ref (zw_ad P 0)), (1, .int x1), (2, .int x2), (3, .int x3)] [] := by
  unfold m_X6_sheet_36 at hm
  refine zr_iload_n E dX6_sheet_36 3 rfl ?_
  refine zr_if_ge (tgt := 47) E dX6_sheet_37 (by decide) (fun c1 => ?_) (fun c1 => ?_)
  · rw [if_pos c1] at hm
    refine zr_iload_n E dX6_sheet_47 3 rfl ?_
    refine zr_bipush (v := 40) E dX6_sheet_48 (by decide) ?_
    refine zr_icmp_le (tgt := 62) E dX6_sheet_50 (by decide) (fun c2 => ?_) (fun c2 => ?_)
    · rw [if_pos c2] at hm
      refine zr_aload_n E dX6_sheet_62 0 rfl ?_
      refine fg_X6_47 E dX6_sheet_63 ?_
      refine zr_iload_n E dX6_sheet_66 1 rfl ?_
      obtain ⟨hz3, hm⟩ := tt_some hm
      refine zr_sheet E (zi_in hz3) dX6_sheet_67 ?_
      refine zr_iload_n E dX6_sheet_68 2 rfl ?_
      refine zr_iload_n E dX6_sheet_69 3 rfl ?_
      obtain ⟨r5, s4, os4, hm⟩ := cl_some hm
      refine zr_cVi (st := []) E mw_1030 cm_X3_become (c_X3_become B.2.1 P (48 + 2 * x1.toNatClampNeg) (zw_sh_of hz3) σ x2 x3) os4 (rc_sh P (zw_sh_of hz3)) ⟨by decide, by decide⟩ rfl rfl (Nat.le_of_ble_eq_true rfl) dX6_sheet_70 ?_
      exact zr_iret E hr rfl hm dX6_sheet_73
    · rw [if_neg c2] at hm
      refine zr_aload_n E dX6_sheet_53 0 rfl ?_
      refine zr_ldc E mw_98 dX6_sheet_54 ?_
      obtain ⟨r7, s6, os6, hm⟩ := cl_some hm
      refine zr_cVi (st := []) E mw_106 cm_X6_found (c_X6_found B.2.1 P σ (-1000001)) os6 (rc_0 P) ⟨by decide, by decide⟩ rfl rfl (Nat.le_of_ble_eq_true rfl) dX6_sheet_56 ?_
      refine zr_goto (tgt := 73) E dX6_sheet_59 (by decide) ?_
      exact zr_iret E hr rfl hm dX6_sheet_73
  · rw [if_neg c1] at hm
    refine zr_aload_n E dX6_sheet_40 0 rfl ?_
    refine zr_ldc E mw_669 dX6_sheet_41 ?_
    obtain ⟨r9, s8, os8, hm⟩ := cl_some hm
    refine zr_cVi (st := []) E mw_106 cm_X6_found (c_X6_found B.2.1 P σ (-1000007)) os8 (rc_0 P) ⟨by decide, by decide⟩ rfl rfl (Nat.le_of_ble_eq_true rfl) dX6_sheet_43 ?_
    exact zr_iret E hr rfl hm dX6_sheet_46
set_option maxRecDepth 100000 in
set_option maxHeartbeats 4000000 in
theorem c_X6_sheet (l : Launch) (P : zw_P) (σ : zw_S) (x1 : Int32) (x2 : Int32) (x3 : Int32) : zc_i l P yX6_sheet cX6_sheet 4 .int 2 [.ref (zw_ad P 0), .int x1, .int x2, .int x3] σ (m_X6_sheet σ x1 x2 x3) := by
  refine zc_i.of (by decide) (Nat.le_of_ble_eq_true rfl) (fun B r τ E hl hr hm => ?_)
  subst hl
  refine zr_sub (lv' := [(0, .ref (zw_ad P 0)), (1, .int x1), (2, .int x2), (3, .int x3)]) [0, 1, 2, 3] rfl ?_
  unfold m_X6_sheet at hm
  refine zr_iload_n E dX6_sheet_0 1 rfl ?_
  obtain ⟨r2, s1, os1, hm⟩ := cl_some hm
  refine zr_cSi (st := []) E mw_1027 cm_X6_isSheet (c_X6_isSheet B.2.1 P σ x1) os1 ⟨by decide, by decide⟩ rfl rfl (Nat.le_of_ble_eq_true rfl) dX6_sheet_1 ?_
  refine zr_if_eq (tgt := 29) E dX6_sheet_4 (by decide) (fun c3 => ?_) (fun c3 => ?_)
  · rw [if_pos c3] at hm
    refine zr_aload_n E dX6_sheet_29 0 rfl ?_
    refine zr_ldc E mw_98 dX6_sheet_30 ?_
    obtain ⟨r5, s4, os4, hm⟩ := cl_some hm
    refine zr_cVi (st := []) E mw_106 cm_X6_found (c_X6_found B.2.1 P s1 (-1000001)) os4 (rc_0 P) ⟨by decide, by decide⟩ rfl rfl (Nat.le_of_ble_eq_true rfl) dX6_sheet_32 ?_
    exact zr_iret E hr rfl hm dX6_sheet_35
  · rw [if_neg c3] at hm
    refine zr_iload_n E dX6_sheet_7 2 rfl ?_
    refine zr_if_eq (tgt := 36) E dX6_sheet_8 (by decide) (fun c6 => ?_) (fun c6 => ?_)
    · rw [if_pos c6] at hm
      refine zr_sub (lv' := [(0, .ref (zw_ad P 0)), (1, .int x1), (2, .int x2), (3, .int x3)]) [0, 1, 2, 3] rfl ?_
      exact t_X6_sheet_36 E hr s1 x1 x2 x3 hm
    · rw [if_neg c6] at hm
      refine zr_iload_n E dX6_sheet_11 2 rfl ?_
      refine zr_bipush (v := 8) E dX6_sheet_12 (by decide) ?_
      refine zr_icmp_eq (tgt := 36) E dX6_sheet_14 (by decide) (fun c7 => ?_) (fun c7 => ?_)
      · rw [if_pos c7] at hm
        refine zr_sub (lv' := [(0, .ref (zw_ad P 0)), (1, .int x1), (2, .int x2), (3, .int x3)]) [0, 1, 2, 3] rfl ?_
        exact t_X6_sheet_36 E hr s1 x1 x2 x3 hm
      · rw [if_neg c7] at hm
        refine zr_iload_n E dX6_sheet_17 2 rfl ?_
        refine zr_bipush (v := 16) E dX6_sheet_18 (by decide) ?_
        refine zr_icmp_eq (tgt := 36) E dX6_sheet_20 (by decide) (fun c8 => ?_) (fun c8 => ?_)
        · rw [if_pos c8] at hm
          refine zr_sub (lv' := [(0, .ref (zw_ad P 0)), (1, .int x1), (2, .int x2), (3, .int x3)]) [0, 1, 2, 3] rfl ?_
          exact t_X6_sheet_36 E hr s1 x1 x2 x3 hm
        · rw [if_neg c8] at hm
          refine zr_iload_n E dX6_sheet_23 2 rfl ?_
          refine zr_bipush (v := 32) E dX6_sheet_24 (by decide) ?_
          refine zr_icmp_eq (tgt := 36) E dX6_sheet_26 (by decide) (fun c9 => ?_) (fun c9 => ?_)
          · rw [if_pos c9] at hm
            refine zr_sub (lv' := [(0, .ref (zw_ad P 0)), (1, .int x1), (2, .int x2), (3, .int x3)]) [0, 1, 2, 3] rfl ?_
            exact t_X6_sheet_36 E hr s1 x1 x2 x3 hm
          · rw [if_neg c9] at hm
            refine zr_aload_n E dX6_sheet_29 0 rfl ?_
            refine zr_ldc E mw_98 dX6_sheet_30 ?_
            obtain ⟨r11, s10, os10, hm⟩ := cl_some hm
            refine zr_cVi (st := []) E mw_106 cm_X6_found (c_X6_found B.2.1 P s1 (-1000001)) os10 (rc_0 P) ⟨by decide, by decide⟩ rfl rfl (Nat.le_of_ble_eq_true rfl) dX6_sheet_32 ?_
            exact zr_iret E hr rfl hm dX6_sheet_35
-- X6_write
set_option maxRecDepth 100000 in
set_option maxHeartbeats 4000000 in
theorem c_X6_write (l : Launch) (P : zw_P) (σ : zw_S) (x1 : Int32) (x2 : Int32) (x3 : Int32) : zc_i l P yX6_write cX6_write 4 .int 2 [.ref (zw_ad P 0), .int x1, .int x2, .int x3] σ (m_X6_write σ x1 x2 x3) := by
  refine zc_i.of (by decide) (Nat.le_of_ble_eq_true rfl) (fun B r τ E hl hr hm => ?_)
  subst hl
  refine zr_sub (lv' := [(0, .ref (zw_ad P 0)), (1, .int x1), (2, .int x2), (3, .int x3)]) [0, 1, 2, 3] rfl ?_
  unfold m_X6_write at hm
  refine zr_iload_n E dX6_write_0 1 rfl ?_
  obtain ⟨r2, s1, os1, hm⟩ := cl_some hm
  refine zr_cSi (st := []) E mw_1027 cm_X6_isSheet (c_X6_isSheet B.2.1 P σ x1) os1 ⟨by decide, by decide⟩ rfl rfl (Nat.le_of_ble_eq_true rfl) dX6_write_1 ?_
  refine zr_if_ne (tgt := 14) E dX6_write_4 (by decide) (fun c3 => ?_) (fun c3 => ?_)
  · rw [if_neg c3] at hm
    refine zr_aload_n E dX6_write_14 0 rfl ?_
    refine fg_X6_47 E dX6_write_15 ?_
    refine zr_iload_n E dX6_write_18 1 rfl ?_
    obtain ⟨hz4, hm⟩ := tt_some hm
    refine zr_sheet E (zi_in hz4) dX6_write_19 ?_
    obtain ⟨r6, s5, os5, hm⟩ := cl_some hm
    refine zr_cVi (st := []) E mw_1049 cm_X3_isMissing (c_X3_isMissing B.2.1 P (48 + 2 * x1.toNatClampNeg) (zw_sh_of hz4) s1) os5 (rc_sh P (zw_sh_of hz4)) ⟨by decide, by decide⟩ rfl rfl (Nat.le_of_ble_eq_true rfl) dX6_write_20 ?_
    refine zr_if_eq (tgt := 33) E dX6_write_23 (by decide) (fun c7 => ?_) (fun c7 => ?_)
    · rw [if_pos c7] at hm
      refine zr_iload_n E dX6_write_33 2 rfl ?_
      refine zr_iconst (v := 0) E dX6_write_34 (by decide) ?_
      refine zr_aload_n E dX6_write_35 0 rfl ?_
      refine fg_X6_47 E dX6_write_36 ?_
      refine zr_iload_n E dX6_write_39 1 rfl ?_
      obtain ⟨hz8, hm⟩ := tt_some hm
      refine zr_sheet E (zi_in hz8) dX6_write_40 ?_
      refine fg_X6_251 (zw_sh_of hz8) E dX6_write_41 ?_
      refine zr_iconst (v := 1) E dX6_write_44 (by decide) ?_
      refine zr_isub E dX6_write_45 ?_
      obtain ⟨r10, s9, os9, hm⟩ := cl_some hm
      refine zr_cSi (st := []) E mw_103 cm_X6_isIn (c_X6_isIn B.2.1 P s5 x2 0 ((s5 (48 + 2 * x1.toNatClampNeg) 2) - 1)) os9 ⟨by decide, by decide⟩ rfl rfl (Nat.le_of_ble_eq_true rfl) dX6_write_46 ?_
      refine zr_if_ne (tgt := 59) E dX6_write_49 (by decide) (fun c11 => ?_) (fun c11 => ?_)
      · rw [if_neg c11] at hm
        refine zr_aload_n E dX6_write_59 0 rfl ?_
        refine fg_X6_47 E dX6_write_60 ?_
        refine zr_iload_n E dX6_write_63 1 rfl ?_
        obtain ⟨hz12, hm⟩ := tt_some hm
        refine zr_sheet E (zi_in hz12) dX6_write_64 ?_
        refine zr_iload_n E dX6_write_65 2 rfl ?_
        refine zr_iload_n E dX6_write_66 3 rfl ?_
        obtain ⟨s13, os13, hm⟩ := cv_some hm
        refine zr_cVv (st := []) E mw_1053 cm_X3_put (c_X3_put B.2.1 P (48 + 2 * x1.toNatClampNeg) (zw_sh_of hz12) s9 x2 x3) os13 (rc_sh P (zw_sh_of hz12)) ⟨by decide, by decide⟩ rfl rfl (Nat.le_of_ble_eq_true rfl) dX6_write_67 ?_
        refine zr_iconst (v := 1) E dX6_write_70 (by decide) ?_
        exact zr_iret E hr rfl hm dX6_write_71
      · rw [if_pos c11] at hm
        refine zr_aload_n E dX6_write_52 0 rfl ?_
        refine zr_ldc E mw_98 dX6_write_53 ?_
        obtain ⟨r15, s14, os14, hm⟩ := cl_some hm
        refine zr_cVi (st := []) E mw_106 cm_X6_found (c_X6_found B.2.1 P s9 (-1000001)) os14 (rc_0 P) ⟨by decide, by decide⟩ rfl rfl (Nat.le_of_ble_eq_true rfl) dX6_write_55 ?_
        exact zr_iret E hr rfl hm dX6_write_58
    · rw [if_neg c7] at hm
      refine zr_aload_n E dX6_write_26 0 rfl ?_
      refine zr_ldc E mw_1011 dX6_write_27 ?_
      obtain ⟨r17, s16, os16, hm⟩ := cl_some hm
      refine zr_cVi (st := []) E mw_106 cm_X6_found (c_X6_found B.2.1 P s5 (-1000006)) os16 (rc_0 P) ⟨by decide, by decide⟩ rfl rfl (Nat.le_of_ble_eq_true rfl) dX6_write_29 ?_
      exact zr_iret E hr rfl hm dX6_write_32
  · rw [if_pos c3] at hm
    refine zr_aload_n E dX6_write_7 0 rfl ?_
    refine zr_ldc E mw_98 dX6_write_8 ?_
    obtain ⟨r19, s18, os18, hm⟩ := cl_some hm
    refine zr_cVi (st := []) E mw_106 cm_X6_found (c_X6_found B.2.1 P s1 (-1000001)) os18 (rc_0 P) ⟨by decide, by decide⟩ rfl rfl (Nat.le_of_ble_eq_true rfl) dX6_write_10 ?_
    exact zr_iret E hr rfl hm dX6_write_13
-- X6_copy
set_option maxRecDepth 100000 in
set_option maxHeartbeats 4000000 in
theorem c_X6_copy (l : Launch) (P : zw_P) (σ : zw_S) (x1 : Int32) (x2 : Int32) (x3 : Int32) (x4 : Int32) (x5 : Int32) : zc_i l P yX6_copy cX6_copy 6 .int 2 [.ref (zw_ad P 0), .int x1, .int x2, .int x3, .int x4, .int x5] σ (m_X6_copy σ x1 x2 x3 x4 x5) := by
  refine zc_i.of (by decide) (Nat.le_of_ble_eq_true rfl) (fun B r τ E hl hr hm => ?_)
  subst hl
  refine zr_sub (lv' := [(0, .ref (zw_ad P 0)), (1, .int x1), (2, .int x2), (3, .int x3), (4, .int x4), (5, .int x5)]) [0, 1, 2, 3, 4, 5] rfl ?_
  unfold m_X6_copy at hm
  refine zr_iload_n E dX6_copy_0 1 rfl ?_
  obtain ⟨r2, s1, os1, hm⟩ := cl_some hm
  refine zr_cSi (st := []) E mw_1027 cm_X6_isSheet (c_X6_isSheet B.2.1 P σ x1) os1 ⟨by decide, by decide⟩ rfl rfl (Nat.le_of_ble_eq_true rfl) dX6_copy_1 ?_
  refine zr_if_eq (tgt := 14) E dX6_copy_4 (by decide) (fun c3 => ?_) (fun c3 => ?_)
  · rw [if_pos c3] at hm
    refine zr_aload_n E dX6_copy_14 0 rfl ?_
    refine zr_ldc E mw_98 dX6_copy_15 ?_
    obtain ⟨r5, s4, os4, hm⟩ := cl_some hm
    refine zr_cVi (st := []) E mw_106 cm_X6_found (c_X6_found B.2.1 P s1 (-1000001)) os4 (rc_0 P) ⟨by decide, by decide⟩ rfl rfl (Nat.le_of_ble_eq_true rfl) dX6_copy_17 ?_
    exact zr_iret E hr rfl hm dX6_copy_20
  · rw [if_neg c3] at hm
    refine zr_iload_n E dX6_copy_7 3 rfl ?_
    obtain ⟨r7, s6, os6, hm⟩ := cl_some hm
    refine zr_cSi (st := []) E mw_1027 cm_X6_isSheet (c_X6_isSheet B.2.1 P s1 x3) os6 ⟨by decide, by decide⟩ rfl rfl (Nat.le_of_ble_eq_true rfl) dX6_copy_8 ?_
    refine zr_if_ne (tgt := 21) E dX6_copy_11 (by decide) (fun c8 => ?_) (fun c8 => ?_)
    · rw [if_neg c8] at hm
      refine zr_aload_n E dX6_copy_21 0 rfl ?_
      refine fg_X6_47 E dX6_copy_22 ?_
      refine zr_iload_n E dX6_copy_25 1 rfl ?_
      obtain ⟨hz9, hm⟩ := tt_some hm
      refine zr_sheet E (zi_in hz9) dX6_copy_26 ?_
      obtain ⟨r11, s10, os10, hm⟩ := cl_some hm
      refine zr_cVi (st := []) E mw_1049 cm_X3_isMissing (c_X3_isMissing B.2.1 P (48 + 2 * x1.toNatClampNeg) (zw_sh_of hz9) s6) os10 (rc_sh P (zw_sh_of hz9)) ⟨by decide, by decide⟩ rfl rfl (Nat.le_of_ble_eq_true rfl) dX6_copy_27 ?_
      refine zr_if_ne (tgt := 45) E dX6_copy_30 (by decide) (fun c12 => ?_) (fun c12 => ?_)
      · rw [if_neg c12] at hm
        refine zr_aload_n E dX6_copy_45 0 rfl ?_
        refine zr_ldc E mw_1011 dX6_copy_46 ?_
        obtain ⟨r14, s13, os13, hm⟩ := cl_some hm
        refine zr_cVi (st := []) E mw_106 cm_X6_found (c_X6_found B.2.1 P s10 (-1000006)) os13 (rc_0 P) ⟨by decide, by decide⟩ rfl rfl (Nat.le_of_ble_eq_true rfl) dX6_copy_48 ?_
        exact zr_iret E hr rfl hm dX6_copy_51
      · rw [if_pos c12] at hm
        refine zr_aload_n E dX6_copy_33 0 rfl ?_
        refine fg_X6_47 E dX6_copy_34 ?_
        refine zr_iload_n E dX6_copy_37 3 rfl ?_
        obtain ⟨hz15, hm⟩ := tt_some hm
        refine zr_sheet E (zi_in hz15) dX6_copy_38 ?_
        obtain ⟨r17, s16, os16, hm⟩ := cl_some hm
        refine zr_cVi (st := []) E mw_1049 cm_X3_isMissing (c_X3_isMissing B.2.1 P (48 + 2 * x3.toNatClampNeg) (zw_sh_of hz15) s10) os16 (rc_sh P (zw_sh_of hz15)) ⟨by decide, by decide⟩ rfl rfl (Nat.le_of_ble_eq_true rfl) dX6_copy_39 ?_
        refine zr_if_eq (tgt := 52) E dX6_copy_42 (by decide) (fun c18 => ?_) (fun c18 => ?_)
        · rw [if_pos c18] at hm
          refine zr_aload_n E dX6_copy_52 0 rfl ?_
          refine fg_X6_47 E dX6_copy_53 ?_
          refine zr_iload_n E dX6_copy_56 1 rfl ?_
          obtain ⟨hz19, hm⟩ := tt_some hm
          refine zr_sheet E (zi_in hz19) dX6_copy_57 ?_
          refine fg_X6_258 (zw_sh_of hz19) E dX6_copy_58 ?_
          refine zr_aload_n E dX6_copy_61 0 rfl ?_
          refine fg_X6_47 E dX6_copy_62 ?_
          refine zr_iload_n E dX6_copy_65 3 rfl ?_
          obtain ⟨hz20, hm⟩ := tt_some hm
          refine zr_sheet E (zi_in hz20) dX6_copy_66 ?_
          refine fg_X6_258 (zw_sh_of hz20) E dX6_copy_67 ?_
          refine zr_icmp_eq (tgt := 80) E dX6_copy_70 (by decide) (fun c21 => ?_) (fun c21 => ?_)
          · rw [if_pos c21] at hm
            refine zr_aload_n E dX6_copy_80 0 rfl ?_
            refine fg_X6_47 E dX6_copy_81 ?_
            refine zr_iload_n E dX6_copy_84 1 rfl ?_
            obtain ⟨hz22, hm⟩ := tt_some hm
            refine zr_sheet E (zi_in hz22) dX6_copy_85 ?_
            refine zr_iload_n E dX6_copy_86 2 rfl ?_
            refine zr_iload E dX6_copy_87 5 rfl ?_
            obtain ⟨r24, s23, os23, hm⟩ := cl_some hm
            refine zr_cVi (st := []) E mw_1068 cm_X3_hasRange (c_X3_hasRange B.2.1 P (48 + 2 * x1.toNatClampNeg) (zw_sh_of hz22) s16 x2 x5) os23 (rc_sh P (zw_sh_of hz22)) ⟨by decide, by decide⟩ rfl rfl (Nat.le_of_ble_eq_true rfl) dX6_copy_89 ?_
            refine zr_if_eq (tgt := 111) E dX6_copy_92 (by decide) (fun c25 => ?_) (fun c25 => ?_)
            · rw [if_pos c25] at hm
              refine zr_aload_n E dX6_copy_111 0 rfl ?_
              refine zr_ldc E mw_98 dX6_copy_112 ?_
              obtain ⟨r27, s26, os26, hm⟩ := cl_some hm
              refine zr_cVi (st := []) E mw_106 cm_X6_found (c_X6_found B.2.1 P s23 (-1000001)) os26 (rc_0 P) ⟨by decide, by decide⟩ rfl rfl (Nat.le_of_ble_eq_true rfl) dX6_copy_114 ?_
              exact zr_iret E hr rfl hm dX6_copy_117
            · rw [if_neg c25] at hm
              refine zr_aload_n E dX6_copy_95 0 rfl ?_
              refine fg_X6_47 E dX6_copy_96 ?_
              refine zr_iload_n E dX6_copy_99 3 rfl ?_
              obtain ⟨hz28, hm⟩ := tt_some hm
              refine zr_sheet E (zi_in hz28) dX6_copy_100 ?_
              refine zr_iload E dX6_copy_101 4 rfl ?_
              refine zr_iload E dX6_copy_103 5 rfl ?_
              obtain ⟨r30, s29, os29, hm⟩ := cl_some hm
              refine zr_cVi (st := []) E mw_1068 cm_X3_hasRange (c_X3_hasRange B.2.1 P (48 + 2 * x3.toNatClampNeg) (zw_sh_of hz28) s23 x4 x5) os29 (rc_sh P (zw_sh_of hz28)) ⟨by decide, by decide⟩ rfl rfl (Nat.le_of_ble_eq_true rfl) dX6_copy_105 ?_
              refine zr_if_ne (tgt := 118) E dX6_copy_108 (by decide) (fun c31 => ?_) (fun c31 => ?_)
              · rw [if_neg c31] at hm
                refine zr_aload_n E dX6_copy_118 0 rfl ?_
                refine fg_X6_47 E dX6_copy_119 ?_
                refine zr_iload_n E dX6_copy_122 1 rfl ?_
                obtain ⟨hz32, hm⟩ := tt_some hm
                refine zr_sheet E (zi_in hz32) dX6_copy_123 ?_
                refine fg_X6_264 (zw_sh_of hz32) E dX6_copy_124 ?_
                refine zr_iload_n E dX6_copy_127 2 rfl ?_
                refine zr_aload_n E dX6_copy_128 0 rfl ?_
                refine fg_X6_47 E dX6_copy_129 ?_
                refine zr_iload_n E dX6_copy_132 3 rfl ?_
                obtain ⟨hz33, hm⟩ := tt_some hm
                refine zr_sheet E (zi_in hz33) dX6_copy_133 ?_
                refine fg_X6_264 (zw_sh_of hz33) E dX6_copy_134 ?_
                refine zr_iload E dX6_copy_137 4 rfl ?_
                refine zr_iload E dX6_copy_139 5 rfl ?_
                obtain ⟨hz35, hm⟩ := tt_some hm
                obtain ⟨s34, es34, hm⟩ := nm_some hm
                refine zr_copy (h := 1) E mw_1067 mC_1 mC_2 mC_3 (zw_sh_ar (zw_sh_of hz32)) (zw_sh_ar (zw_sh_of hz33)) (zcp_1 hz35) (zcp_2 hz35) (zcp_3 hz35) (zcp_4 hz35) (zcp_5 hz35) (Nat.le_of_ble_eq_true rfl) es34 dX6_copy_141 ?_
                refine zr_iload E dX6_copy_144 5 rfl ?_
                exact zr_iret E hr rfl hm dX6_copy_146
              · rw [if_pos c31] at hm
                refine zr_aload_n E dX6_copy_111 0 rfl ?_
                refine zr_ldc E mw_98 dX6_copy_112 ?_
                obtain ⟨r37, s36, os36, hm⟩ := cl_some hm
                refine zr_cVi (st := []) E mw_106 cm_X6_found (c_X6_found B.2.1 P s29 (-1000001)) os36 (rc_0 P) ⟨by decide, by decide⟩ rfl rfl (Nat.le_of_ble_eq_true rfl) dX6_copy_114 ?_
                exact zr_iret E hr rfl hm dX6_copy_117
          · rw [if_neg c21] at hm
            refine zr_aload_n E dX6_copy_73 0 rfl ?_
            refine zr_ldc E mw_1012 dX6_copy_74 ?_
            obtain ⟨r39, s38, os38, hm⟩ := cl_some hm
            refine zr_cVi (st := []) E mw_106 cm_X6_found (c_X6_found B.2.1 P s16 (-1000003)) os38 (rc_0 P) ⟨by decide, by decide⟩ rfl rfl (Nat.le_of_ble_eq_true rfl) dX6_copy_76 ?_
            exact zr_iret E hr rfl hm dX6_copy_79
        · rw [if_neg c18] at hm
          refine zr_aload_n E dX6_copy_45 0 rfl ?_
          refine zr_ldc E mw_1011 dX6_copy_46 ?_
          obtain ⟨r41, s40, os40, hm⟩ := cl_some hm
          refine zr_cVi (st := []) E mw_106 cm_X6_found (c_X6_found B.2.1 P s16 (-1000006)) os40 (rc_0 P) ⟨by decide, by decide⟩ rfl rfl (Nat.le_of_ble_eq_true rfl) dX6_copy_48 ?_
          exact zr_iret E hr rfl hm dX6_copy_51
    · rw [if_pos c8] at hm
      refine zr_aload_n E dX6_copy_14 0 rfl ?_
      refine zr_ldc E mw_98 dX6_copy_15 ?_
      obtain ⟨r43, s42, os42, hm⟩ := cl_some hm
      refine zr_cVi (st := []) E mw_106 cm_X6_found (c_X6_found B.2.1 P s6 (-1000001)) os42 (rc_0 P) ⟨by decide, by decide⟩ rfl rfl (Nat.le_of_ble_eq_true rfl) dX6_copy_17 ?_
      exact zr_iret E hr rfl hm dX6_copy_20
