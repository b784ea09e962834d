-- X6_isIn
set_option maxRecDepth 100000 in
set_option maxHeartbeats 4000000 in
theorem c_X6_isIn (l : Launch) (P : zw_P) (σ : zw_S) (x0 : Int32) (x1 : Int32) (x2 : Int32) : zc_i l P yX6_isIn cX6_isIn 3 .boolean 0 [.int x0, .int x1, .int x2] σ (m_X6_isIn σ x0 x1 x2) := by
  refine zc_i.of (by decide) (Nat.le_of_ble_eq_true rfl) (fun B r τ E hl hr hm => ?_)
  subst hl
  refine zr_sub (lv' := [(0, .int x0), (1, .int x1), (2, .int x2)]) [0, 1, 2] rfl ?_
  unfold m_X6_isIn at hm
  refine zr_iload_n E dX6_isIn_0 0 rfl ?_
  refine zr_iload_n E dX6_isIn_1 1 rfl ?_
  refine zr_icmp_lt (tgt := 14) E dX6_isIn_2 (by decide) (fun c1 => ?_) (fun c1 => ?_)
  · rw [if_pos c1] at hm
    refine zr_iconst (v := 0) E dX6_isIn_14 (by decide) ?_
    exact zr_iret E hr (by decide) hm dX6_isIn_15
  · rw [if_neg c1] at hm
    refine zr_iload_n E dX6_isIn_5 0 rfl ?_
    refine zr_iload_n E dX6_isIn_6 2 rfl ?_
    refine zr_icmp_gt (tgt := 14) E dX6_isIn_7 (by decide) (fun c2 => ?_) (fun c2 => ?_)
    · rw [if_pos c2] at hm
      refine zr_iconst (v := 0) E dX6_isIn_14 (by decide) ?_
      exact zr_iret E hr (by decide) hm dX6_isIn_15
    · rw [if_neg c2] at hm
      refine zr_iconst (v := 1) E dX6_isIn_10 (by decide) ?_
      refine zr_goto (tgt := 15) E dX6_isIn_11 (by decide) ?_
      exact zr_iret E hr (by decide) hm dX6_isIn_15
-- X6_found
set_option maxRecDepth 100000 in
set_option maxHeartbeats 4000000 in
theorem c_X6_found (l : Launch) (P : zw_P) (σ : zw_S) (x1 : Int32) : zc_i l P yX6_found cX6_found 3 .int 1 [.ref (zw_ad P 0), .int x1] σ (m_X6_found σ x1) := by
  refine zc_i.of (by decide) (Nat.le_of_ble_eq_true rfl) (fun B r τ E hl hr hm => ?_)
  subst hl
  refine zr_sub (lv' := [(0, .ref (zw_ad P 0)), (1, .int x1)]) [0, 1] rfl ?_
  unfold m_X6_found at hm
  refine zr_ldc E mw_98 dX6_found_0 ?_
  refine zr_iload_n E dX6_found_2 1 rfl ?_
  refine zr_isub E dX6_found_3 ?_
  obtain ⟨v1, ev1, hm⟩ := nm_some hm
  refine zr_top ev1 ?_
  refine zr_istore_n (lv' := [(2, .int v1), (0, .ref (zw_ad P 0)), (1, .int x1)]) E dX6_found_4 (by decide) rfl ?_
  refine zr_iload_n E dX6_found_5 0 rfl ?_
  refine zr_iconst (v := 0) E dX6_found_6 (by decide) ?_
  refine zr_bipush (v := 6) E dX6_found_7 (by decide) ?_
  obtain ⟨r3, s2, os2, hm⟩ := cl_some hm
  refine zr_cSi (st := []) E mw_103 cm_X6_isIn (c_X6_isIn B.2.1 P σ v1 0 6) os2 ⟨by decide, by decide⟩ rfl rfl (Nat.le_of_ble_eq_true rfl) dX6_found_9 ?_
  refine zr_if_eq (tgt := 25) E dX6_found_12 (by decide) (fun c4 => ?_) (fun c4 => ?_)
  · rw [if_pos c4] at hm
    refine zr_iload_n E dX6_found_25 2 rfl ?_
    exact zr_iret E hr rfl hm dX6_found_26
  · rw [if_neg c4] at hm
    refine zr_aload_n E dX6_found_15 1 rfl ?_
    refine fg_X6_51 E dX6_found_16 ?_
    refine zr_iload_n E dX6_found_19 0 rfl ?_
    refine zr_dup2 E dX6_found_20 rfl rfl ?_
    obtain ⟨hv5, v5, ev5, hm⟩ := rd_some hm
    refine zr_iald E ac_56 hv5 ev5 dX6_found_21 ?_
    refine zr_iconst (v := 1) E dX6_found_22 (by decide) ?_
    refine zr_iadd E dX6_found_23 ?_
    obtain ⟨hs6, s6, es6, hm⟩ := wt_some hm
    refine zr_iast E ac_56 hs6 es6 dX6_found_24 ?_
    refine zr_iload_n E dX6_found_25 2 rfl ?_
    exact zr_iret E hr rfl hm dX6_found_26
-- X6_isName
set_option maxRecDepth 100000 in
set_option maxHeartbeats 4000000 in
theorem c_X6_isName (l : Launch) (P : zw_P) (σ : zw_S) (x0 : Int32) : zc_i l P yX6_isName cX6_isName 1 .boolean 0 [.int x0] σ (m_X6_isName σ x0) := by
  refine zc_i.of (by decide) (Nat.le_of_ble_eq_true rfl) (fun B r τ E hl hr hm => ?_)
  subst hl
  refine zr_sub (lv' := [(0, .int x0)]) [0] rfl ?_
  unfold m_X6_isName at hm
  refine zr_iload_n E dX6_isName_0 0 rfl ?_
  refine zr_if_lt (tgt := 14) E dX6_isName_1 (by decide) (fun c1 => ?_) (fun c1 => ?_)
  · rw [if_pos c1] at hm
    refine zr_iconst (v := 0) E dX6_isName_14 (by decide) ?_
    exact zr_iret E hr (by decide) hm dX6_isName_15
  · rw [if_neg c1] at hm
    refine zr_iload_n E dX6_isName_4 0 rfl ?_
    refine zr_bipush (v := 8) E dX6_isName_5 (by decide) ?_
    refine zr_icmp_ge (tgt := 14) E dX6_isName_7 (by decide) (fun c2 => ?_) (fun c2 => ?_)
    · rw [if_pos c2] at hm
      refine zr_iconst (v := 0) E dX6_isName_14 (by decide) ?_
      exact zr_iret E hr (by decide) hm dX6_isName_15
    · rw [if_neg c2] at hm
      refine zr_iconst (v := 1) E dX6_isName_10 (by decide) ?_
      refine zr_goto (tgt := 15) E dX6_isName_11 (by decide) ?_
      exact zr_iret E hr (by decide) hm dX6_isName_15
-- X6_worth
set_option maxRecDepth 100000 in
set_option maxHeartbeats 4000000 in
theorem c_X6_worth (l : Launch) (P : zw_P) (σ : zw_S) (x1 : Int32) (x2 : Int32) : zc_i l P yX6_worth cX6_worth 4 .int 2 [.ref (zw_ad P 0), .int x1, .int x2] σ (m_X6_worth σ x1 x2) := by
  refine zc_i.of (by decide) (Nat.le_of_ble_eq_true rfl) (fun B r τ E hl hr hm => ?_)
  subst hl
  refine zr_sub (lv' := [(0, .ref (zw_ad P 0)), (1, .int x1), (2, .int x2)]) [0, 1, 2] rfl ?_
  unfold m_X6_worth at hm
  refine zr_iload_n E dX6_worth_0 1 rfl ?_
  obtain ⟨r2, s1, os1, hm⟩ := cl_some hm
  refine zr_cSi (st := []) E mw_100 cm_X6_isName (c_X6_isName B.2.1 P σ x1) os1 ⟨by decide, by decide⟩ rfl rfl (Nat.le_of_ble_eq_true rfl) dX6_worth_1 ?_
  refine zr_if_eq (tgt := 17) E dX6_worth_4 (by decide) (fun c3 => ?_) (fun c3 => ?_)
  · rw [if_pos c3] at hm
    refine zr_aload_n E dX6_worth_17 0 rfl ?_
    refine zr_ldc E mw_98 dX6_worth_18 ?_
    obtain ⟨r5, s4, os4, hm⟩ := cl_some hm
    refine zr_cVi (st := []) E mw_106 cm_X6_found (c_X6_found B.2.1 P s1 (-1000001)) os4 (rc_0 P) ⟨by decide, by decide⟩ rfl rfl (Nat.le_of_ble_eq_true rfl) dX6_worth_20 ?_
    exact zr_iret E hr rfl hm dX6_worth_23
  · rw [if_neg c3] at hm
    refine zr_iload_n E dX6_worth_7 2 rfl ?_
    refine zr_iconst (v := 0) E dX6_worth_8 (by decide) ?_
    refine zr_bipush (v := 99) E dX6_worth_9 (by decide) ?_
    obtain ⟨r7, s6, os6, hm⟩ := cl_some hm
    refine zr_cSi (st := []) E mw_103 cm_X6_isIn (c_X6_isIn B.2.1 P s1 x2 0 99) os6 ⟨by decide, by decide⟩ rfl rfl (Nat.le_of_ble_eq_true rfl) dX6_worth_11 ?_
    refine zr_if_ne (tgt := 24) E dX6_worth_14 (by decide) (fun c8 => ?_) (fun c8 => ?_)
    · rw [if_neg c8] at hm
      refine zr_aload_n E dX6_worth_24 0 rfl ?_
      refine fg_X6_12 E dX6_worth_25 ?_
      refine fg_X6_69 bk_1 E dX6_worth_28 ?_
      refine zr_iload_n E dX6_worth_31 1 rfl ?_
      obtain ⟨hv9, v9, ev9, hm⟩ := rd_some hm
      refine zr_iald E ac_2 hv9 ev9 dX6_worth_32 ?_
      refine zr_istore_n (lv' := [(3, .int v9), (0, .ref (zw_ad P 0)), (1, .int x1), (2, .int x2)]) E dX6_worth_33 (by decide) rfl ?_
      refine zr_aload_n E dX6_worth_34 1 rfl ?_
      refine fg_X6_12 E dX6_worth_35 ?_
      refine fg_X6_69 bk_1 E dX6_worth_38 ?_
      refine zr_iload_n E dX6_worth_41 2 rfl ?_
      refine zr_iload_n E dX6_worth_42 3 rfl ?_
      obtain ⟨hs10, s10, es10, hm⟩ := wt_some hm
      refine zr_iast E ac_2 hs10 es10 dX6_worth_43 ?_
      refine zr_iload_n E dX6_worth_44 0 rfl ?_
      exact zr_iret E hr rfl hm dX6_worth_45
    · rw [if_pos c8] at hm
      refine zr_aload_n E dX6_worth_17 0 rfl ?_
      refine zr_ldc E mw_98 dX6_worth_18 ?_
      obtain ⟨r12, s11, os11, hm⟩ := cl_some hm
      refine zr_cVi (st := []) E mw_106 cm_X6_found (c_X6_found B.2.1 P s6 (-1000001)) os11 (rc_0 P) ⟨by decide, by decide⟩ rfl rfl (Nat.le_of_ble_eq_true rfl) dX6_worth_20 ?_
      exact zr_iret E hr rfl hm dX6_worth_23
-- X6_task
set_option maxRecDepth 100000 in
set_option maxHeartbeats 4000000 in
theorem c_X6_task (l : Launch) (P : zw_P) (σ : zw_S) (x1 : Int32) (x2 : Int32) (x3 : Int32) : zc_i l P yX6_task cX6_task 4 .int 2 [.ref (zw_ad P 0), .int x1, .int x2, .int x3] σ (m_X6_task σ x1 x2 x3) := by
  refine zc_i.of (by decide) (Nat.le_of_ble_eq_true rfl) (fun B r τ E hl hr hm => ?_)
  subst hl
  refine zr_sub (lv' := [(0, .ref (zw_ad P 0)), (1, .int x1), (2, .int x2), (3, .int x3)]) [0, 1, 2, 3] rfl ?_
  unfold m_X6_task at hm
  refine zr_iload_n E dX6_task_0 1 rfl ?_
  obtain ⟨r2, s1, os1, hm⟩ := cl_some hm
  refine zr_cSi (st := []) E mw_137 cm_X2_isKind (c_X2_isKind B.2.1 P σ x1) os1 ⟨by decide, by decide⟩ rfl rfl (Nat.le_of_ble_eq_true rfl) dX6_task_1 ?_
  refine zr_if_eq (tgt := 25) E dX6_task_4 (by decide) (fun c3 => ?_) (fun c3 => ?_)
  · rw [if_pos c3] at hm
    refine zr_aload_n E dX6_task_25 0 rfl ?_
    refine zr_ldc E mw_98 dX6_task_26 ?_
    obtain ⟨r5, s4, os4, hm⟩ := cl_some hm
    refine zr_cVi (st := []) E mw_106 cm_X6_found (c_X6_found B.2.1 P s1 (-1000001)) os4 (rc_0 P) ⟨by decide, by decide⟩ rfl rfl (Nat.le_of_ble_eq_true rfl) dX6_task_28 ?_
    exact zr_iret E hr rfl hm dX6_task_31
  · rw [if_neg c3] at hm
    refine zr_iload_n E dX6_task_7 2 rfl ?_
    obtain ⟨r7, s6, os6, hm⟩ := cl_some hm
    refine zr_cSi (st := []) E mw_100 cm_X6_isName (c_X6_isName B.2.1 P s1 x2) os6 ⟨by decide, by decide⟩ rfl rfl (Nat.le_of_ble_eq_true rfl) dX6_task_8 ?_
    refine zr_if_eq (tgt := 25) E dX6_task_11 (by decide) (fun c8 => ?_) (fun c8 => ?_)
    · rw [if_pos c8] at hm
      refine zr_aload_n E dX6_task_25 0 rfl ?_
      refine zr_ldc E mw_98 dX6_task_26 ?_
      obtain ⟨r10, s9, os9, hm⟩ := cl_some hm
      refine zr_cVi (st := []) E mw_106 cm_X6_found (c_X6_found B.2.1 P s6 (-1000001)) os9 (rc_0 P) ⟨by decide, by decide⟩ rfl rfl (Nat.le_of_ble_eq_true rfl) dX6_task_28 ?_
      exact zr_iret E hr rfl hm dX6_task_31
    · rw [if_neg c8] at hm
      refine zr_iload_n E dX6_task_14 3 rfl ?_
      refine zr_iconst (v := 1) E dX6_task_15 (by decide) ?_
      refine zr_sipush (v := 999) E dX6_task_16 (by decide) ?_
      obtain ⟨r12, s11, os11, hm⟩ := cl_some hm
      refine zr_cSi (st := []) E mw_103 cm_X6_isIn (c_X6_isIn B.2.1 P s6 x3 1 999) os11 ⟨by decide, by decide⟩ rfl rfl (Nat.le_of_ble_eq_true rfl) dX6_task_19 ?_
      refine zr_if_ne (tgt := 32) E dX6_task_22 (by decide) (fun c13 => ?_) (fun c13 => ?_)
      · rw [if_neg c13] at hm
        refine zr_aload_n E dX6_task_32 0 rfl ?_
        refine fg_X6_12 E dX6_task_33 ?_
        refine fg_X6_77 bk_1 E dX6_task_36 ?_
        refine zr_bipush (v := 20) E dX6_task_39 (by decide) ?_
        refine zr_icmp_lt (tgt := 53) E dX6_task_41 (by decide) (fun c14 => ?_) (fun c14 => ?_)
        · rw [if_pos c14] at hm
          refine zr_aload_n E dX6_task_53 0 rfl ?_
          refine fg_X6_12 E dX6_task_54 ?_
          refine zr_iload_n E dX6_task_57 1 rfl ?_
          refine zr_iload_n E dX6_task_58 2 rfl ?_
          refine zr_iload_n E dX6_task_59 3 rfl ?_
          refine zr_iconst (v := (-1)) E dX6_task_60 (by decide) ?_
          obtain ⟨r16, s15, os15, hm⟩ := cl_some hm
          refine zr_cVi (st := []) E mw_142 cm_X0_addTask (c_X0_addTask B.2.1 P 1 bk_1 s11 x1 x2 x3 (-1)) os15 (rc_bk P bk_1) ⟨by decide, by decide⟩ rfl rfl (Nat.le_of_ble_eq_true rfl) dX6_task_61 ?_
          exact zr_iret E hr rfl hm dX6_task_64
        · rw [if_neg c14] at hm
          refine zr_aload_n E dX6_task_44 0 rfl ?_
          refine zr_ldc E mw_136 dX6_task_45 ?_
          obtain ⟨r18, s17, os17, hm⟩ := cl_some hm
          refine zr_cVi (st := []) E mw_106 cm_X6_found (c_X6_found B.2.1 P s11 (-1000002)) os17 (rc_0 P) ⟨by decide, by decide⟩ rfl rfl (Nat.le_of_ble_eq_true rfl) dX6_task_47 ?_
          refine zr_goto (tgt := 64) E dX6_task_50 (by decide) ?_
          exact zr_iret E hr rfl hm dX6_task_64
      · rw [if_pos c13] at hm
        refine zr_aload_n E dX6_task_25 0 rfl ?_
        refine zr_ldc E mw_98 dX6_task_26 ?_
        obtain ⟨r20, s19, os19, hm⟩ := cl_some hm
        refine zr_cVi (st := []) E mw_106 cm_X6_found (c_X6_found B.2.1 P s11 (-1000001)) os19 (rc_0 P) ⟨by decide, by decide⟩ rfl rfl (Nat.le_of_ble_eq_true rfl) dX6_task_28 ?_
        exact zr_iret E hr rfl hm dX6_task_31
-- X6_taskOf
set_option maxRecDepth 100000 in
set_option maxHeartbeats 4000000 in
theorem c_X6_taskOf (l : Launch) (P : zw_P) (σ : zw_S) (x1 : Int32) (x2 : Int32) : zc_i l P yX6_taskOf cX6_taskOf 3 .int 2 [.ref (zw_ad P 0), .int x1, .int x2] σ (m_X6_taskOf σ x1 x2) := by
  refine zc_i.of (by decide) (Nat.le_of_ble_eq_true rfl) (fun B r τ E hl hr hm => ?_)
  subst hl
  refine zr_sub (lv' := [(0, .ref (zw_ad P 0)), (1, .int x1), (2, .int x2)]) [0, 1, 2] rfl ?_
  unfold m_X6_taskOf at hm
  refine zr_aload_n E dX6_taskOf_0 0 rfl ?_
  refine fg_X6_12 E dX6_taskOf_1 ?_
  refine zr_iload_n E dX6_taskOf_4 1 rfl ?_
  obtain ⟨r2, s1, os1, hm⟩ := cl_some hm
  refine zr_cVi (st := []) E mw_169 cm_X0_hasTask (c_X0_hasTask B.2.1 P 1 bk_1 σ x1) os1 (rc_bk P bk_1) ⟨by decide, by decide⟩ rfl rfl (Nat.le_of_ble_eq_true rfl) dX6_taskOf_5 ?_
  refine zr_if_ne (tgt := 18) E dX6_taskOf_8 (by decide) (fun c3 => ?_) (fun c3 => ?_)
  · rw [if_neg c3] at hm
    refine zr_iload_n E dX6_taskOf_18 2 rfl ?_
    by_cases c4 : x2 = 0
    · rw [if_pos c4] at hm
      refine zr_tabIn (tgt := 56) E dX6_taskOf_19 c4 (by decide) (by decide) rfl (by decide) ?_
      refine zr_aload_n E dX6_taskOf_56 0 rfl ?_
      refine fg_X6_12 E dX6_taskOf_57 ?_
      refine fg_X6_89 bk_1 E dX6_taskOf_60 ?_
      refine zr_iload_n E dX6_taskOf_63 1 rfl ?_
      obtain ⟨hv5, v5, ev5, hm⟩ := rd_some hm
      refine zr_iald E ac_4 hv5 ev5 dX6_taskOf_64 ?_
      exact zr_iret E hr rfl hm dX6_taskOf_65
    · rw [if_neg c4] at hm
      by_cases c6 : x2 = 1
      · rw [if_pos c6] at hm
        refine zr_tabIn (tgt := 66) E dX6_taskOf_19 c6 (by decide) (by decide) rfl (by decide) ?_
        refine zr_aload_n E dX6_taskOf_66 0 rfl ?_
        refine fg_X6_12 E dX6_taskOf_67 ?_
        refine fg_X6_92 bk_1 E dX6_taskOf_70 ?_
        refine zr_iload_n E dX6_taskOf_73 1 rfl ?_
        obtain ⟨hv7, v7, ev7, hm⟩ := rd_some hm
        refine zr_iald E ac_5 hv7 ev7 dX6_taskOf_74 ?_
        exact zr_iret E hr rfl hm dX6_taskOf_75
      · rw [if_neg c6] at hm
        by_cases c8 : x2 = 2
        · rw [if_pos c8] at hm
          refine zr_tabIn (tgt := 76) E dX6_taskOf_19 c8 (by decide) (by decide) rfl (by decide) ?_
          refine zr_aload_n E dX6_taskOf_76 0 rfl ?_
          refine fg_X6_12 E dX6_taskOf_77 ?_
          refine fg_X6_95 bk_1 E dX6_taskOf_80 ?_
          refine zr_iload_n E dX6_taskOf_83 1 rfl ?_
          obtain ⟨hv9, v9, ev9, hm⟩ := rd_some hm
          refine zr_iald E ac_6 hv9 ev9 dX6_taskOf_84 ?_
          exact zr_iret E hr rfl hm dX6_taskOf_85
        · rw [if_neg c8] at hm
          by_cases c10 : x2 = 3
          · rw [if_pos c10] at hm
            refine zr_tabIn (tgt := 86) E dX6_taskOf_19 c10 (by decide) (by decide) rfl (by decide) ?_
            refine zr_aload_n E dX6_taskOf_86 0 rfl ?_
            refine fg_X6_12 E dX6_taskOf_87 ?_
            refine fg_X6_98 bk_1 E dX6_taskOf_90 ?_
            refine zr_iload_n E dX6_taskOf_93 1 rfl ?_
            obtain ⟨hv11, v11, ev11, hm⟩ := rd_some hm
            refine zr_iald E ac_7 hv11 ev11 dX6_taskOf_94 ?_
            exact zr_iret E hr rfl hm dX6_taskOf_95
          · rw [if_neg c10] at hm
            by_cases c12 : x2 = 4
            · rw [if_pos c12] at hm
              refine zr_tabIn (tgt := 96) E dX6_taskOf_19 c12 (by decide) (by decide) rfl (by decide) ?_
              refine zr_aload_n E dX6_taskOf_96 0 rfl ?_
              refine fg_X6_12 E dX6_taskOf_97 ?_
              refine zr_iload_n E dX6_taskOf_100 1 rfl ?_
              obtain ⟨r14, s13, os13, hm⟩ := cl_some hm
              refine zr_cVi (st := []) E mw_173 cm_X0_growthOf (c_X0_growthOf B.2.1 P 1 bk_1 s1 x1) os13 (rc_bk P bk_1) ⟨by decide, by decide⟩ rfl rfl (Nat.le_of_ble_eq_true rfl) dX6_taskOf_101 ?_
              exact zr_iret E hr rfl hm dX6_taskOf_104
            · rw [if_neg c12] at hm
              by_cases c15 : x2 = 5
              · rw [if_pos c15] at hm
                refine zr_tabIn (tgt := 105) E dX6_taskOf_19 c15 (by decide) (by decide) rfl (by decide) ?_
                refine zr_aload_n E dX6_taskOf_105 0 rfl ?_
                refine fg_X6_12 E dX6_taskOf_106 ?_
                refine zr_iload_n E dX6_taskOf_109 1 rfl ?_
                refine zr_iload_n E dX6_taskOf_110 1 rfl ?_
                obtain ⟨r17, s16, os16, hm⟩ := cl_some hm
                refine zr_cVi (st := []) E mw_185 cm_X0_isWaiting (c_X0_isWaiting B.2.1 P 1 bk_1 s1 x1 x1) os16 (rc_bk P bk_1) ⟨by decide, by decide⟩ rfl rfl (Nat.le_of_ble_eq_true rfl) dX6_taskOf_111 ?_
                refine zr_if_eq (tgt := 121) E dX6_taskOf_114 (by decide) (fun c18 => ?_) (fun c18 => ?_)
                · rw [if_pos c18] at hm
                  refine zr_iconst (v := 0) E dX6_taskOf_121 (by decide) ?_
                  exact zr_iret E hr rfl hm dX6_taskOf_122
                · rw [if_neg c18] at hm
                  refine zr_iconst (v := 1) E dX6_taskOf_117 (by decide) ?_
                  refine zr_goto (tgt := 122) E dX6_taskOf_118 (by decide) ?_
                  exact zr_iret E hr rfl hm dX6_taskOf_122
              · rw [if_neg c15] at hm
                refine zr_tabOut (tgt := 123) E dX6_taskOf_19 (sw_out (0) 6 (by decide) (by decide) (fun j hj => by match j, hj with | 0, _ => exact c4 | 1, _ => exact c6 | 2, _ => exact c8 | 3, _ => exact c10 | 4, _ => exact c12 | 5, _ => exact c15 | (j + 6), hj => exact absurd hj (by omega)) _ (by decide)) (by decide) ?_
                refine zr_aload_n E dX6_taskOf_123 0 rfl ?_
                refine zr_ldc E mw_98 dX6_taskOf_124 ?_
                obtain ⟨r20, s19, os19, hm⟩ := cl_some hm
                refine zr_cVi (st := []) E mw_106 cm_X6_found (c_X6_found B.2.1 P s1 (-1000001)) os19 (rc_0 P) ⟨by decide, by decide⟩ rfl rfl (Nat.le_of_ble_eq_true rfl) dX6_taskOf_126 ?_
                exact zr_iret E hr rfl hm dX6_taskOf_129
  · rw [if_pos c3] at hm
    refine zr_aload_n E dX6_taskOf_11 0 rfl ?_
    refine zr_ldc E mw_98 dX6_taskOf_12 ?_
    obtain ⟨r22, s21, os21, hm⟩ := cl_some hm
    refine zr_cVi (st := []) E mw_106 cm_X6_found (c_X6_found B.2.1 P s1 (-1000001)) os21 (rc_0 P) ⟨by decide, by decide⟩ rfl rfl (Nat.le_of_ble_eq_true rfl) dX6_taskOf_14 ?_
    exact zr_iret E hr rfl hm dX6_taskOf_17
-- X6_turn
set_option maxRecDepth 100000 in
set_option maxHeartbeats 4000000 in
theorem c_X6_turn (l : Launch) (P : zw_P) (σ : zw_S) (x1 : Int32) (x2 : Int32) : zc_i l P yX6_turn cX6_turn 4 .int 2 [.ref (zw_ad P 0), .int x1, .int x2] σ (m_X6_turn σ x1 x2) := by
  refine zc_i.of (by decide) (Nat.le_of_ble_eq_true rfl) (fun B r τ E hl hr hm => ?_)
  subst hl
  refine zr_sub (lv' := [(0, .ref (zw_ad P 0)), (1, .int x1), (2, .int x2)]) [0, 1, 2] rfl ?_
  unfold m_X6_turn at hm
  refine zr_aload_n E dX6_turn_0 0 rfl ?_
  refine fg_X6_12 E dX6_turn_1 ?_
  refine zr_iload_n E dX6_turn_4 1 rfl ?_
  obtain ⟨r2, s1, os1, hm⟩ := cl_some hm
  refine zr_cVi (st := []) E mw_169 cm_X0_hasTask (c_X0_hasTask B.2.1 P 1 bk_1 σ x1) os1 (rc_bk P bk_1) ⟨by decide, by decide⟩ rfl rfl (Nat.le_of_ble_eq_true rfl) dX6_turn_5 ?_
  refine zr_if_eq (tgt := 18) E dX6_turn_8 (by decide) (fun c3 => ?_) (fun c3 => ?_)
  · rw [if_pos c3] at hm
    refine zr_aload_n E dX6_turn_18 0 rfl ?_
    refine zr_ldc E mw_98 dX6_turn_19 ?_
    obtain ⟨r5, s4, os4, hm⟩ := cl_some hm
    refine zr_cVi (st := []) E mw_106 cm_X6_found (c_X6_found B.2.1 P s1 (-1000001)) os4 (rc_0 P) ⟨by decide, by decide⟩ rfl rfl (Nat.le_of_ble_eq_true rfl) dX6_turn_21 ?_
    exact zr_iret E hr rfl hm dX6_turn_24
  · rw [if_neg c3] at hm
    refine zr_iload_n E dX6_turn_11 2 rfl ?_
    obtain ⟨r7, s6, os6, hm⟩ := cl_some hm
    refine zr_cSi (st := []) E mw_137 cm_X2_isKind (c_X2_isKind B.2.1 P s1 x2) os6 ⟨by decide, by decide⟩ rfl rfl (Nat.le_of_ble_eq_true rfl) dX6_turn_12 ?_
    refine zr_if_ne (tgt := 25) E dX6_turn_15 (by decide) (fun c8 => ?_) (fun c8 => ?_)
    · rw [if_neg c8] at hm
      refine zr_aload_n E dX6_turn_25 0 rfl ?_
      refine fg_X6_12 E dX6_turn_26 ?_
      refine fg_X6_89 bk_1 E dX6_turn_29 ?_
      refine zr_iload_n E dX6_turn_32 1 rfl ?_
      obtain ⟨hv9, v9, ev9, hm⟩ := rd_some hm
      refine zr_iald E ac_4 hv9 ev9 dX6_turn_33 ?_
      refine zr_istore_n (lv' := [(3, .int v9), (0, .ref (zw_ad P 0)), (1, .int x1), (2, .int x2)]) E dX6_turn_34 (by decide) rfl ?_
      refine zr_aload_n E dX6_turn_35 1 rfl ?_
      refine fg_X6_12 E dX6_turn_36 ?_
      refine fg_X6_89 bk_1 E dX6_turn_39 ?_
      refine zr_iload_n E dX6_turn_42 2 rfl ?_
      refine zr_iload_n E dX6_turn_43 3 rfl ?_
      obtain ⟨hs10, s10, es10, hm⟩ := wt_some hm
      refine zr_iast E ac_4 hs10 es10 dX6_turn_44 ?_
      refine zr_iload_n E dX6_turn_45 0 rfl ?_
      exact zr_iret E hr rfl hm dX6_turn_46
    · rw [if_pos c8] at hm
      refine zr_aload_n E dX6_turn_18 0 rfl ?_
      refine zr_ldc E mw_98 dX6_turn_19 ?_
      obtain ⟨r12, s11, os11, hm⟩ := cl_some hm
      refine zr_cVi (st := []) E mw_106 cm_X6_found (c_X6_found B.2.1 P s6 (-1000001)) os11 (rc_0 P) ⟨by decide, by decide⟩ rfl rfl (Nat.le_of_ble_eq_true rfl) dX6_turn_21 ?_
      exact zr_iret E hr rfl hm dX6_turn_24
-- X6_needs
set_option maxRecDepth 100000 in
set_option maxHeartbeats 4000000 in
theorem t_X6_needs_39 {B : zw_B} {P : zw_P} {r : Int32} {τ : zw_S} (E : zf B P cX6_needs RX6 4 2) (hr : B.2.2.2.2.2.2.2.2.1.sig.returnType = some .int) (σ : zw_S) (x1 : Int32) (x2 : Int32) (hm : m_X6_needs_39 σ x1 x2 = some (r, τ)) : zw_G B P (zq_i B P r τ) 4 σ 39 [(0, .ref (zw_ad P 0)), (1, .int x1), (2, .int x2)] [] := by
  unfold m_X6_needs_39 at hm
  refine zr_aload_n E dX6_needs_39 0 rfl ?_
  refine fg_X6_12 E dX6_needs_40 ?_
  refine fg_X6_98 bk_1 E dX6_needs_43 ?_
  refine zr_iload_n E dX6_needs_46 1 rfl ?_
  obtain ⟨hv1, v1, ev1, hm⟩ := rd_some hm
  refine zr_iald E ac_7 hv1 ev1 dX6_needs_47 ?_
  refine zr_istore_n (lv' := [(3, .int v1), (0, .ref (zw_ad P 0)), (1, .int x1), (2, .int x2)]) E dX6_needs_48 (by decide) rfl ?_
  refine zr_aload_n E dX6_needs_49 1 rfl ?_
  refine fg_X6_12 E dX6_needs_50 ?_
  refine fg_X6_98 bk_1 E dX6_needs_53 ?_
  refine zr_iload_n E dX6_needs_56 2 rfl ?_
  refine zr_iload_n E dX6_needs_57 3 rfl ?_
  obtain ⟨hs2, s2, es2, hm⟩ := wt_some hm
  refine zr_iast E ac_7 hs2 es2 dX6_needs_58 ?_
  refine zr_iload_n E dX6_needs_59 0 rfl ?_
  exact zr_iret E hr rfl hm dX6_needs_60
set_option maxRecDepth 100000 in
set_option maxHeartbeats 4000000 in
theorem c_X6_needs (l : Launch) (P : zw_P) (σ : zw_S) (x1 : Int32) (x2 : Int32) : zc_i l P yX6_needs cX6_needs 4 .int 2 [.ref (zw_ad P 0), .int x1, .int x2] σ (m_X6_needs σ x1 x2) := by
  refine zc_i.of (by decide) (Nat.le_of_ble_eq_true rfl) (fun B r τ E hl hr hm => ?_)
  subst hl
  refine zr_sub (lv' := [(0, .ref (zw_ad P 0)), (1, .int x1), (2, .int x2)]) [0, 1, 2] rfl ?_
  unfold m_X6_needs at hm
  refine zr_aload_n E dX6_needs_0 0 rfl ?_
  refine fg_X6_12 E dX6_needs_1 ?_
  refine zr_iload_n E dX6_needs_4 1 rfl ?_
  obtain ⟨r2, s1, os1, hm⟩ := cl_some hm
  refine zr_cVi (st := []) E mw_169 cm_X0_hasTask (c_X0_hasTask B.2.1 P 1 bk_1 σ x1) os1 (rc_bk P bk_1) ⟨by decide, by decide⟩ rfl rfl (Nat.le_of_ble_eq_true rfl) dX6_needs_5 ?_
  refine zr_if_eq (tgt := 32) E dX6_needs_8 (by decide) (fun c3 => ?_) (fun c3 => ?_)
  · rw [if_pos c3] at hm
    refine zr_aload_n E dX6_needs_32 0 rfl ?_
    refine zr_ldc E mw_98 dX6_needs_33 ?_
    obtain ⟨r5, s4, os4, hm⟩ := cl_some hm
    refine zr_cVi (st := []) E mw_106 cm_X6_found (c_X6_found B.2.1 P s1 (-1000001)) os4 (rc_0 P) ⟨by decide, by decide⟩ rfl rfl (Nat.le_of_ble_eq_true rfl) dX6_needs_35 ?_
    exact zr_iret E hr rfl hm dX6_needs_38
  · rw [if_neg c3] at hm
    refine zr_iload_n E dX6_needs_11 2 rfl ?_
    refine zr_iload_n E dX6_needs_12 1 rfl ?_
    refine zr_icmp_eq (tgt := 32) E dX6_needs_13 (by decide) (fun c6 => ?_) (fun c6 => ?_)
    · rw [if_pos c6] at hm
      refine zr_aload_n E dX6_needs_32 0 rfl ?_
      refine zr_ldc E mw_98 dX6_needs_33 ?_
      obtain ⟨r8, s7, os7, hm⟩ := cl_some hm
      refine zr_cVi (st := []) E mw_106 cm_X6_found (c_X6_found B.2.1 P s1 (-1000001)) os7 (rc_0 P) ⟨by decide, by decide⟩ rfl rfl (Nat.le_of_ble_eq_true rfl) dX6_needs_35 ?_
      exact zr_iret E hr rfl hm dX6_needs_38
    · rw [if_neg c6] at hm
      refine zr_iload_n E dX6_needs_16 2 rfl ?_
      refine zr_iconst (v := (-1)) E dX6_needs_17 (by decide) ?_
      refine zr_icmp_eq (tgt := 39) E dX6_needs_18 (by decide) (fun c9 => ?_) (fun c9 => ?_)
      · rw [if_pos c9] at hm
        refine zr_sub (lv' := [(0, .ref (zw_ad P 0)), (1, .int x1), (2, .int x2)]) [0, 1, 2] rfl ?_
        exact t_X6_needs_39 E hr s1 x1 x2 hm
      · rw [if_neg c9] at hm
        refine zr_aload_n E dX6_needs_21 0 rfl ?_
        refine fg_X6_12 E dX6_needs_22 ?_
        refine zr_iload_n E dX6_needs_25 2 rfl ?_
        obtain ⟨r11, s10, os10, hm⟩ := cl_some hm
        refine zr_cVi (st := []) E mw_169 cm_X0_hasTask (c_X0_hasTask B.2.1 P 1 bk_1 s1 x2) os10 (rc_bk P bk_1) ⟨by decide, by decide⟩ rfl rfl (Nat.le_of_ble_eq_true rfl) dX6_needs_26 ?_
        refine zr_if_ne (tgt := 39) E dX6_needs_29 (by decide) (fun c12 => ?_) (fun c12 => ?_)
        · rw [if_neg c12] at hm
          refine zr_sub (lv' := [(0, .ref (zw_ad P 0)), (1, .int x1), (2, .int x2)]) [0, 1, 2] rfl ?_
          exact t_X6_needs_39 E hr s10 x1 x2 hm
        · rw [if_pos c12] at hm
          refine zr_aload_n E dX6_needs_32 0 rfl ?_
          refine zr_ldc E mw_98 dX6_needs_33 ?_
          obtain ⟨r14, s13, os13, hm⟩ := cl_some hm
          refine zr_cVi (st := []) E mw_106 cm_X6_found (c_X6_found B.2.1 P s10 (-1000001)) os13 (rc_0 P) ⟨by decide, by decide⟩ rfl rfl (Nat.le_of_ble_eq_true rfl) dX6_needs_35 ?_
          exact zr_iret E hr rfl hm dX6_needs_38
-- X6_strike
set_option maxRecDepth 100000 in
set_option maxHeartbeats 4000000 in
theorem c_X6_strike (l : Launch) (P : zw_P) (σ : zw_S) (x1 : Int32) : zc_i l P yX6_strike cX6_strike 3 .int 2 [.ref (zw_ad P 0), .int x1] σ (m_X6_strike σ x1) := by
  refine zc_i.of (by decide) (Nat.le_of_ble_eq_true rfl) (fun B r τ E hl hr hm => ?_)
  subst hl
  refine zr_sub (lv' := [(0, .ref (zw_ad P 0)), (1, .int x1)]) [0, 1] rfl ?_
  unfold m_X6_strike at hm
  refine zr_aload_n E dX6_strike_0 0 rfl ?_
  refine fg_X6_12 E dX6_strike_1 ?_
  refine zr_iload_n E dX6_strike_4 1 rfl ?_
  obtain ⟨r2, s1, os1, hm⟩ := cl_some hm
  refine zr_cVi (st := []) E mw_169 cm_X0_hasTask (c_X0_hasTask B.2.1 P 1 bk_1 σ x1) os1 (rc_bk P bk_1) ⟨by decide, by decide⟩ rfl rfl (Nat.le_of_ble_eq_true rfl) dX6_strike_5 ?_
  refine zr_if_ne (tgt := 18) E dX6_strike_8 (by decide) (fun c3 => ?_) (fun c3 => ?_)
  · rw [if_neg c3] at hm
    refine zr_aload_n E dX6_strike_18 0 rfl ?_
    refine fg_X6_12 E dX6_strike_19 ?_
    refine fg_X6_95 bk_1 E dX6_strike_22 ?_
    refine zr_iload_n E dX6_strike_25 1 rfl ?_
    obtain ⟨hv4, v4, ev4, hm⟩ := rd_some hm
    refine zr_iald E ac_6 hv4 ev4 dX6_strike_26 ?_
    refine zr_istore_n (lv' := [(2, .int v4), (0, .ref (zw_ad P 0)), (1, .int x1)]) E dX6_strike_27 (by decide) rfl ?_
    refine zr_aload_n E dX6_strike_28 1 rfl ?_
    refine fg_X6_12 E dX6_strike_29 ?_
    refine fg_X6_95 bk_1 E dX6_strike_32 ?_
    refine zr_iload_n E dX6_strike_35 2 rfl ?_
    refine zr_iconst (v := 0) E dX6_strike_36 (by decide) ?_
    obtain ⟨hs5, s5, es5, hm⟩ := wt_some hm
    refine zr_iast E ac_6 hs5 es5 dX6_strike_37 ?_
    refine zr_iload_n E dX6_strike_38 0 rfl ?_
    exact zr_iret E hr rfl hm dX6_strike_39
  · rw [if_pos c3] at hm
    refine zr_aload_n E dX6_strike_11 0 rfl ?_
    refine zr_ldc E mw_98 dX6_strike_12 ?_
    obtain ⟨r7, s6, os6, hm⟩ := cl_some hm
    refine zr_cVi (st := []) E mw_106 cm_X6_found (c_X6_found B.2.1 P s1 (-1000001)) os6 (rc_0 P) ⟨by decide, by decide⟩ rfl rfl (Nat.le_of_ble_eq_true rfl) dX6_strike_14 ?_
    exact zr_iret E hr rfl hm dX6_strike_17
-- X6_nameOf
set_option maxRecDepth 100000 in
set_option maxHeartbeats 4000000 in
theorem c_X6_nameOf (l : Launch) (P : zw_P) (σ : zw_S) (x1 : Int32) (x2 : Int32) : zc_i l P yX6_nameOf cX6_nameOf 3 .int 2 [.ref (zw_ad P 0), .int x1, .int x2] σ (m_X6_nameOf σ x1 x2) := by
  refine zc_i.of (by decide) (Nat.le_of_ble_eq_true rfl) (fun B r τ E hl hr hm => ?_)
  subst hl
  refine zr_sub (lv' := [(0, .ref (zw_ad P 0)), (1, .int x1), (2, .int x2)]) [0, 1, 2] rfl ?_
  unfold m_X6_nameOf at hm
  refine zr_iload_n E dX6_nameOf_0 1 rfl ?_
  obtain ⟨r2, s1, os1, hm⟩ := cl_some hm
  refine zr_cSi (st := []) E mw_100 cm_X6_isName (c_X6_isName B.2.1 P σ x1) os1 ⟨by decide, by decide⟩ rfl rfl (Nat.le_of_ble_eq_true rfl) dX6_nameOf_1 ?_
  refine zr_if_ne (tgt := 14) E dX6_nameOf_4 (by decide) (fun c3 => ?_) (fun c3 => ?_)
  · rw [if_neg c3] at hm
    refine zr_iload_n E dX6_nameOf_14 2 rfl ?_
    by_cases c4 : x2 = 0
    · rw [if_pos c4] at hm
      refine zr_tabIn (tgt := 56) E dX6_nameOf_15 c4 (by decide) (by decide) rfl (by decide) ?_
      refine zr_aload_n E dX6_nameOf_56 0 rfl ?_
      refine fg_X6_12 E dX6_nameOf_57 ?_
      refine fg_X6_69 bk_1 E dX6_nameOf_60 ?_
      refine zr_iload_n E dX6_nameOf_63 1 rfl ?_
      obtain ⟨hv5, v5, ev5, hm⟩ := rd_some hm
      refine zr_iald E ac_2 hv5 ev5 dX6_nameOf_64 ?_
      exact zr_iret E hr rfl hm dX6_nameOf_65
    · rw [if_neg c4] at hm
      by_cases c6 : x2 = 1
      · rw [if_pos c6] at hm
        refine zr_tabIn (tgt := 66) E dX6_nameOf_15 c6 (by decide) (by decide) rfl (by decide) ?_
        refine zr_aload_n E dX6_nameOf_66 0 rfl ?_
        refine fg_X6_12 E dX6_nameOf_67 ?_
        refine zr_iload_n E dX6_nameOf_70 1 rfl ?_
        obtain ⟨r8, s7, os7, hm⟩ := cl_some hm
        refine zr_cVi (st := []) E mw_248 cm_X0_isOpen (c_X0_isOpen B.2.1 P 1 bk_1 s1 x1) os7 (rc_bk P bk_1) ⟨by decide, by decide⟩ rfl rfl (Nat.le_of_ble_eq_true rfl) dX6_nameOf_71 ?_
        refine zr_if_eq (tgt := 81) E dX6_nameOf_74 (by decide) (fun c9 => ?_) (fun c9 => ?_)
        · rw [if_pos c9] at hm
          refine zr_iconst (v := 0) E dX6_nameOf_81 (by decide) ?_
          exact zr_iret E hr rfl hm dX6_nameOf_82
        · rw [if_neg c9] at hm
          refine zr_iconst (v := 1) E dX6_nameOf_77 (by decide) ?_
          refine zr_goto (tgt := 82) E dX6_nameOf_78 (by decide) ?_
          exact zr_iret E hr rfl hm dX6_nameOf_82
      · rw [if_neg c6] at hm
        by_cases c10 : x2 = 2
        · rw [if_pos c10] at hm
          refine zr_tabIn (tgt := 83) E dX6_nameOf_15 c10 (by decide) (by decide) rfl (by decide) ?_
          refine zr_aload_n E dX6_nameOf_83 0 rfl ?_
          refine fg_X6_12 E dX6_nameOf_84 ?_
          refine zr_iload_n E dX6_nameOf_87 1 rfl ?_
          obtain ⟨r12, s11, os11, hm⟩ := cl_some hm
          refine zr_cVi (st := []) E mw_256 cm_X0_bearerOf (c_X0_bearerOf B.2.1 P 1 bk_1 s1 x1) os11 (rc_bk P bk_1) ⟨by decide, by decide⟩ rfl rfl (Nat.le_of_ble_eq_true rfl) dX6_nameOf_88 ?_
          exact zr_iret E hr rfl hm dX6_nameOf_91
        · rw [if_neg c10] at hm
          by_cases c13 : x2 = 3
          · rw [if_pos c13] at hm
            refine zr_tabIn (tgt := 92) E dX6_nameOf_15 c13 (by decide) (by decide) rfl (by decide) ?_
            refine zr_aload_n E dX6_nameOf_92 0 rfl ?_
            refine fg_X6_12 E dX6_nameOf_93 ?_
            refine zr_iload_n E dX6_nameOf_96 1 rfl ?_
            obtain ⟨r15, s14, os14, hm⟩ := cl_some hm
            refine zr_cVi (st := []) E mw_261 cm_X0_tasksOf (c_X0_tasksOf B.2.1 P 1 bk_1 s1 x1) os14 (rc_bk P bk_1) ⟨by decide, by decide⟩ rfl rfl (Nat.le_of_ble_eq_true rfl) dX6_nameOf_97 ?_
            exact zr_iret E hr rfl hm dX6_nameOf_100
          · rw [if_neg c13] at hm
            by_cases c16 : x2 = 4
            · rw [if_pos c16] at hm
              refine zr_tabIn (tgt := 101) E dX6_nameOf_15 c16 (by decide) (by decide) rfl (by decide) ?_
              refine zr_aload_n E dX6_nameOf_101 0 rfl ?_
              refine fg_X6_12 E dX6_nameOf_102 ?_
              refine zr_iload_n E dX6_nameOf_105 1 rfl ?_
              obtain ⟨r18, s17, os17, hm⟩ := cl_some hm
              refine zr_cVi (st := []) E mw_265 cm_X0_hoursOf (c_X0_hoursOf B.2.1 P 1 bk_1 s1 x1) os17 (rc_bk P bk_1) ⟨by decide, by decide⟩ rfl rfl (Nat.le_of_ble_eq_true rfl) dX6_nameOf_106 ?_
              exact zr_iret E hr rfl hm dX6_nameOf_109
            · rw [if_neg c16] at hm
              by_cases c19 : x2 = 5
              · rw [if_pos c19] at hm
                refine zr_tabIn (tgt := 110) E dX6_nameOf_15 c19 (by decide) (by decide) rfl (by decide) ?_
                refine zr_aload_n E dX6_nameOf_110 0 rfl ?_
                refine fg_X6_12 E dX6_nameOf_111 ?_
                refine zr_iload_n E dX6_nameOf_114 1 rfl ?_
                obtain ⟨r21, s20, os20, hm⟩ := cl_some hm
                refine zr_cVi (st := []) E mw_269 cm_X0_handOf (c_X0_handOf B.2.1 P 1 bk_1 s1 x1) os20 (rc_bk P bk_1) ⟨by decide, by decide⟩ rfl rfl (Nat.le_of_ble_eq_true rfl) dX6_nameOf_115 ?_
                exact zr_iret E hr rfl hm dX6_nameOf_118
              · rw [if_neg c19] at hm
                by_cases c22 : x2 = 6
                · rw [if_pos c22] at hm
                  refine zr_tabIn (tgt := 119) E dX6_nameOf_15 c22 (by decide) (by decide) rfl (by decide) ?_
                  refine zr_aload_n E dX6_nameOf_119 0 rfl ?_
                  refine fg_X6_12 E dX6_nameOf_120 ?_
                  refine fg_X6_123 bk_1 E dX6_nameOf_123 ?_
                  refine zr_iload_n E dX6_nameOf_126 1 rfl ?_
                  obtain ⟨hv23, v23, ev23, hm⟩ := rd_some hm
                  refine zr_iald E ac_3 hv23 ev23 dX6_nameOf_127 ?_
                  exact zr_iret E hr rfl hm dX6_nameOf_128
                · rw [if_neg c22] at hm
                  refine zr_tabOut (tgt := 129) E dX6_nameOf_15 (sw_out (0) 7 (by decide) (by decide) (fun j hj => by match j, hj with | 0, _ => exact c4 | 1, _ => exact c6 | 2, _ => exact c10 | 3, _ => exact c13 | 4, _ => exact c16 | 5, _ => exact c19 | 6, _ => exact c22 | (j + 7), hj => exact absurd hj (by omega)) _ (by decide)) (by decide) ?_
                  refine zr_aload_n E dX6_nameOf_129 0 rfl ?_
                  refine zr_ldc E mw_98 dX6_nameOf_130 ?_
                  obtain ⟨r25, s24, os24, hm⟩ := cl_some hm
                  refine zr_cVi (st := []) E mw_106 cm_X6_found (c_X6_found B.2.1 P s1 (-1000001)) os24 (rc_0 P) ⟨by decide, by decide⟩ rfl rfl (Nat.le_of_ble_eq_true rfl) dX6_nameOf_132 ?_
                  exact zr_iret E hr rfl hm dX6_nameOf_135
  · rw [if_pos c3] at hm
    refine zr_aload_n E dX6_nameOf_7 0 rfl ?_
    refine zr_ldc E mw_98 dX6_nameOf_8 ?_
    obtain ⟨r27, s26, os26, hm⟩ := cl_some hm
    refine zr_cVi (st := []) E mw_106 cm_X6_found (c_X6_found B.2.1 P s1 (-1000001)) os26 (rc_0 P) ⟨by decide, by decide⟩ rfl rfl (Nat.le_of_ble_eq_true rfl) dX6_nameOf_10 ?_
    exact zr_iret E hr rfl hm dX6_nameOf_13
-- X6_rings
set_option maxRecDepth 100000 in
set_option maxHeartbeats 4000000 in
theorem t_X6_rings_4 {B : zw_B} {P : zw_P} {r : Int32} {τ : zw_S} (E : zf B P cX6_rings RX6 3 2) (hr : B.2.2.2.2.2.2.2.2.1.sig.returnType = some .int) : ∀ (n : Nat) (σ : zw_S) (x1 : Int32) (x2 : Int32), m_X6_rings_4 n σ x1 x2 = some (r, τ) → zw_G B P (zq_i B P r τ) 3 σ 4 [(0, .ref (zw_ad P 0)), (1, .int x1), (2, .int x2)] [] := by
  intro n
  induction n with
  | zero => intro σ x1 x2 hm; cases hm
  | succ n ih =>
    intro σ x1 x2 hm
    unfold m_X6_rings_4 at hm
    refine zr_iload_n E dX6_rings_4 2 rfl ?_
    refine zr_aload_n E dX6_rings_5 0 rfl ?_
    refine fg_X6_12 E dX6_rings_6 ?_
    refine fg_X6_77 bk_1 E dX6_rings_9 ?_
    refine zr_icmp_ge (tgt := 39) E dX6_rings_12 (by decide) (fun c1 => ?_) (fun c1 => ?_)
    · rw [if_pos c1] at hm
      refine zr_iload_n E dX6_rings_39 1 rfl ?_
      exact zr_iret E hr rfl hm dX6_rings_40
    · rw [if_neg c1] at hm
      refine zr_aload_n E dX6_rings_15 0 rfl ?_
      refine fg_X6_12 E dX6_rings_16 ?_
      refine zr_iload_n E dX6_rings_19 2 rfl ?_
      refine zr_iload_n E dX6_rings_20 2 rfl ?_
      obtain ⟨r3, s2, os2, hm⟩ := cl_some hm
      refine zr_cVi (st := []) E mw_185 cm_X0_isWaiting (c_X0_isWaiting B.2.1 P 1 bk_1 σ x2 x2) os2 (rc_bk P bk_1) ⟨by decide, by decide⟩ rfl rfl (Nat.le_of_ble_eq_true rfl) dX6_rings_21 ?_
      refine zr_if_eq (tgt := 33) E dX6_rings_24 (by decide) (fun c4 => ?_) (fun c4 => ?_)
      · rw [if_pos c4] at hm
        obtain ⟨v5, ev5, hm⟩ := nm_some hm
        refine zr_iinc (j := 2) (lv' := [(2, .int v5), (0, .ref (zw_ad P 0)), (1, .int x1)]) E dX6_rings_33 rfl ev5 (by decide) rfl ?_
        refine zr_goto (tgt := 4) E dX6_rings_36 (by decide) ?_
        refine zr_sub (lv' := [(0, .ref (zw_ad P 0)), (1, .int x1), (2, .int v5)]) [1, 2, 0] rfl ?_
        exact ih s2 x1 v5 hm
      · rw [if_neg c4] at hm
        refine zr_iload_n E dX6_rings_27 1 rfl ?_
        refine zr_iconst (v := 1) E dX6_rings_28 (by decide) ?_
        refine zr_iload_n E dX6_rings_29 2 rfl ?_
        refine zr_ishl E dX6_rings_30 ?_
        refine zr_ior E dX6_rings_31 ?_
        obtain ⟨v6, ev6, hm⟩ := nm_some hm
        refine zr_top ev6 ?_
        refine zr_istore_n (lv' := [(1, .int v6), (0, .ref (zw_ad P 0)), (2, .int x2)]) E dX6_rings_32 (by decide) rfl ?_
        obtain ⟨v7, ev7, hm⟩ := nm_some hm
        refine zr_iinc (j := 2) (lv' := [(2, .int v7), (1, .int v6), (0, .ref (zw_ad P 0))]) E dX6_rings_33 rfl ev7 (by decide) rfl ?_
        refine zr_goto (tgt := 4) E dX6_rings_36 (by decide) ?_
        refine zr_sub (lv' := [(0, .ref (zw_ad P 0)), (1, .int v6), (2, .int v7)]) [2, 1, 0] rfl ?_
        exact ih s2 v6 v7 hm
set_option maxRecDepth 100000 in
set_option maxHeartbeats 4000000 in
theorem c_X6_rings (l : Launch) (P : zw_P) (σ : zw_S) : zc_i l P yX6_rings cX6_rings 3 .int 2 [.ref (zw_ad P 0)] σ (m_X6_rings σ) := by
  refine zc_i.of (by decide) (Nat.le_of_ble_eq_true rfl) (fun B r τ E hl hr hm => ?_)
  subst hl
  refine zr_sub (lv' := [(0, .ref (zw_ad P 0))]) [0] rfl ?_
  unfold m_X6_rings at hm
  refine zr_iconst (v := 0) E dX6_rings_0 (by decide) ?_
  refine zr_istore_n (lv' := [(1, .int 0), (0, .ref (zw_ad P 0))]) E dX6_rings_1 (by decide) rfl ?_
  refine zr_iconst (v := 0) E dX6_rings_2 (by decide) ?_
  refine zr_istore_n (lv' := [(2, .int 0), (1, .int 0), (0, .ref (zw_ad P 0))]) E dX6_rings_3 (by decide) rfl ?_
  refine zr_sub (lv' := [(0, .ref (zw_ad P 0)), (1, .int 0), (2, .int 0)]) [2, 1, 0] rfl ?_
  exact t_X6_rings_4 E hr 200 σ 0 0 hm
-- X6_waits
set_option maxRecDepth 100000 in
set_option maxHeartbeats 4000000 in
theorem t_X6_waits_22 {B : zw_B} {P : zw_P} {r : Int32} {τ : zw_S} (E : zf B P cX6_waits RX6 4 2) (hr : B.2.2.2.2.2.2.2.2.1.sig.returnType = some .int) : ∀ (n : Nat) (σ : zw_S) (x1 : Int32) (x2 : Int32) (x3 : Int32), m_X6_waits_22 n σ x1 x2 x3 = some (r, τ) → zw_G B P (zq_i B P r τ) 4 σ 22 [(0, .ref (zw_ad P 0)), (1, .int x1), (2, .int x2), (3, .int x3)] [] := by
  intro n
  induction n with
  | zero => intro σ x1 x2 x3 hm; cases hm
  | succ n ih =>
    intro σ x1 x2 x3 hm
    unfold m_X6_waits_22 at hm
    refine zr_iload_n E dX6_waits_22 3 rfl ?_
    refine zr_aload_n E dX6_waits_23 0 rfl ?_
    refine fg_X6_12 E dX6_waits_24 ?_
    refine fg_X6_77 bk_1 E dX6_waits_27 ?_
    refine zr_icmp_ge (tgt := 57) E dX6_waits_30 (by decide) (fun c1 => ?_) (fun c1 => ?_)
    · rw [if_pos c1] at hm
      refine zr_iload_n E dX6_waits_57 2 rfl ?_
      exact zr_iret E hr rfl hm dX6_waits_58
    · rw [if_neg c1] at hm
      refine zr_aload_n E dX6_waits_33 0 rfl ?_
      refine fg_X6_12 E dX6_waits_34 ?_
      refine zr_iload_n E dX6_waits_37 3 rfl ?_
      refine zr_iload_n E dX6_waits_38 1 rfl ?_
      obtain ⟨r3, s2, os2, hm⟩ := cl_some hm
      refine zr_cVi (st := []) E mw_185 cm_X0_isWaiting (c_X0_isWaiting B.2.1 P 1 bk_1 σ x3 x1) os2 (rc_bk P bk_1) ⟨by decide, by decide⟩ rfl rfl (Nat.le_of_ble_eq_true rfl) dX6_waits_39 ?_
      refine zr_if_eq (tgt := 51) E dX6_waits_42 (by decide) (fun c4 => ?_) (fun c4 => ?_)
      · rw [if_pos c4] at hm
        obtain ⟨v5, ev5, hm⟩ := nm_some hm
        refine zr_iinc (j := 3) (lv' := [(3, .int v5), (0, .ref (zw_ad P 0)), (1, .int x1), (2, .int x2)]) E dX6_waits_51 rfl ev5 (by decide) rfl ?_
        refine zr_goto (tgt := 22) E dX6_waits_54 (by decide) ?_
        refine zr_sub (lv' := [(0, .ref (zw_ad P 0)), (1, .int x1), (2, .int x2), (3, .int v5)]) [1, 2, 3, 0] rfl ?_
        exact ih s2 x1 x2 v5 hm
      · rw [if_neg c4] at hm
        refine zr_iload_n E dX6_waits_45 2 rfl ?_
        refine zr_iconst (v := 1) E dX6_waits_46 (by decide) ?_
        refine zr_iload_n E dX6_waits_47 3 rfl ?_
        refine zr_ishl E dX6_waits_48 ?_
        refine zr_ior E dX6_waits_49 ?_
        obtain ⟨v6, ev6, hm⟩ := nm_some hm
        refine zr_top ev6 ?_
        refine zr_istore_n (lv' := [(2, .int v6), (0, .ref (zw_ad P 0)), (1, .int x1), (3, .int x3)]) E dX6_waits_50 (by decide) rfl ?_
        obtain ⟨v7, ev7, hm⟩ := nm_some hm
        refine zr_iinc (j := 3) (lv' := [(3, .int v7), (2, .int v6), (0, .ref (zw_ad P 0)), (1, .int x1)]) E dX6_waits_51 rfl ev7 (by decide) rfl ?_
        refine zr_goto (tgt := 22) E dX6_waits_54 (by decide) ?_
        refine zr_sub (lv' := [(0, .ref (zw_ad P 0)), (1, .int x1), (2, .int v6), (3, .int v7)]) [2, 3, 1, 0] rfl ?_
        exact ih s2 x1 v6 v7 hm
set_option maxRecDepth 100000 in
set_option maxHeartbeats 4000000 in
theorem c_X6_waits (l : Launch) (P : zw_P) (σ : zw_S) (x1 : Int32) : zc_i l P yX6_waits cX6_waits 4 .int 2 [.ref (zw_ad P 0), .int x1] σ (m_X6_waits σ x1) := by
  refine zc_i.of (by decide) (Nat.le_of_ble_eq_true rfl) (fun B r τ E hl hr hm => ?_)
  subst hl
  refine zr_sub (lv' := [(0, .ref (zw_ad P 0)), (1, .int x1)]) [0, 1] rfl ?_
  unfold m_X6_waits at hm
  refine zr_aload_n E dX6_waits_0 0 rfl ?_
  refine fg_X6_12 E dX6_waits_1 ?_
  refine zr_iload_n E dX6_waits_4 1 rfl ?_
  obtain ⟨r2, s1, os1, hm⟩ := cl_some hm
  refine zr_cVi (st := []) E mw_169 cm_X0_hasTask (c_X0_hasTask B.2.1 P 1 bk_1 σ x1) os1 (rc_bk P bk_1) ⟨by decide, by decide⟩ rfl rfl (Nat.le_of_ble_eq_true rfl) dX6_waits_5 ?_
  refine zr_if_ne (tgt := 18) E dX6_waits_8 (by decide) (fun c3 => ?_) (fun c3 => ?_)
  · rw [if_neg c3] at hm
    refine zr_iconst (v := 0) E dX6_waits_18 (by decide) ?_
    refine zr_istore_n (lv' := [(2, .int 0), (0, .ref (zw_ad P 0)), (1, .int x1)]) E dX6_waits_19 (by decide) rfl ?_
    refine zr_iconst (v := 0) E dX6_waits_20 (by decide) ?_
    refine zr_istore_n (lv' := [(3, .int 0), (2, .int 0), (0, .ref (zw_ad P 0)), (1, .int x1)]) E dX6_waits_21 (by decide) rfl ?_
    refine zr_sub (lv' := [(0, .ref (zw_ad P 0)), (1, .int x1), (2, .int 0), (3, .int 0)]) [2, 3, 1, 0] rfl ?_
    exact t_X6_waits_22 E hr 200 s1 x1 0 0 hm
  · rw [if_pos c3] at hm
    refine zr_aload_n E dX6_waits_11 0 rfl ?_
    refine zr_ldc E mw_98 dX6_waits_12 ?_
    obtain ⟨r5, s4, os4, hm⟩ := cl_some hm
    refine zr_cVi (st := []) E mw_106 cm_X6_found (c_X6_found B.2.1 P s1 (-1000001)) os4 (rc_0 P) ⟨by decide, by decide⟩ rfl rfl (Nat.le_of_ble_eq_true rfl) dX6_waits_14 ?_
    exact zr_iret E hr rfl hm dX6_waits_17
-- X6_person
set_option maxRecDepth 100000 in
set_option maxHeartbeats 4000000 in
theorem c_X6_person (l : Launch) (P : zw_P) (σ : zw_S) (x1 : Int32) : zc_i l P yX6_person cX6_person 2 .int 2 [.ref (zw_ad P 0), .int x1] σ (m_X6_person σ x1) := by
  refine zc_i.of (by decide) (Nat.le_of_ble_eq_true rfl) (fun B r τ E hl hr hm => ?_)
  subst hl
  refine zr_sub (lv' := [(0, .ref (zw_ad P 0)), (1, .int x1)]) [0, 1] rfl ?_
  unfold m_X6_person at hm
  refine zr_iload_n E dX6_person_0 1 rfl ?_
  refine zr_iconst (v := 1) E dX6_person_1 (by decide) ?_
  refine zr_bipush (v := 9) E dX6_person_2 (by decide) ?_
  obtain ⟨r2, s1, os1, hm⟩ := cl_some hm
  refine zr_cSi (st := []) E mw_103 cm_X6_isIn (c_X6_isIn B.2.1 P σ x1 1 9) os1 ⟨by decide, by decide⟩ rfl rfl (Nat.le_of_ble_eq_true rfl) dX6_person_4 ?_
  refine zr_if_ne (tgt := 17) E dX6_person_7 (by decide) (fun c3 => ?_) (fun c3 => ?_)
  · rw [if_neg c3] at hm
    refine zr_aload_n E dX6_person_17 0 rfl ?_
    refine fg_X6_12 E dX6_person_18 ?_
    refine fg_X6_126 bk_1 E dX6_person_21 ?_
    refine zr_bipush (v := 8) E dX6_person_24 (by decide) ?_
    refine zr_icmp_lt (tgt := 38) E dX6_person_26 (by decide) (fun c4 => ?_) (fun c4 => ?_)
    · rw [if_pos c4] at hm
      refine zr_aload_n E dX6_person_38 0 rfl ?_
      refine fg_X6_12 E dX6_person_39 ?_
      refine zr_iload_n E dX6_person_42 1 rfl ?_
      refine zr_iconst (v := 0) E dX6_person_43 (by decide) ?_
      refine zr_iconst (v := (-1)) E dX6_person_44 (by decide) ?_
      obtain ⟨r6, s5, os5, hm⟩ := cl_some hm
      refine zr_cVi (st := []) E mw_322 cm_X0_addPerson (c_X0_addPerson B.2.1 P 1 bk_1 s1 x1 0 (-1)) os5 (rc_bk P bk_1) ⟨by decide, by decide⟩ rfl rfl (Nat.le_of_ble_eq_true rfl) dX6_person_45 ?_
      exact zr_iret E hr rfl hm dX6_person_48
    · rw [if_neg c4] at hm
      refine zr_aload_n E dX6_person_29 0 rfl ?_
      refine zr_ldc E mw_136 dX6_person_30 ?_
      obtain ⟨r8, s7, os7, hm⟩ := cl_some hm
      refine zr_cVi (st := []) E mw_106 cm_X6_found (c_X6_found B.2.1 P s1 (-1000002)) os7 (rc_0 P) ⟨by decide, by decide⟩ rfl rfl (Nat.le_of_ble_eq_true rfl) dX6_person_32 ?_
      refine zr_goto (tgt := 48) E dX6_person_35 (by decide) ?_
      exact zr_iret E hr rfl hm dX6_person_48
  · rw [if_pos c3] at hm
    refine zr_aload_n E dX6_person_10 0 rfl ?_
    refine zr_ldc E mw_98 dX6_person_11 ?_
    obtain ⟨r10, s9, os9, hm⟩ := cl_some hm
    refine zr_cVi (st := []) E mw_106 cm_X6_found (c_X6_found B.2.1 P s1 (-1000001)) os9 (rc_0 P) ⟨by decide, by decide⟩ rfl rfl (Nat.le_of_ble_eq_true rfl) dX6_person_13 ?_
    exact zr_iret E hr rfl hm dX6_person_16
-- X6_of
set_option maxRecDepth 100000 in
set_option maxHeartbeats 4000000 in
theorem c_X6_of (l : Launch) (P : zw_P) (σ : zw_S) (x1 : Int32) (x2 : Int32) : zc_i l P yX6_of cX6_of 3 .int 2 [.ref (zw_ad P 0), .int x1, .int x2] σ (m_X6_of σ x1 x2) := by
  refine zc_i.of (by decide) (Nat.le_of_ble_eq_true rfl) (fun B r τ E hl hr hm => ?_)
  subst hl
  refine zr_sub (lv' := [(0, .ref (zw_ad P 0)), (1, .int x1), (2, .int x2)]) [0, 1, 2] rfl ?_
  unfold m_X6_of at hm
  refine zr_aload_n E dX6_of_0 0 rfl ?_
  refine fg_X6_12 E dX6_of_1 ?_
  refine zr_iload_n E dX6_of_4 1 rfl ?_
  obtain ⟨r2, s1, os1, hm⟩ := cl_some hm
  refine zr_cVi (st := []) E mw_346 cm_X0_hasPerson (c_X0_hasPerson B.2.1 P 1 bk_1 σ x1) os1 (rc_bk P bk_1) ⟨by decide, by decide⟩ rfl rfl (Nat.le_of_ble_eq_true rfl) dX6_of_5 ?_
  refine zr_if_ne (tgt := 18) E dX6_of_8 (by decide) (fun c3 => ?_) (fun c3 => ?_)
  · rw [if_neg c3] at hm
    refine zr_iload_n E dX6_of_18 2 rfl ?_
    by_cases c4 : x2 = 0
    · rw [if_pos c4] at hm
      refine zr_tabIn (tgt := 48) E dX6_of_19 c4 (by decide) (by decide) rfl (by decide) ?_
      refine zr_aload_n E dX6_of_48 0 rfl ?_
      refine fg_X6_12 E dX6_of_49 ?_
      refine fg_X6_136 bk_1 E dX6_of_52 ?_
      refine zr_iload_n E dX6_of_55 1 rfl ?_
      obtain ⟨hv5, v5, ev5, hm⟩ := rd_some hm
      refine zr_iald E ac_8 hv5 ev5 dX6_of_56 ?_
      exact zr_iret E hr rfl hm dX6_of_57
    · rw [if_neg c4] at hm
      by_cases c6 : x2 = 1
      · rw [if_pos c6] at hm
        refine zr_tabIn (tgt := 58) E dX6_of_19 c6 (by decide) (by decide) rfl (by decide) ?_
        refine zr_aload_n E dX6_of_58 0 rfl ?_
        refine fg_X6_12 E dX6_of_59 ?_
        refine fg_X6_139 bk_1 E dX6_of_62 ?_
        refine zr_iload_n E dX6_of_65 1 rfl ?_
        obtain ⟨hv7, v7, ev7, hm⟩ := rd_some hm
        refine zr_iald E ac_9 hv7 ev7 dX6_of_66 ?_
        exact zr_iret E hr rfl hm dX6_of_67
      · rw [if_neg c6] at hm
        by_cases c8 : x2 = 2
        · rw [if_pos c8] at hm
          refine zr_tabIn (tgt := 68) E dX6_of_19 c8 (by decide) (by decide) rfl (by decide) ?_
          refine zr_aload_n E dX6_of_68 0 rfl ?_
          refine fg_X6_12 E dX6_of_69 ?_
          refine fg_X6_142 bk_1 E dX6_of_72 ?_
          refine zr_iload_n E dX6_of_75 1 rfl ?_
          obtain ⟨hv9, v9, ev9, hm⟩ := rd_some hm
          refine zr_iald E ac_10 hv9 ev9 dX6_of_76 ?_
          exact zr_iret E hr rfl hm dX6_of_77
        · rw [if_neg c8] at hm
          by_cases c10 : x2 = 3
          · rw [if_pos c10] at hm
            refine zr_tabIn (tgt := 78) E dX6_of_19 c10 (by decide) (by decide) rfl (by decide) ?_
            refine zr_aload_n E dX6_of_78 0 rfl ?_
            refine fg_X6_12 E dX6_of_79 ?_
            refine fg_X6_145 bk_1 E dX6_of_82 ?_
            refine zr_iload_n E dX6_of_85 1 rfl ?_
            obtain ⟨hv11, v11, ev11, hm⟩ := rd_some hm
            refine zr_iald E ac_11 hv11 ev11 dX6_of_86 ?_
            exact zr_iret E hr rfl hm dX6_of_87
          · rw [if_neg c10] at hm
            refine zr_tabOut (tgt := 88) E dX6_of_19 (sw_out (0) 4 (by decide) (by decide) (fun j hj => by match j, hj with | 0, _ => exact c4 | 1, _ => exact c6 | 2, _ => exact c8 | 3, _ => exact c10 | (j + 4), hj => exact absurd hj (by omega)) _ (by decide)) (by decide) ?_
            refine zr_aload_n E dX6_of_88 0 rfl ?_
            refine zr_ldc E mw_98 dX6_of_89 ?_
            obtain ⟨r13, s12, os12, hm⟩ := cl_some hm
            refine zr_cVi (st := []) E mw_106 cm_X6_found (c_X6_found B.2.1 P s1 (-1000001)) os12 (rc_0 P) ⟨by decide, by decide⟩ rfl rfl (Nat.le_of_ble_eq_true rfl) dX6_of_91 ?_
            exact zr_iret E hr rfl hm dX6_of_94
  · rw [if_pos c3] at hm
    refine zr_aload_n E dX6_of_11 0 rfl ?_
    refine zr_ldc E mw_98 dX6_of_12 ?_
    obtain ⟨r15, s14, os14, hm⟩ := cl_some hm
    refine zr_cVi (st := []) E mw_106 cm_X6_found (c_X6_found B.2.1 P s1 (-1000001)) os14 (rc_0 P) ⟨by decide, by decide⟩ rfl rfl (Nat.le_of_ble_eq_true rfl) dX6_of_14 ?_
    exact zr_iret E hr rfl hm dX6_of_17
-- X6_change
set_option maxRecDepth 100000 in
set_option maxHeartbeats 4000000 in
theorem t_X6_change_57 {B : zw_B} {P : zw_P} {r : Int32} {τ : zw_S} (E : zf B P cX6_change RX6 5 2) (hr : B.2.2.2.2.2.2.2.2.1.sig.returnType = some .int) (σ : zw_S) (x1 : Int32) (x2 : Int32) (x3 : Int32) (hm : m_X6_change_57 σ x1 x2 x3 = some (r, τ)) : zw_G B P (zq_i B P r τ) 5 σ 57 [(0, .ref (zw_ad P 0)), (1, .int x1), (2, .int x2), (3, .int x3)] [] := by
  unfold m_X6_change_57 at hm
  refine zr_iload_n E dX6_change_57 2 rfl ?_
  refine zr_iconst (v := 1) E dX6_change_58 (by decide) ?_
  refine zr_icmp_ne (tgt := 96) E dX6_change_59 (by decide) (fun c1 => ?_) (fun c1 => ?_)
  · rw [if_neg c1] at hm
    refine zr_aload_n E dX6_change_96 0 rfl ?_
    refine zr_ldc E mw_98 dX6_change_97 ?_
    obtain ⟨r3, s2, os2, hm⟩ := cl_some hm
    refine zr_cVi (st := []) E mw_106 cm_X6_found (c_X6_found B.2.1 P σ (-1000001)) os2 (rc_0 P) ⟨by decide, by decide⟩ rfl rfl (Nat.le_of_ble_eq_true rfl) dX6_change_99 ?_
    exact zr_iret E hr rfl hm dX6_change_102
  · rw [if_pos c1] at hm
    refine zr_iload_n E dX6_change_62 3 rfl ?_
    refine zr_iconst (v := 0) E dX6_change_63 (by decide) ?_
    refine zr_bipush (v := 39) E dX6_change_64 (by decide) ?_
    obtain ⟨r5, s4, os4, hm⟩ := cl_some hm
    refine zr_cSi (st := []) E mw_103 cm_X6_isIn (c_X6_isIn B.2.1 P σ x3 0 39) os4 ⟨by decide, by decide⟩ rfl rfl (Nat.le_of_ble_eq_true rfl) dX6_change_66 ?_
    refine zr_if_eq (tgt := 96) E dX6_change_69 (by decide) (fun c6 => ?_) (fun c6 => ?_)
    · rw [if_pos c6] at hm
      refine zr_aload_n E dX6_change_96 0 rfl ?_
      refine zr_ldc E mw_98 dX6_change_97 ?_
      obtain ⟨r8, s7, os7, hm⟩ := cl_some hm
      refine zr_cVi (st := []) E mw_106 cm_X6_found (c_X6_found B.2.1 P s4 (-1000001)) os7 (rc_0 P) ⟨by decide, by decide⟩ rfl rfl (Nat.le_of_ble_eq_true rfl) dX6_change_99 ?_
      exact zr_iret E hr rfl hm dX6_change_102
    · rw [if_neg c6] at hm
      refine zr_aload_n E dX6_change_72 0 rfl ?_
      refine fg_X6_12 E dX6_change_73 ?_
      refine fg_X6_139 bk_1 E dX6_change_76 ?_
      refine zr_iload_n E dX6_change_79 1 rfl ?_
      obtain ⟨hv9, v9, ev9, hm⟩ := rd_some hm
      refine zr_iald E ac_9 hv9 ev9 dX6_change_80 ?_
      refine zr_istore (lv' := [(4, .int v9), (0, .ref (zw_ad P 0)), (1, .int x1), (2, .int x2), (3, .int x3)]) E dX6_change_81 (by decide) rfl ?_
      refine zr_aload_n E dX6_change_83 1 rfl ?_
      refine fg_X6_12 E dX6_change_84 ?_
      refine fg_X6_139 bk_1 E dX6_change_87 ?_
      refine zr_iload_n E dX6_change_90 2 rfl ?_
      refine zr_iload_n E dX6_change_91 4 rfl ?_
      obtain ⟨hs10, s10, es10, hm⟩ := wt_some hm
      refine zr_iast E ac_9 hs10 es10 dX6_change_92 ?_
      refine zr_iload E dX6_change_93 0 rfl ?_
      exact zr_iret E hr rfl hm dX6_change_95
set_option maxRecDepth 100000 in
set_option maxHeartbeats 4000000 in
theorem c_X6_change (l : Launch) (P : zw_P) (σ : zw_S) (x1 : Int32) (x2 : Int32) (x3 : Int32) : zc_i l P yX6_change cX6_change 5 .int 2 [.ref (zw_ad P 0), .int x1, .int x2, .int x3] σ (m_X6_change σ x1 x2 x3) := by
  refine zc_i.of (by decide) (Nat.le_of_ble_eq_true rfl) (fun B r τ E hl hr hm => ?_)
  subst hl
  refine zr_sub (lv' := [(0, .ref (zw_ad P 0)), (1, .int x1), (2, .int x2), (3, .int x3)]) [0, 1, 2, 3] rfl ?_
  unfold m_X6_change at hm
  refine zr_aload_n E dX6_change_0 0 rfl ?_
  refine fg_X6_12 E dX6_change_1 ?_
  refine zr_iload_n E dX6_change_4 1 rfl ?_
  obtain ⟨r2, s1, os1, hm⟩ := cl_some hm
  refine zr_cVi (st := []) E mw_346 cm_X0_hasPerson (c_X0_hasPerson B.2.1 P 1 bk_1 σ x1) os1 (rc_bk P bk_1) ⟨by decide, by decide⟩ rfl rfl (Nat.le_of_ble_eq_true rfl) dX6_change_5 ?_
  refine zr_if_ne (tgt := 18) E dX6_change_8 (by decide) (fun c3 => ?_) (fun c3 => ?_)
  · rw [if_neg c3] at hm
    refine zr_iload_n E dX6_change_18 2 rfl ?_
    refine zr_iconst (v := 2) E dX6_change_19 (by decide) ?_
    refine zr_icmp_ne (tgt := 57) E dX6_change_20 (by decide) (fun c4 => ?_) (fun c4 => ?_)
    · rw [if_neg c4] at hm
      refine zr_sub (lv' := [(0, .ref (zw_ad P 0)), (1, .int x1), (2, .int x2), (3, .int x3)]) [0, 1, 2, 3] rfl ?_
      exact t_X6_change_57 E hr s1 x1 x2 x3 hm
    · rw [if_pos c4] at hm
      refine zr_iload_n E dX6_change_23 3 rfl ?_
      refine zr_iconst (v := 1) E dX6_change_24 (by decide) ?_
      refine zr_bipush (v := 9) E dX6_change_25 (by decide) ?_
      obtain ⟨r6, s5, os5, hm⟩ := cl_some hm
      refine zr_cSi (st := []) E mw_103 cm_X6_isIn (c_X6_isIn B.2.1 P s1 x3 1 9) os5 ⟨by decide, by decide⟩ rfl rfl (Nat.le_of_ble_eq_true rfl) dX6_change_27 ?_
      refine zr_if_eq (tgt := 57) E dX6_change_30 (by decide) (fun c7 => ?_) (fun c7 => ?_)
      · rw [if_pos c7] at hm
        refine zr_sub (lv' := [(0, .ref (zw_ad P 0)), (1, .int x1), (2, .int x2), (3, .int x3)]) [0, 1, 2, 3] rfl ?_
        exact t_X6_change_57 E hr s5 x1 x2 x3 hm
      · rw [if_neg c7] at hm
        refine zr_aload_n E dX6_change_33 0 rfl ?_
        refine fg_X6_12 E dX6_change_34 ?_
        refine fg_X6_142 bk_1 E dX6_change_37 ?_
        refine zr_iload_n E dX6_change_40 1 rfl ?_
        obtain ⟨hv8, v8, ev8, hm⟩ := rd_some hm
        refine zr_iald E ac_10 hv8 ev8 dX6_change_41 ?_
        refine zr_istore (lv' := [(4, .int v8), (0, .ref (zw_ad P 0)), (1, .int x1), (2, .int x2), (3, .int x3)]) E dX6_change_42 (by decide) rfl ?_
        refine zr_aload_n E dX6_change_44 1 rfl ?_
        refine fg_X6_12 E dX6_change_45 ?_
        refine fg_X6_142 bk_1 E dX6_change_48 ?_
        refine zr_iload_n E dX6_change_51 2 rfl ?_
        refine zr_iload_n E dX6_change_52 4 rfl ?_
        obtain ⟨hs9, s9, es9, hm⟩ := wt_some hm
        refine zr_iast E ac_10 hs9 es9 dX6_change_53 ?_
        refine zr_iload E dX6_change_54 0 rfl ?_
        exact zr_iret E hr rfl hm dX6_change_56
  · rw [if_pos c3] at hm
    refine zr_aload_n E dX6_change_11 0 rfl ?_
    refine zr_ldc E mw_98 dX6_change_12 ?_
    obtain ⟨r11, s10, os10, hm⟩ := cl_some hm
    refine zr_cVi (st := []) E mw_106 cm_X6_found (c_X6_found B.2.1 P s1 (-1000001)) os10 (rc_0 P) ⟨by decide, by decide⟩ rfl rfl (Nat.le_of_ble_eq_true rfl) dX6_change_14 ?_
    exact zr_iret E hr rfl hm dX6_change_17
-- X6_helps
set_option maxRecDepth 100000 in
set_option maxHeartbeats 4000000 in
theorem t_X6_helps_39 {B : zw_B} {P : zw_P} {r : Int32} {τ : zw_S} (E : zf B P cX6_helps RX6 4 2) (hr : B.2.2.2.2.2.2.2.2.1.sig.returnType = some .int) (σ : zw_S) (x1 : Int32) (x2 : Int32) (hm : m_X6_helps_39 σ x1 x2 = some (r, τ)) : zw_G B P (zq_i B P r τ) 4 σ 39 [(0, .ref (zw_ad P 0)), (1, .int x1), (2, .int x2)] [] := by
  unfold m_X6_helps_39 at hm
  refine zr_aload_n E dX6_helps_39 0 rfl ?_
  refine fg_X6_12 E dX6_helps_40 ?_
  refine fg_X6_145 bk_1 E dX6_helps_43 ?_
  refine zr_iload_n E dX6_helps_46 1 rfl ?_
  obtain ⟨hv1, v1, ev1, hm⟩ := rd_some hm
  refine zr_iald E ac_11 hv1 ev1 dX6_helps_47 ?_
  refine zr_istore_n (lv' := [(3, .int v1), (0, .ref (zw_ad P 0)), (1, .int x1), (2, .int x2)]) E dX6_helps_48 (by decide) rfl ?_
  refine zr_aload_n E dX6_helps_49 1 rfl ?_
  refine fg_X6_12 E dX6_helps_50 ?_
  refine fg_X6_145 bk_1 E dX6_helps_53 ?_
  refine zr_iload_n E dX6_helps_56 2 rfl ?_
  refine zr_iload_n E dX6_helps_57 3 rfl ?_
  obtain ⟨hs2, s2, es2, hm⟩ := wt_some hm
  refine zr_iast E ac_11 hs2 es2 dX6_helps_58 ?_
  refine zr_iload_n E dX6_helps_59 0 rfl ?_
  exact zr_iret E hr rfl hm dX6_helps_60
set_option maxRecDepth 100000 in
set_option maxHeartbeats 4000000 in
theorem c_X6_helps (l : Launch) (P : zw_P) (σ : zw_S) (x1 : Int32) (x2 : Int32) : zc_i l P yX6_helps cX6_helps 4 .int 2 [.ref (zw_ad P 0), .int x1, .int x2] σ (m_X6_helps σ x1 x2) := by
  refine zc_i.of (by decide) (Nat.le_of_ble_eq_true rfl) (fun B r τ E hl hr hm => ?_)
  subst hl
  refine zr_sub (lv' := [(0, .ref (zw_ad P 0)), (1, .int x1), (2, .int x2)]) [0, 1, 2] rfl ?_
  unfold m_X6_helps at hm
  refine zr_aload_n E dX6_helps_0 0 rfl ?_
  refine fg_X6_12 E dX6_helps_1 ?_
  refine zr_iload_n E dX6_helps_4 1 rfl ?_
  obtain ⟨r2, s1, os1, hm⟩ := cl_some hm
  refine zr_cVi (st := []) E mw_346 cm_X0_hasPerson (c_X0_hasPerson B.2.1 P 1 bk_1 σ x1) os1 (rc_bk P bk_1) ⟨by decide, by decide⟩ rfl rfl (Nat.le_of_ble_eq_true rfl) dX6_helps_5 ?_
  refine zr_if_eq (tgt := 32) E dX6_helps_8 (by decide) (fun c3 => ?_) (fun c3 => ?_)
  · rw [if_pos c3] at hm
    refine zr_aload_n E dX6_helps_32 0 rfl ?_
    refine zr_ldc E mw_98 dX6_helps_33 ?_
    obtain ⟨r5, s4, os4, hm⟩ := cl_some hm
    refine zr_cVi (st := []) E mw_106 cm_X6_found (c_X6_found B.2.1 P s1 (-1000001)) os4 (rc_0 P) ⟨by decide, by decide⟩ rfl rfl (Nat.le_of_ble_eq_true rfl) dX6_helps_35 ?_
    exact zr_iret E hr rfl hm dX6_helps_38
  · rw [if_neg c3] at hm
    refine zr_iload_n E dX6_helps_11 2 rfl ?_
    refine zr_iload_n E dX6_helps_12 1 rfl ?_
    refine zr_icmp_eq (tgt := 32) E dX6_helps_13 (by decide) (fun c6 => ?_) (fun c6 => ?_)
    · rw [if_pos c6] at hm
      refine zr_aload_n E dX6_helps_32 0 rfl ?_
      refine zr_ldc E mw_98 dX6_helps_33 ?_
      obtain ⟨r8, s7, os7, hm⟩ := cl_some hm
      refine zr_cVi (st := []) E mw_106 cm_X6_found (c_X6_found B.2.1 P s1 (-1000001)) os7 (rc_0 P) ⟨by decide, by decide⟩ rfl rfl (Nat.le_of_ble_eq_true rfl) dX6_helps_35 ?_
      exact zr_iret E hr rfl hm dX6_helps_38
    · rw [if_neg c6] at hm
      refine zr_iload_n E dX6_helps_16 2 rfl ?_
      refine zr_iconst (v := (-1)) E dX6_helps_17 (by decide) ?_
      refine zr_icmp_eq (tgt := 39) E dX6_helps_18 (by decide) (fun c9 => ?_) (fun c9 => ?_)
      · rw [if_pos c9] at hm
        refine zr_sub (lv' := [(0, .ref (zw_ad P 0)), (1, .int x1), (2, .int x2)]) [0, 1, 2] rfl ?_
        exact t_X6_helps_39 E hr s1 x1 x2 hm
      · rw [if_neg c9] at hm
        refine zr_aload_n E dX6_helps_21 0 rfl ?_
        refine fg_X6_12 E dX6_helps_22 ?_
        refine zr_iload_n E dX6_helps_25 2 rfl ?_
        obtain ⟨r11, s10, os10, hm⟩ := cl_some hm
        refine zr_cVi (st := []) E mw_346 cm_X0_hasPerson (c_X0_hasPerson B.2.1 P 1 bk_1 s1 x2) os10 (rc_bk P bk_1) ⟨by decide, by decide⟩ rfl rfl (Nat.le_of_ble_eq_true rfl) dX6_helps_26 ?_
        refine zr_if_ne (tgt := 39) E dX6_helps_29 (by decide) (fun c12 => ?_) (fun c12 => ?_)
        · rw [if_neg c12] at hm
          refine zr_sub (lv' := [(0, .ref (zw_ad P 0)), (1, .int x1), (2, .int x2)]) [0, 1, 2] rfl ?_
          exact t_X6_helps_39 E hr s10 x1 x2 hm
        · rw [if_pos c12] at hm
          refine zr_aload_n E dX6_helps_32 0 rfl ?_
          refine zr_ldc E mw_98 dX6_helps_33 ?_
          obtain ⟨r14, s13, os13, hm⟩ := cl_some hm
          refine zr_cVi (st := []) E mw_106 cm_X6_found (c_X6_found B.2.1 P s10 (-1000001)) os13 (rc_0 P) ⟨by decide, by decide⟩ rfl rfl (Nat.le_of_ble_eq_true rfl) dX6_helps_35 ?_
          exact zr_iret E hr rfl hm dX6_helps_38
-- X6_take
set_option maxRecDepth 100000 in
set_option maxHeartbeats 4000000 in
theorem t_X6_take_30 {B : zw_B} {P : zw_P} {r : Int32} {τ : zw_S} (E : zf B P cX6_take RX6 4 2) (hr : B.2.2.2.2.2.2.2.2.1.sig.returnType = some .int) (σ : zw_S) (x1 : Int32) (x2 : Int32) (hm : m_X6_take_30 σ x1 x2 = some (r, τ)) : zw_G B P (zq_i B P r τ) 4 σ 30 [(0, .ref (zw_ad P 0)), (1, .int x1), (2, .int x2)] [] := by
  unfold m_X6_take_30 at hm
  refine zr_aload_n E dX6_take_30 0 rfl ?_
  refine fg_X6_12 E dX6_take_31 ?_
  refine zr_iload_n E dX6_take_34 1 rfl ?_
  refine zr_iload_n E dX6_take_35 2 rfl ?_
  obtain ⟨r2, s1, os1, hm⟩ := cl_some hm
  refine zr_cVi (st := []) E mw_381 cm_X0_mayTake (c_X0_mayTake B.2.1 P 1 bk_1 σ x1 x2) os1 (rc_bk P bk_1) ⟨by decide, by decide⟩ rfl rfl (Nat.le_of_ble_eq_true rfl) dX6_take_36 ?_
  refine zr_if_ne (tgt := 49) E dX6_take_39 (by decide) (fun c3 => ?_) (fun c3 => ?_)
  · rw [if_neg c3] at hm
    refine zr_aload_n E dX6_take_49 0 rfl ?_
    refine fg_X6_12 E dX6_take_50 ?_
    refine fg_X6_136 bk_1 E dX6_take_53 ?_
    refine zr_iload_n E dX6_take_56 1 rfl ?_
    obtain ⟨hv4, v4, ev4, hm⟩ := rd_some hm
    refine zr_iald E ac_8 hv4 ev4 dX6_take_57 ?_
    refine zr_istore_n (lv' := [(3, .int v4), (0, .ref (zw_ad P 0)), (1, .int x1), (2, .int x2)]) E dX6_take_58 (by decide) rfl ?_
    refine zr_aload_n E dX6_take_59 1 rfl ?_
    refine fg_X6_12 E dX6_take_60 ?_
    refine fg_X6_136 bk_1 E dX6_take_63 ?_
    refine zr_iload_n E dX6_take_66 2 rfl ?_
    refine zr_iload_n E dX6_take_67 3 rfl ?_
    obtain ⟨hs5, s5, es5, hm⟩ := wt_some hm
    refine zr_iast E ac_8 hs5 es5 dX6_take_68 ?_
    refine zr_iload_n E dX6_take_69 0 rfl ?_
    exact zr_iret E hr rfl hm dX6_take_70
  · rw [if_pos c3] at hm
    refine zr_aload_n E dX6_take_42 0 rfl ?_
    refine zr_ldc E mw_380 dX6_take_43 ?_
    obtain ⟨r7, s6, os6, hm⟩ := cl_some hm
    refine zr_cVi (st := []) E mw_106 cm_X6_found (c_X6_found B.2.1 P s1 (-1000005)) os6 (rc_0 P) ⟨by decide, by decide⟩ rfl rfl (Nat.le_of_ble_eq_true rfl) dX6_take_45 ?_
    exact zr_iret E hr rfl hm dX6_take_48
set_option maxRecDepth 100000 in
set_option maxHeartbeats 4000000 in
theorem c_X6_take (l : Launch) (P : zw_P) (σ : zw_S) (x1 : Int32) (x2 : Int32) : zc_i l P yX6_take cX6_take 4 .int 2 [.ref (zw_ad P 0), .int x1, .int x2] σ (m_X6_take σ x1 x2) := by
  refine zc_i.of (by decide) (Nat.le_of_ble_eq_true rfl) (fun B r τ E hl hr hm => ?_)
  subst hl
  refine zr_sub (lv' := [(0, .ref (zw_ad P 0)), (1, .int x1), (2, .int x2)]) [0, 1, 2] rfl ?_
  unfold m_X6_take at hm
  refine zr_aload_n E dX6_take_0 0 rfl ?_
  refine fg_X6_12 E dX6_take_1 ?_
  refine zr_iload_n E dX6_take_4 1 rfl ?_
  obtain ⟨r2, s1, os1, hm⟩ := cl_some hm
  refine zr_cVi (st := []) E mw_346 cm_X0_hasPerson (c_X0_hasPerson B.2.1 P 1 bk_1 σ x1) os1 (rc_bk P bk_1) ⟨by decide, by decide⟩ rfl rfl (Nat.le_of_ble_eq_true rfl) dX6_take_5 ?_
  refine zr_if_eq (tgt := 23) E dX6_take_8 (by decide) (fun c3 => ?_) (fun c3 => ?_)
  · rw [if_pos c3] at hm
    refine zr_aload_n E dX6_take_23 0 rfl ?_
    refine zr_ldc E mw_98 dX6_take_24 ?_
    obtain ⟨r5, s4, os4, hm⟩ := cl_some hm
    refine zr_cVi (st := []) E mw_106 cm_X6_found (c_X6_found B.2.1 P s1 (-1000001)) os4 (rc_0 P) ⟨by decide, by decide⟩ rfl rfl (Nat.le_of_ble_eq_true rfl) dX6_take_26 ?_
    exact zr_iret E hr rfl hm dX6_take_29
  · rw [if_neg c3] at hm
    refine zr_iload_n E dX6_take_11 2 rfl ?_
    refine zr_iconst (v := (-1)) E dX6_take_12 (by decide) ?_
    refine zr_icmp_eq (tgt := 30) E dX6_take_13 (by decide) (fun c6 => ?_) (fun c6 => ?_)
    · rw [if_pos c6] at hm
      refine zr_sub (lv' := [(0, .ref (zw_ad P 0)), (1, .int x1), (2, .int x2)]) [0, 1, 2] rfl ?_
      exact t_X6_take_30 E hr s1 x1 x2 hm
    · rw [if_neg c6] at hm
      refine zr_iload_n E dX6_take_16 2 rfl ?_
      obtain ⟨r8, s7, os7, hm⟩ := cl_some hm
      refine zr_cSi (st := []) E mw_100 cm_X6_isName (c_X6_isName B.2.1 P s1 x2) os7 ⟨by decide, by decide⟩ rfl rfl (Nat.le_of_ble_eq_true rfl) dX6_take_17 ?_
      refine zr_if_ne (tgt := 30) E dX6_take_20 (by decide) (fun c9 => ?_) (fun c9 => ?_)
      · rw [if_neg c9] at hm
        refine zr_sub (lv' := [(0, .ref (zw_ad P 0)), (1, .int x1), (2, .int x2)]) [0, 1, 2] rfl ?_
        exact t_X6_take_30 E hr s7 x1 x2 hm
      · rw [if_pos c9] at hm
        refine zr_aload_n E dX6_take_23 0 rfl ?_
        refine zr_ldc E mw_98 dX6_take_24 ?_
        obtain ⟨r11, s10, os10, hm⟩ := cl_some hm
        refine zr_cVi (st := []) E mw_106 cm_X6_found (c_X6_found B.2.1 P s7 (-1000001)) os10 (rc_0 P) ⟨by decide, by decide⟩ rfl rfl (Nat.le_of_ble_eq_true rfl) dX6_take_26 ?_
        exact zr_iret E hr rfl hm dX6_take_29
-- X6_exchange
set_option maxRecDepth 100000 in
set_option maxHeartbeats 4000000 in
theorem c_X6_exchange (l : Launch) (P : zw_P) (σ : zw_S) (x1 : Int32) (x2 : Int32) : zc_i l P yX6_exchange cX6_exchange 4 .int 2 [.ref (zw_ad P 0), .int x1, .int x2] σ (m_X6_exchange σ x1 x2) := by
  refine zc_i.of (by decide) (Nat.le_of_ble_eq_true rfl) (fun B r τ E hl hr hm => ?_)
  subst hl
  refine zr_sub (lv' := [(0, .ref (zw_ad P 0)), (1, .int x1), (2, .int x2)]) [0, 1, 2] rfl ?_
  unfold m_X6_exchange at hm
  refine zr_aload_n E dX6_exchange_0 0 rfl ?_
  refine fg_X6_12 E dX6_exchange_1 ?_
  refine zr_iload_n E dX6_exchange_4 1 rfl ?_
  obtain ⟨r2, s1, os1, hm⟩ := cl_some hm
  refine zr_cVi (st := []) E mw_346 cm_X0_hasPerson (c_X0_hasPerson B.2.1 P 1 bk_1 σ x1) os1 (rc_bk P bk_1) ⟨by decide, by decide⟩ rfl rfl (Nat.le_of_ble_eq_true rfl) dX6_exchange_5 ?_
  refine zr_if_eq (tgt := 27) E dX6_exchange_8 (by decide) (fun c3 => ?_) (fun c3 => ?_)
  · rw [if_pos c3] at hm
    refine zr_aload_n E dX6_exchange_27 0 rfl ?_
    refine zr_ldc E mw_98 dX6_exchange_28 ?_
    obtain ⟨r5, s4, os4, hm⟩ := cl_some hm
    refine zr_cVi (st := []) E mw_106 cm_X6_found (c_X6_found B.2.1 P s1 (-1000001)) os4 (rc_0 P) ⟨by decide, by decide⟩ rfl rfl (Nat.le_of_ble_eq_true rfl) dX6_exchange_30 ?_
    exact zr_iret E hr rfl hm dX6_exchange_33
  · rw [if_neg c3] at hm
    refine zr_aload_n E dX6_exchange_11 0 rfl ?_
    refine fg_X6_12 E dX6_exchange_12 ?_
    refine zr_iload_n E dX6_exchange_15 2 rfl ?_
    obtain ⟨r7, s6, os6, hm⟩ := cl_some hm
    refine zr_cVi (st := []) E mw_346 cm_X0_hasPerson (c_X0_hasPerson B.2.1 P 1 bk_1 s1 x2) os6 (rc_bk P bk_1) ⟨by decide, by decide⟩ rfl rfl (Nat.le_of_ble_eq_true rfl) dX6_exchange_16 ?_
    refine zr_if_eq (tgt := 27) E dX6_exchange_19 (by decide) (fun c8 => ?_) (fun c8 => ?_)
    · rw [if_pos c8] at hm
      refine zr_aload_n E dX6_exchange_27 0 rfl ?_
      refine zr_ldc E mw_98 dX6_exchange_28 ?_
      obtain ⟨r10, s9, os9, hm⟩ := cl_some hm
      refine zr_cVi (st := []) E mw_106 cm_X6_found (c_X6_found B.2.1 P s6 (-1000001)) os9 (rc_0 P) ⟨by decide, by decide⟩ rfl rfl (Nat.le_of_ble_eq_true rfl) dX6_exchange_30 ?_
      exact zr_iret E hr rfl hm dX6_exchange_33
    · rw [if_neg c8] at hm
      refine zr_iload_n E dX6_exchange_22 1 rfl ?_
      refine zr_iload_n E dX6_exchange_23 2 rfl ?_
      refine zr_icmp_ne (tgt := 34) E dX6_exchange_24 (by decide) (fun c11 => ?_) (fun c11 => ?_)
      · rw [if_neg c11] at hm
        refine zr_aload_n E dX6_exchange_34 0 rfl ?_
        refine fg_X6_12 E dX6_exchange_35 ?_
        refine fg_X6_139 bk_1 E dX6_exchange_38 ?_
        refine zr_iload_n E dX6_exchange_41 1 rfl ?_
        obtain ⟨hv12, v12, ev12, hm⟩ := rd_some hm
        refine zr_iald E ac_9 hv12 ev12 dX6_exchange_42 ?_
        refine zr_bipush (v := 40) E dX6_exchange_43 (by decide) ?_
        refine zr_icmp_ge (tgt := 62) E dX6_exchange_45 (by decide) (fun c13 => ?_) (fun c13 => ?_)
        · rw [if_pos c13] at hm
          refine zr_aload_n E dX6_exchange_62 0 rfl ?_
          refine zr_ldc E mw_380 dX6_exchange_63 ?_
          obtain ⟨r15, s14, os14, hm⟩ := cl_some hm
          refine zr_cVi (st := []) E mw_106 cm_X6_found (c_X6_found B.2.1 P s6 (-1000005)) os14 (rc_0 P) ⟨by decide, by decide⟩ rfl rfl (Nat.le_of_ble_eq_true rfl) dX6_exchange_65 ?_
          exact zr_iret E hr rfl hm dX6_exchange_68
        · rw [if_neg c13] at hm
          refine zr_aload_n E dX6_exchange_48 0 rfl ?_
          refine fg_X6_12 E dX6_exchange_49 ?_
          refine fg_X6_139 bk_1 E dX6_exchange_52 ?_
          refine zr_iload_n E dX6_exchange_55 2 rfl ?_
          obtain ⟨hv16, v16, ev16, hm⟩ := rd_some hm
          refine zr_iald E ac_9 hv16 ev16 dX6_exchange_56 ?_
          refine zr_bipush (v := 40) E dX6_exchange_57 (by decide) ?_
          refine zr_icmp_lt (tgt := 69) E dX6_exchange_59 (by decide) (fun c17 => ?_) (fun c17 => ?_)
          · rw [if_pos c17] at hm
            refine zr_aload_n E dX6_exchange_69 0 rfl ?_
            refine fg_X6_12 E dX6_exchange_70 ?_
            refine fg_X6_136 bk_1 E dX6_exchange_73 ?_
            refine zr_iload_n E dX6_exchange_76 1 rfl ?_
            obtain ⟨hv18, v18, ev18, hm⟩ := rd_some hm
            refine zr_iald E ac_8 hv18 ev18 dX6_exchange_77 ?_
            refine zr_istore_n (lv' := [(3, .int v18), (0, .ref (zw_ad P 0)), (1, .int x1), (2, .int x2)]) E dX6_exchange_78 (by decide) rfl ?_
            refine zr_aload_n E dX6_exchange_79 1 rfl ?_
            refine fg_X6_12 E dX6_exchange_80 ?_
            refine fg_X6_136 bk_1 E dX6_exchange_83 ?_
            refine zr_iload_n E dX6_exchange_86 2 rfl ?_
            refine zr_aload_n E dX6_exchange_87 1 rfl ?_
            refine fg_X6_12 E dX6_exchange_88 ?_
            refine fg_X6_136 bk_1 E dX6_exchange_91 ?_
            refine zr_iload_n E dX6_exchange_94 3 rfl ?_
            obtain ⟨hv19, v19, ev19, hm⟩ := rd_some hm
            refine zr_iald E ac_8 hv19 ev19 dX6_exchange_95 ?_
            obtain ⟨hs20, s20, es20, hm⟩ := wt_some hm
            refine zr_iast E ac_8 hs20 es20 dX6_exchange_96 ?_
            refine zr_aload_n E dX6_exchange_97 1 rfl ?_
            refine fg_X6_12 E dX6_exchange_98 ?_
            refine fg_X6_136 bk_1 E dX6_exchange_101 ?_
            refine zr_iload_n E dX6_exchange_104 3 rfl ?_
            refine zr_iload_n E dX6_exchange_105 0 rfl ?_
            obtain ⟨hs21, s21, es21, hm⟩ := wt_some hm
            refine zr_iast E ac_8 hs21 es21 dX6_exchange_106 ?_
            refine zr_iconst (v := 1) E dX6_exchange_107 (by decide) ?_
            exact zr_iret E hr rfl hm dX6_exchange_108
          · rw [if_neg c17] at hm
            refine zr_aload_n E dX6_exchange_62 0 rfl ?_
            refine zr_ldc E mw_380 dX6_exchange_63 ?_
            obtain ⟨r23, s22, os22, hm⟩ := cl_some hm
            refine zr_cVi (st := []) E mw_106 cm_X6_found (c_X6_found B.2.1 P s6 (-1000005)) os22 (rc_0 P) ⟨by decide, by decide⟩ rfl rfl (Nat.le_of_ble_eq_true rfl) dX6_exchange_65 ?_
            exact zr_iret E hr rfl hm dX6_exchange_68
      · rw [if_pos c11] at hm
        refine zr_aload_n E dX6_exchange_27 0 rfl ?_
        refine zr_ldc E mw_98 dX6_exchange_28 ?_
        obtain ⟨r25, s24, os24, hm⟩ := cl_some hm
        refine zr_cVi (st := []) E mw_106 cm_X6_found (c_X6_found B.2.1 P s6 (-1000001)) os24 (rc_0 P) ⟨by decide, by decide⟩ rfl rfl (Nat.le_of_ble_eq_true rfl) dX6_exchange_30 ?_
        exact zr_iret E hr rfl hm dX6_exchange_33
-- X6_born
set_option maxRecDepth 100000 in
set_option maxHeartbeats 4000000 in
theorem t_X6_born_64 {B : zw_B} {P : zw_P} {r : Int32} {τ : zw_S} (E : zf B P cX6_born RX6 3 2) (hr : B.2.2.2.2.2.2.2.2.1.sig.returnType = some .int) (σ : zw_S) (hm : m_X6_born_64 σ = some (r, τ)) : zw_G B P (zq_i B P r τ) 3 σ 64 [(0, .ref (zw_ad P 0))] [] := by
  unfold m_X6_born_64 at hm
  refine zr_aload_n E dX6_born_64 0 rfl ?_
  refine fg_X6_12 E dX6_born_65 ?_
  refine fg_X6_126 bk_1 E dX6_born_68 ?_
  exact zr_iret E hr rfl hm dX6_born_71
set_option maxRecDepth 100000 in
set_option maxHeartbeats 4000000 in
theorem t_X6_born_19 {B : zw_B} {P : zw_P} {r : Int32} {τ : zw_S} (E : zf B P cX6_born RX6 3 2) (hr : B.2.2.2.2.2.2.2.2.1.sig.returnType = some .int) : ∀ (n : Nat) (σ : zw_S) (x1 : Int32) (x2 : Int32), m_X6_born_19 n σ x1 x2 = some (r, τ) → zw_G B P (zq_i B P r τ) 3 σ 19 [(0, .ref (zw_ad P 0)), (1, .int x1), (2, .int x2)] [] := by
  intro n
  induction n with
  | zero => intro σ x1 x2 hm; cases hm
  | succ n ih =>
    intro σ x1 x2 hm
    unfold m_X6_born_19 at hm
    refine zr_iload_n E dX6_born_19 2 rfl ?_
    refine zr_iload_n E dX6_born_20 1 rfl ?_
    refine zr_icmp_ge (tgt := 64) E dX6_born_21 (by decide) (fun c1 => ?_) (fun c1 => ?_)
    · rw [if_pos c1] at hm
      refine zr_sub (lv' := [(0, .ref (zw_ad P 0))]) [0] rfl ?_
      exact t_X6_born_64 E hr σ hm
    · rw [if_neg c1] at hm
      refine zr_aload_n E dX6_born_24 0 rfl ?_
      refine fg_X6_12 E dX6_born_25 ?_
      refine fg_X6_126 bk_1 E dX6_born_28 ?_
      refine zr_bipush (v := 8) E dX6_born_31 (by decide) ?_
      refine zr_icmp_ge (tgt := 64) E dX6_born_33 (by decide) (fun c2 => ?_) (fun c2 => ?_)
      · rw [if_pos c2] at hm
        refine zr_sub (lv' := [(0, .ref (zw_ad P 0))]) [0] rfl ?_
        exact t_X6_born_64 E hr σ hm
      · rw [if_neg c2] at hm
        refine zr_aload_n E dX6_born_36 0 rfl ?_
        refine fg_X6_12 E dX6_born_37 ?_
        refine zr_aload_n E dX6_born_40 0 rfl ?_
        refine fg_X6_12 E dX6_born_41 ?_
        obtain ⟨r4, s3, os3, hm⟩ := cl_some hm
        refine zr_cVi (st := [.ref (zw_ad P 1)]) E mw_407 cm_X0_draw (c_X0_draw B.2.1 P 1 bk_1 σ) os3 (rc_bk P bk_1) ⟨by decide, by decide⟩ rfl rfl (Nat.le_of_ble_eq_true rfl) dX6_born_44 ?_
        refine zr_bipush (v := 9) E dX6_born_47 (by decide) ?_
        refine zr_irem E dX6_born_49 (by decide) ?_
        refine zr_iconst (v := 1) E dX6_born_50 (by decide) ?_
        refine zr_iadd E dX6_born_51 ?_
        refine zr_iconst (v := 0) E dX6_born_52 (by decide) ?_
        refine zr_iconst (v := (-1)) E dX6_born_53 (by decide) ?_
        obtain ⟨r6, s5, os5, hm⟩ := cl_some hm
        refine zr_cVi (st := []) E mw_322 cm_X0_addPerson (c_X0_addPerson B.2.1 P 1 bk_1 s3 ((r4 - r4 / 9 * 9) + 1) 0 (-1)) os5 (rc_bk P bk_1) ⟨by decide, by decide⟩ rfl rfl (Nat.le_of_ble_eq_true rfl) dX6_born_54 ?_
        refine zr_pop E dX6_born_57 rfl ?_
        obtain ⟨v7, ev7, hm⟩ := nm_some hm
        refine zr_iinc (j := 2) (lv' := [(2, .int v7), (0, .ref (zw_ad P 0)), (1, .int x1)]) E dX6_born_58 rfl ev7 (by decide) rfl ?_
        refine zr_goto (tgt := 19) E dX6_born_61 (by decide) ?_
        refine zr_sub (lv' := [(0, .ref (zw_ad P 0)), (1, .int x1), (2, .int v7)]) [1, 2, 0] rfl ?_
        exact ih s5 x1 v7 hm
set_option maxRecDepth 100000 in
set_option maxHeartbeats 4000000 in
theorem c_X6_born (l : Launch) (P : zw_P) (σ : zw_S) (x1 : Int32) : zc_i l P yX6_born cX6_born 3 .int 2 [.ref (zw_ad P 0), .int x1] σ (m_X6_born σ x1) := by
  refine zc_i.of (by decide) (Nat.le_of_ble_eq_true rfl) (fun B r τ E hl hr hm => ?_)
  subst hl
  refine zr_sub (lv' := [(0, .ref (zw_ad P 0)), (1, .int x1)]) [0, 1] rfl ?_
  unfold m_X6_born at hm
  refine zr_iload_n E dX6_born_0 1 rfl ?_
  refine zr_iconst (v := 1) E dX6_born_1 (by decide) ?_
  refine zr_bipush (v := 8) E dX6_born_2 (by decide) ?_
  obtain ⟨r2, s1, os1, hm⟩ := cl_some hm
  refine zr_cSi (st := []) E mw_103 cm_X6_isIn (c_X6_isIn B.2.1 P σ x1 1 8) os1 ⟨by decide, by decide⟩ rfl rfl (Nat.le_of_ble_eq_true rfl) dX6_born_4 ?_
  refine zr_if_ne (tgt := 17) E dX6_born_7 (by decide) (fun c3 => ?_) (fun c3 => ?_)
  · rw [if_neg c3] at hm
    refine zr_iconst (v := 0) E dX6_born_17 (by decide) ?_
    refine zr_istore_n (lv' := [(2, .int 0), (0, .ref (zw_ad P 0)), (1, .int x1)]) E dX6_born_18 (by decide) rfl ?_
    refine zr_sub (lv' := [(0, .ref (zw_ad P 0)), (1, .int x1), (2, .int 0)]) [1, 2, 0] rfl ?_
    exact t_X6_born_19 E hr 200 s1 x1 0 hm
  · rw [if_pos c3] at hm
    refine zr_aload_n E dX6_born_10 0 rfl ?_
    refine zr_ldc E mw_98 dX6_born_11 ?_
    obtain ⟨r5, s4, os4, hm⟩ := cl_some hm
    refine zr_cVi (st := []) E mw_106 cm_X6_found (c_X6_found B.2.1 P s1 (-1000001)) os4 (rc_0 P) ⟨by decide, by decide⟩ rfl rfl (Nat.le_of_ble_eq_true rfl) dX6_born_13 ?_
    exact zr_iret E hr rfl hm dX6_born_16
-- X6_isTooLate
set_option maxRecDepth 100000 in
set_option maxHeartbeats 4000000 in
theorem c_X6_isTooLate (l : Launch) (P : zw_P) (σ : zw_S) (x1 : Int32) : zc_i l P yX6_isTooLate cX6_isTooLate 2 .boolean 0 [.ref (zw_ad P 0), .int x1] σ (m_X6_isTooLate σ x1) := by
  refine zc_i.of (by decide) (Nat.le_of_ble_eq_true rfl) (fun B r τ E hl hr hm => ?_)
  subst hl
  refine zr_sub (lv' := [(0, .ref (zw_ad P 0)), (1, .int x1)]) [0, 1] rfl ?_
  unfold m_X6_isTooLate at hm
  refine zr_aload_n E dX6_isTooLate_0 0 rfl ?_
  refine fg_X6_12 E dX6_isTooLate_1 ?_
  refine fg_X6_282 bk_1 E dX6_isTooLate_4 ?_
  refine zr_iload_n E dX6_isTooLate_7 1 rfl ?_
  refine zr_iadd E dX6_isTooLate_8 ?_
  refine zr_sipush (v := 999) E dX6_isTooLate_9 (by decide) ?_
  refine zr_icmp_le (tgt := 19) E dX6_isTooLate_12 (by decide) (fun c1 => ?_) (fun c1 => ?_)
  · rw [if_pos c1] at hm
    refine zr_iconst (v := 0) E dX6_isTooLate_19 (by decide) ?_
    exact zr_iret E hr (by decide) hm dX6_isTooLate_20
  · rw [if_neg c1] at hm
    refine zr_iconst (v := 1) E dX6_isTooLate_15 (by decide) ?_
    refine zr_goto (tgt := 20) E dX6_isTooLate_16 (by decide) ?_
    exact zr_iret E hr (by decide) hm dX6_isTooLate_20
-- X6_years
set_option maxRecDepth 100000 in
set_option maxHeartbeats 4000000 in
theorem c_X6_years (l : Launch) (P : zw_P) (σ : zw_S) (x1 : Int32) : zc_i l P yX6_years cX6_years 3 .int 5 [.ref (zw_ad P 0), .int x1] σ (m_X6_years σ x1) := by
  refine zc_i.of (by decide) (Nat.le_of_ble_eq_true rfl) (fun B r τ E hl hr hm => ?_)
  subst hl
  refine zr_sub (lv' := [(0, .ref (zw_ad P 0)), (1, .int x1)]) [0, 1] rfl ?_
  unfold m_X6_years at hm
  refine zr_iload_n E dX6_years_0 1 rfl ?_
  refine zr_iconst (v := 1) E dX6_years_1 (by decide) ?_
  refine zr_bipush (v := 60) E dX6_years_2 (by decide) ?_
  obtain ⟨r2, s1, os1, hm⟩ := cl_some hm
  refine zr_cSi (st := []) E mw_103 cm_X6_isIn (c_X6_isIn B.2.1 P σ x1 1 60) os1 ⟨by decide, by decide⟩ rfl rfl (Nat.le_of_ble_eq_true rfl) dX6_years_4 ?_
  refine zr_if_ne (tgt := 17) E dX6_years_7 (by decide) (fun c3 => ?_) (fun c3 => ?_)
  · rw [if_neg c3] at hm
    refine zr_aload_n E dX6_years_17 0 rfl ?_
    refine zr_iload_n E dX6_years_18 1 rfl ?_
    obtain ⟨r5, s4, os4, hm⟩ := cl_some hm
    refine zr_cVi (st := []) E mw_426 cm_X6_isTooLate (c_X6_isTooLate B.2.1 P s1 x1) os4 (rc_0 P) ⟨by decide, by decide⟩ rfl rfl (Nat.le_of_ble_eq_true rfl) dX6_years_19 ?_
    refine zr_if_eq (tgt := 32) E dX6_years_22 (by decide) (fun c6 => ?_) (fun c6 => ?_)
    · rw [if_pos c6] at hm
      refine zr_aload_n E dX6_years_32 0 rfl ?_
      refine fg_X6_12 E dX6_years_33 ?_
      obtain ⟨r8, s7, os7, hm⟩ := cl_some hm
      refine zr_cVi (st := []) E mw_431 cm_X0_endedTasks (c_X0_endedTasks B.2.1 P 1 bk_1 s4) os7 (rc_bk P bk_1) ⟨by decide, by decide⟩ rfl rfl (Nat.le_of_ble_eq_true rfl) dX6_years_36 ?_
      refine zr_istore_n (lv' := [(2, .int r8), (0, .ref (zw_ad P 0)), (1, .int x1)]) E dX6_years_39 (by decide) rfl ?_
      refine zr_aload_n E dX6_years_40 1 rfl ?_
      refine fg_X6_25 E dX6_years_41 ?_
      refine zr_aload_n E dX6_years_44 1 rfl ?_
      refine fg_X6_12 E dX6_years_45 ?_
      refine zr_iload_n E dX6_years_48 2 rfl ?_
      obtain ⟨s9, os9, hm⟩ := cv_some hm
      refine zr_cVv (st := []) E mw_435 cm_X5_go (c_X5_go B.2.1 P 1 bk_1 s7 x1) os9 (rc_37 P) ⟨by decide, by decide⟩ rfl rfl (Nat.le_of_ble_eq_true rfl) dX6_years_49 ?_
      refine zr_aload_n E dX6_years_52 1 rfl ?_
      refine fg_X6_12 E dX6_years_53 ?_
      obtain ⟨r11, s10, os10, hm⟩ := cl_some hm
      refine zr_cVi (st := []) E mw_431 cm_X0_endedTasks (c_X0_endedTasks B.2.1 P 1 bk_1 s9) os10 (rc_bk P bk_1) ⟨by decide, by decide⟩ rfl rfl (Nat.le_of_ble_eq_true rfl) dX6_years_56 ?_
      refine zr_iload_n E dX6_years_59 0 rfl ?_
      refine zr_isub E dX6_years_60 ?_
      exact zr_iret E hr rfl hm dX6_years_61
    · rw [if_neg c6] at hm
      refine zr_aload_n E dX6_years_25 0 rfl ?_
      refine zr_ldc E mw_380 dX6_years_26 ?_
      obtain ⟨r13, s12, os12, hm⟩ := cl_some hm
      refine zr_cVi (st := []) E mw_106 cm_X6_found (c_X6_found B.2.1 P s4 (-1000005)) os12 (rc_0 P) ⟨by decide, by decide⟩ rfl rfl (Nat.le_of_ble_eq_true rfl) dX6_years_28 ?_
      exact zr_iret E hr rfl hm dX6_years_31
  · rw [if_pos c3] at hm
    refine zr_aload_n E dX6_years_10 0 rfl ?_
    refine zr_ldc E mw_98 dX6_years_11 ?_
    obtain ⟨r15, s14, os14, hm⟩ := cl_some hm
    refine zr_cVi (st := []) E mw_106 cm_X6_found (c_X6_found B.2.1 P s1 (-1000001)) os14 (rc_0 P) ⟨by decide, by decide⟩ rfl rfl (Nat.le_of_ble_eq_true rfl) dX6_years_13 ?_
    exact zr_iret E hr rfl hm dX6_years_16
-- X6_lookAhead
set_option maxRecDepth 100000 in
set_option maxHeartbeats 4000000 in
theorem c_X6_lookAhead (l : Launch) (P : zw_P) (σ : zw_S) (x1 : Int32) : zc_v l P yX6_lookAhead cX6_lookAhead 2 5 [.ref (zw_ad P 0), .int x1] σ (m_X6_lookAhead σ x1) := by
  refine zc_v.of (by decide) (Nat.le_of_ble_eq_true rfl) (fun B τ E hl hr hm => ?_)
  subst hl
  refine zr_sub (lv' := [(0, .ref (zw_ad P 0)), (1, .int x1)]) [0, 1] rfl ?_
  unfold m_X6_lookAhead at hm
  refine zr_aload_n E dX6_lookAhead_0 0 rfl ?_
  refine fg_X6_19 E dX6_lookAhead_1 ?_
  refine zr_aload_n E dX6_lookAhead_4 0 rfl ?_
  refine fg_X6_12 E dX6_lookAhead_5 ?_
  obtain ⟨s1, os1, hm⟩ := cv_some hm
  refine zr_cVv (st := []) E mw_554 cm_X0_setTo (c_X0_setTo B.2.1 P 25 1 bk_25 bk_1 σ) os1 (rc_bk P bk_25) ⟨by decide, by decide⟩ rfl rfl (Nat.le_of_ble_eq_true rfl) dX6_lookAhead_8 ?_
  refine zr_aload_n E dX6_lookAhead_11 0 rfl ?_
  refine fg_X6_25 E dX6_lookAhead_12 ?_
  refine zr_aload_n E dX6_lookAhead_15 0 rfl ?_
  refine fg_X6_19 E dX6_lookAhead_16 ?_
  refine zr_iload_n E dX6_lookAhead_19 1 rfl ?_
  obtain ⟨s2, os2, hm⟩ := cv_some hm
  refine zr_cVv (st := []) E mw_435 cm_X5_go (c_X5_go B.2.1 P 25 bk_25 s1 x1) os2 (rc_37 P) ⟨by decide, by decide⟩ rfl rfl (Nat.le_of_ble_eq_true rfl) dX6_lookAhead_20 ?_
  exact zr_vret E hr hm dX6_lookAhead_23
-- X6_ahead
set_option maxRecDepth 100000 in
set_option maxHeartbeats 4000000 in
theorem c_X6_ahead (l : Launch) (P : zw_P) (σ : zw_S) (x1 : Int32) (x2 : Int32) : zc_i l P yX6_ahead cX6_ahead 3 .int 6 [.ref (zw_ad P 0), .int x1, .int x2] σ (m_X6_ahead σ x1 x2) := by
  refine zc_i.of (by decide) (Nat.le_of_ble_eq_true rfl) (fun B r τ E hl hr hm => ?_)
  subst hl
  refine zr_sub (lv' := [(0, .ref (zw_ad P 0)), (1, .int x1), (2, .int x2)]) [0, 1, 2] rfl ?_
  unfold m_X6_ahead at hm
  refine zr_iload_n E dX6_ahead_0 1 rfl ?_
  refine zr_iconst (v := 0) E dX6_ahead_1 (by decide) ?_
  refine zr_bipush (v := 100) E dX6_ahead_2 (by decide) ?_
  obtain ⟨r2, s1, os1, hm⟩ := cl_some hm
  refine zr_cSi (st := []) E mw_103 cm_X6_isIn (c_X6_isIn B.2.1 P σ x1 0 100) os1 ⟨by decide, by decide⟩ rfl rfl (Nat.le_of_ble_eq_true rfl) dX6_ahead_4 ?_
  refine zr_if_eq (tgt := 19) E dX6_ahead_7 (by decide) (fun c3 => ?_) (fun c3 => ?_)
  · rw [if_pos c3] at hm
    refine zr_aload_n E dX6_ahead_19 0 rfl ?_
    refine zr_ldc E mw_98 dX6_ahead_20 ?_
    obtain ⟨r5, s4, os4, hm⟩ := cl_some hm
    refine zr_cVi (st := []) E mw_106 cm_X6_found (c_X6_found B.2.1 P s1 (-1000001)) os4 (rc_0 P) ⟨by decide, by decide⟩ rfl rfl (Nat.le_of_ble_eq_true rfl) dX6_ahead_22 ?_
    exact zr_iret E hr rfl hm dX6_ahead_25
  · rw [if_neg c3] at hm
    refine zr_iload_n E dX6_ahead_10 2 rfl ?_
    refine zr_iconst (v := 0) E dX6_ahead_11 (by decide) ?_
    refine zr_iconst (v := 4) E dX6_ahead_12 (by decide) ?_
    obtain ⟨r7, s6, os6, hm⟩ := cl_some hm
    refine zr_cSi (st := []) E mw_103 cm_X6_isIn (c_X6_isIn B.2.1 P s1 x2 0 4) os6 ⟨by decide, by decide⟩ rfl rfl (Nat.le_of_ble_eq_true rfl) dX6_ahead_13 ?_
    refine zr_if_ne (tgt := 26) E dX6_ahead_16 (by decide) (fun c8 => ?_) (fun c8 => ?_)
    · rw [if_neg c8] at hm
      refine zr_aload_n E dX6_ahead_26 0 rfl ?_
      refine zr_iload_n E dX6_ahead_27 1 rfl ?_
      obtain ⟨r10, s9, os9, hm⟩ := cl_some hm
      refine zr_cVi (st := []) E mw_426 cm_X6_isTooLate (c_X6_isTooLate B.2.1 P s6 x1) os9 (rc_0 P) ⟨by decide, by decide⟩ rfl rfl (Nat.le_of_ble_eq_true rfl) dX6_ahead_28 ?_
      refine zr_if_eq (tgt := 41) E dX6_ahead_31 (by decide) (fun c11 => ?_) (fun c11 => ?_)
      · rw [if_pos c11] at hm
        refine zr_aload_n E dX6_ahead_41 0 rfl ?_
        refine zr_iload_n E dX6_ahead_42 1 rfl ?_
        obtain ⟨s12, os12, hm⟩ := cv_some hm
        refine zr_cVv (st := []) E mw_550 cm_X6_lookAhead (c_X6_lookAhead B.2.1 P s9 x1) os12 (rc_0 P) ⟨by decide, by decide⟩ rfl rfl (Nat.le_of_ble_eq_true rfl) dX6_ahead_43 ?_
        refine zr_iload_n E dX6_ahead_46 2 rfl ?_
        by_cases c13 : x2 = 0
        · rw [if_pos c13] at hm
          refine zr_tabIn (tgt := 76) E dX6_ahead_47 c13 (by decide) (by decide) rfl (by decide) ?_
          refine zr_aload_n E dX6_ahead_76 0 rfl ?_
          refine fg_X6_19 E dX6_ahead_77 ?_
          refine fg_X6_77 bk_25 E dX6_ahead_80 ?_
          refine zr_aload_n E dX6_ahead_83 0 rfl ?_
          refine fg_X6_19 E dX6_ahead_84 ?_
          obtain ⟨r15, s14, os14, hm⟩ := cl_some hm
          refine zr_cVi (st := [.int (s12 25 2)]) E mw_431 cm_X0_endedTasks (c_X0_endedTasks B.2.1 P 25 bk_25 s12) os14 (rc_bk P bk_25) ⟨by decide, by decide⟩ rfl rfl (Nat.le_of_ble_eq_true rfl) dX6_ahead_87 ?_
          refine zr_isub E dX6_ahead_90 ?_
          exact zr_iret E hr rfl hm dX6_ahead_91
        · rw [if_neg c13] at hm
          by_cases c16 : x2 = 1
          · rw [if_pos c16] at hm
            refine zr_tabIn (tgt := 92) E dX6_ahead_47 c16 (by decide) (by decide) rfl (by decide) ?_
            refine zr_aload_n E dX6_ahead_92 0 rfl ?_
            refine fg_X6_19 E dX6_ahead_93 ?_
            obtain ⟨r18, s17, os17, hm⟩ := cl_some hm
            refine zr_cVi (st := []) E mw_562 cm_X0_hoursOfAll (c_X0_hoursOfAll B.2.1 P 25 bk_25 s12) os17 (rc_bk P bk_25) ⟨by decide, by decide⟩ rfl rfl (Nat.le_of_ble_eq_true rfl) dX6_ahead_96 ?_
            exact zr_iret E hr rfl hm dX6_ahead_99
          · rw [if_neg c16] at hm
            by_cases c19 : x2 = 2
            · rw [if_pos c19] at hm
              refine zr_tabIn (tgt := 100) E dX6_ahead_47 c19 (by decide) (by decide) rfl (by decide) ?_
              refine zr_aload_n E dX6_ahead_100 0 rfl ?_
              refine fg_X6_19 E dX6_ahead_101 ?_
              obtain ⟨r21, s20, os20, hm⟩ := cl_some hm
              refine zr_cVi (st := []) E mw_566 cm_X0_openNames (c_X0_openNames B.2.1 P 25 bk_25 s12) os20 (rc_bk P bk_25) ⟨by decide, by decide⟩ rfl rfl (Nat.le_of_ble_eq_true rfl) dX6_ahead_104 ?_
              exact zr_iret E hr rfl hm dX6_ahead_107
            · rw [if_neg c19] at hm
              by_cases c22 : x2 = 3
              · rw [if_pos c22] at hm
                refine zr_tabIn (tgt := 108) E dX6_ahead_47 c22 (by decide) (by decide) rfl (by decide) ?_
                refine zr_aload_n E dX6_ahead_108 0 rfl ?_
                refine fg_X6_19 E dX6_ahead_109 ?_
                obtain ⟨r24, s23, os23, hm⟩ := cl_some hm
                refine zr_cVi (st := []) E mw_567 cm_X0_endedWorth (c_X0_endedWorth B.2.1 P 25 bk_25 s12) os23 (rc_bk P bk_25) ⟨by decide, by decide⟩ rfl rfl (Nat.le_of_ble_eq_true rfl) dX6_ahead_112 ?_
                exact zr_iret E hr rfl hm dX6_ahead_115
              · rw [if_neg c22] at hm
                refine zr_tabOut (tgt := 116) E dX6_ahead_47 (sw_out (0) 4 (by decide) (by decide) (fun j hj => by match j, hj with | 0, _ => exact c13 | 1, _ => exact c16 | 2, _ => exact c19 | 3, _ => exact c22 | (j + 4), hj => exact absurd hj (by omega)) _ (by decide)) (by decide) ?_
                refine zr_aload_n E dX6_ahead_116 0 rfl ?_
                refine fg_X6_19 E dX6_ahead_117 ?_
                obtain ⟨r26, s25, os25, hm⟩ := cl_some hm
                refine zr_cVi (st := []) E mw_575 cm_X0_goneOfAll (c_X0_goneOfAll B.2.1 P 25 bk_25 s12) os25 (rc_bk P bk_25) ⟨by decide, by decide⟩ rfl rfl (Nat.le_of_ble_eq_true rfl) dX6_ahead_120 ?_
                exact zr_iret E hr rfl hm dX6_ahead_123
      · rw [if_neg c11] at hm
        refine zr_aload_n E dX6_ahead_34 0 rfl ?_
        refine zr_ldc E mw_380 dX6_ahead_35 ?_
        obtain ⟨r28, s27, os27, hm⟩ := cl_some hm
        refine zr_cVi (st := []) E mw_106 cm_X6_found (c_X6_found B.2.1 P s9 (-1000005)) os27 (rc_0 P) ⟨by decide, by decide⟩ rfl rfl (Nat.le_of_ble_eq_true rfl) dX6_ahead_37 ?_
        exact zr_iret E hr rfl hm dX6_ahead_40
    · rw [if_pos c8] at hm
      refine zr_aload_n E dX6_ahead_19 0 rfl ?_
      refine zr_ldc E mw_98 dX6_ahead_20 ?_
      obtain ⟨r30, s29, os29, hm⟩ := cl_some hm
      refine zr_cVi (st := []) E mw_106 cm_X6_found (c_X6_found B.2.1 P s6 (-1000001)) os29 (rc_0 P) ⟨by decide, by decide⟩ rfl rfl (Nat.le_of_ble_eq_true rfl) dX6_ahead_22 ?_
      exact zr_iret E hr rfl hm dX6_ahead_25
-- X6_shut
set_option maxRecDepth 100000 in
set_option maxHeartbeats 4000000 in
theorem t_X6_shut_74 {B : zw_B} {P : zw_P} {r : Int32} {τ : zw_S} (E : zf B P cX6_shut RX6 3 6) (hr : B.2.2.2.2.2.2.2.2.1.sig.returnType = some .int) (σ : zw_S) (hm : m_X6_shut_74 σ = some (r, τ)) : zw_G B P (zq_i B P r τ) 3 σ 74 [(0, .ref (zw_ad P 0))] [] := by
  unfold m_X6_shut_74 at hm
  refine zr_aload_n E dX6_shut_74 0 rfl ?_
  refine zr_ldc E mw_608 dX6_shut_75 ?_
  obtain ⟨r2, s1, os1, hm⟩ := cl_some hm
  refine zr_cVi (st := []) E mw_106 cm_X6_found (c_X6_found B.2.1 P σ (-1000004)) os1 (rc_0 P) ⟨by decide, by decide⟩ rfl rfl (Nat.le_of_ble_eq_true rfl) dX6_shut_77 ?_
  exact zr_iret E hr rfl hm dX6_shut_80
set_option maxRecDepth 100000 in
set_option maxHeartbeats 4000000 in
theorem t_X6_shut_37 {B : zw_B} {P : zw_P} {r : Int32} {τ : zw_S} (E : zf B P cX6_shut RX6 3 6) (hr : B.2.2.2.2.2.2.2.2.1.sig.returnType = some .int) : ∀ (n : Nat) (σ : zw_S) (x1 : Int32) (x2 : Int32), m_X6_shut_37 n σ x1 x2 = some (r, τ) → zw_G B P (zq_i B P r τ) 3 σ 37 [(0, .ref (zw_ad P 0)), (1, .int x1), (2, .int x2)] [] := by
  intro n
  induction n with
  | zero => intro σ x1 x2 hm; cases hm
  | succ n ih =>
    intro σ x1 x2 hm
    unfold m_X6_shut_37 at hm
    refine zr_iload_n E dX6_shut_37 2 rfl ?_
    refine zr_bipush (v := 100) E dX6_shut_38 (by decide) ?_
    refine zr_icmp_gt (tgt := 74) E dX6_shut_40 (by decide) (fun c1 => ?_) (fun c1 => ?_)
    · rw [if_pos c1] at hm
      refine zr_sub (lv' := [(0, .ref (zw_ad P 0))]) [0] rfl ?_
      exact t_X6_shut_74 E hr σ hm
    · rw [if_neg c1] at hm
      refine zr_aload_n E dX6_shut_43 0 rfl ?_
      refine fg_X6_19 E dX6_shut_44 ?_
      refine zr_iload_n E dX6_shut_47 1 rfl ?_
      obtain ⟨r3, s2, os2, hm⟩ := cl_some hm
      refine zr_cVi (st := []) E mw_248 cm_X0_isOpen (c_X0_isOpen B.2.1 P 25 bk_25 σ x1) os2 (rc_bk P bk_25) ⟨by decide, by decide⟩ rfl rfl (Nat.le_of_ble_eq_true rfl) dX6_shut_48 ?_
      refine zr_if_ne (tgt := 56) E dX6_shut_51 (by decide) (fun c4 => ?_) (fun c4 => ?_)
      · rw [if_neg c4] at hm
        refine zr_aload_n E dX6_shut_56 0 rfl ?_
        refine fg_X6_25 E dX6_shut_57 ?_
        refine zr_aload_n E dX6_shut_60 0 rfl ?_
        refine fg_X6_19 E dX6_shut_61 ?_
        refine zr_iconst (v := 1) E dX6_shut_64 (by decide) ?_
        obtain ⟨s5, os5, hm⟩ := cv_some hm
        refine zr_cVv (st := []) E mw_435 cm_X5_go (c_X5_go B.2.1 P 25 bk_25 s2 1) os5 (rc_37 P) ⟨by decide, by decide⟩ rfl rfl (Nat.le_of_ble_eq_true rfl) dX6_shut_65 ?_
        obtain ⟨v6, ev6, hm⟩ := nm_some hm
        refine zr_iinc (j := 2) (lv' := [(2, .int v6), (0, .ref (zw_ad P 0)), (1, .int x1)]) E dX6_shut_68 rfl ev6 (by decide) rfl ?_
        refine zr_goto (tgt := 37) E dX6_shut_71 (by decide) ?_
        refine zr_sub (lv' := [(0, .ref (zw_ad P 0)), (1, .int x1), (2, .int v6)]) [1, 2, 0] rfl ?_
        exact ih s5 x1 v6 hm
      · rw [if_pos c4] at hm
        refine zr_iload_n E dX6_shut_54 2 rfl ?_
        exact zr_iret E hr rfl hm dX6_shut_55
set_option maxRecDepth 100000 in
set_option maxHeartbeats 4000000 in
theorem c_X6_shut (l : Launch) (P : zw_P) (σ : zw_S) (x1 : Int32) : zc_i l P yX6_shut cX6_shut 3 .int 6 [.ref (zw_ad P 0), .int x1] σ (m_X6_shut σ x1) := by
  refine zc_i.of (by decide) (Nat.le_of_ble_eq_true rfl) (fun B r τ E hl hr hm => ?_)
  subst hl
  refine zr_sub (lv' := [(0, .ref (zw_ad P 0)), (1, .int x1)]) [0, 1] rfl ?_
  unfold m_X6_shut at hm
  refine zr_iload_n E dX6_shut_0 1 rfl ?_
  obtain ⟨r2, s1, os1, hm⟩ := cl_some hm
  refine zr_cSi (st := []) E mw_100 cm_X6_isName (c_X6_isName B.2.1 P σ x1) os1 ⟨by decide, by decide⟩ rfl rfl (Nat.le_of_ble_eq_true rfl) dX6_shut_1 ?_
  refine zr_if_ne (tgt := 14) E dX6_shut_4 (by decide) (fun c3 => ?_) (fun c3 => ?_)
  · rw [if_neg c3] at hm
    refine zr_aload_n E dX6_shut_14 0 rfl ?_
    refine zr_bipush (v := 100) E dX6_shut_15 (by decide) ?_
    obtain ⟨r5, s4, os4, hm⟩ := cl_some hm
    refine zr_cVi (st := []) E mw_426 cm_X6_isTooLate (c_X6_isTooLate B.2.1 P s1 100) os4 (rc_0 P) ⟨by decide, by decide⟩ rfl rfl (Nat.le_of_ble_eq_true rfl) dX6_shut_17 ?_
    refine zr_if_eq (tgt := 30) E dX6_shut_20 (by decide) (fun c6 => ?_) (fun c6 => ?_)
    · rw [if_pos c6] at hm
      refine zr_aload_n E dX6_shut_30 0 rfl ?_
      refine zr_iconst (v := 0) E dX6_shut_31 (by decide) ?_
      obtain ⟨s7, os7, hm⟩ := cv_some hm
      refine zr_cVv (st := []) E mw_550 cm_X6_lookAhead (c_X6_lookAhead B.2.1 P s4 0) os7 (rc_0 P) ⟨by decide, by decide⟩ rfl rfl (Nat.le_of_ble_eq_true rfl) dX6_shut_32 ?_
      refine zr_iconst (v := 0) E dX6_shut_35 (by decide) ?_
      refine zr_istore_n (lv' := [(2, .int 0), (0, .ref (zw_ad P 0)), (1, .int x1)]) E dX6_shut_36 (by decide) rfl ?_
      refine zr_sub (lv' := [(0, .ref (zw_ad P 0)), (1, .int x1), (2, .int 0)]) [1, 2, 0] rfl ?_
      exact t_X6_shut_37 E hr 200 s7 x1 0 hm
    · rw [if_neg c6] at hm
      refine zr_aload_n E dX6_shut_23 0 rfl ?_
      refine zr_ldc E mw_380 dX6_shut_24 ?_
      obtain ⟨r9, s8, os8, hm⟩ := cl_some hm
      refine zr_cVi (st := []) E mw_106 cm_X6_found (c_X6_found B.2.1 P s4 (-1000005)) os8 (rc_0 P) ⟨by decide, by decide⟩ rfl rfl (Nat.le_of_ble_eq_true rfl) dX6_shut_26 ?_
      exact zr_iret E hr rfl hm dX6_shut_29
  · rw [if_pos c3] at hm
    refine zr_aload_n E dX6_shut_7 0 rfl ?_
    refine zr_ldc E mw_98 dX6_shut_8 ?_
    obtain ⟨r11, s10, os10, hm⟩ := cl_some hm
    refine zr_cVi (st := []) E mw_106 cm_X6_found (c_X6_found B.2.1 P s1 (-1000001)) os10 (rc_0 P) ⟨by decide, by decide⟩ rfl rfl (Nat.le_of_ble_eq_true rfl) dX6_shut_10 ?_
    exact zr_iret E hr rfl hm dX6_shut_13
