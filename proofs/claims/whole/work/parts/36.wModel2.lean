-- X7_of
set_option maxRecDepth 100000 in
set_option maxHeartbeats 4000000 in
theorem c_X7_of (l : Launch) (P : zw_P) (σ : zw_S) (x1 : Int32) (x2 : Int32) : zc_i l P yX7_of cX7_of 3 .int 2 [.ref (zw_ad P 57), .int x1, .int x2] σ (m_X7_of σ x1 x2) := by
  refine zc_i.of (by decide) (Nat.le_of_ble_eq_true rfl) (fun B r τ E hl hr hm => ?_)
  subst hl
  refine zr_sub (lv' := [(0, .ref (zw_ad P 57)), (1, .int x1), (2, .int x2)]) [0, 1, 2] rfl ?_
  unfold m_X7_of at hm
  refine zr_aload_n E dX7_of_0 0 rfl ?_
  refine zr_iload_n E dX7_of_1 1 rfl ?_
  obtain ⟨r2, s1, os1, hm⟩ := cl_some hm
  refine zr_cVi (st := []) E mw_355 cm_X7_isPerson (c_X7_isPerson B.2.1 P σ x1) os1 (rc_57 P) ⟨by decide, by decide⟩ rfl rfl (Nat.le_of_ble_eq_true rfl) dX7_of_2 ?_
  refine zr_if_eq (tgt := 29) E dX7_of_5 (by decide) (fun c3 => ?_) (fun c3 => ?_)
  · rw [if_pos c3] at hm
    refine zr_aload_n E dX7_of_29 0 rfl ?_
    refine zr_ldc E mw_115 dX7_of_30 ?_
    obtain ⟨r5, s4, os4, hm⟩ := cl_some hm
    refine zr_cVi (st := []) E mw_127 cm_X7_finds (c_X7_finds B.2.1 P s1 (-1000001)) os4 (rc_57 P) ⟨by decide, by decide⟩ rfl rfl (Nat.le_of_ble_eq_true rfl) dX7_of_32 ?_
    exact zr_iret E hr rfl hm dX7_of_35
  · rw [if_neg c3] at hm
    refine zr_iload_n E dX7_of_8 2 rfl ?_
    refine zr_i2l E dX7_of_9 ?_
    refine zr_lconst (v := 0) E dX7_of_10 (by decide) ?_
    refine zr_ldc2 E mw_354 dX7_of_11 ?_
    obtain ⟨r7, s6, os6, hm⟩ := cl_some hm
    refine zr_cSi (st := []) E mw_120 cm_X7_in (c_X7_in B.2.1 P s1 x2.toInt64 0 3) os6 ⟨by decide, by decide⟩ rfl rfl (Nat.le_of_ble_eq_true rfl) dX7_of_14 ?_
    refine zr_if_eq (tgt := 29) E dX7_of_17 (by decide) (fun c8 => ?_) (fun c8 => ?_)
    · rw [if_pos c8] at hm
      refine zr_aload_n E dX7_of_29 0 rfl ?_
      refine zr_ldc E mw_115 dX7_of_30 ?_
      obtain ⟨r10, s9, os9, hm⟩ := cl_some hm
      refine zr_cVi (st := []) E mw_127 cm_X7_finds (c_X7_finds B.2.1 P s6 (-1000001)) os9 (rc_57 P) ⟨by decide, by decide⟩ rfl rfl (Nat.le_of_ble_eq_true rfl) dX7_of_32 ?_
      exact zr_iret E hr rfl hm dX7_of_35
    · rw [if_neg c8] at hm
      refine zr_aload_n E dX7_of_20 0 rfl ?_
      refine zr_iload_n E dX7_of_21 1 rfl ?_
      refine zr_iload_n E dX7_of_22 2 rfl ?_
      obtain ⟨r12, s11, os11, hm⟩ := cl_some hm
      refine zr_cVi (st := []) E mw_289 cm_X7_person0 (c_X7_person0 B.2.1 P s6 x1 x2) os11 (rc_57 P) ⟨by decide, by decide⟩ rfl rfl (Nat.le_of_ble_eq_true rfl) dX7_of_23 ?_
      refine zr_goto (tgt := 35) E dX7_of_26 (by decide) ?_
      exact zr_iret E hr rfl hm dX7_of_35
-- X7_change
set_option maxRecDepth 100000 in
set_option maxHeartbeats 4000000 in
theorem t_X7_change_34 {B : zw_B} {P : zw_P} {r : Int32} {τ : zw_S} (E : zf B P cX7_change RX7 5 2) (hr : B.2.2.2.2.2.2.2.2.1.sig.returnType = some .int) (σ : zw_S) (x1 : Int32) (x2 : Int32) (x3 : Int32) (y0 : Int32) (hm : m_X7_change_34 σ x1 x2 x3 y0 = some (r, τ)) : zw_G B P (zq_i B P r τ) 5 σ 34 [(0, .ref (zw_ad P 57)), (1, .int x1), (2, .int x2), (3, .int x3)] [.int y0] := by
  unfold m_X7_change_34 at hm
  refine zr_istore (lv' := [(4, .int y0), (0, .ref (zw_ad P 57)), (1, .int x1), (2, .int x2), (3, .int x3)]) E dX7_change_34 (by decide) rfl ?_
  refine zr_aload_n E dX7_change_36 1 rfl ?_
  refine zr_iload_n E dX7_change_37 2 rfl ?_
  obtain ⟨r2, s1, os1, hm⟩ := cl_some hm
  refine zr_cVi (st := []) E mw_355 cm_X7_isPerson (c_X7_isPerson B.2.1 P σ x1) os1 (rc_57 P) ⟨by decide, by decide⟩ rfl rfl (Nat.le_of_ble_eq_true rfl) dX7_change_38 ?_
  refine zr_if_eq (tgt := 65) E dX7_change_41 (by decide) (fun c3 => ?_) (fun c3 => ?_)
  · rw [if_pos c3] at hm
    refine zr_aload_n E dX7_change_65 1 rfl ?_
    refine zr_ldc E mw_115 dX7_change_66 ?_
    obtain ⟨r5, s4, os4, hm⟩ := cl_some hm
    refine zr_cVi (st := []) E mw_127 cm_X7_finds (c_X7_finds B.2.1 P s1 (-1000001)) os4 (rc_57 P) ⟨by decide, by decide⟩ rfl rfl (Nat.le_of_ble_eq_true rfl) dX7_change_68 ?_
    exact zr_iret E hr rfl hm dX7_change_71
  · rw [if_neg c3] at hm
    refine zr_iload E dX7_change_44 0 rfl ?_
    refine zr_if_eq (tgt := 65) E dX7_change_46 (by decide) (fun c6 => ?_) (fun c6 => ?_)
    · rw [if_pos c6] at hm
      refine zr_aload_n E dX7_change_65 1 rfl ?_
      refine zr_ldc E mw_115 dX7_change_66 ?_
      obtain ⟨r8, s7, os7, hm⟩ := cl_some hm
      refine zr_cVi (st := []) E mw_127 cm_X7_finds (c_X7_finds B.2.1 P s1 (-1000001)) os7 (rc_57 P) ⟨by decide, by decide⟩ rfl rfl (Nat.le_of_ble_eq_true rfl) dX7_change_68 ?_
      exact zr_iret E hr rfl hm dX7_change_71
    · rw [if_neg c6] at hm
      refine zr_aload_n E dX7_change_49 1 rfl ?_
      refine zr_bipush (v := 100) E dX7_change_50 (by decide) ?_
      refine zr_iconst (v := 4) E dX7_change_52 (by decide) ?_
      refine zr_iload_n E dX7_change_53 2 rfl ?_
      refine zr_imul E dX7_change_54 ?_
      refine zr_iadd E dX7_change_55 ?_
      refine zr_iload_n E dX7_change_56 3 rfl ?_
      refine zr_iadd E dX7_change_57 ?_
      refine zr_iload_n E dX7_change_58 4 rfl ?_
      obtain ⟨r10, s9, os9, hm⟩ := cl_some hm
      refine zr_cVi (st := []) E mw_123 cm_X7_becomes (c_X7_becomes B.2.1 P s1 ((100 + (4 * x1)) + x2) x3) os9 (rc_57 P) ⟨by decide, by decide⟩ rfl rfl (Nat.le_of_ble_eq_true rfl) dX7_change_59 ?_
      refine zr_goto (tgt := 71) E dX7_change_62 (by decide) ?_
      exact zr_iret E hr rfl hm dX7_change_71
set_option maxRecDepth 100000 in
set_option maxHeartbeats 4000000 in
theorem c_X7_change (l : Launch) (P : zw_P) (σ : zw_S) (x1 : Int32) (x2 : Int32) (x3 : Int32) : zc_i l P yX7_change cX7_change 5 .int 2 [.ref (zw_ad P 57), .int x1, .int x2, .int x3] σ (m_X7_change σ x1 x2 x3) := by
  refine zc_i.of (by decide) (Nat.le_of_ble_eq_true rfl) (fun B r τ E hl hr hm => ?_)
  subst hl
  refine zr_sub (lv' := [(0, .ref (zw_ad P 57)), (1, .int x1), (2, .int x2), (3, .int x3)]) [0, 1, 2, 3] rfl ?_
  unfold m_X7_change at hm
  refine zr_iload_n E dX7_change_0 2 rfl ?_
  refine zr_iconst (v := 1) E dX7_change_1 (by decide) ?_
  refine zr_icmp_ne (tgt := 17) E dX7_change_2 (by decide) (fun c1 => ?_) (fun c1 => ?_)
  · rw [if_neg c1] at hm
    refine zr_iload_n E dX7_change_17 2 rfl ?_
    refine zr_iconst (v := 2) E dX7_change_18 (by decide) ?_
    refine zr_icmp_ne (tgt := 33) E dX7_change_19 (by decide) (fun c2 => ?_) (fun c2 => ?_)
    · rw [if_neg c2] at hm
      refine zr_iconst (v := 0) E dX7_change_33 (by decide) ?_
      refine zr_sub (lv' := [(0, .ref (zw_ad P 57)), (1, .int x1), (2, .int x2), (3, .int x3)]) [0, 1, 2, 3] rfl ?_
      exact t_X7_change_34 E hr σ x1 x2 x3 0 hm
    · rw [if_pos c2] at hm
      refine zr_iload_n E dX7_change_22 3 rfl ?_
      obtain ⟨r4, s3, os3, hm⟩ := cl_some hm
      refine zr_cSi (st := []) E mw_330 cm_X7_areHands (c_X7_areHands B.2.1 P σ x3) os3 ⟨by decide, by decide⟩ rfl rfl (Nat.le_of_ble_eq_true rfl) dX7_change_23 ?_
      refine zr_if_eq (tgt := 33) E dX7_change_26 (by decide) (fun c5 => ?_) (fun c5 => ?_)
      · rw [if_pos c5] at hm
        refine zr_iconst (v := 0) E dX7_change_33 (by decide) ?_
        refine zr_sub (lv' := [(0, .ref (zw_ad P 57)), (1, .int x1), (2, .int x2), (3, .int x3)]) [0, 1, 2, 3] rfl ?_
        exact t_X7_change_34 E hr s3 x1 x2 x3 0 hm
      · rw [if_neg c5] at hm
        refine zr_iconst (v := 1) E dX7_change_29 (by decide) ?_
        refine zr_goto (tgt := 34) E dX7_change_30 (by decide) ?_
        refine zr_sub (lv' := [(0, .ref (zw_ad P 57)), (1, .int x1), (2, .int x2), (3, .int x3)]) [0, 1, 2, 3] rfl ?_
        exact t_X7_change_34 E hr s3 x1 x2 x3 1 hm
  · rw [if_pos c1] at hm
    refine zr_iload_n E dX7_change_5 3 rfl ?_
    refine zr_i2l E dX7_change_6 ?_
    refine zr_lconst (v := 0) E dX7_change_7 (by decide) ?_
    refine zr_ldc2 E mw_367 dX7_change_8 ?_
    obtain ⟨r7, s6, os6, hm⟩ := cl_some hm
    refine zr_cSi (st := []) E mw_120 cm_X7_in (c_X7_in B.2.1 P σ x3.toInt64 0 39) os6 ⟨by decide, by decide⟩ rfl rfl (Nat.le_of_ble_eq_true rfl) dX7_change_11 ?_
    refine zr_goto (tgt := 34) E dX7_change_14 (by decide) ?_
    refine zr_sub (lv' := [(0, .ref (zw_ad P 57)), (1, .int x1), (2, .int x2), (3, .int x3)]) [0, 1, 2, 3] rfl ?_
    exact t_X7_change_34 E hr s6 x1 x2 x3 r7 hm
-- X7_helps
set_option maxRecDepth 100000 in
set_option maxHeartbeats 4000000 in
theorem t_X7_helps_31 {B : zw_B} {P : zw_P} {r : Int32} {τ : zw_S} (E : zf B P cX7_helps RX7 4 2) (hr : B.2.2.2.2.2.2.2.2.1.sig.returnType = some .int) (σ : zw_S) (x1 : Int32) (x2 : Int32) (y0 : Int32) (hm : m_X7_helps_31 σ x1 x2 y0 = some (r, τ)) : zw_G B P (zq_i B P r τ) 4 σ 31 [(0, .ref (zw_ad P 57)), (1, .int x1), (2, .int x2)] [.int y0] := by
  unfold m_X7_helps_31 at hm
  refine zr_istore_n (lv' := [(3, .int y0), (0, .ref (zw_ad P 57)), (1, .int x1), (2, .int x2)]) E dX7_helps_31 (by decide) rfl ?_
  refine zr_iload_n E dX7_helps_32 0 rfl ?_
  refine zr_if_eq (tgt := 52) E dX7_helps_33 (by decide) (fun c1 => ?_) (fun c1 => ?_)
  · rw [if_pos c1] at hm
    refine zr_aload_n E dX7_helps_52 1 rfl ?_
    refine zr_ldc E mw_115 dX7_helps_53 ?_
    obtain ⟨r3, s2, os2, hm⟩ := cl_some hm
    refine zr_cVi (st := []) E mw_127 cm_X7_finds (c_X7_finds B.2.1 P σ (-1000001)) os2 (rc_57 P) ⟨by decide, by decide⟩ rfl rfl (Nat.le_of_ble_eq_true rfl) dX7_helps_55 ?_
    exact zr_iret E hr rfl hm dX7_helps_58
  · rw [if_neg c1] at hm
    refine zr_aload_n E dX7_helps_36 1 rfl ?_
    refine zr_bipush (v := 100) E dX7_helps_37 (by decide) ?_
    refine zr_iconst (v := 4) E dX7_helps_39 (by decide) ?_
    refine zr_iload_n E dX7_helps_40 2 rfl ?_
    refine zr_imul E dX7_helps_41 ?_
    refine zr_iadd E dX7_helps_42 ?_
    refine zr_iconst (v := 3) E dX7_helps_43 (by decide) ?_
    refine zr_iadd E dX7_helps_44 ?_
    refine zr_iload_n E dX7_helps_45 3 rfl ?_
    obtain ⟨r5, s4, os4, hm⟩ := cl_some hm
    refine zr_cVi (st := []) E mw_123 cm_X7_becomes (c_X7_becomes B.2.1 P σ ((100 + (4 * x1)) + 3) x2) os4 (rc_57 P) ⟨by decide, by decide⟩ rfl rfl (Nat.le_of_ble_eq_true rfl) dX7_helps_46 ?_
    refine zr_goto (tgt := 58) E dX7_helps_49 (by decide) ?_
    exact zr_iret E hr rfl hm dX7_helps_58
set_option maxRecDepth 100000 in
set_option maxHeartbeats 4000000 in
theorem c_X7_helps (l : Launch) (P : zw_P) (σ : zw_S) (x1 : Int32) (x2 : Int32) : zc_i l P yX7_helps cX7_helps 4 .int 2 [.ref (zw_ad P 57), .int x1, .int x2] σ (m_X7_helps σ x1 x2) := by
  refine zc_i.of (by decide) (Nat.le_of_ble_eq_true rfl) (fun B r τ E hl hr hm => ?_)
  subst hl
  refine zr_sub (lv' := [(0, .ref (zw_ad P 57)), (1, .int x1), (2, .int x2)]) [0, 1, 2] rfl ?_
  unfold m_X7_helps at hm
  refine zr_aload_n E dX7_helps_0 0 rfl ?_
  refine zr_iload_n E dX7_helps_1 1 rfl ?_
  obtain ⟨r2, s1, os1, hm⟩ := cl_some hm
  refine zr_cVi (st := []) E mw_355 cm_X7_isPerson (c_X7_isPerson B.2.1 P σ x1) os1 (rc_57 P) ⟨by decide, by decide⟩ rfl rfl (Nat.le_of_ble_eq_true rfl) dX7_helps_2 ?_
  refine zr_if_eq (tgt := 30) E dX7_helps_5 (by decide) (fun c3 => ?_) (fun c3 => ?_)
  · rw [if_pos c3] at hm
    refine zr_iconst (v := 0) E dX7_helps_30 (by decide) ?_
    refine zr_sub (lv' := [(0, .ref (zw_ad P 57)), (1, .int x1), (2, .int x2)]) [0, 1, 2] rfl ?_
    exact t_X7_helps_31 E hr s1 x1 x2 0 hm
  · rw [if_neg c3] at hm
    refine zr_iload_n E dX7_helps_8 2 rfl ?_
    refine zr_iconst (v := (-1)) E dX7_helps_9 (by decide) ?_
    refine zr_icmp_eq (tgt := 26) E dX7_helps_10 (by decide) (fun c4 => ?_) (fun c4 => ?_)
    · rw [if_pos c4] at hm
      refine zr_iconst (v := 1) E dX7_helps_26 (by decide) ?_
      refine zr_goto (tgt := 31) E dX7_helps_27 (by decide) ?_
      refine zr_sub (lv' := [(0, .ref (zw_ad P 57)), (1, .int x1), (2, .int x2)]) [0, 1, 2] rfl ?_
      exact t_X7_helps_31 E hr s1 x1 x2 1 hm
    · rw [if_neg c4] at hm
      refine zr_aload_n E dX7_helps_13 0 rfl ?_
      refine zr_iload_n E dX7_helps_14 2 rfl ?_
      obtain ⟨r6, s5, os5, hm⟩ := cl_some hm
      refine zr_cVi (st := []) E mw_355 cm_X7_isPerson (c_X7_isPerson B.2.1 P s1 x2) os5 (rc_57 P) ⟨by decide, by decide⟩ rfl rfl (Nat.le_of_ble_eq_true rfl) dX7_helps_15 ?_
      refine zr_if_eq (tgt := 30) E dX7_helps_18 (by decide) (fun c7 => ?_) (fun c7 => ?_)
      · rw [if_pos c7] at hm
        refine zr_iconst (v := 0) E dX7_helps_30 (by decide) ?_
        refine zr_sub (lv' := [(0, .ref (zw_ad P 57)), (1, .int x1), (2, .int x2)]) [0, 1, 2] rfl ?_
        exact t_X7_helps_31 E hr s5 x1 x2 0 hm
      · rw [if_neg c7] at hm
        refine zr_iload_n E dX7_helps_21 2 rfl ?_
        refine zr_iload_n E dX7_helps_22 1 rfl ?_
        refine zr_icmp_eq (tgt := 30) E dX7_helps_23 (by decide) (fun c8 => ?_) (fun c8 => ?_)
        · rw [if_pos c8] at hm
          refine zr_iconst (v := 0) E dX7_helps_30 (by decide) ?_
          refine zr_sub (lv' := [(0, .ref (zw_ad P 57)), (1, .int x1), (2, .int x2)]) [0, 1, 2] rfl ?_
          exact t_X7_helps_31 E hr s5 x1 x2 0 hm
        · rw [if_neg c8] at hm
          refine zr_iconst (v := 1) E dX7_helps_26 (by decide) ?_
          refine zr_goto (tgt := 31) E dX7_helps_27 (by decide) ?_
          refine zr_sub (lv' := [(0, .ref (zw_ad P 57)), (1, .int x1), (2, .int x2)]) [0, 1, 2] rfl ?_
          exact t_X7_helps_31 E hr s5 x1 x2 1 hm
-- X7_wrongTake
set_option maxRecDepth 100000 in
set_option maxHeartbeats 4000000 in
theorem t_X7_wrongTake_44 {B : zw_B} {P : zw_P} {r : Int32} {τ : zw_S} (E : zf B P cX7_wrongTake RX7 4 2) (hr : B.2.2.2.2.2.2.2.2.1.sig.returnType = some .int) (σ : zw_S) (x1 : Int32) (hm : m_X7_wrongTake_44 σ x1 = some (r, τ)) : zw_G B P (zq_i B P r τ) 4 σ 44 [(0, .ref (zw_ad P 57)), (1, .int x1)] [] := by
  unfold m_X7_wrongTake_44 at hm
  refine zr_aload_n E dX7_wrongTake_44 0 rfl ?_
  refine zr_iload_n E dX7_wrongTake_45 1 rfl ?_
  refine zr_iconst (v := 1) E dX7_wrongTake_46 (by decide) ?_
  obtain ⟨r2, s1, os1, hm⟩ := cl_some hm
  refine zr_cVi (st := []) E mw_289 cm_X7_person0 (c_X7_person0 B.2.1 P σ x1 1) os1 (rc_57 P) ⟨by decide, by decide⟩ rfl rfl (Nat.le_of_ble_eq_true rfl) dX7_wrongTake_47 ?_
  refine zr_bipush (v := 40) E dX7_wrongTake_50 (by decide) ?_
  refine zr_icmp_ne (tgt := 60) E dX7_wrongTake_52 (by decide) (fun c3 => ?_) (fun c3 => ?_)
  · rw [if_neg c3] at hm
    refine zr_iconst (v := 0) E dX7_wrongTake_60 (by decide) ?_
    exact zr_iret E hr rfl hm dX7_wrongTake_61
  · rw [if_pos c3] at hm
    refine zr_ldc E mw_394 dX7_wrongTake_55 ?_
    refine zr_goto (tgt := 61) E dX7_wrongTake_57 (by decide) ?_
    exact zr_iret E hr rfl hm dX7_wrongTake_61
set_option maxRecDepth 100000 in
set_option maxHeartbeats 4000000 in
theorem t_X7_wrongTake_23 {B : zw_B} {P : zw_P} {r : Int32} {τ : zw_S} (E : zf B P cX7_wrongTake RX7 4 2) (hr : B.2.2.2.2.2.2.2.2.1.sig.returnType = some .int) (σ : zw_S) (x1 : Int32) (x2 : Int32) (hm : m_X7_wrongTake_23 σ x1 x2 = some (r, τ)) : zw_G B P (zq_i B P r τ) 4 σ 23 [(0, .ref (zw_ad P 57)), (1, .int x1), (2, .int x2)] [] := by
  unfold m_X7_wrongTake_23 at hm
  refine zr_iload_n E dX7_wrongTake_23 2 rfl ?_
  refine zr_if_ge (tgt := 29) E dX7_wrongTake_24 (by decide) (fun c1 => ?_) (fun c1 => ?_)
  · rw [if_pos c1] at hm
    refine zr_aload_n E dX7_wrongTake_29 0 rfl ?_
    refine zr_iload_n E dX7_wrongTake_30 2 rfl ?_
    obtain ⟨r3, s2, os2, hm⟩ := cl_some hm
    refine zr_cVi (st := []) E mw_285 cm_X7_bearer (c_X7_bearer B.2.1 P σ x2) os2 (rc_57 P) ⟨by decide, by decide⟩ rfl rfl (Nat.le_of_ble_eq_true rfl) dX7_wrongTake_31 ?_
    refine zr_istore_n (lv' := [(3, .int r3), (0, .ref (zw_ad P 57)), (1, .int x1), (2, .int x2)]) E dX7_wrongTake_34 (by decide) rfl ?_
    refine zr_iload_n E dX7_wrongTake_35 0 rfl ?_
    refine zr_if_lt (tgt := 44) E dX7_wrongTake_36 (by decide) (fun c4 => ?_) (fun c4 => ?_)
    · rw [if_pos c4] at hm
      refine zr_sub (lv' := [(0, .ref (zw_ad P 57)), (1, .int x1)]) [1, 2] rfl ?_
      exact t_X7_wrongTake_44 E hr s2 x1 hm
    · rw [if_neg c4] at hm
      refine zr_iload_n E dX7_wrongTake_39 0 rfl ?_
      refine zr_iload_n E dX7_wrongTake_40 2 rfl ?_
      refine zr_icmp_ne (tgt := 55) E dX7_wrongTake_41 (by decide) (fun c5 => ?_) (fun c5 => ?_)
      · rw [if_neg c5] at hm
        refine zr_ldc E mw_394 dX7_wrongTake_55 ?_
        refine zr_goto (tgt := 61) E dX7_wrongTake_57 (by decide) ?_
        exact zr_iret E hr rfl hm dX7_wrongTake_61
      · rw [if_pos c5] at hm
        refine zr_sub (lv' := [(0, .ref (zw_ad P 57)), (1, .int x1)]) [1, 2] rfl ?_
        exact t_X7_wrongTake_44 E hr s2 x1 hm
  · rw [if_neg c1] at hm
    refine zr_iconst (v := 0) E dX7_wrongTake_27 (by decide) ?_
    exact zr_iret E hr rfl hm dX7_wrongTake_28
set_option maxRecDepth 100000 in
set_option maxHeartbeats 4000000 in
theorem c_X7_wrongTake (l : Launch) (P : zw_P) (σ : zw_S) (x1 : Int32) (x2 : Int32) : zc_i l P yX7_wrongTake cX7_wrongTake 4 .int 2 [.ref (zw_ad P 57), .int x1, .int x2] σ (m_X7_wrongTake σ x1 x2) := by
  refine zc_i.of (by decide) (Nat.le_of_ble_eq_true rfl) (fun B r τ E hl hr hm => ?_)
  subst hl
  refine zr_sub (lv' := [(0, .ref (zw_ad P 57)), (1, .int x1), (2, .int x2)]) [0, 1, 2] rfl ?_
  unfold m_X7_wrongTake at hm
  refine zr_aload_n E dX7_wrongTake_0 0 rfl ?_
  refine zr_iload_n E dX7_wrongTake_1 1 rfl ?_
  obtain ⟨r2, s1, os1, hm⟩ := cl_some hm
  refine zr_cVi (st := []) E mw_355 cm_X7_isPerson (c_X7_isPerson B.2.1 P σ x1) os1 (rc_57 P) ⟨by decide, by decide⟩ rfl rfl (Nat.le_of_ble_eq_true rfl) dX7_wrongTake_2 ?_
  refine zr_if_eq (tgt := 20) E dX7_wrongTake_5 (by decide) (fun c3 => ?_) (fun c3 => ?_)
  · rw [if_pos c3] at hm
    refine zr_ldc E mw_115 dX7_wrongTake_20 ?_
    exact zr_iret E hr rfl hm dX7_wrongTake_22
  · rw [if_neg c3] at hm
    refine zr_iload_n E dX7_wrongTake_8 2 rfl ?_
    refine zr_iconst (v := (-1)) E dX7_wrongTake_9 (by decide) ?_
    refine zr_icmp_eq (tgt := 23) E dX7_wrongTake_10 (by decide) (fun c4 => ?_) (fun c4 => ?_)
    · rw [if_pos c4] at hm
      refine zr_sub (lv' := [(0, .ref (zw_ad P 57)), (1, .int x1), (2, .int x2)]) [0, 1, 2] rfl ?_
      exact t_X7_wrongTake_23 E hr s1 x1 x2 hm
    · rw [if_neg c4] at hm
      refine zr_iload_n E dX7_wrongTake_13 2 rfl ?_
      obtain ⟨r6, s5, os5, hm⟩ := cl_some hm
      refine zr_cSi (st := []) E mw_116 cm_X7_isName (c_X7_isName B.2.1 P s1 x2) os5 ⟨by decide, by decide⟩ rfl rfl (Nat.le_of_ble_eq_true rfl) dX7_wrongTake_14 ?_
      refine zr_if_ne (tgt := 23) E dX7_wrongTake_17 (by decide) (fun c7 => ?_) (fun c7 => ?_)
      · rw [if_neg c7] at hm
        refine zr_sub (lv' := [(0, .ref (zw_ad P 57)), (1, .int x1), (2, .int x2)]) [0, 1, 2] rfl ?_
        exact t_X7_wrongTake_23 E hr s5 x1 x2 hm
      · rw [if_pos c7] at hm
        refine zr_ldc E mw_115 dX7_wrongTake_20 ?_
        exact zr_iret E hr rfl hm dX7_wrongTake_22
-- X7_take
set_option maxRecDepth 100000 in
set_option maxHeartbeats 4000000 in
theorem c_X7_take (l : Launch) (P : zw_P) (σ : zw_S) (x1 : Int32) (x2 : Int32) : zc_i l P yX7_take cX7_take 4 .int 3 [.ref (zw_ad P 57), .int x1, .int x2] σ (m_X7_take σ x1 x2) := by
  refine zc_i.of (by decide) (Nat.le_of_ble_eq_true rfl) (fun B r τ E hl hr hm => ?_)
  subst hl
  refine zr_sub (lv' := [(0, .ref (zw_ad P 57)), (1, .int x1), (2, .int x2)]) [0, 1, 2] rfl ?_
  unfold m_X7_take at hm
  refine zr_aload_n E dX7_take_0 0 rfl ?_
  refine zr_iload_n E dX7_take_1 1 rfl ?_
  refine zr_iload_n E dX7_take_2 2 rfl ?_
  obtain ⟨r2, s1, os1, hm⟩ := cl_some hm
  refine zr_cVi (st := []) E mw_390 cm_X7_wrongTake (c_X7_wrongTake B.2.1 P σ x1 x2) os1 (rc_57 P) ⟨by decide, by decide⟩ rfl rfl (Nat.le_of_ble_eq_true rfl) dX7_take_3 ?_
  refine zr_istore_n (lv' := [(3, .int r2), (0, .ref (zw_ad P 57)), (1, .int x1), (2, .int x2)]) E dX7_take_6 (by decide) rfl ?_
  refine zr_iload_n E dX7_take_7 0 rfl ?_
  refine zr_if_ge (tgt := 19) E dX7_take_8 (by decide) (fun c3 => ?_) (fun c3 => ?_)
  · rw [if_pos c3] at hm
    refine zr_aload_n E dX7_take_19 1 rfl ?_
    refine zr_bipush (v := 100) E dX7_take_20 (by decide) ?_
    refine zr_iconst (v := 4) E dX7_take_22 (by decide) ?_
    refine zr_iload_n E dX7_take_23 2 rfl ?_
    refine zr_imul E dX7_take_24 ?_
    refine zr_iadd E dX7_take_25 ?_
    refine zr_iload_n E dX7_take_26 3 rfl ?_
    obtain ⟨r5, s4, os4, hm⟩ := cl_some hm
    refine zr_cVi (st := []) E mw_123 cm_X7_becomes (c_X7_becomes B.2.1 P s1 (100 + (4 * x1)) x2) os4 (rc_57 P) ⟨by decide, by decide⟩ rfl rfl (Nat.le_of_ble_eq_true rfl) dX7_take_27 ?_
    exact zr_iret E hr rfl hm dX7_take_30
  · rw [if_neg c3] at hm
    refine zr_aload_n E dX7_take_11 1 rfl ?_
    refine zr_iload_n E dX7_take_12 0 rfl ?_
    obtain ⟨r7, s6, os6, hm⟩ := cl_some hm
    refine zr_cVi (st := []) E mw_127 cm_X7_finds (c_X7_finds B.2.1 P s1 r2) os6 (rc_57 P) ⟨by decide, by decide⟩ rfl rfl (Nat.le_of_ble_eq_true rfl) dX7_take_13 ?_
    refine zr_goto (tgt := 30) E dX7_take_16 (by decide) ?_
    exact zr_iret E hr rfl hm dX7_take_30
-- X7_exchange
set_option maxRecDepth 100000 in
set_option maxHeartbeats 4000000 in
theorem c_X7_exchange (l : Launch) (P : zw_P) (σ : zw_S) (x1 : Int32) (x2 : Int32) : zc_i l P yX7_exchange cX7_exchange 3 .int 2 [.ref (zw_ad P 57), .int x1, .int x2] σ (m_X7_exchange σ x1 x2) := by
  refine zc_i.of (by decide) (Nat.le_of_ble_eq_true rfl) (fun B r τ E hl hr hm => ?_)
  subst hl
  refine zr_sub (lv' := [(0, .ref (zw_ad P 57)), (1, .int x1), (2, .int x2)]) [0, 1, 2] rfl ?_
  unfold m_X7_exchange at hm
  refine zr_aload_n E dX7_exchange_0 0 rfl ?_
  refine zr_iload_n E dX7_exchange_1 1 rfl ?_
  obtain ⟨r2, s1, os1, hm⟩ := cl_some hm
  refine zr_cVi (st := []) E mw_355 cm_X7_isPerson (c_X7_isPerson B.2.1 P σ x1) os1 (rc_57 P) ⟨by decide, by decide⟩ rfl rfl (Nat.le_of_ble_eq_true rfl) dX7_exchange_2 ?_
  refine zr_if_eq (tgt := 21) E dX7_exchange_5 (by decide) (fun c3 => ?_) (fun c3 => ?_)
  · rw [if_pos c3] at hm
    refine zr_aload_n E dX7_exchange_21 0 rfl ?_
    refine zr_ldc E mw_115 dX7_exchange_22 ?_
    obtain ⟨r5, s4, os4, hm⟩ := cl_some hm
    refine zr_cVi (st := []) E mw_127 cm_X7_finds (c_X7_finds B.2.1 P s1 (-1000001)) os4 (rc_57 P) ⟨by decide, by decide⟩ rfl rfl (Nat.le_of_ble_eq_true rfl) dX7_exchange_24 ?_
    exact zr_iret E hr rfl hm dX7_exchange_27
  · rw [if_neg c3] at hm
    refine zr_aload_n E dX7_exchange_8 0 rfl ?_
    refine zr_iload_n E dX7_exchange_9 2 rfl ?_
    obtain ⟨r7, s6, os6, hm⟩ := cl_some hm
    refine zr_cVi (st := []) E mw_355 cm_X7_isPerson (c_X7_isPerson B.2.1 P s1 x2) os6 (rc_57 P) ⟨by decide, by decide⟩ rfl rfl (Nat.le_of_ble_eq_true rfl) dX7_exchange_10 ?_
    refine zr_if_eq (tgt := 21) E dX7_exchange_13 (by decide) (fun c8 => ?_) (fun c8 => ?_)
    · rw [if_pos c8] at hm
      refine zr_aload_n E dX7_exchange_21 0 rfl ?_
      refine zr_ldc E mw_115 dX7_exchange_22 ?_
      obtain ⟨r10, s9, os9, hm⟩ := cl_some hm
      refine zr_cVi (st := []) E mw_127 cm_X7_finds (c_X7_finds B.2.1 P s6 (-1000001)) os9 (rc_57 P) ⟨by decide, by decide⟩ rfl rfl (Nat.le_of_ble_eq_true rfl) dX7_exchange_24 ?_
      exact zr_iret E hr rfl hm dX7_exchange_27
    · rw [if_neg c8] at hm
      refine zr_iload_n E dX7_exchange_16 1 rfl ?_
      refine zr_iload_n E dX7_exchange_17 2 rfl ?_
      refine zr_icmp_ne (tgt := 28) E dX7_exchange_18 (by decide) (fun c11 => ?_) (fun c11 => ?_)
      · rw [if_neg c11] at hm
        refine zr_aload_n E dX7_exchange_28 0 rfl ?_
        refine zr_iload_n E dX7_exchange_29 1 rfl ?_
        refine zr_iconst (v := 1) E dX7_exchange_30 (by decide) ?_
        obtain ⟨r13, s12, os12, hm⟩ := cl_some hm
        refine zr_cVi (st := []) E mw_289 cm_X7_person0 (c_X7_person0 B.2.1 P s6 x1 1) os12 (rc_57 P) ⟨by decide, by decide⟩ rfl rfl (Nat.le_of_ble_eq_true rfl) dX7_exchange_31 ?_
        refine zr_bipush (v := 40) E dX7_exchange_34 (by decide) ?_
        refine zr_icmp_eq (tgt := 50) E dX7_exchange_36 (by decide) (fun c14 => ?_) (fun c14 => ?_)
        · rw [if_pos c14] at hm
          refine zr_aload_n E dX7_exchange_50 0 rfl ?_
          refine zr_ldc E mw_394 dX7_exchange_51 ?_
          obtain ⟨r16, s15, os15, hm⟩ := cl_some hm
          refine zr_cVi (st := []) E mw_127 cm_X7_finds (c_X7_finds B.2.1 P s12 (-1000005)) os15 (rc_57 P) ⟨by decide, by decide⟩ rfl rfl (Nat.le_of_ble_eq_true rfl) dX7_exchange_53 ?_
          exact zr_iret E hr rfl hm dX7_exchange_56
        · rw [if_neg c14] at hm
          refine zr_aload_n E dX7_exchange_39 0 rfl ?_
          refine zr_iload_n E dX7_exchange_40 2 rfl ?_
          refine zr_iconst (v := 1) E dX7_exchange_41 (by decide) ?_
          obtain ⟨r18, s17, os17, hm⟩ := cl_some hm
          refine zr_cVi (st := []) E mw_289 cm_X7_person0 (c_X7_person0 B.2.1 P s12 x2 1) os17 (rc_57 P) ⟨by decide, by decide⟩ rfl rfl (Nat.le_of_ble_eq_true rfl) dX7_exchange_42 ?_
          refine zr_bipush (v := 40) E dX7_exchange_45 (by decide) ?_
          refine zr_icmp_ne (tgt := 57) E dX7_exchange_47 (by decide) (fun c19 => ?_) (fun c19 => ?_)
          · rw [if_neg c19] at hm
            refine zr_aload_n E dX7_exchange_57 0 rfl ?_
            refine fg_X7_9 E dX7_exchange_58 ?_
            refine zr_bipush (v := 100) E dX7_exchange_61 (by decide) ?_
            refine zr_iconst (v := 4) E dX7_exchange_63 (by decide) ?_
            refine zr_iload_n E dX7_exchange_64 2 rfl ?_
            refine zr_imul E dX7_exchange_65 ?_
            refine zr_iadd E dX7_exchange_66 ?_
            refine zr_aload_n E dX7_exchange_67 0 rfl ?_
            refine zr_bipush (v := 100) E dX7_exchange_68 (by decide) ?_
            refine zr_iconst (v := 4) E dX7_exchange_70 (by decide) ?_
            refine zr_iload_n E dX7_exchange_71 1 rfl ?_
            refine zr_imul E dX7_exchange_72 ?_
            refine zr_iadd E dX7_exchange_73 ?_
            refine zr_aload_n E dX7_exchange_74 0 rfl ?_
            refine zr_iload_n E dX7_exchange_75 2 rfl ?_
            refine zr_iconst (v := 0) E dX7_exchange_76 (by decide) ?_
            obtain ⟨r21, s20, os20, hm⟩ := cl_some hm
            refine zr_cVi (st := [.int (100 + (4 * x1)), .ref (zw_ad P 57), .int (100 + (4 * x2)), .ref (zw_ad P 58)]) E mw_289 cm_X7_person0 (c_X7_person0 B.2.1 P s17 x2 0) os20 (rc_57 P) ⟨by decide, by decide⟩ rfl rfl (Nat.le_of_ble_eq_true rfl) dX7_exchange_77 ?_
            obtain ⟨r23, s22, os22, hm⟩ := cl_some hm
            refine zr_cVi (st := [.int (100 + (4 * x2)), .ref (zw_ad P 58)]) E mw_123 cm_X7_becomes (c_X7_becomes B.2.1 P s20 (100 + (4 * x1)) r21) os22 (rc_57 P) ⟨by decide, by decide⟩ rfl rfl (Nat.le_of_ble_eq_true rfl) dX7_exchange_80 ?_
            obtain ⟨hs24, s24, es24, hm⟩ := wt_some hm
            refine zr_iast E ac_58 hs24 es24 dX7_exchange_83 ?_
            refine zr_iconst (v := 1) E dX7_exchange_84 (by decide) ?_
            exact zr_iret E hr rfl hm dX7_exchange_85
          · rw [if_pos c19] at hm
            refine zr_aload_n E dX7_exchange_50 0 rfl ?_
            refine zr_ldc E mw_394 dX7_exchange_51 ?_
            obtain ⟨r26, s25, os25, hm⟩ := cl_some hm
            refine zr_cVi (st := []) E mw_127 cm_X7_finds (c_X7_finds B.2.1 P s17 (-1000005)) os25 (rc_57 P) ⟨by decide, by decide⟩ rfl rfl (Nat.le_of_ble_eq_true rfl) dX7_exchange_53 ?_
            exact zr_iret E hr rfl hm dX7_exchange_56
      · rw [if_pos c11] at hm
        refine zr_aload_n E dX7_exchange_21 0 rfl ?_
        refine zr_ldc E mw_115 dX7_exchange_22 ?_
        obtain ⟨r28, s27, os27, hm⟩ := cl_some hm
        refine zr_cVi (st := []) E mw_127 cm_X7_finds (c_X7_finds B.2.1 P s6 (-1000001)) os27 (rc_57 P) ⟨by decide, by decide⟩ rfl rfl (Nat.le_of_ble_eq_true rfl) dX7_exchange_24 ?_
        exact zr_iret E hr rfl hm dX7_exchange_27
-- X7_draw
set_option maxRecDepth 100000 in
set_option maxHeartbeats 4000000 in
theorem c_X7_draw (l : Launch) (P : zw_P) (σ : zw_S) : zc_i l P yX7_draw cX7_draw 1 .int 0 [.ref (zw_ad P 57)] σ (m_X7_draw σ) := by
  refine zc_i.of (by decide) (Nat.le_of_ble_eq_true rfl) (fun B r τ E hl hr hm => ?_)
  subst hl
  refine zr_sub (lv' := [(0, .ref (zw_ad P 57))]) [0] rfl ?_
  unfold m_X7_draw at hm
  refine zr_aload_n E dX7_draw_0 0 rfl ?_
  refine fg_X7_9 E dX7_draw_1 ?_
  refine zr_iconst (v := 1) E dX7_draw_4 (by decide) ?_
  refine zr_aload_n E dX7_draw_5 0 rfl ?_
  refine fg_X7_9 E dX7_draw_6 ?_
  refine zr_iconst (v := 1) E dX7_draw_9 (by decide) ?_
  obtain ⟨hv1, v1, ev1, hm⟩ := rd_some hm
  refine zr_iald E ac_58 hv1 ev1 dX7_draw_10 ?_
  refine zr_ldc E mw_421 dX7_draw_11 ?_
  refine zr_imul E dX7_draw_13 ?_
  refine zr_sipush (v := 12345) E dX7_draw_14 (by decide) ?_
  refine zr_iadd E dX7_draw_17 ?_
  obtain ⟨hs2, s2, es2, hm⟩ := wt_some hm
  refine zr_iast E ac_58 hs2 es2 dX7_draw_18 ?_
  refine zr_aload_n E dX7_draw_19 0 rfl ?_
  refine fg_X7_9 E dX7_draw_20 ?_
  refine zr_iconst (v := 1) E dX7_draw_23 (by decide) ?_
  obtain ⟨hv3, v3, ev3, hm⟩ := rd_some hm
  refine zr_iald E ac_58 hv3 ev3 dX7_draw_24 ?_
  refine zr_bipush (v := 8) E dX7_draw_25 (by decide) ?_
  refine zr_iushr E dX7_draw_27 ?_
  exact zr_iret E hr rfl hm dX7_draw_28
-- X7_born
set_option maxRecDepth 100000 in
set_option maxHeartbeats 4000000 in
theorem t_X7_born_58 {B : zw_B} {P : zw_P} {r : Int32} {τ : zw_S} (E : zf B P cX7_born RX7 3 1) (hr : B.2.2.2.2.2.2.2.2.1.sig.returnType = some .int) (σ : zw_S) (hm : m_X7_born_58 σ = some (r, τ)) : zw_G B P (zq_i B P r τ) 3 σ 58 [(0, .ref (zw_ad P 57))] [] := by
  unfold m_X7_born_58 at hm
  refine zr_aload_n E dX7_born_58 0 rfl ?_
  refine fg_X7_9 E dX7_born_59 ?_
  refine zr_iconst (v := 3) E dX7_born_62 (by decide) ?_
  obtain ⟨hv1, v1, ev1, hm⟩ := rd_some hm
  refine zr_iald E ac_58 hv1 ev1 dX7_born_63 ?_
  exact zr_iret E hr rfl hm dX7_born_64
set_option maxRecDepth 100000 in
set_option maxHeartbeats 4000000 in
theorem t_X7_born_21 {B : zw_B} {P : zw_P} {r : Int32} {τ : zw_S} (E : zf B P cX7_born RX7 3 1) (hr : B.2.2.2.2.2.2.2.2.1.sig.returnType = some .int) : ∀ (n : Nat) (σ : zw_S) (x1 : Int32) (x2 : Int32), m_X7_born_21 n σ x1 x2 = some (r, τ) → zw_G B P (zq_i B P r τ) 3 σ 21 [(0, .ref (zw_ad P 57)), (1, .int x1), (2, .int x2)] [] := by
  intro n
  induction n with
  | zero => intro σ x1 x2 hm; cases hm
  | succ n ih =>
    intro σ x1 x2 hm
    unfold m_X7_born_21 at hm
    refine zr_iload_n E dX7_born_21 2 rfl ?_
    refine zr_iload_n E dX7_born_22 1 rfl ?_
    refine zr_icmp_ge (tgt := 58) E dX7_born_23 (by decide) (fun c1 => ?_) (fun c1 => ?_)
    · rw [if_pos c1] at hm
      refine zr_sub (lv' := [(0, .ref (zw_ad P 57))]) [0] rfl ?_
      exact t_X7_born_58 E hr σ hm
    · rw [if_neg c1] at hm
      refine zr_aload_n E dX7_born_26 0 rfl ?_
      refine fg_X7_9 E dX7_born_27 ?_
      refine zr_iconst (v := 3) E dX7_born_30 (by decide) ?_
      obtain ⟨hv2, v2, ev2, hm⟩ := rd_some hm
      refine zr_iald E ac_58 hv2 ev2 dX7_born_31 ?_
      refine zr_bipush (v := 8) E dX7_born_32 (by decide) ?_
      refine zr_icmp_ge (tgt := 58) E dX7_born_34 (by decide) (fun c3 => ?_) (fun c3 => ?_)
      · rw [if_pos c3] at hm
        refine zr_sub (lv' := [(0, .ref (zw_ad P 57))]) [0] rfl ?_
        exact t_X7_born_58 E hr σ hm
      · rw [if_neg c3] at hm
        refine zr_aload_n E dX7_born_37 0 rfl ?_
        refine zr_aload_n E dX7_born_38 0 rfl ?_
        obtain ⟨r5, s4, os4, hm⟩ := cl_some hm
        refine zr_cVi (st := [.ref (zw_ad P 57)]) E mw_417 cm_X7_draw (c_X7_draw B.2.1 P σ) os4 (rc_57 P) ⟨by decide, by decide⟩ rfl rfl (Nat.le_of_ble_eq_true rfl) dX7_born_39 ?_
        refine zr_bipush (v := 9) E dX7_born_42 (by decide) ?_
        refine zr_irem E dX7_born_44 (by decide) ?_
        refine zr_iconst (v := 1) E dX7_born_45 (by decide) ?_
        refine zr_iadd E dX7_born_46 ?_
        refine zr_iconst (v := 0) E dX7_born_47 (by decide) ?_
        refine zr_iconst (v := (-1)) E dX7_born_48 (by decide) ?_
        obtain ⟨s6, os6, hm⟩ := cv_some hm
        refine zr_cVv (st := []) E mw_334 cm_X7_isBorn (c_X7_isBorn B.2.1 P s4 ((r5 - r5 / 9 * 9) + 1) 0 (-1)) os6 (rc_57 P) ⟨by decide, by decide⟩ rfl rfl (Nat.le_of_ble_eq_true rfl) dX7_born_49 ?_
        obtain ⟨v7, ev7, hm⟩ := nm_some hm
        refine zr_iinc (j := 2) (lv' := [(2, .int v7), (0, .ref (zw_ad P 57)), (1, .int x1)]) E dX7_born_52 rfl ev7 (by decide) rfl ?_
        refine zr_goto (tgt := 21) E dX7_born_55 (by decide) ?_
        refine zr_sub (lv' := [(0, .ref (zw_ad P 57)), (1, .int x1), (2, .int v7)]) [1, 2, 0] rfl ?_
        exact ih s6 x1 v7 hm
set_option maxRecDepth 100000 in
set_option maxHeartbeats 4000000 in
theorem c_X7_born (l : Launch) (P : zw_P) (σ : zw_S) (x1 : Int32) : zc_i l P yX7_born cX7_born 3 .int 1 [.ref (zw_ad P 57), .int x1] σ (m_X7_born σ x1) := by
  refine zc_i.of (by decide) (Nat.le_of_ble_eq_true rfl) (fun B r τ E hl hr hm => ?_)
  subst hl
  refine zr_sub (lv' := [(0, .ref (zw_ad P 57)), (1, .int x1)]) [0, 1] rfl ?_
  unfold m_X7_born at hm
  refine zr_iload_n E dX7_born_0 1 rfl ?_
  refine zr_i2l E dX7_born_1 ?_
  refine zr_lconst (v := 1) E dX7_born_2 (by decide) ?_
  refine zr_ldc2 E mw_416 dX7_born_3 ?_
  obtain ⟨r2, s1, os1, hm⟩ := cl_some hm
  refine zr_cSi (st := []) E mw_120 cm_X7_in (c_X7_in B.2.1 P σ x1.toInt64 1 8) os1 ⟨by decide, by decide⟩ rfl rfl (Nat.le_of_ble_eq_true rfl) dX7_born_6 ?_
  refine zr_if_ne (tgt := 19) E dX7_born_9 (by decide) (fun c3 => ?_) (fun c3 => ?_)
  · rw [if_neg c3] at hm
    refine zr_iconst (v := 0) E dX7_born_19 (by decide) ?_
    refine zr_istore_n (lv' := [(2, .int 0), (0, .ref (zw_ad P 57)), (1, .int x1)]) E dX7_born_20 (by decide) rfl ?_
    refine zr_sub (lv' := [(0, .ref (zw_ad P 57)), (1, .int x1), (2, .int 0)]) [1, 2, 0] rfl ?_
    exact t_X7_born_21 E hr 200 s1 x1 0 hm
  · rw [if_pos c3] at hm
    refine zr_aload_n E dX7_born_12 0 rfl ?_
    refine zr_ldc E mw_115 dX7_born_13 ?_
    obtain ⟨r5, s4, os4, hm⟩ := cl_some hm
    refine zr_cVi (st := []) E mw_127 cm_X7_finds (c_X7_finds B.2.1 P s1 (-1000001)) os4 (rc_57 P) ⟨by decide, by decide⟩ rfl rfl (Nat.le_of_ble_eq_true rfl) dX7_born_15 ?_
    exact zr_iret E hr rfl hm dX7_born_18
-- X7_isBorneThere
set_option maxRecDepth 100000 in
set_option maxHeartbeats 4000000 in
theorem c_X7_isBorneThere (l : Launch) (P : zw_P) (σ : zw_S) (x1 : Int32) : zc_i l P yX7_isBorneThere cX7_isBorneThere 3 .boolean 2 [.ref (zw_ad P 57), .int x1] σ (m_X7_isBorneThere σ x1) := by
  refine zc_i.of (by decide) (Nat.le_of_ble_eq_true rfl) (fun B r τ E hl hr hm => ?_)
  subst hl
  refine zr_sub (lv' := [(0, .ref (zw_ad P 57)), (1, .int x1)]) [0, 1] rfl ?_
  unfold m_X7_isBorneThere at hm
  refine zr_aload_n E dX7_isBorneThere_0 0 rfl ?_
  refine zr_iload_n E dX7_isBorneThere_1 1 rfl ?_
  refine zr_iconst (v := 3) E dX7_isBorneThere_2 (by decide) ?_
  obtain ⟨r2, s1, os1, hm⟩ := cl_some hm
  refine zr_cVi (st := []) E mw_199 cm_X7_task0 (c_X7_task0 B.2.1 P σ x1 3) os1 (rc_57 P) ⟨by decide, by decide⟩ rfl rfl (Nat.le_of_ble_eq_true rfl) dX7_isBorneThere_3 ?_
  refine zr_istore_n (lv' := [(2, .int r2), (0, .ref (zw_ad P 57)), (1, .int x1)]) E dX7_isBorneThere_6 (by decide) rfl ?_
  refine zr_iload_n E dX7_isBorneThere_7 0 rfl ?_
  refine zr_if_lt (tgt := 24) E dX7_isBorneThere_8 (by decide) (fun c3 => ?_) (fun c3 => ?_)
  · rw [if_pos c3] at hm
    refine zr_iconst (v := 1) E dX7_isBorneThere_24 (by decide) ?_
    refine zr_goto (tgt := 29) E dX7_isBorneThere_25 (by decide) ?_
    exact zr_iret E hr (by decide) hm dX7_isBorneThere_29
  · rw [if_neg c3] at hm
    refine zr_aload_n E dX7_isBorneThere_11 1 rfl ?_
    refine zr_aload_n E dX7_isBorneThere_12 1 rfl ?_
    refine zr_iload_n E dX7_isBorneThere_13 0 rfl ?_
    refine zr_iconst (v := 1) E dX7_isBorneThere_14 (by decide) ?_
    obtain ⟨r5, s4, os4, hm⟩ := cl_some hm
    refine zr_cVi (st := [.ref (zw_ad P 57)]) E mw_199 cm_X7_task0 (c_X7_task0 B.2.1 P s1 r2 1) os4 (rc_57 P) ⟨by decide, by decide⟩ rfl rfl (Nat.le_of_ble_eq_true rfl) dX7_isBorneThere_15 ?_
    obtain ⟨r7, s6, os6, hm⟩ := cl_some hm
    refine zr_cVi (st := []) E mw_285 cm_X7_bearer (c_X7_bearer B.2.1 P s4 r5) os6 (rc_57 P) ⟨by decide, by decide⟩ rfl rfl (Nat.le_of_ble_eq_true rfl) dX7_isBorneThere_18 ?_
    refine zr_if_lt (tgt := 28) E dX7_isBorneThere_21 (by decide) (fun c8 => ?_) (fun c8 => ?_)
    · rw [if_pos c8] at hm
      refine zr_iconst (v := 0) E dX7_isBorneThere_28 (by decide) ?_
      exact zr_iret E hr (by decide) hm dX7_isBorneThere_29
    · rw [if_neg c8] at hm
      refine zr_iconst (v := 1) E dX7_isBorneThere_24 (by decide) ?_
      refine zr_goto (tgt := 29) E dX7_isBorneThere_25 (by decide) ?_
      exact zr_iret E hr (by decide) hm dX7_isBorneThere_29
-- X7_work
set_option maxRecDepth 100000 in
set_option maxHeartbeats 4000000 in
theorem t_X7_work_19 {B : zw_B} {P : zw_P} {r : Int32} {τ : zw_S} (E : zf B P cX7_work RX7 4 3) (hr : B.2.2.2.2.2.2.2.2.1.sig.returnType = some .int) (σ : zw_S) (x1 : Int32) (x2 : Int32) (y0 : Int32) (hm : m_X7_work_19 σ x1 x2 y0 = some (r, τ)) : zw_G B P (zq_i B P r τ) 4 σ 19 [(0, .ref (zw_ad P 57)), (1, .int x1), (2, .int x2)] [.int y0] := by
  unfold m_X7_work_19 at hm
  refine zr_istore_n (lv' := [(3, .int y0), (0, .ref (zw_ad P 57)), (1, .int x1), (2, .int x2)]) E dX7_work_19 (by decide) rfl ?_
  refine zr_aload_n E dX7_work_20 1 rfl ?_
  refine zr_iload_n E dX7_work_21 2 rfl ?_
  refine zr_iconst (v := 0) E dX7_work_22 (by decide) ?_
  obtain ⟨r2, s1, os1, hm⟩ := cl_some hm
  refine zr_cVi (st := []) E mw_199 cm_X7_task0 (c_X7_task0 B.2.1 P σ x1 0) os1 (rc_57 P) ⟨by decide, by decide⟩ rfl rfl (Nat.le_of_ble_eq_true rfl) dX7_work_23 ?_
  by_cases c3 : r2 = 1
  · rw [if_pos c3] at hm
    refine zr_tabIn (tgt := 64) E dX7_work_26 c3 (by decide) (by decide) rfl (by decide) ?_
    refine zr_iload_n E dX7_work_64 0 rfl ?_
    exact zr_iret E hr rfl hm dX7_work_65
  · rw [if_neg c3] at hm
    by_cases c4 : r2 = 2
    · rw [if_pos c4] at hm
      refine zr_tabIn (tgt := 103) E dX7_work_26 c4 (by decide) (by decide) rfl (by decide) ?_
      refine zr_iload_n E dX7_work_103 3 rfl ?_
      exact zr_iret E hr rfl hm dX7_work_104
    · rw [if_neg c4] at hm
      by_cases c5 : r2 = 3
      · rw [if_pos c5] at hm
        refine zr_tabIn (tgt := 89) E dX7_work_26 c5 (by decide) (by decide) rfl (by decide) ?_
        refine zr_aload_n E dX7_work_89 1 rfl ?_
        refine zr_iload_n E dX7_work_90 2 rfl ?_
        obtain ⟨r7, s6, os6, hm⟩ := cl_some hm
        refine zr_cVi (st := []) E mw_527 cm_X7_isBorneThere (c_X7_isBorneThere B.2.1 P s1 x1) os6 (rc_57 P) ⟨by decide, by decide⟩ rfl rfl (Nat.le_of_ble_eq_true rfl) dX7_work_91 ?_
        refine zr_if_eq (tgt := 101) E dX7_work_94 (by decide) (fun c8 => ?_) (fun c8 => ?_)
        · rw [if_pos c8] at hm
          refine zr_iconst (v := 0) E dX7_work_101 (by decide) ?_
          exact zr_iret E hr rfl hm dX7_work_102
        · rw [if_neg c8] at hm
          refine zr_iload_n E dX7_work_97 3 rfl ?_
          refine zr_goto (tgt := 102) E dX7_work_98 (by decide) ?_
          exact zr_iret E hr rfl hm dX7_work_102
      · rw [if_neg c5] at hm
        by_cases c9 : r2 = 4
        · rw [if_pos c9] at hm
          refine zr_tabIn (tgt := 79) E dX7_work_26 c9 (by decide) (by decide) rfl (by decide) ?_
          refine zr_iconst (v := 2) E dX7_work_79 (by decide) ?_
          refine zr_iload_n E dX7_work_80 3 rfl ?_
          refine zr_imul E dX7_work_81 ?_
          exact zr_iret E hr rfl hm dX7_work_82
        · rw [if_neg c9] at hm
          by_cases c10 : r2 = 5
          · rw [if_pos c10] at hm
            refine zr_tabIn (tgt := 83) E dX7_work_26 c10 (by decide) (by decide) rfl (by decide) ?_
            refine zr_iconst (v := 2) E dX7_work_83 (by decide) ?_
            refine zr_iload_n E dX7_work_84 3 rfl ?_
            refine zr_imul E dX7_work_85 ?_
            refine zr_iconst (v := 1) E dX7_work_86 (by decide) ?_
            refine zr_iadd E dX7_work_87 ?_
            exact zr_iret E hr rfl hm dX7_work_88
          · rw [if_neg c10] at hm
            by_cases c11 : r2 = 6
            · rw [if_pos c11] at hm
              refine zr_tabIn (tgt := 66) E dX7_work_26 c11 (by decide) (by decide) rfl (by decide) ?_
              refine zr_iload_n E dX7_work_66 0 rfl ?_
              refine zr_iconst (v := 1) E dX7_work_67 (by decide) ?_
              refine zr_icmp_ge (tgt := 75) E dX7_work_68 (by decide) (fun c12 => ?_) (fun c12 => ?_)
              · rw [if_pos c12] at hm
                refine zr_iload_n E dX7_work_75 0 rfl ?_
                refine zr_iconst (v := 1) E dX7_work_76 (by decide) ?_
                refine zr_isub E dX7_work_77 ?_
                exact zr_iret E hr rfl hm dX7_work_78
              · rw [if_neg c12] at hm
                refine zr_iconst (v := 0) E dX7_work_71 (by decide) ?_
                refine zr_goto (tgt := 78) E dX7_work_72 (by decide) ?_
                exact zr_iret E hr rfl hm dX7_work_78
            · rw [if_neg c11] at hm
              refine zr_tabOut (tgt := 103) E dX7_work_26 (sw_out (1) 6 (by decide) (by decide) (fun j hj => by match j, hj with | 0, _ => exact c3 | 1, _ => exact c4 | 2, _ => exact c5 | 3, _ => exact c9 | 4, _ => exact c10 | 5, _ => exact c11 | (j + 6), hj => exact absurd hj (by omega)) _ (by decide)) (by decide) ?_
              refine zr_iload_n E dX7_work_103 3 rfl ?_
              exact zr_iret E hr rfl hm dX7_work_104
set_option maxRecDepth 100000 in
set_option maxHeartbeats 4000000 in
theorem c_X7_work (l : Launch) (P : zw_P) (σ : zw_S) (x1 : Int32) (x2 : Int32) : zc_i l P yX7_work cX7_work 4 .int 3 [.ref (zw_ad P 57), .int x1, .int x2] σ (m_X7_work σ x1 x2) := by
  refine zc_i.of (by decide) (Nat.le_of_ble_eq_true rfl) (fun B r τ E hl hr hm => ?_)
  subst hl
  refine zr_sub (lv' := [(0, .ref (zw_ad P 57)), (1, .int x1), (2, .int x2)]) [0, 1, 2] rfl ?_
  unfold m_X7_work at hm
  refine zr_aload_n E dX7_work_0 0 rfl ?_
  refine fg_X7_9 E dX7_work_1 ?_
  refine zr_iconst (v := 0) E dX7_work_4 (by decide) ?_
  obtain ⟨hv1, v1, ev1, hm⟩ := rd_some hm
  refine zr_iald E ac_58 hv1 ev1 dX7_work_5 ?_
  refine zr_iconst (v := 2) E dX7_work_6 (by decide) ?_
  refine zr_irem E dX7_work_7 (by decide) ?_
  refine zr_iconst (v := 1) E dX7_work_8 (by decide) ?_
  refine zr_icmp_ne (tgt := 18) E dX7_work_9 (by decide) (fun c2 => ?_) (fun c2 => ?_)
  · rw [if_neg c2] at hm
    refine zr_iload_n E dX7_work_18 2 rfl ?_
    refine zr_sub (lv' := [(0, .ref (zw_ad P 57)), (1, .int x1), (2, .int x2)]) [0, 1, 2] rfl ?_
    exact t_X7_work_19 E hr σ x1 x2 x2 hm
  · rw [if_pos c2] at hm
    refine zr_iload_n E dX7_work_12 2 rfl ?_
    refine zr_iconst (v := 2) E dX7_work_13 (by decide) ?_
    refine zr_idiv E dX7_work_14 (by decide) ?_
    refine zr_goto (tgt := 19) E dX7_work_15 (by decide) ?_
    refine zr_sub (lv' := [(0, .ref (zw_ad P 57)), (1, .int x1), (2, .int x2)]) [0, 1, 2] rfl ?_
    exact t_X7_work_19 E hr σ x1 x2 (x2 / 2) hm
-- X7_does
set_option maxRecDepth 100000 in
set_option maxHeartbeats 4000000 in
theorem c_X7_does (l : Launch) (P : zw_P) (σ : zw_S) (x1 : Int32) (x2 : Int32) : zc_v l P yX7_does cX7_does 4 4 [.ref (zw_ad P 57), .int x1, .int x2] σ (m_X7_does σ x1 x2) := by
  refine zc_v.of (by decide) (Nat.le_of_ble_eq_true rfl) (fun B τ E hl hr hm => ?_)
  subst hl
  refine zr_sub (lv' := [(0, .ref (zw_ad P 57)), (1, .int x1), (2, .int x2)]) [0, 1, 2] rfl ?_
  unfold m_X7_does at hm
  refine zr_aload_n E dX7_does_0 0 rfl ?_
  refine zr_iload_n E dX7_does_1 1 rfl ?_
  obtain ⟨r2, s1, os1, hm⟩ := cl_some hm
  refine zr_cVi (st := []) E mw_297 cm_X7_atHand (c_X7_atHand B.2.1 P σ x1) os1 (rc_57 P) ⟨by decide, by decide⟩ rfl rfl (Nat.le_of_ble_eq_true rfl) dX7_does_2 ?_
  refine zr_istore_n (lv' := [(3, .int r2), (0, .ref (zw_ad P 57)), (1, .int x1), (2, .int x2)]) E dX7_does_5 (by decide) rfl ?_
  refine zr_iload_n E dX7_does_6 0 rfl ?_
  refine zr_if_lt (tgt := 39) E dX7_does_7 (by decide) (fun c3 => ?_) (fun c3 => ?_)
  · rw [if_pos c3] at hm
    exact zr_vret E hr hm dX7_does_39
  · rw [if_neg c3] at hm
    refine zr_aload_n E dX7_does_10 1 rfl ?_
    refine fg_X7_9 E dX7_does_11 ?_
    refine zr_bipush (v := 20) E dX7_does_14 (by decide) ?_
    refine zr_iconst (v := 4) E dX7_does_16 (by decide) ?_
    refine zr_iload_n E dX7_does_17 0 rfl ?_
    refine zr_imul E dX7_does_18 ?_
    refine zr_iadd E dX7_does_19 ?_
    refine zr_iconst (v := 2) E dX7_does_20 (by decide) ?_
    refine zr_iadd E dX7_does_21 ?_
    refine zr_aload_n E dX7_does_22 1 rfl ?_
    refine zr_iload_n E dX7_does_23 0 rfl ?_
    refine zr_iconst (v := 2) E dX7_does_24 (by decide) ?_
    obtain ⟨r5, s4, os4, hm⟩ := cl_some hm
    refine zr_cVi (st := [.int ((20 + (4 * r2)) + 2), .ref (zw_ad P 58)]) E mw_199 cm_X7_task0 (c_X7_task0 B.2.1 P s1 r2 2) os4 (rc_57 P) ⟨by decide, by decide⟩ rfl rfl (Nat.le_of_ble_eq_true rfl) dX7_does_25 ?_
    refine zr_aload_n E dX7_does_28 1 rfl ?_
    refine zr_iload_n E dX7_does_29 0 rfl ?_
    refine zr_iload_n E dX7_does_30 3 rfl ?_
    obtain ⟨r7, s6, os6, hm⟩ := cl_some hm
    refine zr_cVi (st := [.int r5, .int ((20 + (4 * r2)) + 2), .ref (zw_ad P 58)]) E mw_523 cm_X7_work (c_X7_work B.2.1 P s4 r2 x2) os6 (rc_57 P) ⟨by decide, by decide⟩ rfl rfl (Nat.le_of_ble_eq_true rfl) dX7_does_31 ?_
    refine zr_isub E dX7_does_34 ?_
    obtain ⟨r9, s8, os8, hm⟩ := cl_some hm
    refine zr_cSi (st := [.int ((20 + (4 * r2)) + 2), .ref (zw_ad P 58)]) E mw_531 cm_X7_held (c_X7_held B.2.1 P s6 (r5 - r7)) os8 ⟨by decide, by decide⟩ rfl rfl (Nat.le_of_ble_eq_true rfl) dX7_does_35 ?_
    obtain ⟨hs10, s10, es10, hm⟩ := wt_some hm
    refine zr_iast E ac_58 hs10 es10 dX7_does_38 ?_
    exact zr_vret E hr hm dX7_does_39
-- X7_isFree
set_option maxRecDepth 100000 in
set_option maxHeartbeats 4000000 in
theorem c_X7_isFree (l : Launch) (P : zw_P) (σ : zw_S) (x1 : Int32) : zc_i l P yX7_isFree cX7_isFree 3 .boolean 4 [.ref (zw_ad P 57), .int x1] σ (m_X7_isFree σ x1) := by
  refine zc_i.of (by decide) (Nat.le_of_ble_eq_true rfl) (fun B r τ E hl hr hm => ?_)
  subst hl
  refine zr_sub (lv' := [(0, .ref (zw_ad P 57)), (1, .int x1)]) [0, 1] rfl ?_
  unfold m_X7_isFree at hm
  refine zr_aload_n E dX7_isFree_0 0 rfl ?_
  refine zr_iload_n E dX7_isFree_1 1 rfl ?_
  refine zr_iconst (v := 0) E dX7_isFree_2 (by decide) ?_
  obtain ⟨r2, s1, os1, hm⟩ := cl_some hm
  refine zr_cVi (st := []) E mw_289 cm_X7_person0 (c_X7_person0 B.2.1 P σ x1 0) os1 (rc_57 P) ⟨by decide, by decide⟩ rfl rfl (Nat.le_of_ble_eq_true rfl) dX7_isFree_3 ?_
  refine zr_istore_n (lv' := [(2, .int r2), (0, .ref (zw_ad P 57)), (1, .int x1)]) E dX7_isFree_6 (by decide) rfl ?_
  refine zr_iload_n E dX7_isFree_7 0 rfl ?_
  refine zr_if_lt (tgt := 19) E dX7_isFree_8 (by decide) (fun c3 => ?_) (fun c3 => ?_)
  · rw [if_pos c3] at hm
    refine zr_iconst (v := 1) E dX7_isFree_19 (by decide) ?_
    refine zr_goto (tgt := 24) E dX7_isFree_20 (by decide) ?_
    exact zr_iret E hr (by decide) hm dX7_isFree_24
  · rw [if_neg c3] at hm
    refine zr_aload_n E dX7_isFree_11 1 rfl ?_
    refine zr_iload_n E dX7_isFree_12 0 rfl ?_
    obtain ⟨r5, s4, os4, hm⟩ := cl_some hm
    refine zr_cVi (st := []) E mw_297 cm_X7_atHand (c_X7_atHand B.2.1 P s1 r2) os4 (rc_57 P) ⟨by decide, by decide⟩ rfl rfl (Nat.le_of_ble_eq_true rfl) dX7_isFree_13 ?_
    refine zr_if_ge (tgt := 23) E dX7_isFree_16 (by decide) (fun c6 => ?_) (fun c6 => ?_)
    · rw [if_pos c6] at hm
      refine zr_iconst (v := 0) E dX7_isFree_23 (by decide) ?_
      exact zr_iret E hr (by decide) hm dX7_isFree_24
    · rw [if_neg c6] at hm
      refine zr_iconst (v := 1) E dX7_isFree_19 (by decide) ?_
      refine zr_goto (tgt := 24) E dX7_isFree_20 (by decide) ?_
      exact zr_iret E hr (by decide) hm dX7_isFree_24
-- X7_helpsNow
set_option maxRecDepth 100000 in
set_option maxHeartbeats 4000000 in
theorem c_X7_helpsNow (l : Launch) (P : zw_P) (σ : zw_S) (x1 : Int32) : zc_v l P yX7_helpsNow cX7_helpsNow 3 5 [.ref (zw_ad P 57), .int x1] σ (m_X7_helpsNow σ x1) := by
  refine zc_v.of (by decide) (Nat.le_of_ble_eq_true rfl) (fun B τ E hl hr hm => ?_)
  subst hl
  refine zr_sub (lv' := [(0, .ref (zw_ad P 57)), (1, .int x1)]) [0, 1] rfl ?_
  unfold m_X7_helpsNow at hm
  refine zr_aload_n E dX7_helpsNow_0 0 rfl ?_
  refine zr_iload_n E dX7_helpsNow_1 1 rfl ?_
  refine zr_iconst (v := 3) E dX7_helpsNow_2 (by decide) ?_
  obtain ⟨r2, s1, os1, hm⟩ := cl_some hm
  refine zr_cVi (st := []) E mw_289 cm_X7_person0 (c_X7_person0 B.2.1 P σ x1 3) os1 (rc_57 P) ⟨by decide, by decide⟩ rfl rfl (Nat.le_of_ble_eq_true rfl) dX7_helpsNow_3 ?_
  refine zr_istore_n (lv' := [(2, .int r2), (0, .ref (zw_ad P 57)), (1, .int x1)]) E dX7_helpsNow_6 (by decide) rfl ?_
  refine zr_iload_n E dX7_helpsNow_7 0 rfl ?_
  refine zr_if_lt (tgt := 28) E dX7_helpsNow_8 (by decide) (fun c3 => ?_) (fun c3 => ?_)
  · rw [if_pos c3] at hm
    exact zr_vret E hr hm dX7_helpsNow_28
  · rw [if_neg c3] at hm
    refine zr_aload_n E dX7_helpsNow_11 1 rfl ?_
    refine zr_iload_n E dX7_helpsNow_12 0 rfl ?_
    refine zr_iconst (v := 0) E dX7_helpsNow_13 (by decide) ?_
    obtain ⟨r5, s4, os4, hm⟩ := cl_some hm
    refine zr_cVi (st := []) E mw_289 cm_X7_person0 (c_X7_person0 B.2.1 P s1 r2 0) os4 (rc_57 P) ⟨by decide, by decide⟩ rfl rfl (Nat.le_of_ble_eq_true rfl) dX7_helpsNow_14 ?_
    refine zr_if_lt (tgt := 28) E dX7_helpsNow_17 (by decide) (fun c6 => ?_) (fun c6 => ?_)
    · rw [if_pos c6] at hm
      exact zr_vret E hr hm dX7_helpsNow_28
    · rw [if_neg c6] at hm
      refine zr_aload_n E dX7_helpsNow_20 1 rfl ?_
      refine zr_iload_n E dX7_helpsNow_21 2 rfl ?_
      obtain ⟨r8, s7, os7, hm⟩ := cl_some hm
      refine zr_cVi (st := []) E mw_538 cm_X7_isFree (c_X7_isFree B.2.1 P s4 x1) os7 (rc_57 P) ⟨by decide, by decide⟩ rfl rfl (Nat.le_of_ble_eq_true rfl) dX7_helpsNow_22 ?_
      refine zr_if_ne (tgt := 29) E dX7_helpsNow_25 (by decide) (fun c9 => ?_) (fun c9 => ?_)
      · rw [if_neg c9] at hm
        refine zr_aload_n E dX7_helpsNow_29 1 rfl ?_
        refine zr_aload_n E dX7_helpsNow_30 1 rfl ?_
        refine zr_iload_n E dX7_helpsNow_31 0 rfl ?_
        refine zr_iconst (v := 0) E dX7_helpsNow_32 (by decide) ?_
        obtain ⟨r11, s10, os10, hm⟩ := cl_some hm
        refine zr_cVi (st := [.ref (zw_ad P 57)]) E mw_289 cm_X7_person0 (c_X7_person0 B.2.1 P s7 r2 0) os10 (rc_57 P) ⟨by decide, by decide⟩ rfl rfl (Nat.le_of_ble_eq_true rfl) dX7_helpsNow_33 ?_
        refine zr_aload_n E dX7_helpsNow_36 1 rfl ?_
        refine zr_iload_n E dX7_helpsNow_37 2 rfl ?_
        refine zr_iconst (v := 2) E dX7_helpsNow_38 (by decide) ?_
        obtain ⟨r13, s12, os12, hm⟩ := cl_some hm
        refine zr_cVi (st := [.int r11, .ref (zw_ad P 57)]) E mw_289 cm_X7_person0 (c_X7_person0 B.2.1 P s10 x1 2) os12 (rc_57 P) ⟨by decide, by decide⟩ rfl rfl (Nat.le_of_ble_eq_true rfl) dX7_helpsNow_39 ?_
        refine zr_iconst (v := 2) E dX7_helpsNow_42 (by decide) ?_
        refine zr_idiv E dX7_helpsNow_43 (by decide) ?_
        obtain ⟨s14, os14, hm⟩ := cv_some hm
        refine zr_cVv (st := []) E mw_519 cm_X7_does (c_X7_does B.2.1 P s12 r11 (r13 / 2)) os14 (rc_57 P) ⟨by decide, by decide⟩ rfl rfl (Nat.le_of_ble_eq_true rfl) dX7_helpsNow_44 ?_
        exact zr_vret E hr hm dX7_helpsNow_47
      · rw [if_pos c9] at hm
        exact zr_vret E hr hm dX7_helpsNow_28
-- X7_leaves
set_option maxRecDepth 100000 in
set_option maxHeartbeats 4000000 in
theorem c_X7_leaves (l : Launch) (P : zw_P) (σ : zw_S) (x1 : Int32) : zc_v l P yX7_leaves cX7_leaves 3 3 [.ref (zw_ad P 57), .int x1] σ (m_X7_leaves σ x1) := by
  refine zc_v.of (by decide) (Nat.le_of_ble_eq_true rfl) (fun B τ E hl hr hm => ?_)
  subst hl
  refine zr_sub (lv' := [(0, .ref (zw_ad P 57)), (1, .int x1)]) [0, 1] rfl ?_
  unfold m_X7_leaves at hm
  refine zr_aload_n E dX7_leaves_0 0 rfl ?_
  refine zr_bipush (v := 100) E dX7_leaves_1 (by decide) ?_
  refine zr_iconst (v := 4) E dX7_leaves_3 (by decide) ?_
  refine zr_iload_n E dX7_leaves_4 1 rfl ?_
  refine zr_imul E dX7_leaves_5 ?_
  refine zr_iadd E dX7_leaves_6 ?_
  refine zr_iconst (v := (-1)) E dX7_leaves_7 (by decide) ?_
  obtain ⟨r2, s1, os1, hm⟩ := cl_some hm
  refine zr_cVi (st := []) E mw_123 cm_X7_becomes (c_X7_becomes B.2.1 P σ (100 + (4 * x1)) (-1)) os1 (rc_57 P) ⟨by decide, by decide⟩ rfl rfl (Nat.le_of_ble_eq_true rfl) dX7_leaves_8 ?_
  refine zr_istore_n (lv' := [(2, .int r2), (0, .ref (zw_ad P 57)), (1, .int x1)]) E dX7_leaves_11 (by decide) rfl ?_
  refine zr_aload_n E dX7_leaves_12 1 rfl ?_
  refine fg_X7_9 E dX7_leaves_13 ?_
  refine zr_iconst (v := 4) E dX7_leaves_16 (by decide) ?_
  refine zr_iconst (v := 2) E dX7_leaves_17 (by decide) ?_
  refine zr_iload_n E dX7_leaves_18 0 rfl ?_
  refine zr_imul E dX7_leaves_19 ?_
  refine zr_iadd E dX7_leaves_20 ?_
  refine zr_iconst (v := 1) E dX7_leaves_21 (by decide) ?_
  refine zr_iadd E dX7_leaves_22 ?_
  obtain ⟨v3, ev3, hm⟩ := nm_some hm
  refine zr_top ev3 ?_
  refine zr_dup2 E dX7_leaves_23 rfl rfl ?_
  obtain ⟨hv4, v4, ev4, hm⟩ := rd_some hm
  refine zr_iald E ac_58 hv4 ev4 dX7_leaves_24 ?_
  refine zr_iconst (v := 1) E dX7_leaves_25 (by decide) ?_
  refine zr_iadd E dX7_leaves_26 ?_
  obtain ⟨hs5, s5, es5, hm⟩ := wt_some hm
  refine zr_iast E ac_58 hs5 es5 dX7_leaves_27 ?_
  refine zr_aload_n E dX7_leaves_28 1 rfl ?_
  refine zr_iload_n E dX7_leaves_29 0 rfl ?_
  obtain ⟨r7, s6, os6, hm⟩ := cl_some hm
  refine zr_cVi (st := []) E mw_281 cm_X7_isOpen (c_X7_isOpen B.2.1 P s5 r2) os6 (rc_57 P) ⟨by decide, by decide⟩ rfl rfl (Nat.le_of_ble_eq_true rfl) dX7_leaves_30 ?_
  refine zr_if_eq (tgt := 55) E dX7_leaves_33 (by decide) (fun c8 => ?_) (fun c8 => ?_)
  · rw [if_pos c8] at hm
    exact zr_vret E hr hm dX7_leaves_55
  · rw [if_neg c8] at hm
    refine zr_aload_n E dX7_leaves_36 1 rfl ?_
    refine fg_X7_9 E dX7_leaves_37 ?_
    refine zr_iconst (v := 2) E dX7_leaves_40 (by decide) ?_
    obtain ⟨hv9, v9, ev9, hm⟩ := rd_some hm
    refine zr_iald E ac_58 hv9 ev9 dX7_leaves_41 ?_
    refine zr_bipush (v := 20) E dX7_leaves_42 (by decide) ?_
    refine zr_icmp_ge (tgt := 55) E dX7_leaves_44 (by decide) (fun c10 => ?_) (fun c10 => ?_)
    · rw [if_pos c10] at hm
      exact zr_vret E hr hm dX7_leaves_55
    · rw [if_neg c10] at hm
      refine zr_aload_n E dX7_leaves_47 1 rfl ?_
      refine zr_iconst (v := 0) E dX7_leaves_48 (by decide) ?_
      refine zr_iload_n E dX7_leaves_49 0 rfl ?_
      refine zr_iconst (v := 5) E dX7_leaves_50 (by decide) ?_
      refine zr_iconst (v := (-1)) E dX7_leaves_51 (by decide) ?_
      obtain ⟨s11, os11, hm⟩ := cv_some hm
      refine zr_cVv (st := []) E mw_157 cm_X7_comes (c_X7_comes B.2.1 P s6 0 r2 5 (-1)) os11 (rc_57 P) ⟨by decide, by decide⟩ rfl rfl (Nat.le_of_ble_eq_true rfl) dX7_leaves_52 ?_
      exact zr_vret E hr hm dX7_leaves_55
-- X7_year
set_option maxRecDepth 100000 in
set_option maxHeartbeats 4000000 in
theorem t_X7_year_227 {B : zw_B} {P : zw_P} {τ : zw_S} (E : zf B P cX7_year RX7 2 6) (hr : B.2.2.2.2.2.2.2.2.1.sig.returnType = none) (σ : zw_S) (hm : m_X7_year_227 σ = some τ) : zw_G B P (zq_v B P τ) 2 σ 227 [(0, .ref (zw_ad P 57))] [] := by
  unfold m_X7_year_227 at hm
  refine zr_aload_n E dX7_year_227 0 rfl ?_
  refine fg_X7_9 E dX7_year_228 ?_
  refine zr_iconst (v := 0) E dX7_year_231 (by decide) ?_
  refine zr_dup2 E dX7_year_232 rfl rfl ?_
  obtain ⟨hv1, v1, ev1, hm⟩ := rd_some hm
  refine zr_iald E ac_58 hv1 ev1 dX7_year_233 ?_
  refine zr_iconst (v := 1) E dX7_year_234 (by decide) ?_
  refine zr_iadd E dX7_year_235 ?_
  obtain ⟨hs2, s2, es2, hm⟩ := wt_some hm
  refine zr_iast E ac_58 hs2 es2 dX7_year_236 ?_
  exact zr_vret E hr hm dX7_year_237
set_option maxRecDepth 100000 in
set_option maxHeartbeats 4000000 in
theorem t_X7_year_186 {B : zw_B} {P : zw_P} {τ : zw_S} (E : zf B P cX7_year RX7 2 6) (hr : B.2.2.2.2.2.2.2.2.1.sig.returnType = none) : ∀ (n : Nat) (σ : zw_S) (x1 : Int32), m_X7_year_186 n σ x1 = some τ → zw_G B P (zq_v B P τ) 2 σ 186 [(0, .ref (zw_ad P 57)), (1, .int x1)] [] := by
  intro n
  induction n with
  | zero => intro σ x1 hm; cases hm
  | succ n ih =>
    intro σ x1 hm
    unfold m_X7_year_186 at hm
    refine zr_iload_n E dX7_year_186 1 rfl ?_
    refine zr_aload_n E dX7_year_187 0 rfl ?_
    refine fg_X7_9 E dX7_year_188 ?_
    refine zr_iconst (v := 3) E dX7_year_191 (by decide) ?_
    obtain ⟨hv1, v1, ev1, hm⟩ := rd_some hm
    refine zr_iald E ac_58 hv1 ev1 dX7_year_192 ?_
    refine zr_icmp_ge (tgt := 227) E dX7_year_193 (by decide) (fun c2 => ?_) (fun c2 => ?_)
    · rw [if_pos c2] at hm
      refine zr_sub (lv' := [(0, .ref (zw_ad P 57))]) [0] rfl ?_
      exact t_X7_year_227 E hr σ hm
    · rw [if_neg c2] at hm
      refine zr_aload_n E dX7_year_196 0 rfl ?_
      refine zr_iload_n E dX7_year_197 1 rfl ?_
      refine zr_iconst (v := 1) E dX7_year_198 (by decide) ?_
      obtain ⟨r4, s3, os3, hm⟩ := cl_some hm
      refine zr_cVi (st := []) E mw_289 cm_X7_person0 (c_X7_person0 B.2.1 P σ x1 1) os3 (rc_57 P) ⟨by decide, by decide⟩ rfl rfl (Nat.le_of_ble_eq_true rfl) dX7_year_199 ?_
      refine zr_bipush (v := 40) E dX7_year_202 (by decide) ?_
      refine zr_icmp_ne (tgt := 221) E dX7_year_204 (by decide) (fun c5 => ?_) (fun c5 => ?_)
      · rw [if_neg c5] at hm
        obtain ⟨v6, ev6, hm⟩ := nm_some hm
        refine zr_iinc (j := 1) (lv' := [(1, .int v6), (0, .ref (zw_ad P 57))]) E dX7_year_221 rfl ev6 (by decide) rfl ?_
        refine zr_goto (tgt := 186) E dX7_year_224 (by decide) ?_
        refine zr_sub (lv' := [(0, .ref (zw_ad P 57)), (1, .int v6)]) [1, 0] rfl ?_
        exact ih s3 v6 hm
      · rw [if_pos c5] at hm
        refine zr_aload_n E dX7_year_207 0 rfl ?_
        refine zr_iload_n E dX7_year_208 1 rfl ?_
        refine zr_iconst (v := 0) E dX7_year_209 (by decide) ?_
        obtain ⟨r8, s7, os7, hm⟩ := cl_some hm
        refine zr_cVi (st := []) E mw_289 cm_X7_person0 (c_X7_person0 B.2.1 P s3 x1 0) os7 (rc_57 P) ⟨by decide, by decide⟩ rfl rfl (Nat.le_of_ble_eq_true rfl) dX7_year_210 ?_
        refine zr_if_lt (tgt := 221) E dX7_year_213 (by decide) (fun c9 => ?_) (fun c9 => ?_)
        · rw [if_pos c9] at hm
          obtain ⟨v10, ev10, hm⟩ := nm_some hm
          refine zr_iinc (j := 1) (lv' := [(1, .int v10), (0, .ref (zw_ad P 57))]) E dX7_year_221 rfl ev10 (by decide) rfl ?_
          refine zr_goto (tgt := 186) E dX7_year_224 (by decide) ?_
          refine zr_sub (lv' := [(0, .ref (zw_ad P 57)), (1, .int v10)]) [1, 0] rfl ?_
          exact ih s7 v10 hm
        · rw [if_neg c9] at hm
          refine zr_aload_n E dX7_year_216 0 rfl ?_
          refine zr_iload_n E dX7_year_217 1 rfl ?_
          obtain ⟨s11, os11, hm⟩ := cv_some hm
          refine zr_cVv (st := []) E mw_542 cm_X7_leaves (c_X7_leaves B.2.1 P s7 x1) os11 (rc_57 P) ⟨by decide, by decide⟩ rfl rfl (Nat.le_of_ble_eq_true rfl) dX7_year_218 ?_
          obtain ⟨v12, ev12, hm⟩ := nm_some hm
          refine zr_iinc (j := 1) (lv' := [(1, .int v12), (0, .ref (zw_ad P 57))]) E dX7_year_221 rfl ev12 (by decide) rfl ?_
          refine zr_goto (tgt := 186) E dX7_year_224 (by decide) ?_
          refine zr_sub (lv' := [(0, .ref (zw_ad P 57)), (1, .int v12)]) [1, 0] rfl ?_
          exact ih s11 v12 hm
set_option maxRecDepth 100000 in
set_option maxHeartbeats 4000000 in
theorem t_X7_year_136 {B : zw_B} {P : zw_P} {τ : zw_S} (E : zf B P cX7_year RX7 2 6) (hr : B.2.2.2.2.2.2.2.2.1.sig.returnType = none) : ∀ (n : Nat) (σ : zw_S) (x1 : Int32), m_X7_year_136 n σ x1 = some τ → zw_G B P (zq_v B P τ) 2 σ 136 [(0, .ref (zw_ad P 57)), (1, .int x1)] [] := by
  intro n
  induction n with
  | zero => intro σ x1 hm; cases hm
  | succ n ih =>
    intro σ x1 hm
    unfold m_X7_year_136 at hm
    refine zr_iload_n E dX7_year_136 1 rfl ?_
    refine zr_aload_n E dX7_year_137 0 rfl ?_
    refine fg_X7_9 E dX7_year_138 ?_
    refine zr_iconst (v := 3) E dX7_year_141 (by decide) ?_
    obtain ⟨hv1, v1, ev1, hm⟩ := rd_some hm
    refine zr_iald E ac_58 hv1 ev1 dX7_year_142 ?_
    refine zr_icmp_ge (tgt := 184) E dX7_year_143 (by decide) (fun c2 => ?_) (fun c2 => ?_)
    · rw [if_pos c2] at hm
      refine zr_iconst (v := 0) E dX7_year_184 (by decide) ?_
      refine zr_istore_n (lv' := [(1, .int 0), (0, .ref (zw_ad P 57))]) E dX7_year_185 (by decide) rfl ?_
      refine zr_sub (lv' := [(0, .ref (zw_ad P 57)), (1, .int 0)]) [1, 0] rfl ?_
      exact t_X7_year_186 E hr 200 σ 0 hm
    · rw [if_neg c2] at hm
      refine zr_aload_n E dX7_year_146 0 rfl ?_
      refine fg_X7_9 E dX7_year_147 ?_
      refine zr_bipush (v := 100) E dX7_year_150 (by decide) ?_
      refine zr_iconst (v := 4) E dX7_year_152 (by decide) ?_
      refine zr_iload_n E dX7_year_153 1 rfl ?_
      refine zr_imul E dX7_year_154 ?_
      refine zr_iadd E dX7_year_155 ?_
      refine zr_iconst (v := 1) E dX7_year_156 (by decide) ?_
      refine zr_iadd E dX7_year_157 ?_
      obtain ⟨v3, ev3, hm⟩ := nm_some hm
      refine zr_top ev3 ?_
      refine zr_dup2 E dX7_year_158 rfl rfl ?_
      obtain ⟨hv4, v4, ev4, hm⟩ := rd_some hm
      refine zr_iald E ac_58 hv4 ev4 dX7_year_159 ?_
      refine zr_aload_n E dX7_year_160 0 rfl ?_
      refine zr_iload_n E dX7_year_161 1 rfl ?_
      refine zr_iconst (v := 1) E dX7_year_162 (by decide) ?_
      obtain ⟨r6, s5, os5, hm⟩ := cl_some hm
      refine zr_cVi (st := [.int v4, .int v3, .ref (zw_ad P 58)]) E mw_289 cm_X7_person0 (c_X7_person0 B.2.1 P σ x1 1) os5 (rc_57 P) ⟨by decide, by decide⟩ rfl rfl (Nat.le_of_ble_eq_true rfl) dX7_year_163 ?_
      refine zr_bipush (v := 40) E dX7_year_166 (by decide) ?_
      refine zr_icmp_ge (tgt := 175) E dX7_year_168 (by decide) (fun c7 => ?_) (fun c7 => ?_)
      · rw [if_pos c7] at hm
        refine zr_iconst (v := 0) E dX7_year_175 (by decide) ?_
        refine zr_iadd E dX7_year_176 ?_
        obtain ⟨hs8, s8, es8, hm⟩ := wt_some hm
        refine zr_iast E ac_58 hs8 es8 dX7_year_177 ?_
        obtain ⟨v9, ev9, hm⟩ := nm_some hm
        refine zr_iinc (j := 1) (lv' := [(1, .int v9), (0, .ref (zw_ad P 57))]) E dX7_year_178 rfl ev9 (by decide) rfl ?_
        refine zr_goto (tgt := 136) E dX7_year_181 (by decide) ?_
        refine zr_sub (lv' := [(0, .ref (zw_ad P 57)), (1, .int v9)]) [1, 0] rfl ?_
        exact ih s8 v9 hm
      · rw [if_neg c7] at hm
        refine zr_iconst (v := 1) E dX7_year_171 (by decide) ?_
        refine zr_goto (tgt := 176) E dX7_year_172 (by decide) ?_
        refine zr_iadd E dX7_year_176 ?_
        obtain ⟨hs10, s10, es10, hm⟩ := wt_some hm
        refine zr_iast E ac_58 hs10 es10 dX7_year_177 ?_
        obtain ⟨v11, ev11, hm⟩ := nm_some hm
        refine zr_iinc (j := 1) (lv' := [(1, .int v11), (0, .ref (zw_ad P 57))]) E dX7_year_178 rfl ev11 (by decide) rfl ?_
        refine zr_goto (tgt := 136) E dX7_year_181 (by decide) ?_
        refine zr_sub (lv' := [(0, .ref (zw_ad P 57)), (1, .int v11)]) [1, 0] rfl ?_
        exact ih s10 v11 hm
set_option maxRecDepth 100000 in
set_option maxHeartbeats 4000000 in
theorem t_X7_year_90 {B : zw_B} {P : zw_P} {τ : zw_S} (E : zf B P cX7_year RX7 2 6) (hr : B.2.2.2.2.2.2.2.2.1.sig.returnType = none) : ∀ (n : Nat) (σ : zw_S) (x1 : Int32), m_X7_year_90 n σ x1 = some τ → zw_G B P (zq_v B P τ) 2 σ 90 [(0, .ref (zw_ad P 57)), (1, .int x1)] [] := by
  intro n
  induction n with
  | zero => intro σ x1 hm; cases hm
  | succ n ih =>
    intro σ x1 hm
    unfold m_X7_year_90 at hm
    refine zr_iload_n E dX7_year_90 1 rfl ?_
    refine zr_aload_n E dX7_year_91 0 rfl ?_
    refine fg_X7_9 E dX7_year_92 ?_
    refine zr_iconst (v := 2) E dX7_year_95 (by decide) ?_
    obtain ⟨hv1, v1, ev1, hm⟩ := rd_some hm
    refine zr_iald E ac_58 hv1 ev1 dX7_year_96 ?_
    refine zr_icmp_ge (tgt := 134) E dX7_year_97 (by decide) (fun c2 => ?_) (fun c2 => ?_)
    · rw [if_pos c2] at hm
      refine zr_iconst (v := 0) E dX7_year_134 (by decide) ?_
      refine zr_istore_n (lv' := [(1, .int 0), (0, .ref (zw_ad P 57))]) E dX7_year_135 (by decide) rfl ?_
      refine zr_sub (lv' := [(0, .ref (zw_ad P 57)), (1, .int 0)]) [1, 0] rfl ?_
      exact t_X7_year_136 E hr 200 σ 0 hm
    · rw [if_neg c2] at hm
      refine zr_aload_n E dX7_year_100 0 rfl ?_
      refine fg_X7_9 E dX7_year_101 ?_
      refine zr_bipush (v := 20) E dX7_year_104 (by decide) ?_
      refine zr_iconst (v := 4) E dX7_year_106 (by decide) ?_
      refine zr_iload_n E dX7_year_107 1 rfl ?_
      refine zr_imul E dX7_year_108 ?_
      refine zr_iadd E dX7_year_109 ?_
      refine zr_iconst (v := 2) E dX7_year_110 (by decide) ?_
      refine zr_iadd E dX7_year_111 ?_
      refine zr_aload_n E dX7_year_112 0 rfl ?_
      refine zr_iload_n E dX7_year_113 1 rfl ?_
      refine zr_iconst (v := 2) E dX7_year_114 (by decide) ?_
      obtain ⟨r4, s3, os3, hm⟩ := cl_some hm
      refine zr_cVi (st := [.int ((20 + (4 * x1)) + 2), .ref (zw_ad P 58)]) E mw_199 cm_X7_task0 (c_X7_task0 B.2.1 P σ x1 2) os3 (rc_57 P) ⟨by decide, by decide⟩ rfl rfl (Nat.le_of_ble_eq_true rfl) dX7_year_115 ?_
      refine zr_aload_n E dX7_year_118 0 rfl ?_
      refine zr_iload_n E dX7_year_119 1 rfl ?_
      obtain ⟨r6, s5, os5, hm⟩ := cl_some hm
      refine zr_cVi (st := [.int r4, .int ((20 + (4 * x1)) + 2), .ref (zw_ad P 58)]) E mw_203 cm_X7_grows (c_X7_grows B.2.1 P s3 x1) os5 (rc_57 P) ⟨by decide, by decide⟩ rfl rfl (Nat.le_of_ble_eq_true rfl) dX7_year_120 ?_
      refine zr_iadd E dX7_year_123 ?_
      obtain ⟨r8, s7, os7, hm⟩ := cl_some hm
      refine zr_cSi (st := [.int ((20 + (4 * x1)) + 2), .ref (zw_ad P 58)]) E mw_531 cm_X7_held (c_X7_held B.2.1 P s5 (r4 + r6)) os7 ⟨by decide, by decide⟩ rfl rfl (Nat.le_of_ble_eq_true rfl) dX7_year_124 ?_
      obtain ⟨hs9, s9, es9, hm⟩ := wt_some hm
      refine zr_iast E ac_58 hs9 es9 dX7_year_127 ?_
      obtain ⟨v10, ev10, hm⟩ := nm_some hm
      refine zr_iinc (j := 1) (lv' := [(1, .int v10), (0, .ref (zw_ad P 57))]) E dX7_year_128 rfl ev10 (by decide) rfl ?_
      refine zr_goto (tgt := 90) E dX7_year_131 (by decide) ?_
      refine zr_sub (lv' := [(0, .ref (zw_ad P 57)), (1, .int v10)]) [1, 0] rfl ?_
      exact ih s9 v10 hm
set_option maxRecDepth 100000 in
set_option maxHeartbeats 4000000 in
theorem t_X7_year_56 {B : zw_B} {P : zw_P} {τ : zw_S} (E : zf B P cX7_year RX7 2 6) (hr : B.2.2.2.2.2.2.2.2.1.sig.returnType = none) : ∀ (n : Nat) (σ : zw_S) (x1 : Int32), m_X7_year_56 n σ x1 = some τ → zw_G B P (zq_v B P τ) 2 σ 56 [(0, .ref (zw_ad P 57)), (1, .int x1)] [] := by
  intro n
  induction n with
  | zero => intro σ x1 hm; cases hm
  | succ n ih =>
    intro σ x1 hm
    unfold m_X7_year_56 at hm
    refine zr_iload_n E dX7_year_56 1 rfl ?_
    refine zr_aload_n E dX7_year_57 0 rfl ?_
    refine fg_X7_9 E dX7_year_58 ?_
    refine zr_iconst (v := 3) E dX7_year_61 (by decide) ?_
    obtain ⟨hv1, v1, ev1, hm⟩ := rd_some hm
    refine zr_iald E ac_58 hv1 ev1 dX7_year_62 ?_
    refine zr_icmp_ge (tgt := 88) E dX7_year_63 (by decide) (fun c2 => ?_) (fun c2 => ?_)
    · rw [if_pos c2] at hm
      refine zr_iconst (v := 0) E dX7_year_88 (by decide) ?_
      refine zr_istore_n (lv' := [(1, .int 0), (0, .ref (zw_ad P 57))]) E dX7_year_89 (by decide) rfl ?_
      refine zr_sub (lv' := [(0, .ref (zw_ad P 57)), (1, .int 0)]) [1, 0] rfl ?_
      exact t_X7_year_90 E hr 200 σ 0 hm
    · rw [if_neg c2] at hm
      refine zr_aload_n E dX7_year_66 0 rfl ?_
      refine zr_iload_n E dX7_year_67 1 rfl ?_
      refine zr_iconst (v := 1) E dX7_year_68 (by decide) ?_
      obtain ⟨r4, s3, os3, hm⟩ := cl_some hm
      refine zr_cVi (st := []) E mw_289 cm_X7_person0 (c_X7_person0 B.2.1 P σ x1 1) os3 (rc_57 P) ⟨by decide, by decide⟩ rfl rfl (Nat.le_of_ble_eq_true rfl) dX7_year_69 ?_
      refine zr_bipush (v := 7) E dX7_year_72 (by decide) ?_
      refine zr_icmp_lt (tgt := 82) E dX7_year_74 (by decide) (fun c5 => ?_) (fun c5 => ?_)
      · rw [if_pos c5] at hm
        obtain ⟨v6, ev6, hm⟩ := nm_some hm
        refine zr_iinc (j := 1) (lv' := [(1, .int v6), (0, .ref (zw_ad P 57))]) E dX7_year_82 rfl ev6 (by decide) rfl ?_
        refine zr_goto (tgt := 56) E dX7_year_85 (by decide) ?_
        refine zr_sub (lv' := [(0, .ref (zw_ad P 57)), (1, .int v6)]) [1, 0] rfl ?_
        exact ih s3 v6 hm
      · rw [if_neg c5] at hm
        refine zr_aload_n E dX7_year_77 0 rfl ?_
        refine zr_iload_n E dX7_year_78 1 rfl ?_
        obtain ⟨s7, os7, hm⟩ := cv_some hm
        refine zr_cVv (st := []) E mw_534 cm_X7_helpsNow (c_X7_helpsNow B.2.1 P s3 x1) os7 (rc_57 P) ⟨by decide, by decide⟩ rfl rfl (Nat.le_of_ble_eq_true rfl) dX7_year_79 ?_
        obtain ⟨v8, ev8, hm⟩ := nm_some hm
        refine zr_iinc (j := 1) (lv' := [(1, .int v8), (0, .ref (zw_ad P 57))]) E dX7_year_82 rfl ev8 (by decide) rfl ?_
        refine zr_goto (tgt := 56) E dX7_year_85 (by decide) ?_
        refine zr_sub (lv' := [(0, .ref (zw_ad P 57)), (1, .int v8)]) [1, 0] rfl ?_
        exact ih s7 v8 hm
set_option maxRecDepth 100000 in
set_option maxHeartbeats 4000000 in
theorem t_X7_year_2 {B : zw_B} {P : zw_P} {τ : zw_S} (E : zf B P cX7_year RX7 2 6) (hr : B.2.2.2.2.2.2.2.2.1.sig.returnType = none) : ∀ (n : Nat) (σ : zw_S) (x1 : Int32), m_X7_year_2 n σ x1 = some τ → zw_G B P (zq_v B P τ) 2 σ 2 [(0, .ref (zw_ad P 57)), (1, .int x1)] [] := by
  intro n
  induction n with
  | zero => intro σ x1 hm; cases hm
  | succ n ih =>
    intro σ x1 hm
    unfold m_X7_year_2 at hm
    refine zr_iload_n E dX7_year_2 1 rfl ?_
    refine zr_aload_n E dX7_year_3 0 rfl ?_
    refine fg_X7_9 E dX7_year_4 ?_
    refine zr_iconst (v := 3) E dX7_year_7 (by decide) ?_
    obtain ⟨hv1, v1, ev1, hm⟩ := rd_some hm
    refine zr_iald E ac_58 hv1 ev1 dX7_year_8 ?_
    refine zr_icmp_ge (tgt := 54) E dX7_year_9 (by decide) (fun c2 => ?_) (fun c2 => ?_)
    · rw [if_pos c2] at hm
      refine zr_iconst (v := 0) E dX7_year_54 (by decide) ?_
      refine zr_istore_n (lv' := [(1, .int 0), (0, .ref (zw_ad P 57))]) E dX7_year_55 (by decide) rfl ?_
      refine zr_sub (lv' := [(0, .ref (zw_ad P 57)), (1, .int 0)]) [1, 0] rfl ?_
      exact t_X7_year_56 E hr 200 σ 0 hm
    · rw [if_neg c2] at hm
      refine zr_aload_n E dX7_year_12 0 rfl ?_
      refine zr_iload_n E dX7_year_13 1 rfl ?_
      refine zr_iconst (v := 1) E dX7_year_14 (by decide) ?_
      obtain ⟨r4, s3, os3, hm⟩ := cl_some hm
      refine zr_cVi (st := []) E mw_289 cm_X7_person0 (c_X7_person0 B.2.1 P σ x1 1) os3 (rc_57 P) ⟨by decide, by decide⟩ rfl rfl (Nat.le_of_ble_eq_true rfl) dX7_year_15 ?_
      refine zr_bipush (v := 7) E dX7_year_18 (by decide) ?_
      refine zr_icmp_lt (tgt := 48) E dX7_year_20 (by decide) (fun c5 => ?_) (fun c5 => ?_)
      · rw [if_pos c5] at hm
        obtain ⟨v6, ev6, hm⟩ := nm_some hm
        refine zr_iinc (j := 1) (lv' := [(1, .int v6), (0, .ref (zw_ad P 57))]) E dX7_year_48 rfl ev6 (by decide) rfl ?_
        refine zr_goto (tgt := 2) E dX7_year_51 (by decide) ?_
        refine zr_sub (lv' := [(0, .ref (zw_ad P 57)), (1, .int v6)]) [1, 0] rfl ?_
        exact ih s3 v6 hm
      · rw [if_neg c5] at hm
        refine zr_aload_n E dX7_year_23 0 rfl ?_
        refine zr_iload_n E dX7_year_24 1 rfl ?_
        refine zr_iconst (v := 0) E dX7_year_25 (by decide) ?_
        obtain ⟨r8, s7, os7, hm⟩ := cl_some hm
        refine zr_cVi (st := []) E mw_289 cm_X7_person0 (c_X7_person0 B.2.1 P s3 x1 0) os7 (rc_57 P) ⟨by decide, by decide⟩ rfl rfl (Nat.le_of_ble_eq_true rfl) dX7_year_26 ?_
        refine zr_if_lt (tgt := 48) E dX7_year_29 (by decide) (fun c9 => ?_) (fun c9 => ?_)
        · rw [if_pos c9] at hm
          obtain ⟨v10, ev10, hm⟩ := nm_some hm
          refine zr_iinc (j := 1) (lv' := [(1, .int v10), (0, .ref (zw_ad P 57))]) E dX7_year_48 rfl ev10 (by decide) rfl ?_
          refine zr_goto (tgt := 2) E dX7_year_51 (by decide) ?_
          refine zr_sub (lv' := [(0, .ref (zw_ad P 57)), (1, .int v10)]) [1, 0] rfl ?_
          exact ih s7 v10 hm
        · rw [if_neg c9] at hm
          refine zr_aload_n E dX7_year_32 0 rfl ?_
          refine zr_aload_n E dX7_year_33 0 rfl ?_
          refine zr_iload_n E dX7_year_34 1 rfl ?_
          refine zr_iconst (v := 0) E dX7_year_35 (by decide) ?_
          obtain ⟨r12, s11, os11, hm⟩ := cl_some hm
          refine zr_cVi (st := [.ref (zw_ad P 57)]) E mw_289 cm_X7_person0 (c_X7_person0 B.2.1 P s7 x1 0) os11 (rc_57 P) ⟨by decide, by decide⟩ rfl rfl (Nat.le_of_ble_eq_true rfl) dX7_year_36 ?_
          refine zr_aload_n E dX7_year_39 0 rfl ?_
          refine zr_iload_n E dX7_year_40 1 rfl ?_
          refine zr_iconst (v := 2) E dX7_year_41 (by decide) ?_
          obtain ⟨r14, s13, os13, hm⟩ := cl_some hm
          refine zr_cVi (st := [.int r12, .ref (zw_ad P 57)]) E mw_289 cm_X7_person0 (c_X7_person0 B.2.1 P s11 x1 2) os13 (rc_57 P) ⟨by decide, by decide⟩ rfl rfl (Nat.le_of_ble_eq_true rfl) dX7_year_42 ?_
          obtain ⟨s15, os15, hm⟩ := cv_some hm
          refine zr_cVv (st := []) E mw_519 cm_X7_does (c_X7_does B.2.1 P s13 r12 r14) os15 (rc_57 P) ⟨by decide, by decide⟩ rfl rfl (Nat.le_of_ble_eq_true rfl) dX7_year_45 ?_
          obtain ⟨v16, ev16, hm⟩ := nm_some hm
          refine zr_iinc (j := 1) (lv' := [(1, .int v16), (0, .ref (zw_ad P 57))]) E dX7_year_48 rfl ev16 (by decide) rfl ?_
          refine zr_goto (tgt := 2) E dX7_year_51 (by decide) ?_
          refine zr_sub (lv' := [(0, .ref (zw_ad P 57)), (1, .int v16)]) [1, 0] rfl ?_
          exact ih s15 v16 hm
set_option maxRecDepth 100000 in
set_option maxHeartbeats 4000000 in
theorem c_X7_year (l : Launch) (P : zw_P) (σ : zw_S) : zc_v l P yX7_year cX7_year 2 6 [.ref (zw_ad P 57)] σ (m_X7_year σ) := by
  refine zc_v.of (by decide) (Nat.le_of_ble_eq_true rfl) (fun B τ E hl hr hm => ?_)
  subst hl
  refine zr_sub (lv' := [(0, .ref (zw_ad P 57))]) [0] rfl ?_
  unfold m_X7_year at hm
  refine zr_iconst (v := 0) E dX7_year_0 (by decide) ?_
  refine zr_istore_n (lv' := [(1, .int 0), (0, .ref (zw_ad P 57))]) E dX7_year_1 (by decide) rfl ?_
  refine zr_sub (lv' := [(0, .ref (zw_ad P 57)), (1, .int 0)]) [1, 0] rfl ?_
  exact t_X7_year_2 E hr 200 σ 0 hm
-- X7_unended
set_option maxRecDepth 100000 in
set_option maxHeartbeats 4000000 in
theorem t_X7_unended_4 {B : zw_B} {P : zw_P} {r : Int32} {τ : zw_S} (E : zf B P cX7_unended RX7 3 2) (hr : B.2.2.2.2.2.2.2.2.1.sig.returnType = some .int) : ∀ (n : Nat) (σ : zw_S) (x1 : Int32) (x2 : Int32), m_X7_unended_4 n σ x1 x2 = some (r, τ) → zw_G B P (zq_i B P r τ) 3 σ 4 [(0, .ref (zw_ad P 57)), (1, .int x1), (2, .int x2)] [] := by
  intro n
  induction n with
  | zero => intro σ x1 x2 hm; cases hm
  | succ n ih =>
    intro σ x1 x2 hm
    unfold m_X7_unended_4 at hm
    refine zr_iload_n E dX7_unended_4 2 rfl ?_
    refine zr_aload_n E dX7_unended_5 0 rfl ?_
    refine fg_X7_9 E dX7_unended_6 ?_
    refine zr_iconst (v := 2) E dX7_unended_9 (by decide) ?_
    obtain ⟨hv1, v1, ev1, hm⟩ := rd_some hm
    refine zr_iald E ac_58 hv1 ev1 dX7_unended_10 ?_
    refine zr_icmp_ge (tgt := 36) E dX7_unended_11 (by decide) (fun c2 => ?_) (fun c2 => ?_)
    · rw [if_pos c2] at hm
      refine zr_iload_n E dX7_unended_36 1 rfl ?_
      exact zr_iret E hr rfl hm dX7_unended_37
    · rw [if_neg c2] at hm
      refine zr_iload_n E dX7_unended_14 1 rfl ?_
      refine zr_aload_n E dX7_unended_15 0 rfl ?_
      refine zr_iload_n E dX7_unended_16 2 rfl ?_
      obtain ⟨r4, s3, os3, hm⟩ := cl_some hm
      refine zr_cVi (st := [.int x1]) E mw_207 cm_X7_isEnded (c_X7_isEnded B.2.1 P σ x2) os3 (rc_57 P) ⟨by decide, by decide⟩ rfl rfl (Nat.le_of_ble_eq_true rfl) dX7_unended_17 ?_
      refine zr_if_eq (tgt := 27) E dX7_unended_20 (by decide) (fun c5 => ?_) (fun c5 => ?_)
      · rw [if_pos c5] at hm
        refine zr_iconst (v := 1) E dX7_unended_27 (by decide) ?_
        refine zr_iadd E dX7_unended_28 ?_
        obtain ⟨v6, ev6, hm⟩ := nm_some hm
        refine zr_top ev6 ?_
        refine zr_istore_n (lv' := [(1, .int v6), (0, .ref (zw_ad P 57)), (2, .int x2)]) E dX7_unended_29 (by decide) rfl ?_
        obtain ⟨v7, ev7, hm⟩ := nm_some hm
        refine zr_iinc (j := 2) (lv' := [(2, .int v7), (1, .int v6), (0, .ref (zw_ad P 57))]) E dX7_unended_30 rfl ev7 (by decide) rfl ?_
        refine zr_goto (tgt := 4) E dX7_unended_33 (by decide) ?_
        refine zr_sub (lv' := [(0, .ref (zw_ad P 57)), (1, .int v6), (2, .int v7)]) [2, 1, 0] rfl ?_
        exact ih s3 v6 v7 hm
      · rw [if_neg c5] at hm
        refine zr_iconst (v := 0) E dX7_unended_23 (by decide) ?_
        refine zr_goto (tgt := 28) E dX7_unended_24 (by decide) ?_
        refine zr_iadd E dX7_unended_28 ?_
        obtain ⟨v8, ev8, hm⟩ := nm_some hm
        refine zr_top ev8 ?_
        refine zr_istore_n (lv' := [(1, .int v8), (0, .ref (zw_ad P 57)), (2, .int x2)]) E dX7_unended_29 (by decide) rfl ?_
        obtain ⟨v9, ev9, hm⟩ := nm_some hm
        refine zr_iinc (j := 2) (lv' := [(2, .int v9), (1, .int v8), (0, .ref (zw_ad P 57))]) E dX7_unended_30 rfl ev9 (by decide) rfl ?_
        refine zr_goto (tgt := 4) E dX7_unended_33 (by decide) ?_
        refine zr_sub (lv' := [(0, .ref (zw_ad P 57)), (1, .int v8), (2, .int v9)]) [2, 1, 0] rfl ?_
        exact ih s3 v8 v9 hm
set_option maxRecDepth 100000 in
set_option maxHeartbeats 4000000 in
theorem c_X7_unended (l : Launch) (P : zw_P) (σ : zw_S) : zc_i l P yX7_unended cX7_unended 3 .int 2 [.ref (zw_ad P 57)] σ (m_X7_unended σ) := by
  refine zc_i.of (by decide) (Nat.le_of_ble_eq_true rfl) (fun B r τ E hl hr hm => ?_)
  subst hl
  refine zr_sub (lv' := [(0, .ref (zw_ad P 57))]) [0] rfl ?_
  unfold m_X7_unended at hm
  refine zr_iconst (v := 0) E dX7_unended_0 (by decide) ?_
  refine zr_istore_n (lv' := [(1, .int 0), (0, .ref (zw_ad P 57))]) E dX7_unended_1 (by decide) rfl ?_
  refine zr_iconst (v := 0) E dX7_unended_2 (by decide) ?_
  refine zr_istore_n (lv' := [(2, .int 0), (1, .int 0), (0, .ref (zw_ad P 57))]) E dX7_unended_3 (by decide) rfl ?_
  refine zr_sub (lv' := [(0, .ref (zw_ad P 57)), (1, .int 0), (2, .int 0)]) [2, 1, 0] rfl ?_
  exact t_X7_unended_4 E hr 200 σ 0 0 hm
-- X7_ended
set_option maxRecDepth 100000 in
set_option maxHeartbeats 4000000 in
theorem c_X7_ended (l : Launch) (P : zw_P) (σ : zw_S) : zc_i l P yX7_ended cX7_ended 1 .int 3 [.ref (zw_ad P 57)] σ (m_X7_ended σ) := by
  refine zc_i.of (by decide) (Nat.le_of_ble_eq_true rfl) (fun B r τ E hl hr hm => ?_)
  subst hl
  refine zr_sub (lv' := [(0, .ref (zw_ad P 57))]) [0] rfl ?_
  unfold m_X7_ended at hm
  refine zr_aload_n E dX7_ended_0 0 rfl ?_
  refine fg_X7_9 E dX7_ended_1 ?_
  refine zr_iconst (v := 2) E dX7_ended_4 (by decide) ?_
  obtain ⟨hv1, v1, ev1, hm⟩ := rd_some hm
  refine zr_iald E ac_58 hv1 ev1 dX7_ended_5 ?_
  refine zr_aload_n E dX7_ended_6 0 rfl ?_
  obtain ⟨r3, s2, os2, hm⟩ := cl_some hm
  refine zr_cVi (st := [.int v1]) E mw_507 cm_X7_unended (c_X7_unended B.2.1 P σ) os2 (rc_57 P) ⟨by decide, by decide⟩ rfl rfl (Nat.le_of_ble_eq_true rfl) dX7_ended_7 ?_
  refine zr_isub E dX7_ended_10 ?_
  exact zr_iret E hr rfl hm dX7_ended_11
-- X7_yearsGo
set_option maxRecDepth 100000 in
set_option maxHeartbeats 4000000 in
theorem t_X7_yearsGo_2 {B : zw_B} {P : zw_P} {τ : zw_S} (E : zf B P cX7_yearsGo RX7 3 7) (hr : B.2.2.2.2.2.2.2.2.1.sig.returnType = none) : ∀ (n : Nat) (σ : zw_S) (x1 : Int32) (x2 : Int32), m_X7_yearsGo_2 n σ x1 x2 = some τ → zw_G B P (zq_v B P τ) 3 σ 2 [(0, .ref (zw_ad P 57)), (1, .int x1), (2, .int x2)] [] := by
  intro n
  induction n with
  | zero => intro σ x1 x2 hm; cases hm
  | succ n ih =>
    intro σ x1 x2 hm
    unfold m_X7_yearsGo_2 at hm
    refine zr_iload_n E dX7_yearsGo_2 2 rfl ?_
    refine zr_iload_n E dX7_yearsGo_3 1 rfl ?_
    refine zr_icmp_ge (tgt := 17) E dX7_yearsGo_4 (by decide) (fun c1 => ?_) (fun c1 => ?_)
    · rw [if_pos c1] at hm
      exact zr_vret E hr hm dX7_yearsGo_17
    · rw [if_neg c1] at hm
      refine zr_aload_n E dX7_yearsGo_7 0 rfl ?_
      obtain ⟨s2, os2, hm⟩ := cv_some hm
      refine zr_cVv (st := []) E mw_515 cm_X7_year (c_X7_year B.2.1 P σ) os2 (rc_57 P) ⟨by decide, by decide⟩ rfl rfl (Nat.le_of_ble_eq_true rfl) dX7_yearsGo_8 ?_
      obtain ⟨v3, ev3, hm⟩ := nm_some hm
      refine zr_iinc (j := 2) (lv' := [(2, .int v3), (0, .ref (zw_ad P 57)), (1, .int x1)]) E dX7_yearsGo_11 rfl ev3 (by decide) rfl ?_
      refine zr_goto (tgt := 2) E dX7_yearsGo_14 (by decide) ?_
      refine zr_sub (lv' := [(0, .ref (zw_ad P 57)), (1, .int x1), (2, .int v3)]) [1, 2, 0] rfl ?_
      exact ih s2 x1 v3 hm
set_option maxRecDepth 100000 in
set_option maxHeartbeats 4000000 in
theorem c_X7_yearsGo (l : Launch) (P : zw_P) (σ : zw_S) (x1 : Int32) : zc_v l P yX7_yearsGo cX7_yearsGo 3 7 [.ref (zw_ad P 57), .int x1] σ (m_X7_yearsGo σ x1) := by
  refine zc_v.of (by decide) (Nat.le_of_ble_eq_true rfl) (fun B τ E hl hr hm => ?_)
  subst hl
  refine zr_sub (lv' := [(0, .ref (zw_ad P 57)), (1, .int x1)]) [0, 1] rfl ?_
  unfold m_X7_yearsGo at hm
  refine zr_iconst (v := 0) E dX7_yearsGo_0 (by decide) ?_
  refine zr_istore_n (lv' := [(2, .int 0), (0, .ref (zw_ad P 57)), (1, .int x1)]) E dX7_yearsGo_1 (by decide) rfl ?_
  refine zr_sub (lv' := [(0, .ref (zw_ad P 57)), (1, .int x1), (2, .int 0)]) [1, 2, 0] rfl ?_
  exact t_X7_yearsGo_2 E hr 200 σ x1 0 hm
-- X7_isFarOn
set_option maxRecDepth 100000 in
set_option maxHeartbeats 4000000 in
theorem c_X7_isFarOn (l : Launch) (P : zw_P) (σ : zw_S) (x1 : Int32) : zc_i l P yX7_isFarOn cX7_isFarOn 2 .boolean 0 [.ref (zw_ad P 57), .int x1] σ (m_X7_isFarOn σ x1) := by
  refine zc_i.of (by decide) (Nat.le_of_ble_eq_true rfl) (fun B r τ E hl hr hm => ?_)
  subst hl
  refine zr_sub (lv' := [(0, .ref (zw_ad P 57)), (1, .int x1)]) [0, 1] rfl ?_
  unfold m_X7_isFarOn at hm
  refine zr_aload_n E dX7_isFarOn_0 0 rfl ?_
  refine fg_X7_9 E dX7_isFarOn_1 ?_
  refine zr_iconst (v := 0) E dX7_isFarOn_4 (by decide) ?_
  obtain ⟨hv1, v1, ev1, hm⟩ := rd_some hm
  refine zr_iald E ac_58 hv1 ev1 dX7_isFarOn_5 ?_
  refine zr_iload_n E dX7_isFarOn_6 1 rfl ?_
  refine zr_iadd E dX7_isFarOn_7 ?_
  refine zr_sipush (v := 999) E dX7_isFarOn_8 (by decide) ?_
  refine zr_icmp_le (tgt := 18) E dX7_isFarOn_11 (by decide) (fun c2 => ?_) (fun c2 => ?_)
  · rw [if_pos c2] at hm
    refine zr_iconst (v := 0) E dX7_isFarOn_18 (by decide) ?_
    exact zr_iret E hr (by decide) hm dX7_isFarOn_19
  · rw [if_neg c2] at hm
    refine zr_iconst (v := 1) E dX7_isFarOn_14 (by decide) ?_
    refine zr_goto (tgt := 19) E dX7_isFarOn_15 (by decide) ?_
    exact zr_iret E hr (by decide) hm dX7_isFarOn_19
-- X7_years
set_option maxRecDepth 100000 in
set_option maxHeartbeats 4000000 in
theorem c_X7_years (l : Launch) (P : zw_P) (σ : zw_S) (x1 : Int32) : zc_i l P yX7_years cX7_years 3 .int 8 [.ref (zw_ad P 57), .int x1] σ (m_X7_years σ x1) := by
  refine zc_i.of (by decide) (Nat.le_of_ble_eq_true rfl) (fun B r τ E hl hr hm => ?_)
  subst hl
  refine zr_sub (lv' := [(0, .ref (zw_ad P 57)), (1, .int x1)]) [0, 1] rfl ?_
  unfold m_X7_years at hm
  refine zr_iload_n E dX7_years_0 1 rfl ?_
  refine zr_i2l E dX7_years_1 ?_
  refine zr_lconst (v := 1) E dX7_years_2 (by decide) ?_
  refine zr_ldc2 E mw_498 dX7_years_3 ?_
  obtain ⟨r2, s1, os1, hm⟩ := cl_some hm
  refine zr_cSi (st := []) E mw_120 cm_X7_in (c_X7_in B.2.1 P σ x1.toInt64 1 60) os1 ⟨by decide, by decide⟩ rfl rfl (Nat.le_of_ble_eq_true rfl) dX7_years_6 ?_
  refine zr_if_ne (tgt := 19) E dX7_years_9 (by decide) (fun c3 => ?_) (fun c3 => ?_)
  · rw [if_neg c3] at hm
    refine zr_aload_n E dX7_years_19 0 rfl ?_
    refine zr_iload_n E dX7_years_20 1 rfl ?_
    obtain ⟨r5, s4, os4, hm⟩ := cl_some hm
    refine zr_cVi (st := []) E mw_499 cm_X7_isFarOn (c_X7_isFarOn B.2.1 P s1 x1) os4 (rc_57 P) ⟨by decide, by decide⟩ rfl rfl (Nat.le_of_ble_eq_true rfl) dX7_years_21 ?_
    refine zr_if_eq (tgt := 34) E dX7_years_24 (by decide) (fun c6 => ?_) (fun c6 => ?_)
    · rw [if_pos c6] at hm
      refine zr_aload_n E dX7_years_34 0 rfl ?_
      obtain ⟨r8, s7, os7, hm⟩ := cl_some hm
      refine zr_cVi (st := []) E mw_503 cm_X7_ended (c_X7_ended B.2.1 P s4) os7 (rc_57 P) ⟨by decide, by decide⟩ rfl rfl (Nat.le_of_ble_eq_true rfl) dX7_years_35 ?_
      refine zr_istore_n (lv' := [(2, .int r8), (0, .ref (zw_ad P 57)), (1, .int x1)]) E dX7_years_38 (by decide) rfl ?_
      refine zr_aload_n E dX7_years_39 1 rfl ?_
      refine zr_iload_n E dX7_years_40 2 rfl ?_
      obtain ⟨s9, os9, hm⟩ := cv_some hm
      refine zr_cVv (st := []) E mw_511 cm_X7_yearsGo (c_X7_yearsGo B.2.1 P s7 x1) os9 (rc_57 P) ⟨by decide, by decide⟩ rfl rfl (Nat.le_of_ble_eq_true rfl) dX7_years_41 ?_
      refine zr_aload_n E dX7_years_44 1 rfl ?_
      obtain ⟨r11, s10, os10, hm⟩ := cl_some hm
      refine zr_cVi (st := []) E mw_503 cm_X7_ended (c_X7_ended B.2.1 P s9) os10 (rc_57 P) ⟨by decide, by decide⟩ rfl rfl (Nat.le_of_ble_eq_true rfl) dX7_years_45 ?_
      refine zr_iload_n E dX7_years_48 0 rfl ?_
      refine zr_isub E dX7_years_49 ?_
      exact zr_iret E hr rfl hm dX7_years_50
    · rw [if_neg c6] at hm
      refine zr_aload_n E dX7_years_27 0 rfl ?_
      refine zr_ldc E mw_394 dX7_years_28 ?_
      obtain ⟨r13, s12, os12, hm⟩ := cl_some hm
      refine zr_cVi (st := []) E mw_127 cm_X7_finds (c_X7_finds B.2.1 P s4 (-1000005)) os12 (rc_57 P) ⟨by decide, by decide⟩ rfl rfl (Nat.le_of_ble_eq_true rfl) dX7_years_30 ?_
      exact zr_iret E hr rfl hm dX7_years_33
  · rw [if_pos c3] at hm
    refine zr_aload_n E dX7_years_12 0 rfl ?_
    refine zr_ldc E mw_115 dX7_years_13 ?_
    obtain ⟨r15, s14, os14, hm⟩ := cl_some hm
    refine zr_cVi (st := []) E mw_127 cm_X7_finds (c_X7_finds B.2.1 P s1 (-1000001)) os14 (rc_57 P) ⟨by decide, by decide⟩ rfl rfl (Nat.le_of_ble_eq_true rfl) dX7_years_15 ?_
    exact zr_iret E hr rfl hm dX7_years_18
-- X7_hours
set_option maxRecDepth 100000 in
set_option maxHeartbeats 4000000 in
theorem t_X7_hours_4 {B : zw_B} {P : zw_P} {r : Int32} {τ : zw_S} (E : zf B P cX7_hours RX7 3 1) (hr : B.2.2.2.2.2.2.2.2.1.sig.returnType = some .int) : ∀ (n : Nat) (σ : zw_S) (x1 : Int32) (x2 : Int32), m_X7_hours_4 n σ x1 x2 = some (r, τ) → zw_G B P (zq_i B P r τ) 3 σ 4 [(0, .ref (zw_ad P 57)), (1, .int x1), (2, .int x2)] [] := by
  intro n
  induction n with
  | zero => intro σ x1 x2 hm; cases hm
  | succ n ih =>
    intro σ x1 x2 hm
    unfold m_X7_hours_4 at hm
    refine zr_iload_n E dX7_hours_4 2 rfl ?_
    refine zr_aload_n E dX7_hours_5 0 rfl ?_
    refine fg_X7_9 E dX7_hours_6 ?_
    refine zr_iconst (v := 2) E dX7_hours_9 (by decide) ?_
    obtain ⟨hv1, v1, ev1, hm⟩ := rd_some hm
    refine zr_iald E ac_58 hv1 ev1 dX7_hours_10 ?_
    refine zr_icmp_ge (tgt := 29) E dX7_hours_11 (by decide) (fun c2 => ?_) (fun c2 => ?_)
    · rw [if_pos c2] at hm
      refine zr_iload_n E dX7_hours_29 1 rfl ?_
      exact zr_iret E hr rfl hm dX7_hours_30
    · rw [if_neg c2] at hm
      refine zr_iload_n E dX7_hours_14 1 rfl ?_
      refine zr_aload_n E dX7_hours_15 0 rfl ?_
      refine zr_iload_n E dX7_hours_16 2 rfl ?_
      refine zr_iconst (v := 2) E dX7_hours_17 (by decide) ?_
      obtain ⟨r4, s3, os3, hm⟩ := cl_some hm
      refine zr_cVi (st := [.int x1]) E mw_199 cm_X7_task0 (c_X7_task0 B.2.1 P σ x2 2) os3 (rc_57 P) ⟨by decide, by decide⟩ rfl rfl (Nat.le_of_ble_eq_true rfl) dX7_hours_18 ?_
      refine zr_iadd E dX7_hours_21 ?_
      obtain ⟨v5, ev5, hm⟩ := nm_some hm
      refine zr_top ev5 ?_
      refine zr_istore_n (lv' := [(1, .int v5), (0, .ref (zw_ad P 57)), (2, .int x2)]) E dX7_hours_22 (by decide) rfl ?_
      obtain ⟨v6, ev6, hm⟩ := nm_some hm
      refine zr_iinc (j := 2) (lv' := [(2, .int v6), (1, .int v5), (0, .ref (zw_ad P 57))]) E dX7_hours_23 rfl ev6 (by decide) rfl ?_
      refine zr_goto (tgt := 4) E dX7_hours_26 (by decide) ?_
      refine zr_sub (lv' := [(0, .ref (zw_ad P 57)), (1, .int v5), (2, .int v6)]) [2, 1, 0] rfl ?_
      exact ih s3 v5 v6 hm
set_option maxRecDepth 100000 in
set_option maxHeartbeats 4000000 in
theorem c_X7_hours (l : Launch) (P : zw_P) (σ : zw_S) : zc_i l P yX7_hours cX7_hours 3 .int 1 [.ref (zw_ad P 57)] σ (m_X7_hours σ) := by
  refine zc_i.of (by decide) (Nat.le_of_ble_eq_true rfl) (fun B r τ E hl hr hm => ?_)
  subst hl
  refine zr_sub (lv' := [(0, .ref (zw_ad P 57))]) [0] rfl ?_
  unfold m_X7_hours at hm
  refine zr_iconst (v := 0) E dX7_hours_0 (by decide) ?_
  refine zr_istore_n (lv' := [(1, .int 0), (0, .ref (zw_ad P 57))]) E dX7_hours_1 (by decide) rfl ?_
  refine zr_iconst (v := 0) E dX7_hours_2 (by decide) ?_
  refine zr_istore_n (lv' := [(2, .int 0), (1, .int 0), (0, .ref (zw_ad P 57))]) E dX7_hours_3 (by decide) rfl ?_
  refine zr_sub (lv' := [(0, .ref (zw_ad P 57)), (1, .int 0), (2, .int 0)]) [2, 1, 0] rfl ?_
  exact t_X7_hours_4 E hr 200 σ 0 0 hm
-- X7_endedWorth
set_option maxRecDepth 100000 in
set_option maxHeartbeats 4000000 in
theorem t_X7_endedWorth_4 {B : zw_B} {P : zw_P} {r : Int32} {τ : zw_S} (E : zf B P cX7_endedWorth RX7 3 3) (hr : B.2.2.2.2.2.2.2.2.1.sig.returnType = some .int) : ∀ (n : Nat) (σ : zw_S) (x1 : Int32) (x2 : Int32), m_X7_endedWorth_4 n σ x1 x2 = some (r, τ) → zw_G B P (zq_i B P r τ) 3 σ 4 [(0, .ref (zw_ad P 57)), (1, .int x1), (2, .int x2)] [] := by
  intro n
  induction n with
  | zero => intro σ x1 x2 hm; cases hm
  | succ n ih =>
    intro σ x1 x2 hm
    unfold m_X7_endedWorth_4 at hm
    refine zr_iload_n E dX7_endedWorth_4 2 rfl ?_
    refine zr_bipush (v := 8) E dX7_endedWorth_5 (by decide) ?_
    refine zr_icmp_ge (tgt := 50) E dX7_endedWorth_7 (by decide) (fun c1 => ?_) (fun c1 => ?_)
    · rw [if_pos c1] at hm
      refine zr_iload_n E dX7_endedWorth_50 1 rfl ?_
      exact zr_iret E hr rfl hm dX7_endedWorth_51
    · rw [if_neg c1] at hm
      refine zr_iload_n E dX7_endedWorth_10 1 rfl ?_
      refine zr_aload_n E dX7_endedWorth_11 0 rfl ?_
      refine zr_iload_n E dX7_endedWorth_12 2 rfl ?_
      refine zr_iconst (v := 0) E dX7_endedWorth_13 (by decide) ?_
      obtain ⟨r3, s2, os2, hm⟩ := cl_some hm
      refine zr_cVi (st := [.int x1]) E mw_293 cm_X7_sumOf (c_X7_sumOf B.2.1 P σ x2 0) os2 (rc_57 P) ⟨by decide, by decide⟩ rfl rfl (Nat.le_of_ble_eq_true rfl) dX7_endedWorth_14 ?_
      refine zr_if_le (tgt := 41) E dX7_endedWorth_17 (by decide) (fun c4 => ?_) (fun c4 => ?_)
      · rw [if_pos c4] at hm
        refine zr_iconst (v := 0) E dX7_endedWorth_41 (by decide) ?_
        refine zr_iadd E dX7_endedWorth_42 ?_
        obtain ⟨v5, ev5, hm⟩ := nm_some hm
        refine zr_top ev5 ?_
        refine zr_istore_n (lv' := [(1, .int v5), (0, .ref (zw_ad P 57)), (2, .int x2)]) E dX7_endedWorth_43 (by decide) rfl ?_
        obtain ⟨v6, ev6, hm⟩ := nm_some hm
        refine zr_iinc (j := 2) (lv' := [(2, .int v6), (1, .int v5), (0, .ref (zw_ad P 57))]) E dX7_endedWorth_44 rfl ev6 (by decide) rfl ?_
        refine zr_goto (tgt := 4) E dX7_endedWorth_47 (by decide) ?_
        refine zr_sub (lv' := [(0, .ref (zw_ad P 57)), (1, .int v5), (2, .int v6)]) [2, 1, 0] rfl ?_
        exact ih s2 v5 v6 hm
      · rw [if_neg c4] at hm
        refine zr_aload_n E dX7_endedWorth_20 0 rfl ?_
        refine zr_iload_n E dX7_endedWorth_21 2 rfl ?_
        obtain ⟨r8, s7, os7, hm⟩ := cl_some hm
        refine zr_cVi (st := [.int x1]) E mw_281 cm_X7_isOpen (c_X7_isOpen B.2.1 P s2 x2) os7 (rc_57 P) ⟨by decide, by decide⟩ rfl rfl (Nat.le_of_ble_eq_true rfl) dX7_endedWorth_22 ?_
        refine zr_if_ne (tgt := 41) E dX7_endedWorth_25 (by decide) (fun c9 => ?_) (fun c9 => ?_)
        · rw [if_neg c9] at hm
          refine zr_iconst (v := 0) E dX7_endedWorth_41 (by decide) ?_
          refine zr_iadd E dX7_endedWorth_42 ?_
          obtain ⟨v10, ev10, hm⟩ := nm_some hm
          refine zr_top ev10 ?_
          refine zr_istore_n (lv' := [(1, .int v10), (0, .ref (zw_ad P 57)), (2, .int x2)]) E dX7_endedWorth_43 (by decide) rfl ?_
          obtain ⟨v11, ev11, hm⟩ := nm_some hm
          refine zr_iinc (j := 2) (lv' := [(2, .int v11), (1, .int v10), (0, .ref (zw_ad P 57))]) E dX7_endedWorth_44 rfl ev11 (by decide) rfl ?_
          refine zr_goto (tgt := 4) E dX7_endedWorth_47 (by decide) ?_
          refine zr_sub (lv' := [(0, .ref (zw_ad P 57)), (1, .int v10), (2, .int v11)]) [2, 1, 0] rfl ?_
          exact ih s7 v10 v11 hm
        · rw [if_pos c9] at hm
          refine zr_aload_n E dX7_endedWorth_28 0 rfl ?_
          refine fg_X7_9 E dX7_endedWorth_29 ?_
          refine zr_iconst (v := 4) E dX7_endedWorth_32 (by decide) ?_
          refine zr_iconst (v := 2) E dX7_endedWorth_33 (by decide) ?_
          refine zr_iload_n E dX7_endedWorth_34 2 rfl ?_
          refine zr_imul E dX7_endedWorth_35 ?_
          refine zr_iadd E dX7_endedWorth_36 ?_
          obtain ⟨hv12, v12, ev12, hm⟩ := rd_some hm
          refine zr_iald E ac_58 hv12 ev12 dX7_endedWorth_37 ?_
          refine zr_goto (tgt := 42) E dX7_endedWorth_38 (by decide) ?_
          refine zr_iadd E dX7_endedWorth_42 ?_
          obtain ⟨v13, ev13, hm⟩ := nm_some hm
          refine zr_top ev13 ?_
          refine zr_istore_n (lv' := [(1, .int v13), (0, .ref (zw_ad P 57)), (2, .int x2)]) E dX7_endedWorth_43 (by decide) rfl ?_
          obtain ⟨v14, ev14, hm⟩ := nm_some hm
          refine zr_iinc (j := 2) (lv' := [(2, .int v14), (1, .int v13), (0, .ref (zw_ad P 57))]) E dX7_endedWorth_44 rfl ev14 (by decide) rfl ?_
          refine zr_goto (tgt := 4) E dX7_endedWorth_47 (by decide) ?_
          refine zr_sub (lv' := [(0, .ref (zw_ad P 57)), (1, .int v13), (2, .int v14)]) [2, 1, 0] rfl ?_
          exact ih s7 v13 v14 hm
set_option maxRecDepth 100000 in
set_option maxHeartbeats 4000000 in
theorem c_X7_endedWorth (l : Launch) (P : zw_P) (σ : zw_S) : zc_i l P yX7_endedWorth cX7_endedWorth 3 .int 3 [.ref (zw_ad P 57)] σ (m_X7_endedWorth σ) := by
  refine zc_i.of (by decide) (Nat.le_of_ble_eq_true rfl) (fun B r τ E hl hr hm => ?_)
  subst hl
  refine zr_sub (lv' := [(0, .ref (zw_ad P 57))]) [0] rfl ?_
  unfold m_X7_endedWorth at hm
  refine zr_iconst (v := 0) E dX7_endedWorth_0 (by decide) ?_
  refine zr_istore_n (lv' := [(1, .int 0), (0, .ref (zw_ad P 57))]) E dX7_endedWorth_1 (by decide) rfl ?_
  refine zr_iconst (v := 0) E dX7_endedWorth_2 (by decide) ?_
  refine zr_istore_n (lv' := [(2, .int 0), (1, .int 0), (0, .ref (zw_ad P 57))]) E dX7_endedWorth_3 (by decide) rfl ?_
  refine zr_sub (lv' := [(0, .ref (zw_ad P 57)), (1, .int 0), (2, .int 0)]) [2, 1, 0] rfl ?_
  exact t_X7_endedWorth_4 E hr 200 σ 0 0 hm
