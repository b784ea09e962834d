-- X7_personItem
set_option maxRecDepth 100000 in
set_option maxHeartbeats 4000000 in
theorem t_X7_personItem_141 {B : zw_B} {P : zw_P} {τ : zw_S} (E : zf B P cX7_personItem RX7 4 6) (hr : B.2.2.2.2.2.2.2.2.1.sig.returnType = none) (σ : zw_S) (x1 : Int32) (x2 : Int32) (x3 : Int32) (hm : m_X7_personItem_141 σ x1 x2 x3 = some τ) : zw_G B P (zq_v B P τ) 4 σ 141 [(0, .ref (zw_ad P 57)), (1, .int x1), (2, .int x2), (3, .int x3)] [] := by
  unfold m_X7_personItem_141 at hm
  refine zr_aload_n E dX7_personItem_141 0 rfl ?_
  refine fg_X7_249 E dX7_personItem_142 ?_
  refine zr_if_ne (tgt := 155) E dX7_personItem_145 (by decide) (fun c1 => ?_) (fun c1 => ?_)
  · rw [if_neg c1] at hm
    exact zr_vret E hr hm dX7_personItem_155
  · rw [if_pos c1] at hm
    refine zr_aload_n E dX7_personItem_148 0 rfl ?_
    refine zr_iload_n E dX7_personItem_149 1 rfl ?_
    refine zr_iload_n E dX7_personItem_150 2 rfl ?_
    refine zr_iload_n E dX7_personItem_151 3 rfl ?_
    obtain ⟨s2, os2, hm⟩ := cv_some hm
    refine zr_cVv (st := []) E mw_334 cm_X7_isBorn (c_X7_isBorn B.2.1 P σ x1 x2 x3) os2 (rc_57 P) ⟨by decide, by decide⟩ rfl rfl (Nat.le_of_ble_eq_true rfl) dX7_personItem_152 ?_
    exact zr_vret E hr hm dX7_personItem_155
set_option maxRecDepth 100000 in
set_option maxHeartbeats 4000000 in
theorem t_X7_personItem_94 {B : zw_B} {P : zw_P} {τ : zw_S} (E : zf B P cX7_personItem RX7 4 6) (hr : B.2.2.2.2.2.2.2.2.1.sig.returnType = none) (σ : zw_S) (x1 : Int32) (y0 : Int32) (hm : m_X7_personItem_94 σ x1 y0 = some τ) : zw_G B P (zq_v B P τ) 4 σ 94 [(0, .ref (zw_ad P 57)), (1, .int x1)] [.int y0] := by
  unfold m_X7_personItem_94 at hm
  refine zr_istore_n (lv' := [(2, .int y0), (0, .ref (zw_ad P 57)), (1, .int x1)]) E dX7_personItem_94 (by decide) rfl ?_
  refine zr_iconst (v := (-1)) E dX7_personItem_95 (by decide) ?_
  refine zr_istore_n (lv' := [(3, .int ((-1))), (2, .int y0), (0, .ref (zw_ad P 57)), (1, .int x1)]) E dX7_personItem_96 (by decide) rfl ?_
  refine zr_aload_n E dX7_personItem_97 2 rfl ?_
  refine zr_ldcwM E rfl 5 (by decide) rfl dX7_personItem_98 ?_
  obtain ⟨r2, s1, os1, hm⟩ := cl_some hm
  refine zr_cVi (st := []) E mw_970 cm_X7_takes (c_X7_takes B.2.1 P 5 (by decide) σ) os1 (rc_57 P) ⟨by decide, by decide⟩ rfl rfl (Nat.le_of_ble_eq_true rfl) dX7_personItem_101 ?_
  refine zr_if_eq (tgt := 141) E dX7_personItem_104 (by decide) (fun c3 => ?_) (fun c3 => ?_)
  · rw [if_pos c3] at hm
    refine zr_sub (lv' := [(0, .ref (zw_ad P 57)), (1, .int x1), (2, .int y0), (3, .int ((-1)))]) [2, 3, 1, 0] rfl ?_
    exact t_X7_personItem_141 E hr s1 x1 y0 (-1) hm
  · rw [if_neg c3] at hm
    refine zr_aload_n E dX7_personItem_107 2 rfl ?_
    refine zr_iconst (v := 0) E dX7_personItem_108 (by decide) ?_
    refine zr_bipush (v := 7) E dX7_personItem_109 (by decide) ?_
    refine zr_aload_n E dX7_personItem_111 2 rfl ?_
    refine fg_X7_243 E dX7_personItem_112 ?_
    obtain ⟨r5, s4, os4, hm⟩ := cl_some hm
    refine zr_cSi (st := [.int 7, .int 0, .ref (zw_ad P 57)]) E mw_116 cm_X7_isName (c_X7_isName B.2.1 P s1 (s1 57 13)) os4 ⟨by decide, by decide⟩ rfl rfl (Nat.le_of_ble_eq_true rfl) dX7_personItem_115 ?_
    refine zr_if_eq (tgt := 132) E dX7_personItem_118 (by decide) (fun c6 => ?_) (fun c6 => ?_)
    · rw [if_pos c6] at hm
      refine zr_iconst (v := 1) E dX7_personItem_132 (by decide) ?_
      refine zr_goto (tgt := 137) E dX7_personItem_133 (by decide) ?_
      obtain ⟨r8, s7, os7, hm⟩ := cl_some hm
      refine zr_cVi (st := []) E mw_978 cm_X7_number (c_X7_number B.2.1 P s4 0 7 1) os7 (rc_57 P) ⟨by decide, by decide⟩ rfl rfl (Nat.le_of_ble_eq_true rfl) dX7_personItem_137 ?_
      refine zr_istore_n (lv' := [(3, .int r8), (2, .int y0), (0, .ref (zw_ad P 57)), (1, .int x1)]) E dX7_personItem_140 (by decide) rfl ?_
      refine zr_sub (lv' := [(0, .ref (zw_ad P 57)), (1, .int x1), (2, .int y0), (3, .int r8)]) [2, 3, 1, 0] rfl ?_
      exact t_X7_personItem_141 E hr s7 x1 y0 r8 hm
    · rw [if_neg c6] at hm
      refine zr_aload_n E dX7_personItem_121 2 rfl ?_
      refine zr_aload_n E dX7_personItem_122 2 rfl ?_
      refine fg_X7_243 E dX7_personItem_123 ?_
      obtain ⟨r10, s9, os9, hm⟩ := cl_some hm
      refine zr_cVi (st := [.int 7, .int 0, .ref (zw_ad P 57)]) E mw_285 cm_X7_bearer (c_X7_bearer B.2.1 P s4 (s4 57 13)) os9 (rc_57 P) ⟨by decide, by decide⟩ rfl rfl (Nat.le_of_ble_eq_true rfl) dX7_personItem_126 ?_
      refine zr_if_ge (tgt := 136) E dX7_personItem_129 (by decide) (fun c11 => ?_) (fun c11 => ?_)
      · rw [if_pos c11] at hm
        refine zr_iconst (v := 0) E dX7_personItem_136 (by decide) ?_
        obtain ⟨r13, s12, os12, hm⟩ := cl_some hm
        refine zr_cVi (st := []) E mw_978 cm_X7_number (c_X7_number B.2.1 P s9 0 7 0) os12 (rc_57 P) ⟨by decide, by decide⟩ rfl rfl (Nat.le_of_ble_eq_true rfl) dX7_personItem_137 ?_
        refine zr_istore_n (lv' := [(3, .int r13), (2, .int y0), (0, .ref (zw_ad P 57)), (1, .int x1)]) E dX7_personItem_140 (by decide) rfl ?_
        refine zr_sub (lv' := [(0, .ref (zw_ad P 57)), (1, .int x1), (2, .int y0), (3, .int r13)]) [2, 3, 1, 0] rfl ?_
        exact t_X7_personItem_141 E hr s12 x1 y0 r13 hm
      · rw [if_neg c11] at hm
        refine zr_iconst (v := 1) E dX7_personItem_132 (by decide) ?_
        refine zr_goto (tgt := 137) E dX7_personItem_133 (by decide) ?_
        obtain ⟨r15, s14, os14, hm⟩ := cl_some hm
        refine zr_cVi (st := []) E mw_978 cm_X7_number (c_X7_number B.2.1 P s9 0 7 1) os14 (rc_57 P) ⟨by decide, by decide⟩ rfl rfl (Nat.le_of_ble_eq_true rfl) dX7_personItem_137 ?_
        refine zr_istore_n (lv' := [(3, .int r15), (2, .int y0), (0, .ref (zw_ad P 57)), (1, .int x1)]) E dX7_personItem_140 (by decide) rfl ?_
        refine zr_sub (lv' := [(0, .ref (zw_ad P 57)), (1, .int x1), (2, .int y0), (3, .int r15)]) [2, 3, 1, 0] rfl ?_
        exact t_X7_personItem_141 E hr s14 x1 y0 r15 hm
set_option maxRecDepth 100000 in
set_option maxHeartbeats 4000000 in
theorem t_X7_personItem_71 {B : zw_B} {P : zw_P} {τ : zw_S} (E : zf B P cX7_personItem RX7 4 6) (hr : B.2.2.2.2.2.2.2.2.1.sig.returnType = none) (σ : zw_S) (y0 : Int32) (hm : m_X7_personItem_71 σ y0 = some τ) : zw_G B P (zq_v B P τ) 4 σ 71 [(0, .ref (zw_ad P 57))] [.int y0] := by
  unfold m_X7_personItem_71 at hm
  refine zr_istore_n (lv' := [(1, .int y0), (0, .ref (zw_ad P 57))]) E dX7_personItem_71 (by decide) rfl ?_
  refine zr_aload_n E dX7_personItem_72 1 rfl ?_
  refine zr_ldcwM E rfl 4 (by decide) rfl dX7_personItem_73 ?_
  obtain ⟨r2, s1, os1, hm⟩ := cl_some hm
  refine zr_cVi (st := []) E mw_970 cm_X7_takes (c_X7_takes B.2.1 P 4 (by decide) σ) os1 (rc_57 P) ⟨by decide, by decide⟩ rfl rfl (Nat.le_of_ble_eq_true rfl) dX7_personItem_76 ?_
  refine zr_if_eq (tgt := 93) E dX7_personItem_79 (by decide) (fun c3 => ?_) (fun c3 => ?_)
  · rw [if_pos c3] at hm
    refine zr_iconst (v := 0) E dX7_personItem_93 (by decide) ?_
    refine zr_sub (lv' := [(0, .ref (zw_ad P 57)), (1, .int y0)]) [1, 0] rfl ?_
    exact t_X7_personItem_94 E hr s1 y0 0 hm
  · rw [if_neg c3] at hm
    refine zr_aload_n E dX7_personItem_82 1 rfl ?_
    refine zr_iconst (v := 0) E dX7_personItem_83 (by decide) ?_
    refine zr_bipush (v := 39) E dX7_personItem_84 (by decide) ?_
    refine zr_iconst (v := 1) E dX7_personItem_86 (by decide) ?_
    obtain ⟨r5, s4, os4, hm⟩ := cl_some hm
    refine zr_cVi (st := []) E mw_978 cm_X7_number (c_X7_number B.2.1 P s1 0 39 1) os4 (rc_57 P) ⟨by decide, by decide⟩ rfl rfl (Nat.le_of_ble_eq_true rfl) dX7_personItem_87 ?_
    refine zr_goto (tgt := 94) E dX7_personItem_90 (by decide) ?_
    refine zr_sub (lv' := [(0, .ref (zw_ad P 57)), (1, .int y0)]) [1, 0] rfl ?_
    exact t_X7_personItem_94 E hr s4 y0 r5 hm
set_option maxRecDepth 100000 in
set_option maxHeartbeats 4000000 in
theorem t_X7_personItem_34 {B : zw_B} {P : zw_P} {τ : zw_S} (E : zf B P cX7_personItem RX7 4 6) (hr : B.2.2.2.2.2.2.2.2.1.sig.returnType = none) (σ : zw_S) (y0 : Int32) (hm : m_X7_personItem_34 σ y0 = some τ) : zw_G B P (zq_v B P τ) 4 σ 34 [(0, .ref (zw_ad P 57))] [.int y0, .ref (zw_ad P 57)] := by
  unfold m_X7_personItem_34 at hm
  obtain ⟨hz1, hm⟩ := tt_some hm
  obtain ⟨s2, es2, hm⟩ := nm_some hm
  refine fp_X7_249 (zz_some hz1) E es2 dX7_personItem_34 ?_
  refine zr_aload_n E dX7_personItem_37 0 rfl ?_
  refine fg_X7_249 E dX7_personItem_38 ?_
  refine zr_if_eq (tgt := 45) E dX7_personItem_41 (by decide) (fun c3 => ?_) (fun c3 => ?_)
  · rw [if_pos c3] at hm
    refine zr_aload_n E dX7_personItem_45 0 rfl ?_
    obtain ⟨s4, os4, hm⟩ := cv_some hm
    refine zr_cVv (st := []) E mw_947 cm_X7_token (c_X7_token B.2.1 P s2) os4 (rc_57 P) ⟨by decide, by decide⟩ rfl rfl (Nat.le_of_ble_eq_true rfl) dX7_personItem_46 ?_
    refine zr_aload_n E dX7_personItem_49 0 rfl ?_
    refine zr_ldcwM E rfl 3 (by decide) rfl dX7_personItem_50 ?_
    obtain ⟨r6, s5, os5, hm⟩ := cl_some hm
    refine zr_cVi (st := []) E mw_970 cm_X7_takes (c_X7_takes B.2.1 P 3 (by decide) s4) os5 (rc_57 P) ⟨by decide, by decide⟩ rfl rfl (Nat.le_of_ble_eq_true rfl) dX7_personItem_53 ?_
    refine zr_if_eq (tgt := 70) E dX7_personItem_56 (by decide) (fun c7 => ?_) (fun c7 => ?_)
    · rw [if_pos c7] at hm
      refine zr_iconst (v := 3) E dX7_personItem_70 (by decide) ?_
      refine zr_sub (lv' := [(0, .ref (zw_ad P 57))]) [0] rfl ?_
      exact t_X7_personItem_71 E hr s5 3 hm
    · rw [if_neg c7] at hm
      refine zr_aload_n E dX7_personItem_59 0 rfl ?_
      refine zr_iconst (v := 1) E dX7_personItem_60 (by decide) ?_
      refine zr_bipush (v := 9) E dX7_personItem_61 (by decide) ?_
      refine zr_iconst (v := 1) E dX7_personItem_63 (by decide) ?_
      obtain ⟨r9, s8, os8, hm⟩ := cl_some hm
      refine zr_cVi (st := []) E mw_978 cm_X7_number (c_X7_number B.2.1 P s5 1 9 1) os8 (rc_57 P) ⟨by decide, by decide⟩ rfl rfl (Nat.le_of_ble_eq_true rfl) dX7_personItem_64 ?_
      refine zr_goto (tgt := 71) E dX7_personItem_67 (by decide) ?_
      refine zr_sub (lv' := [(0, .ref (zw_ad P 57))]) [0] rfl ?_
      exact t_X7_personItem_71 E hr s8 r9 hm
  · rw [if_neg c3] at hm
    exact zr_vret E hr hm dX7_personItem_44
set_option maxRecDepth 100000 in
set_option maxHeartbeats 4000000 in
theorem c_X7_personItem (l : Launch) (P : zw_P) (σ : zw_S) : zc_v l P yX7_personItem cX7_personItem 4 6 [.ref (zw_ad P 57)] σ (m_X7_personItem σ) := by
  refine zc_v.of (by decide) (Nat.le_of_ble_eq_true rfl) (fun B τ E hl hr hm => ?_)
  subst hl
  refine zr_sub (lv' := [(0, .ref (zw_ad P 57))]) [0] rfl ?_
  unfold m_X7_personItem at hm
  refine zr_aload_n E dX7_personItem_0 0 rfl ?_
  refine zr_aload_n E dX7_personItem_1 0 rfl ?_
  refine fg_X7_249 E dX7_personItem_2 ?_
  refine zr_if_ne (tgt := 29) E dX7_personItem_5 (by decide) (fun c1 => ?_) (fun c1 => ?_)
  · rw [if_neg c1] at hm
    refine zr_iconst (v := 1) E dX7_personItem_29 (by decide) ?_
    refine zr_goto (tgt := 34) E dX7_personItem_30 (by decide) ?_
    refine zr_sub (lv' := [(0, .ref (zw_ad P 57))]) [0] rfl ?_
    exact t_X7_personItem_34 E hr σ 1 hm
  · rw [if_pos c1] at hm
    refine zr_aload_n E dX7_personItem_8 0 rfl ?_
    refine zr_ldcwM E rfl 2 (by decide) rfl dX7_personItem_9 ?_
    obtain ⟨r3, s2, os2, hm⟩ := cl_some hm
    refine zr_cVi (st := [.ref (zw_ad P 57)]) E mw_964 cm_X7_isWord (c_X7_isWord B.2.1 P 2 (by decide) σ) os2 (rc_57 P) ⟨by decide, by decide⟩ rfl rfl (Nat.le_of_ble_eq_true rfl) dX7_personItem_12 ?_
    refine zr_if_eq (tgt := 29) E dX7_personItem_15 (by decide) (fun c4 => ?_) (fun c4 => ?_)
    · rw [if_pos c4] at hm
      refine zr_iconst (v := 1) E dX7_personItem_29 (by decide) ?_
      refine zr_goto (tgt := 34) E dX7_personItem_30 (by decide) ?_
      refine zr_sub (lv' := [(0, .ref (zw_ad P 57))]) [0] rfl ?_
      exact t_X7_personItem_34 E hr s2 1 hm
    · rw [if_neg c4] at hm
      refine zr_aload_n E dX7_personItem_18 0 rfl ?_
      refine fg_X7_9 E dX7_personItem_19 ?_
      refine zr_iconst (v := 3) E dX7_personItem_22 (by decide) ?_
      obtain ⟨hv5, v5, ev5, hm⟩ := rd_some hm
      refine zr_iald E ac_58 hv5 ev5 dX7_personItem_23 ?_
      refine zr_bipush (v := 8) E dX7_personItem_24 (by decide) ?_
      refine zr_icmp_ne (tgt := 33) E dX7_personItem_26 (by decide) (fun c6 => ?_) (fun c6 => ?_)
      · rw [if_neg c6] at hm
        refine zr_iconst (v := 0) E dX7_personItem_33 (by decide) ?_
        refine zr_sub (lv' := [(0, .ref (zw_ad P 57))]) [0] rfl ?_
        exact t_X7_personItem_34 E hr s2 0 hm
      · rw [if_pos c6] at hm
        refine zr_iconst (v := 1) E dX7_personItem_29 (by decide) ?_
        refine zr_goto (tgt := 34) E dX7_personItem_30 (by decide) ?_
        refine zr_sub (lv' := [(0, .ref (zw_ad P 57))]) [0] rfl ?_
        exact t_X7_personItem_34 E hr s2 1 hm
-- X7_item
set_option maxRecDepth 100000 in
set_option maxHeartbeats 4000000 in
theorem c_X7_item (l : Launch) (P : zw_P) (σ : zw_S) : zc_v l P yX7_item cX7_item 2 8 [.ref (zw_ad P 57)] σ (m_X7_item σ) := by
  refine zc_v.of (by decide) (Nat.le_of_ble_eq_true rfl) (fun B τ E hl hr hm => ?_)
  subst hl
  refine zr_sub (lv' := [(0, .ref (zw_ad P 57))]) [0] rfl ?_
  unfold m_X7_item at hm
  refine zr_aload_n E dX7_item_0 0 rfl ?_
  obtain ⟨r2, s1, os1, hm⟩ := cl_some hm
  refine zr_cVi (st := []) E mw_960 cm_X7_kindHere (c_X7_kindHere B.2.1 P σ) os1 (rc_57 P) ⟨by decide, by decide⟩ rfl rfl (Nat.le_of_ble_eq_true rfl) dX7_item_1 ?_
  refine zr_istore_n (lv' := [(1, .int r2), (0, .ref (zw_ad P 57))]) E dX7_item_4 (by decide) rfl ?_
  refine zr_aload_n E dX7_item_5 1 rfl ?_
  refine zr_ldcwM E rfl 0 (by decide) rfl dX7_item_6 ?_
  obtain ⟨r4, s3, os3, hm⟩ := cl_some hm
  refine zr_cVi (st := []) E mw_970 cm_X7_takes (c_X7_takes B.2.1 P 0 (by decide) s1) os3 (rc_57 P) ⟨by decide, by decide⟩ rfl rfl (Nat.le_of_ble_eq_true rfl) dX7_item_9 ?_
  refine zr_if_eq (tgt := 22) E dX7_item_12 (by decide) (fun c5 => ?_) (fun c5 => ?_)
  · rw [if_pos c5] at hm
    refine zr_iload_n E dX7_item_22 0 rfl ?_
    refine zr_if_lt (tgt := 34) E dX7_item_23 (by decide) (fun c6 => ?_) (fun c6 => ?_)
    · rw [if_pos c6] at hm
      refine zr_aload_n E dX7_item_34 1 rfl ?_
      obtain ⟨s7, os7, hm⟩ := cv_some hm
      refine zr_cVv (st := []) E mw_990 cm_X7_personItem (c_X7_personItem B.2.1 P s3) os7 (rc_57 P) ⟨by decide, by decide⟩ rfl rfl (Nat.le_of_ble_eq_true rfl) dX7_item_35 ?_
      exact zr_vret E hr hm dX7_item_38
    · rw [if_neg c6] at hm
      refine zr_aload_n E dX7_item_26 1 rfl ?_
      refine zr_iload_n E dX7_item_27 0 rfl ?_
      obtain ⟨s8, os8, hm⟩ := cv_some hm
      refine zr_cVv (st := []) E mw_986 cm_X7_taskItem (c_X7_taskItem B.2.1 P s3 r2) os8 (rc_57 P) ⟨by decide, by decide⟩ rfl rfl (Nat.le_of_ble_eq_true rfl) dX7_item_28 ?_
      refine zr_goto (tgt := 38) E dX7_item_31 (by decide) ?_
      exact zr_vret E hr hm dX7_item_38
  · rw [if_neg c5] at hm
    refine zr_aload_n E dX7_item_15 1 rfl ?_
    obtain ⟨s9, os9, hm⟩ := cv_some hm
    refine zr_cVv (st := []) E mw_974 cm_X7_nameItem (c_X7_nameItem B.2.1 P s3) os9 (rc_57 P) ⟨by decide, by decide⟩ rfl rfl (Nat.le_of_ble_eq_true rfl) dX7_item_16 ?_
    refine zr_goto (tgt := 38) E dX7_item_19 (by decide) ?_
    exact zr_vret E hr hm dX7_item_38
-- X7_text
set_option maxRecDepth 100000 in
set_option maxHeartbeats 4000000 in
theorem t_X7_text_78 {B : zw_B} {P : zw_P} {r : Int32} {τ : zw_S} (E : zf B P cX7_text RX7 4 9) (hr : B.2.2.2.2.2.2.2.2.1.sig.returnType = some .int) (σ : zw_S) (x1 : Int32) (y0 : Int32) (hm : m_X7_text_78 σ x1 y0 = some (r, τ)) : zw_G B P (zq_i B P r τ) 4 σ 78 [(0, .ref (zw_ad P 57)), (1, .int x1)] [.int y0, .ref (zw_ad P 57)] := by
  unfold m_X7_text_78 at hm
  obtain ⟨hz1, hm⟩ := tt_some hm
  obtain ⟨s2, es2, hm⟩ := nm_some hm
  refine fp_X7_249 (zz_some hz1) E es2 dX7_text_78 ?_
  refine zr_aload_n E dX7_text_81 0 rfl ?_
  refine fg_X7_236 E dX7_text_82 ?_
  obtain ⟨v3, ev3, hm⟩ := nm_some hm
  refine zr_top ev3 ?_
  refine zr_istore_n (lv' := [(3, .int v3), (0, .ref (zw_ad P 57)), (1, .int x1)]) E dX7_text_85 (by decide) rfl ?_
  refine zr_aload_n E dX7_text_86 1 rfl ?_
  refine zr_iconst (v := 0) E dX7_text_87 (by decide) ?_
  obtain ⟨s4, es4, hm⟩ := nm_some hm
  refine fp_X7_229 E es4 dX7_text_88 ?_
  refine zr_aload_n E dX7_text_91 1 rfl ?_
  refine fg_X7_249 E dX7_text_92 ?_
  refine zr_if_ne (tgt := 100) E dX7_text_95 (by decide) (fun c5 => ?_) (fun c5 => ?_)
  · rw [if_neg c5] at hm
    refine zr_aload_n E dX7_text_100 1 rfl ?_
    refine fg_X7_16 E dX7_text_101 ?_
    refine zr_aload_n E dX7_text_104 1 rfl ?_
    refine fg_X7_9 E dX7_text_105 ?_
    obtain ⟨s6, os6, hm⟩ := cv_some hm
    refine zr_cSv (st := []) E mw_585 cm_X7_row (c_X7_row B.2.1 P 60 58 ac_60 ac_58 s4) os6 ⟨by decide, by decide⟩ rfl rfl (Nat.le_of_ble_eq_true rfl) dX7_text_108 ?_
    refine zr_iconst (v := (-1)) E dX7_text_111 (by decide) ?_
    refine zr_iload_n E dX7_text_112 0 rfl ?_
    refine zr_isub E dX7_text_113 ?_
    exact zr_iret E hr rfl hm dX7_text_114
  · rw [if_pos c5] at hm
    refine zr_iload_n E dX7_text_98 2 rfl ?_
    exact zr_iret E hr rfl hm dX7_text_99
set_option maxRecDepth 100000 in
set_option maxHeartbeats 4000000 in
theorem t_X7_text_58 {B : zw_B} {P : zw_P} {r : Int32} {τ : zw_S} (E : zf B P cX7_text RX7 4 9) (hr : B.2.2.2.2.2.2.2.2.1.sig.returnType = some .int) (σ : zw_S) (x1 : Int32) (hm : m_X7_text_58 σ x1 = some (r, τ)) : zw_G B P (zq_i B P r τ) 4 σ 58 [(0, .ref (zw_ad P 57)), (1, .int x1)] [] := by
  unfold m_X7_text_58 at hm
  refine zr_aload_n E dX7_text_58 0 rfl ?_
  refine zr_aload_n E dX7_text_59 0 rfl ?_
  refine fg_X7_249 E dX7_text_60 ?_
  refine zr_if_ne (tgt := 73) E dX7_text_63 (by decide) (fun c1 => ?_) (fun c1 => ?_)
  · rw [if_neg c1] at hm
    refine zr_iconst (v := 1) E dX7_text_73 (by decide) ?_
    refine zr_goto (tgt := 78) E dX7_text_74 (by decide) ?_
    refine zr_sub (lv' := [(0, .ref (zw_ad P 57)), (1, .int x1)]) [0, 1] rfl ?_
    exact t_X7_text_78 E hr σ x1 1 hm
  · rw [if_pos c1] at hm
    refine zr_aload_n E dX7_text_66 0 rfl ?_
    refine fg_X7_246 E dX7_text_67 ?_
    refine zr_if_eq (tgt := 77) E dX7_text_70 (by decide) (fun c2 => ?_) (fun c2 => ?_)
    · rw [if_pos c2] at hm
      refine zr_iconst (v := 0) E dX7_text_77 (by decide) ?_
      refine zr_sub (lv' := [(0, .ref (zw_ad P 57)), (1, .int x1)]) [0, 1] rfl ?_
      exact t_X7_text_78 E hr σ x1 0 hm
    · rw [if_neg c2] at hm
      refine zr_iconst (v := 1) E dX7_text_73 (by decide) ?_
      refine zr_goto (tgt := 78) E dX7_text_74 (by decide) ?_
      refine zr_sub (lv' := [(0, .ref (zw_ad P 57)), (1, .int x1)]) [0, 1] rfl ?_
      exact t_X7_text_78 E hr σ x1 1 hm
set_option maxRecDepth 100000 in
set_option maxHeartbeats 4000000 in
theorem t_X7_text_29 {B : zw_B} {P : zw_P} {r : Int32} {τ : zw_S} (E : zf B P cX7_text RX7 4 9) (hr : B.2.2.2.2.2.2.2.2.1.sig.returnType = some .int) : ∀ (n : Nat) (σ : zw_S) (x1 : Int32) (x2 : Int32), m_X7_text_29 n σ x1 x2 = some (r, τ) → zw_G B P (zq_i B P r τ) 4 σ 29 [(0, .ref (zw_ad P 57)), (1, .int x1), (2, .int x2)] [] := by
  intro n
  induction n with
  | zero => intro σ x1 x2 hm; cases hm
  | succ n ih =>
    intro σ x1 x2 hm
    unfold m_X7_text_29 at hm
    refine zr_iload_n E dX7_text_29 2 rfl ?_
    refine zr_if_eq (tgt := 58) E dX7_text_30 (by decide) (fun c1 => ?_) (fun c1 => ?_)
    · rw [if_pos c1] at hm
      refine zr_sub (lv' := [(0, .ref (zw_ad P 57)), (1, .int x1)]) [0, 1] rfl ?_
      exact t_X7_text_58 E hr σ x1 hm
    · rw [if_neg c1] at hm
      refine zr_aload_n E dX7_text_33 0 rfl ?_
      obtain ⟨s2, os2, hm⟩ := cv_some hm
      refine zr_cVv (st := []) E mw_956 cm_X7_item (c_X7_item B.2.1 P σ) os2 (rc_57 P) ⟨by decide, by decide⟩ rfl rfl (Nat.le_of_ble_eq_true rfl) dX7_text_34 ?_
      obtain ⟨v3, ev3, hm⟩ := nm_some hm
      refine zr_iinc (j := 1) (lv' := [(1, .int v3), (0, .ref (zw_ad P 57)), (2, .int x2)]) E dX7_text_37 rfl ev3 (by decide) rfl ?_
      refine zr_aload_n E dX7_text_40 1 rfl ?_
      refine zr_bipush (v := 59) E dX7_text_41 (by decide) ?_
      obtain ⟨r5, s4, os4, hm⟩ := cl_some hm
      refine zr_cVi (st := []) E mw_994 cm_X7_isSign (c_X7_isSign B.2.1 P s2 59) os4 (rc_57 P) ⟨by decide, by decide⟩ rfl rfl (Nat.le_of_ble_eq_true rfl) dX7_text_43 ?_
      refine zr_istore_n (lv' := [(2, .int r5), (1, .int v3), (0, .ref (zw_ad P 57))]) E dX7_text_46 (by decide) rfl ?_
      refine zr_iload_n E dX7_text_47 0 rfl ?_
      refine zr_if_eq (tgt := 29) E dX7_text_48 (by decide) (fun c6 => ?_) (fun c6 => ?_)
      · rw [if_pos c6] at hm
        refine zr_sub (lv' := [(0, .ref (zw_ad P 57)), (1, .int v3), (2, .int r5)]) [2, 1, 0] rfl ?_
        exact ih s4 v3 r5 hm
      · rw [if_neg c6] at hm
        refine zr_aload_n E dX7_text_51 2 rfl ?_
        obtain ⟨s7, os7, hm⟩ := cv_some hm
        refine zr_cVv (st := []) E mw_947 cm_X7_token (c_X7_token B.2.1 P s4) os7 (rc_57 P) ⟨by decide, by decide⟩ rfl rfl (Nat.le_of_ble_eq_true rfl) dX7_text_52 ?_
        refine zr_goto (tgt := 29) E dX7_text_55 (by decide) ?_
        refine zr_sub (lv' := [(0, .ref (zw_ad P 57)), (1, .int v3), (2, .int r5)]) [2, 1, 0] rfl ?_
        exact ih s7 v3 r5 hm
set_option maxRecDepth 100000 in
set_option maxHeartbeats 4000000 in
theorem c_X7_text (l : Launch) (P : zw_P) (σ : zw_S) : zc_i l P yX7_text cX7_text 4 .int 9 [.ref (zw_ad P 57)] σ (m_X7_text σ) := by
  refine zc_i.of (by decide) (Nat.le_of_ble_eq_true rfl) (fun B r τ E hl hr hm => ?_)
  subst hl
  refine zr_sub (lv' := [(0, .ref (zw_ad P 57))]) [0] rfl ?_
  unfold m_X7_text at hm
  refine zr_aload_n E dX7_text_0 0 rfl ?_
  refine fg_X7_9 E dX7_text_1 ?_
  refine zr_aload_n E dX7_text_4 0 rfl ?_
  refine fg_X7_16 E dX7_text_5 ?_
  obtain ⟨s1, os1, hm⟩ := cv_some hm
  refine zr_cSv (st := []) E mw_585 cm_X7_row (c_X7_row B.2.1 P 58 60 ac_58 ac_60 σ) os1 ⟨by decide, by decide⟩ rfl rfl (Nat.le_of_ble_eq_true rfl) dX7_text_8 ?_
  refine zr_aload_n E dX7_text_11 0 rfl ?_
  refine zr_iconst (v := 0) E dX7_text_12 (by decide) ?_
  obtain ⟨s2, es2, hm⟩ := nm_some hm
  refine fp_X7_233 E es2 dX7_text_13 ?_
  refine zr_aload_n E dX7_text_16 0 rfl ?_
  refine zr_iconst (v := 0) E dX7_text_17 (by decide) ?_
  obtain ⟨s3, es3, hm⟩ := nm_some hm
  refine fp_X7_249 (by decide) E es3 dX7_text_18 ?_
  refine zr_aload_n E dX7_text_21 0 rfl ?_
  obtain ⟨s4, os4, hm⟩ := cv_some hm
  refine zr_cVv (st := []) E mw_947 cm_X7_token (c_X7_token B.2.1 P s3) os4 (rc_57 P) ⟨by decide, by decide⟩ rfl rfl (Nat.le_of_ble_eq_true rfl) dX7_text_22 ?_
  refine zr_iconst (v := 0) E dX7_text_25 (by decide) ?_
  refine zr_istore_n (lv' := [(1, .int 0), (0, .ref (zw_ad P 57))]) E dX7_text_26 (by decide) rfl ?_
  refine zr_iconst (v := 1) E dX7_text_27 (by decide) ?_
  refine zr_istore_n (lv' := [(2, .int 1), (1, .int 0), (0, .ref (zw_ad P 57))]) E dX7_text_28 (by decide) rfl ?_
  refine zr_sub (lv' := [(0, .ref (zw_ad P 57)), (1, .int 0), (2, .int 1)]) [2, 1, 0] rfl ?_
  exact t_X7_text_29 E hr 200 s4 0 1 hm
-- X7_hold
set_option maxRecDepth 100000 in
set_option maxHeartbeats 4000000 in
theorem t_X7_hold_32 {B : zw_B} {P : zw_P} {r : Int32} {τ : zw_S} (E : zf B P cX7_hold RX7 3 2) (hr : B.2.2.2.2.2.2.2.2.1.sig.returnType = some .int) (σ : zw_S) (x1 : Int32) (x2 : Int32) (hm : m_X7_hold_32 σ x1 x2 = some (r, τ)) : zw_G B P (zq_i B P r τ) 3 σ 32 [(0, .ref (zw_ad P 57)), (1, .int x1), (2, .int x2)] [] := by
  unfold m_X7_hold_32 at hm
  refine zr_aload_n E dX7_hold_32 0 rfl ?_
  refine fg_X7_9 E dX7_hold_33 ?_
  refine zr_sipush (v := 132) E dX7_hold_36 (by decide) ?_
  refine zr_iload_n E dX7_hold_39 1 rfl ?_
  refine zr_iadd E dX7_hold_40 ?_
  refine zr_iload_n E dX7_hold_41 2 rfl ?_
  obtain ⟨hs1, s1, es1, hm⟩ := wt_some hm
  refine zr_iast E ac_58 hs1 es1 dX7_hold_42 ?_
  refine zr_iconst (v := 1) E dX7_hold_43 (by decide) ?_
  exact zr_iret E hr rfl hm dX7_hold_44
set_option maxRecDepth 100000 in
set_option maxHeartbeats 4000000 in
theorem c_X7_hold (l : Launch) (P : zw_P) (σ : zw_S) (x1 : Int32) (x2 : Int32) : zc_i l P yX7_hold cX7_hold 3 .int 2 [.ref (zw_ad P 57), .int x1, .int x2] σ (m_X7_hold σ x1 x2) := by
  refine zc_i.of (by decide) (Nat.le_of_ble_eq_true rfl) (fun B r τ E hl hr hm => ?_)
  subst hl
  refine zr_sub (lv' := [(0, .ref (zw_ad P 57)), (1, .int x1), (2, .int x2)]) [0, 1, 2] rfl ?_
  unfold m_X7_hold at hm
  refine zr_iload_n E dX7_hold_0 1 rfl ?_
  refine zr_i2l E dX7_hold_1 ?_
  refine zr_lconst (v := 0) E dX7_hold_2 (by decide) ?_
  refine zr_ldc2 E mw_333 dX7_hold_3 ?_
  obtain ⟨r2, s1, os1, hm⟩ := cl_some hm
  refine zr_cSi (st := []) E mw_120 cm_X7_in (c_X7_in B.2.1 P σ x1.toInt64 0 9) os1 ⟨by decide, by decide⟩ rfl rfl (Nat.le_of_ble_eq_true rfl) dX7_hold_6 ?_
  refine zr_if_eq (tgt := 25) E dX7_hold_9 (by decide) (fun c3 => ?_) (fun c3 => ?_)
  · rw [if_pos c3] at hm
    refine zr_aload_n E dX7_hold_25 0 rfl ?_
    refine zr_ldc E mw_115 dX7_hold_26 ?_
    obtain ⟨r5, s4, os4, hm⟩ := cl_some hm
    refine zr_cVi (st := []) E mw_127 cm_X7_finds (c_X7_finds B.2.1 P s1 (-1000001)) os4 (rc_57 P) ⟨by decide, by decide⟩ rfl rfl (Nat.le_of_ble_eq_true rfl) dX7_hold_28 ?_
    exact zr_iret E hr rfl hm dX7_hold_31
  · rw [if_neg c3] at hm
    refine zr_iload_n E dX7_hold_12 2 rfl ?_
    refine zr_iconst (v := (-1)) E dX7_hold_13 (by decide) ?_
    refine zr_icmp_eq (tgt := 32) E dX7_hold_14 (by decide) (fun c6 => ?_) (fun c6 => ?_)
    · rw [if_pos c6] at hm
      refine zr_sub (lv' := [(0, .ref (zw_ad P 57)), (1, .int x1), (2, .int x2)]) [0, 1, 2] rfl ?_
      exact t_X7_hold_32 E hr s1 x1 x2 hm
    · rw [if_neg c6] at hm
      refine zr_aload_n E dX7_hold_17 0 rfl ?_
      refine zr_iload_n E dX7_hold_18 2 rfl ?_
      obtain ⟨r8, s7, os7, hm⟩ := cl_some hm
      refine zr_cVi (st := []) E mw_195 cm_X7_isTask (c_X7_isTask B.2.1 P s1 x2) os7 (rc_57 P) ⟨by decide, by decide⟩ rfl rfl (Nat.le_of_ble_eq_true rfl) dX7_hold_19 ?_
      refine zr_if_ne (tgt := 32) E dX7_hold_22 (by decide) (fun c9 => ?_) (fun c9 => ?_)
      · rw [if_neg c9] at hm
        refine zr_sub (lv' := [(0, .ref (zw_ad P 57)), (1, .int x1), (2, .int x2)]) [0, 1, 2] rfl ?_
        exact t_X7_hold_32 E hr s7 x1 x2 hm
      · rw [if_pos c9] at hm
        refine zr_aload_n E dX7_hold_25 0 rfl ?_
        refine zr_ldc E mw_115 dX7_hold_26 ?_
        obtain ⟨r11, s10, os10, hm⟩ := cl_some hm
        refine zr_cVi (st := []) E mw_127 cm_X7_finds (c_X7_finds B.2.1 P s7 (-1000001)) os10 (rc_57 P) ⟨by decide, by decide⟩ rfl rfl (Nat.le_of_ble_eq_true rfl) dX7_hold_28 ?_
        exact zr_iret E hr rfl hm dX7_hold_31
-- X7_above
set_option maxRecDepth 100000 in
set_option maxHeartbeats 4000000 in
theorem c_X7_above (l : Launch) (P : zw_P) (σ : zw_S) (x0 : Int32) : zc_i l P yX7_above cX7_above 1 .int 0 [.int x0] σ (m_X7_above σ x0) := by
  refine zc_i.of (by decide) (Nat.le_of_ble_eq_true rfl) (fun B r τ E hl hr hm => ?_)
  subst hl
  refine zr_sub (lv' := [(0, .int x0)]) [0] rfl ?_
  unfold m_X7_above at hm
  refine zr_iload_n E dX7_above_0 0 rfl ?_
  by_cases c1 : x0 = 0
  · rw [if_pos c1] at hm
    refine zr_tabIn (tgt := 44) E dX7_above_1 c1 (by decide) (by decide) rfl (by decide) ?_
    refine zr_iconst (v := (-1)) E dX7_above_44 (by decide) ?_
    exact zr_iret E hr rfl hm dX7_above_45
  · rw [if_neg c1] at hm
    by_cases c2 : x0 = 1
    · rw [if_pos c2] at hm
      refine zr_tabIn (tgt := 52) E dX7_above_1 c2 (by decide) (by decide) rfl (by decide) ?_
      refine zr_iconst (v := 0) E dX7_above_52 (by decide) ?_
      exact zr_iret E hr rfl hm dX7_above_53
    · rw [if_neg c2] at hm
      by_cases c3 : x0 = 2
      · rw [if_pos c3] at hm
        refine zr_tabIn (tgt := 52) E dX7_above_1 c3 (by decide) (by decide) rfl (by decide) ?_
        refine zr_iconst (v := 0) E dX7_above_52 (by decide) ?_
        exact zr_iret E hr rfl hm dX7_above_53
      · rw [if_neg c3] at hm
        by_cases c4 : x0 = 3
        · rw [if_pos c4] at hm
          refine zr_tabIn (tgt := 46) E dX7_above_1 c4 (by decide) (by decide) rfl (by decide) ?_
          refine zr_iconst (v := 2) E dX7_above_46 (by decide) ?_
          exact zr_iret E hr rfl hm dX7_above_47
        · rw [if_neg c4] at hm
          by_cases c5 : x0 = 4
          · rw [if_pos c5] at hm
            refine zr_tabIn (tgt := 52) E dX7_above_1 c5 (by decide) (by decide) rfl (by decide) ?_
            refine zr_iconst (v := 0) E dX7_above_52 (by decide) ?_
            exact zr_iret E hr rfl hm dX7_above_53
          · rw [if_neg c5] at hm
            by_cases c6 : x0 = 5
            · rw [if_pos c6] at hm
              refine zr_tabIn (tgt := 48) E dX7_above_1 c6 (by decide) (by decide) rfl (by decide) ?_
              refine zr_iconst (v := 4) E dX7_above_48 (by decide) ?_
              exact zr_iret E hr rfl hm dX7_above_49
            · rw [if_neg c6] at hm
              by_cases c7 : x0 = 6
              · rw [if_pos c7] at hm
                refine zr_tabIn (tgt := 50) E dX7_above_1 c7 (by decide) (by decide) rfl (by decide) ?_
                refine zr_iconst (v := 1) E dX7_above_50 (by decide) ?_
                exact zr_iret E hr rfl hm dX7_above_51
              · rw [if_neg c7] at hm
                refine zr_tabOut (tgt := 52) E dX7_above_1 (sw_out (0) 7 (by decide) (by decide) (fun j hj => by match j, hj with | 0, _ => exact c1 | 1, _ => exact c2 | 2, _ => exact c3 | 3, _ => exact c4 | 4, _ => exact c5 | 5, _ => exact c6 | 6, _ => exact c7 | (j + 7), hj => exact absurd hj (by omega)) _ (by decide)) (by decide) ?_
                refine zr_iconst (v := 0) E dX7_above_52 (by decide) ?_
                exact zr_iret E hr rfl hm dX7_above_53
-- X7_as
set_option maxRecDepth 100000 in
set_option maxHeartbeats 4000000 in
theorem t_X7_as_80 {B : zw_B} {P : zw_P} {r : Int32} {τ : zw_S} (E : zf B P cX7_as RX7 5 2) (hr : B.2.2.2.2.2.2.2.2.1.sig.returnType = some .int) (σ : zw_S) (hm : m_X7_as_80 σ = some (r, τ)) : zw_G B P (zq_i B P r τ) 5 σ 80 [(0, .ref (zw_ad P 57))] [] := by
  unfold m_X7_as_80 at hm
  refine zr_aload_n E dX7_as_80 0 rfl ?_
  refine zr_ldcw E mw_1019 dX7_as_81 ?_
  obtain ⟨r2, s1, os1, hm⟩ := cl_some hm
  refine zr_cVi (st := []) E mw_127 cm_X7_finds (c_X7_finds B.2.1 P σ (-1000003)) os1 (rc_57 P) ⟨by decide, by decide⟩ rfl rfl (Nat.le_of_ble_eq_true rfl) dX7_as_84 ?_
  exact zr_iret E hr rfl hm dX7_as_87
set_option maxRecDepth 100000 in
set_option maxHeartbeats 4000000 in
theorem t_X7_as_57 {B : zw_B} {P : zw_P} {r : Int32} {τ : zw_S} (E : zf B P cX7_as RX7 5 2) (hr : B.2.2.2.2.2.2.2.2.1.sig.returnType = some .int) : ∀ (n : Nat) (σ : zw_S) (x2 : Int32) (x3 : Int32) (x4 : Int32), m_X7_as_57 n σ x2 x3 x4 = some (r, τ) → zw_G B P (zq_i B P r τ) 5 σ 57 [(0, .ref (zw_ad P 57)), (2, .int x2), (3, .int x3), (4, .int x4)] [] := by
  intro n
  induction n with
  | zero => intro σ x2 x3 x4 hm; cases hm
  | succ n ih =>
    intro σ x2 x3 x4 hm
    unfold m_X7_as_57 at hm
    refine zr_iload E dX7_as_57 3 rfl ?_
    refine zr_if_lt (tgt := 80) E dX7_as_59 (by decide) (fun c1 => ?_) (fun c1 => ?_)
    · rw [if_pos c1] at hm
      refine zr_sub (lv' := [(0, .ref (zw_ad P 57))]) [0] rfl ?_
      exact t_X7_as_80 E hr σ hm
    · rw [if_neg c1] at hm
      refine zr_iload E dX7_as_62 3 rfl ?_
      refine zr_iload_n E dX7_as_64 1 rfl ?_
      refine zr_icmp_ne (tgt := 70) E dX7_as_65 (by decide) (fun c2 => ?_) (fun c2 => ?_)
      · rw [if_neg c2] at hm
        refine zr_iload E dX7_as_70 3 rfl ?_
        obtain ⟨r4, s3, os3, hm⟩ := cl_some hm
        refine zr_cSi (st := []) E mw_1020 cm_X7_above (c_X7_above B.2.1 P σ x4) os3 ⟨by decide, by decide⟩ rfl rfl (Nat.le_of_ble_eq_true rfl) dX7_as_72 ?_
        refine zr_istore (lv' := [(4, .int r4), (0, .ref (zw_ad P 57)), (2, .int x2), (3, .int x3)]) E dX7_as_75 (by decide) rfl ?_
        refine zr_goto (tgt := 57) E dX7_as_77 (by decide) ?_
        refine zr_sub (lv' := [(0, .ref (zw_ad P 57)), (2, .int x2), (3, .int x3), (4, .int r4)]) [1, 2, 3, 0] rfl ?_
        exact ih s3 x2 x3 r4 hm
      · rw [if_pos c2] at hm
        refine zr_iload_n E dX7_as_68 2 rfl ?_
        exact zr_iret E hr rfl hm dX7_as_69
set_option maxRecDepth 100000 in
set_option maxHeartbeats 4000000 in
theorem c_X7_as (l : Launch) (P : zw_P) (σ : zw_S) (x1 : Int32) (x2 : Int32) : zc_i l P yX7_as cX7_as 5 .int 2 [.ref (zw_ad P 57), .int x1, .int x2] σ (m_X7_as σ x1 x2) := by
  refine zc_i.of (by decide) (Nat.le_of_ble_eq_true rfl) (fun B r τ E hl hr hm => ?_)
  subst hl
  refine zr_sub (lv' := [(0, .ref (zw_ad P 57)), (1, .int x1), (2, .int x2)]) [0, 1, 2] rfl ?_
  unfold m_X7_as at hm
  refine zr_iload_n E dX7_as_0 1 rfl ?_
  refine zr_i2l E dX7_as_1 ?_
  refine zr_lconst (v := 0) E dX7_as_2 (by decide) ?_
  refine zr_ldc2 E mw_333 dX7_as_3 ?_
  obtain ⟨r2, s1, os1, hm⟩ := cl_some hm
  refine zr_cSi (st := []) E mw_120 cm_X7_in (c_X7_in B.2.1 P σ x1.toInt64 0 9) os1 ⟨by decide, by decide⟩ rfl rfl (Nat.le_of_ble_eq_true rfl) dX7_as_6 ?_
  refine zr_if_eq (tgt := 19) E dX7_as_9 (by decide) (fun c3 => ?_) (fun c3 => ?_)
  · rw [if_pos c3] at hm
    refine zr_aload_n E dX7_as_19 0 rfl ?_
    refine zr_ldc E mw_115 dX7_as_20 ?_
    obtain ⟨r5, s4, os4, hm⟩ := cl_some hm
    refine zr_cVi (st := []) E mw_127 cm_X7_finds (c_X7_finds B.2.1 P s1 (-1000001)) os4 (rc_57 P) ⟨by decide, by decide⟩ rfl rfl (Nat.le_of_ble_eq_true rfl) dX7_as_22 ?_
    exact zr_iret E hr rfl hm dX7_as_25
  · rw [if_neg c3] at hm
    refine zr_iload_n E dX7_as_12 2 rfl ?_
    obtain ⟨r7, s6, os6, hm⟩ := cl_some hm
    refine zr_cSi (st := []) E mw_153 cm_X7_isKind (c_X7_isKind B.2.1 P s1 x2) os6 ⟨by decide, by decide⟩ rfl rfl (Nat.le_of_ble_eq_true rfl) dX7_as_13 ?_
    refine zr_if_ne (tgt := 26) E dX7_as_16 (by decide) (fun c8 => ?_) (fun c8 => ?_)
    · rw [if_neg c8] at hm
      refine zr_aload_n E dX7_as_26 0 rfl ?_
      refine fg_X7_9 E dX7_as_27 ?_
      refine zr_sipush (v := 132) E dX7_as_30 (by decide) ?_
      refine zr_iload_n E dX7_as_33 1 rfl ?_
      refine zr_iadd E dX7_as_34 ?_
      obtain ⟨hv9, v9, ev9, hm⟩ := rd_some hm
      refine zr_iald E ac_58 hv9 ev9 dX7_as_35 ?_
      refine zr_istore_n (lv' := [(3, .int v9), (0, .ref (zw_ad P 57)), (1, .int x1), (2, .int x2)]) E dX7_as_36 (by decide) rfl ?_
      refine zr_iload_n E dX7_as_37 0 rfl ?_
      refine zr_if_ge (tgt := 49) E dX7_as_38 (by decide) (fun c10 => ?_) (fun c10 => ?_)
      · rw [if_pos c10] at hm
        refine zr_aload_n E dX7_as_49 1 rfl ?_
        refine zr_iload_n E dX7_as_50 0 rfl ?_
        refine zr_iconst (v := 0) E dX7_as_51 (by decide) ?_
        obtain ⟨r12, s11, os11, hm⟩ := cl_some hm
        refine zr_cVi (st := []) E mw_199 cm_X7_task0 (c_X7_task0 B.2.1 P s6 v9 0) os11 (rc_57 P) ⟨by decide, by decide⟩ rfl rfl (Nat.le_of_ble_eq_true rfl) dX7_as_52 ?_
        refine zr_istore (lv' := [(4, .int r12), (3, .int v9), (0, .ref (zw_ad P 57)), (1, .int x1), (2, .int x2)]) E dX7_as_55 (by decide) rfl ?_
        refine zr_sub (lv' := [(0, .ref (zw_ad P 57)), (2, .int x2), (3, .int v9), (4, .int r12)]) [2, 4, 1, 0] rfl ?_
        exact t_X7_as_57 E hr 200 s11 x2 v9 r12 hm
      · rw [if_neg c10] at hm
        refine zr_aload_n E dX7_as_41 1 rfl ?_
        refine zr_ldcw E mw_1018 dX7_as_42 ?_
        obtain ⟨r14, s13, os13, hm⟩ := cl_some hm
        refine zr_cVi (st := []) E mw_127 cm_X7_finds (c_X7_finds B.2.1 P s6 (-1000006)) os13 (rc_57 P) ⟨by decide, by decide⟩ rfl rfl (Nat.le_of_ble_eq_true rfl) dX7_as_45 ?_
        exact zr_iret E hr rfl hm dX7_as_48
    · rw [if_pos c8] at hm
      refine zr_aload_n E dX7_as_19 0 rfl ?_
      refine zr_ldc E mw_115 dX7_as_20 ?_
      obtain ⟨r16, s15, os15, hm⟩ := cl_some hm
      refine zr_cVi (st := []) E mw_127 cm_X7_finds (c_X7_finds B.2.1 P s6 (-1000001)) os15 (rc_57 P) ⟨by decide, by decide⟩ rfl rfl (Nat.le_of_ble_eq_true rfl) dX7_as_22 ?_
      exact zr_iret E hr rfl hm dX7_as_25
-- X7_isSheet
set_option maxRecDepth 100000 in
set_option maxHeartbeats 4000000 in
theorem c_X7_isSheet (l : Launch) (P : zw_P) (σ : zw_S) (x0 : Int32) : zc_i l P yX7_isSheet cX7_isSheet 1 .boolean 1 [.int x0] σ (m_X7_isSheet σ x0) := by
  refine zc_i.of (by decide) (Nat.le_of_ble_eq_true rfl) (fun B r τ E hl hr hm => ?_)
  subst hl
  refine zr_sub (lv' := [(0, .int x0)]) [0] rfl ?_
  unfold m_X7_isSheet at hm
  refine zr_iload_n E dX7_isSheet_0 0 rfl ?_
  refine zr_i2l E dX7_isSheet_1 ?_
  refine zr_lconst (v := 0) E dX7_isSheet_2 (by decide) ?_
  refine zr_ldc2 E mw_354 dX7_isSheet_3 ?_
  obtain ⟨r2, s1, os1, hm⟩ := cl_some hm
  refine zr_cSi (st := []) E mw_120 cm_X7_in (c_X7_in B.2.1 P σ x0.toInt64 0 3) os1 ⟨by decide, by decide⟩ rfl rfl (Nat.le_of_ble_eq_true rfl) dX7_isSheet_6 ?_
  obtain ⟨hz3, hm⟩ := tt_some hm
  exact zr_iret E hr (zz_nar (zz_some hz3)) hm dX7_isSheet_9
-- X7_sheet
set_option maxRecDepth 100000 in
set_option maxHeartbeats 4000000 in
theorem t_X7_sheet_111 {B : zw_B} {P : zw_P} {r : Int32} {τ : zw_S} (E : zf B P cX7_sheet RX7 5 2) (hr : B.2.2.2.2.2.2.2.2.1.sig.returnType = some .int) (σ : zw_S) (x1 : Int32) (hm : m_X7_sheet_111 σ x1 = some (r, τ)) : zw_G B P (zq_i B P r τ) 5 σ 111 [(0, .ref (zw_ad P 57)), (1, .int x1)] [] := by
  unfold m_X7_sheet_111 at hm
  refine zr_aload_n E dX7_sheet_111 0 rfl ?_
  refine fg_X7_37 E dX7_sheet_112 ?_
  refine zr_iload_n E dX7_sheet_115 1 rfl ?_
  obtain ⟨hv1, v1, ev1, hm⟩ := rd_some hm
  refine zr_iald E ac_67 hv1 ev1 dX7_sheet_116 ?_
  exact zr_iret E hr rfl hm dX7_sheet_117
set_option maxRecDepth 100000 in
set_option maxHeartbeats 4000000 in
theorem t_X7_sheet_85 {B : zw_B} {P : zw_P} {r : Int32} {τ : zw_S} (E : zf B P cX7_sheet RX7 5 2) (hr : B.2.2.2.2.2.2.2.2.1.sig.returnType = some .int) : ∀ (n : Nat) (σ : zw_S) (x1 : Int32) (x4 : Int32), m_X7_sheet_85 n σ x1 x4 = some (r, τ) → zw_G B P (zq_i B P r τ) 5 σ 85 [(0, .ref (zw_ad P 57)), (1, .int x1), (4, .int x4)] [] := by
  intro n
  induction n with
  | zero => intro σ x1 x4 hm; cases hm
  | succ n ih =>
    intro σ x1 x4 hm
    unfold m_X7_sheet_85 at hm
    refine zr_iload E dX7_sheet_85 2 rfl ?_
    refine zr_bipush (v := 40) E dX7_sheet_87 (by decide) ?_
    refine zr_icmp_ge (tgt := 111) E dX7_sheet_89 (by decide) (fun c1 => ?_) (fun c1 => ?_)
    · rw [if_pos c1] at hm
      refine zr_sub (lv' := [(0, .ref (zw_ad P 57)), (1, .int x1)]) [0, 1] rfl ?_
      exact t_X7_sheet_111 E hr σ x1 hm
    · rw [if_neg c1] at hm
      refine zr_aload_n E dX7_sheet_92 0 rfl ?_
      refine fg_X7_40 E dX7_sheet_93 ?_
      refine zr_bipush (v := 40) E dX7_sheet_96 (by decide) ?_
      refine zr_iload_n E dX7_sheet_98 1 rfl ?_
      refine zr_imul E dX7_sheet_99 ?_
      refine zr_iload E dX7_sheet_100 2 rfl ?_
      refine zr_iadd E dX7_sheet_102 ?_
      refine zr_iconst (v := 0) E dX7_sheet_103 (by decide) ?_
      obtain ⟨hs2, s2, es2, hm⟩ := wt_some hm
      refine zr_iast E ac_68 hs2 es2 dX7_sheet_104 ?_
      obtain ⟨v3, ev3, hm⟩ := nm_some hm
      refine zr_iinc (j := 2) (lv' := [(4, .int v3), (0, .ref (zw_ad P 57)), (1, .int x1)]) E dX7_sheet_105 rfl ev3 (by decide) rfl ?_
      refine zr_goto (tgt := 85) E dX7_sheet_108 (by decide) ?_
      refine zr_sub (lv' := [(0, .ref (zw_ad P 57)), (1, .int x1), (4, .int v3)]) [1, 2, 0] rfl ?_
      exact ih s2 x1 v3 hm
set_option maxRecDepth 100000 in
set_option maxHeartbeats 4000000 in
theorem t_X7_sheet_36 {B : zw_B} {P : zw_P} {r : Int32} {τ : zw_S} (E : zf B P cX7_sheet RX7 5 2) (hr : B.2.2.2.2.2.2.2.2.1.sig.returnType = some .int) (σ : zw_S) (x1 : Int32) (x2 : Int32) (x3 : Int32) (hm : m_X7_sheet_36 σ x1 x2 x3 = some (r, τ)) : zw_G B P (zq_i B P r τ) 5 σ 36 [(0, .ref (zw_ad P 57)), (1, .int x1), (2, .int x2), (3, .int x3)] [] := by
  unfold m_X7_sheet_36 at hm
  refine zr_iload_n E dX7_sheet_36 3 rfl ?_
  refine zr_if_ge (tgt := 47) E dX7_sheet_37 (by decide) (fun c1 => ?_) (fun c1 => ?_)
  · rw [if_pos c1] at hm
    refine zr_iload_n E dX7_sheet_47 3 rfl ?_
    refine zr_bipush (v := 40) E dX7_sheet_48 (by decide) ?_
    refine zr_icmp_le (tgt := 60) E dX7_sheet_50 (by decide) (fun c2 => ?_) (fun c2 => ?_)
    · rw [if_pos c2] at hm
      refine zr_aload_n E dX7_sheet_60 0 rfl ?_
      refine fg_X7_34 E dX7_sheet_61 ?_
      refine zr_iload_n E dX7_sheet_64 1 rfl ?_
      refine zr_iload_n E dX7_sheet_65 2 rfl ?_
      obtain ⟨hs3, s3, es3, hm⟩ := wt_some hm
      refine zr_iast E ac_66 hs3 es3 dX7_sheet_66 ?_
      refine zr_aload_n E dX7_sheet_67 0 rfl ?_
      refine fg_X7_37 E dX7_sheet_68 ?_
      refine zr_iload_n E dX7_sheet_71 1 rfl ?_
      refine zr_iload_n E dX7_sheet_72 2 rfl ?_
      refine zr_if_ne (tgt := 80) E dX7_sheet_73 (by decide) (fun c4 => ?_) (fun c4 => ?_)
      · rw [if_neg c4] at hm
        refine zr_iload_n E dX7_sheet_80 3 rfl ?_
        obtain ⟨hs5, s5, es5, hm⟩ := wt_some hm
        refine zr_iast E ac_67 hs5 es5 dX7_sheet_81 ?_
        refine zr_iconst (v := 0) E dX7_sheet_82 (by decide) ?_
        refine zr_istore (lv' := [(4, .int 0), (0, .ref (zw_ad P 57)), (1, .int x1), (2, .int x2), (3, .int x3)]) E dX7_sheet_83 (by decide) rfl ?_
        refine zr_sub (lv' := [(0, .ref (zw_ad P 57)), (1, .int x1), (4, .int 0)]) [1, 2, 0] rfl ?_
        exact t_X7_sheet_85 E hr 200 s5 x1 0 hm
      · rw [if_pos c4] at hm
        refine zr_iconst (v := 0) E dX7_sheet_76 (by decide) ?_
        refine zr_goto (tgt := 81) E dX7_sheet_77 (by decide) ?_
        obtain ⟨hs6, s6, es6, hm⟩ := wt_some hm
        refine zr_iast E ac_67 hs6 es6 dX7_sheet_81 ?_
        refine zr_iconst (v := 0) E dX7_sheet_82 (by decide) ?_
        refine zr_istore (lv' := [(4, .int 0), (0, .ref (zw_ad P 57)), (1, .int x1), (2, .int x2), (3, .int x3)]) E dX7_sheet_83 (by decide) rfl ?_
        refine zr_sub (lv' := [(0, .ref (zw_ad P 57)), (1, .int x1), (4, .int 0)]) [1, 2, 0] rfl ?_
        exact t_X7_sheet_85 E hr 200 s6 x1 0 hm
    · rw [if_neg c2] at hm
      refine zr_aload_n E dX7_sheet_53 0 rfl ?_
      refine zr_ldc E mw_115 dX7_sheet_54 ?_
      obtain ⟨r8, s7, os7, hm⟩ := cl_some hm
      refine zr_cVi (st := []) E mw_127 cm_X7_finds (c_X7_finds B.2.1 P σ (-1000001)) os7 (rc_57 P) ⟨by decide, by decide⟩ rfl rfl (Nat.le_of_ble_eq_true rfl) dX7_sheet_56 ?_
      exact zr_iret E hr rfl hm dX7_sheet_59
  · rw [if_neg c1] at hm
    refine zr_aload_n E dX7_sheet_40 0 rfl ?_
    refine zr_ldc E mw_731 dX7_sheet_41 ?_
    obtain ⟨r10, s9, os9, hm⟩ := cl_some hm
    refine zr_cVi (st := []) E mw_127 cm_X7_finds (c_X7_finds B.2.1 P σ (-1000007)) os9 (rc_57 P) ⟨by decide, by decide⟩ rfl rfl (Nat.le_of_ble_eq_true rfl) dX7_sheet_43 ?_
    exact zr_iret E hr rfl hm dX7_sheet_46
set_option maxRecDepth 100000 in
set_option maxHeartbeats 4000000 in
theorem c_X7_sheet (l : Launch) (P : zw_P) (σ : zw_S) (x1 : Int32) (x2 : Int32) (x3 : Int32) : zc_i l P yX7_sheet cX7_sheet 5 .int 2 [.ref (zw_ad P 57), .int x1, .int x2, .int x3] σ (m_X7_sheet σ x1 x2 x3) := by
  refine zc_i.of (by decide) (Nat.le_of_ble_eq_true rfl) (fun B r τ E hl hr hm => ?_)
  subst hl
  refine zr_sub (lv' := [(0, .ref (zw_ad P 57)), (1, .int x1), (2, .int x2), (3, .int x3)]) [0, 1, 2, 3] rfl ?_
  unfold m_X7_sheet at hm
  refine zr_iload_n E dX7_sheet_0 1 rfl ?_
  obtain ⟨r2, s1, os1, hm⟩ := cl_some hm
  refine zr_cSi (st := []) E mw_1041 cm_X7_isSheet (c_X7_isSheet B.2.1 P σ x1) os1 ⟨by decide, by decide⟩ rfl rfl (Nat.le_of_ble_eq_true rfl) dX7_sheet_1 ?_
  refine zr_if_eq (tgt := 29) E dX7_sheet_4 (by decide) (fun c3 => ?_) (fun c3 => ?_)
  · rw [if_pos c3] at hm
    refine zr_aload_n E dX7_sheet_29 0 rfl ?_
    refine zr_ldc E mw_115 dX7_sheet_30 ?_
    obtain ⟨r5, s4, os4, hm⟩ := cl_some hm
    refine zr_cVi (st := []) E mw_127 cm_X7_finds (c_X7_finds B.2.1 P s1 (-1000001)) os4 (rc_57 P) ⟨by decide, by decide⟩ rfl rfl (Nat.le_of_ble_eq_true rfl) dX7_sheet_32 ?_
    exact zr_iret E hr rfl hm dX7_sheet_35
  · rw [if_neg c3] at hm
    refine zr_iload_n E dX7_sheet_7 2 rfl ?_
    refine zr_if_eq (tgt := 36) E dX7_sheet_8 (by decide) (fun c6 => ?_) (fun c6 => ?_)
    · rw [if_pos c6] at hm
      refine zr_sub (lv' := [(0, .ref (zw_ad P 57)), (1, .int x1), (2, .int x2), (3, .int x3)]) [0, 1, 2, 3] rfl ?_
      exact t_X7_sheet_36 E hr s1 x1 x2 x3 hm
    · rw [if_neg c6] at hm
      refine zr_iload_n E dX7_sheet_11 2 rfl ?_
      refine zr_bipush (v := 8) E dX7_sheet_12 (by decide) ?_
      refine zr_icmp_eq (tgt := 36) E dX7_sheet_14 (by decide) (fun c7 => ?_) (fun c7 => ?_)
      · rw [if_pos c7] at hm
        refine zr_sub (lv' := [(0, .ref (zw_ad P 57)), (1, .int x1), (2, .int x2), (3, .int x3)]) [0, 1, 2, 3] rfl ?_
        exact t_X7_sheet_36 E hr s1 x1 x2 x3 hm
      · rw [if_neg c7] at hm
        refine zr_iload_n E dX7_sheet_17 2 rfl ?_
        refine zr_bipush (v := 16) E dX7_sheet_18 (by decide) ?_
        refine zr_icmp_eq (tgt := 36) E dX7_sheet_20 (by decide) (fun c8 => ?_) (fun c8 => ?_)
        · rw [if_pos c8] at hm
          refine zr_sub (lv' := [(0, .ref (zw_ad P 57)), (1, .int x1), (2, .int x2), (3, .int x3)]) [0, 1, 2, 3] rfl ?_
          exact t_X7_sheet_36 E hr s1 x1 x2 x3 hm
        · rw [if_neg c8] at hm
          refine zr_iload_n E dX7_sheet_23 2 rfl ?_
          refine zr_bipush (v := 32) E dX7_sheet_24 (by decide) ?_
          refine zr_icmp_eq (tgt := 36) E dX7_sheet_26 (by decide) (fun c9 => ?_) (fun c9 => ?_)
          · rw [if_pos c9] at hm
            refine zr_sub (lv' := [(0, .ref (zw_ad P 57)), (1, .int x1), (2, .int x2), (3, .int x3)]) [0, 1, 2, 3] rfl ?_
            exact t_X7_sheet_36 E hr s1 x1 x2 x3 hm
          · rw [if_neg c9] at hm
            refine zr_aload_n E dX7_sheet_29 0 rfl ?_
            refine zr_ldc E mw_115 dX7_sheet_30 ?_
            obtain ⟨r11, s10, os10, hm⟩ := cl_some hm
            refine zr_cVi (st := []) E mw_127 cm_X7_finds (c_X7_finds B.2.1 P s1 (-1000001)) os10 (rc_57 P) ⟨by decide, by decide⟩ rfl rfl (Nat.le_of_ble_eq_true rfl) dX7_sheet_32 ?_
            exact zr_iret E hr rfl hm dX7_sheet_35
-- X7_write
set_option maxRecDepth 100000 in
set_option maxHeartbeats 4000000 in
theorem c_X7_write (l : Launch) (P : zw_P) (σ : zw_S) (x1 : Int32) (x2 : Int32) (x3 : Int32) : zc_i l P yX7_write cX7_write 4 .int 2 [.ref (zw_ad P 57), .int x1, .int x2, .int x3] σ (m_X7_write σ x1 x2 x3) := by
  refine zc_i.of (by decide) (Nat.le_of_ble_eq_true rfl) (fun B r τ E hl hr hm => ?_)
  subst hl
  refine zr_sub (lv' := [(0, .ref (zw_ad P 57)), (1, .int x1), (2, .int x2), (3, .int x3)]) [0, 1, 2, 3] rfl ?_
  unfold m_X7_write at hm
  refine zr_iload_n E dX7_write_0 1 rfl ?_
  obtain ⟨r2, s1, os1, hm⟩ := cl_some hm
  refine zr_cSi (st := []) E mw_1041 cm_X7_isSheet (c_X7_isSheet B.2.1 P σ x1) os1 ⟨by decide, by decide⟩ rfl rfl (Nat.le_of_ble_eq_true rfl) dX7_write_1 ?_
  refine zr_if_ne (tgt := 14) E dX7_write_4 (by decide) (fun c3 => ?_) (fun c3 => ?_)
  · rw [if_neg c3] at hm
    refine zr_aload_n E dX7_write_14 0 rfl ?_
    refine fg_X7_34 E dX7_write_15 ?_
    refine zr_iload_n E dX7_write_18 1 rfl ?_
    obtain ⟨hv4, v4, ev4, hm⟩ := rd_some hm
    refine zr_iald E ac_66 hv4 ev4 dX7_write_19 ?_
    refine zr_if_ne (tgt := 31) E dX7_write_20 (by decide) (fun c5 => ?_) (fun c5 => ?_)
    · rw [if_neg c5] at hm
      refine zr_iload_n E dX7_write_31 2 rfl ?_
      refine zr_i2l E dX7_write_32 ?_
      refine zr_lconst (v := 0) E dX7_write_33 (by decide) ?_
      refine zr_aload_n E dX7_write_34 0 rfl ?_
      refine fg_X7_37 E dX7_write_35 ?_
      refine zr_iload_n E dX7_write_38 1 rfl ?_
      obtain ⟨hv6, v6, ev6, hm⟩ := rd_some hm
      refine zr_iald E ac_67 hv6 ev6 dX7_write_39 ?_
      refine zr_iconst (v := 1) E dX7_write_40 (by decide) ?_
      refine zr_isub E dX7_write_41 ?_
      refine zr_i2l E dX7_write_42 ?_
      obtain ⟨r8, s7, os7, hm⟩ := cl_some hm
      refine zr_cSi (st := []) E mw_120 cm_X7_in (c_X7_in B.2.1 P s1 x2.toInt64 0 ((v6 - 1).toInt64)) os7 ⟨by decide, by decide⟩ rfl rfl (Nat.le_of_ble_eq_true rfl) dX7_write_43 ?_
      refine zr_if_ne (tgt := 56) E dX7_write_46 (by decide) (fun c9 => ?_) (fun c9 => ?_)
      · rw [if_neg c9] at hm
        refine zr_aload_n E dX7_write_56 0 rfl ?_
        refine fg_X7_40 E dX7_write_57 ?_
        refine zr_bipush (v := 40) E dX7_write_60 (by decide) ?_
        refine zr_iload_n E dX7_write_62 1 rfl ?_
        refine zr_imul E dX7_write_63 ?_
        refine zr_iload_n E dX7_write_64 2 rfl ?_
        refine zr_iadd E dX7_write_65 ?_
        refine zr_aload_n E dX7_write_66 0 rfl ?_
        refine fg_X7_34 E dX7_write_67 ?_
        refine zr_iload_n E dX7_write_70 1 rfl ?_
        obtain ⟨hv10, v10, ev10, hm⟩ := rd_some hm
        refine zr_iald E ac_66 hv10 ev10 dX7_write_71 ?_
        refine zr_bipush (v := 8) E dX7_write_72 (by decide) ?_
        refine zr_icmp_ne (tgt := 82) E dX7_write_74 (by decide) (fun c11 => ?_) (fun c11 => ?_)
        · rw [if_neg c11] at hm
          refine zr_aload_n E dX7_write_82 0 rfl ?_
          refine fg_X7_34 E dX7_write_83 ?_
          refine zr_iload_n E dX7_write_86 1 rfl ?_
          obtain ⟨hv12, v12, ev12, hm⟩ := rd_some hm
          refine zr_iald E ac_66 hv12 ev12 dX7_write_87 ?_
          refine zr_bipush (v := 16) E dX7_write_88 (by decide) ?_
          refine zr_icmp_ne (tgt := 98) E dX7_write_90 (by decide) (fun c13 => ?_) (fun c13 => ?_)
          · rw [if_neg c13] at hm
            refine zr_iload_n E dX7_write_98 3 rfl ?_
            obtain ⟨hs14, s14, es14, hm⟩ := wt_some hm
            refine zr_iast E ac_68 hs14 es14 dX7_write_99 ?_
            refine zr_iconst (v := 1) E dX7_write_100 (by decide) ?_
            exact zr_iret E hr rfl hm dX7_write_101
          · rw [if_pos c13] at hm
            refine zr_iload_n E dX7_write_93 3 rfl ?_
            refine zr_i2s E dX7_write_94 ?_
            refine zr_goto (tgt := 99) E dX7_write_95 (by decide) ?_
            obtain ⟨hs15, s15, es15, hm⟩ := wt_some hm
            refine zr_iast E ac_68 hs15 es15 dX7_write_99 ?_
            refine zr_iconst (v := 1) E dX7_write_100 (by decide) ?_
            exact zr_iret E hr rfl hm dX7_write_101
        · rw [if_pos c11] at hm
          refine zr_iload_n E dX7_write_77 3 rfl ?_
          refine zr_i2b E dX7_write_78 ?_
          refine zr_goto (tgt := 99) E dX7_write_79 (by decide) ?_
          obtain ⟨hs16, s16, es16, hm⟩ := wt_some hm
          refine zr_iast E ac_68 hs16 es16 dX7_write_99 ?_
          refine zr_iconst (v := 1) E dX7_write_100 (by decide) ?_
          exact zr_iret E hr rfl hm dX7_write_101
      · rw [if_pos c9] at hm
        refine zr_aload_n E dX7_write_49 0 rfl ?_
        refine zr_ldc E mw_115 dX7_write_50 ?_
        obtain ⟨r18, s17, os17, hm⟩ := cl_some hm
        refine zr_cVi (st := []) E mw_127 cm_X7_finds (c_X7_finds B.2.1 P s7 (-1000001)) os17 (rc_57 P) ⟨by decide, by decide⟩ rfl rfl (Nat.le_of_ble_eq_true rfl) dX7_write_52 ?_
        exact zr_iret E hr rfl hm dX7_write_55
    · rw [if_pos c5] at hm
      refine zr_aload_n E dX7_write_23 0 rfl ?_
      refine zr_ldcw E mw_1018 dX7_write_24 ?_
      obtain ⟨r20, s19, os19, hm⟩ := cl_some hm
      refine zr_cVi (st := []) E mw_127 cm_X7_finds (c_X7_finds B.2.1 P s1 (-1000006)) os19 (rc_57 P) ⟨by decide, by decide⟩ rfl rfl (Nat.le_of_ble_eq_true rfl) dX7_write_27 ?_
      exact zr_iret E hr rfl hm dX7_write_30
  · rw [if_pos c3] at hm
    refine zr_aload_n E dX7_write_7 0 rfl ?_
    refine zr_ldc E mw_115 dX7_write_8 ?_
    obtain ⟨r22, s21, os21, hm⟩ := cl_some hm
    refine zr_cVi (st := []) E mw_127 cm_X7_finds (c_X7_finds B.2.1 P s1 (-1000001)) os21 (rc_57 P) ⟨by decide, by decide⟩ rfl rfl (Nat.le_of_ble_eq_true rfl) dX7_write_10 ?_
    exact zr_iret E hr rfl hm dX7_write_13
-- X7_copy
set_option maxRecDepth 100000 in
set_option maxHeartbeats 4000000 in
theorem t_X7_copy_163 {B : zw_B} {P : zw_P} {r : Int32} {τ : zw_S} (E : zf B P cX7_copy RX7 9 2) (hr : B.2.2.2.2.2.2.2.2.1.sig.returnType = some .int) (R139 : zw_S → Int32 → Int32 → Int32 → Int32 → Int32 → Int32 → Int32 → Option (Int32 × zw_S)) (hR139 : ∀ (σ : zw_S) (x1 : Int32) (x2 : Int32) (x3 : Int32) (x4 : Int32) (x5 : Int32) (x6 : Int32) (x7 : Int32), R139 σ x1 x2 x3 x4 x5 x6 x7 = some (r, τ) → zw_G B P (zq_i B P r τ) 9 σ 139 [(0, .ref (zw_ad P 57)), (1, .int x1), (2, .int x2), (3, .int x3), (4, .int x4), (5, .int x5), (6, .int x6), (7, .int x7)] []) (σ : zw_S) (x1 : Int32) (x2 : Int32) (x3 : Int32) (x4 : Int32) (x5 : Int32) (x6 : Int32) (x7 : Int32) (y0 : Int32) (hm : m_X7_copy_163 R139 σ x1 x2 x3 x4 x5 x6 x7 y0 = some (r, τ)) : zw_G B P (zq_i B P r τ) 9 σ 163 [(0, .ref (zw_ad P 57)), (1, .int x1), (2, .int x2), (3, .int x3), (4, .int x4), (5, .int x5), (6, .int x6), (7, .int x7)] [.int y0] := by
  unfold m_X7_copy_163 at hm
  refine zr_istore (lv' := [(8, .int y0), (0, .ref (zw_ad P 57)), (1, .int x1), (2, .int x2), (3, .int x3), (4, .int x4), (5, .int x5), (6, .int x6), (7, .int x7)]) E dX7_copy_163 (by decide) rfl ?_
  refine zr_aload_n E dX7_copy_165 1 rfl ?_
  refine fg_X7_40 E dX7_copy_166 ?_
  refine zr_bipush (v := 40) E dX7_copy_169 (by decide) ?_
  refine zr_iload_n E dX7_copy_171 4 rfl ?_
  refine zr_imul E dX7_copy_172 ?_
  refine zr_iload E dX7_copy_173 5 rfl ?_
  refine zr_iadd E dX7_copy_175 ?_
  refine zr_iload E dX7_copy_176 0 rfl ?_
  refine zr_iadd E dX7_copy_178 ?_
  refine zr_aload_n E dX7_copy_179 1 rfl ?_
  refine fg_X7_40 E dX7_copy_180 ?_
  refine zr_bipush (v := 40) E dX7_copy_183 (by decide) ?_
  refine zr_iload_n E dX7_copy_185 2 rfl ?_
  refine zr_imul E dX7_copy_186 ?_
  refine zr_iload_n E dX7_copy_187 3 rfl ?_
  refine zr_iadd E dX7_copy_188 ?_
  refine zr_iload E dX7_copy_189 0 rfl ?_
  refine zr_iadd E dX7_copy_191 ?_
  obtain ⟨hv1, v1, ev1, hm⟩ := rd_some hm
  refine zr_iald E ac_68 hv1 ev1 dX7_copy_192 ?_
  obtain ⟨hs2, s2, es2, hm⟩ := wt_some hm
  refine zr_iast E ac_68 hs2 es2 dX7_copy_193 ?_
  obtain ⟨v3, ev3, hm⟩ := nm_some hm
  refine zr_iinc (j := 8) (lv' := [(7, .int v3), (8, .int y0), (0, .ref (zw_ad P 57)), (1, .int x1), (2, .int x2), (3, .int x3), (4, .int x4), (5, .int x5), (6, .int x6)]) E dX7_copy_194 rfl ev3 (by decide) rfl ?_
  refine zr_goto (tgt := 139) E dX7_copy_197 (by decide) ?_
  refine zr_sub (lv' := [(0, .ref (zw_ad P 57)), (1, .int x1), (2, .int x2), (3, .int x3), (4, .int x4), (5, .int x5), (6, .int x6), (7, .int v3)]) [2, 3, 4, 5, 6, 7, 8, 0] rfl ?_
  exact hR139 s2 x1 x2 x3 x4 x5 x6 v3 hm
set_option maxRecDepth 100000 in
set_option maxHeartbeats 4000000 in
theorem t_X7_copy_139 {B : zw_B} {P : zw_P} {r : Int32} {τ : zw_S} (E : zf B P cX7_copy RX7 9 2) (hr : B.2.2.2.2.2.2.2.2.1.sig.returnType = some .int) : ∀ (n : Nat) (σ : zw_S) (x1 : Int32) (x2 : Int32) (x3 : Int32) (x4 : Int32) (x5 : Int32) (x6 : Int32) (x7 : Int32), m_X7_copy_139 n σ x1 x2 x3 x4 x5 x6 x7 = some (r, τ) → zw_G B P (zq_i B P r τ) 9 σ 139 [(0, .ref (zw_ad P 57)), (1, .int x1), (2, .int x2), (3, .int x3), (4, .int x4), (5, .int x5), (6, .int x6), (7, .int x7)] [] := by
  intro n
  induction n with
  | zero => intro σ x1 x2 x3 x4 x5 x6 x7 hm; cases hm
  | succ n ih =>
    intro σ x1 x2 x3 x4 x5 x6 x7 hm
    unfold m_X7_copy_139 at hm
    refine zr_iload E dX7_copy_139 7 rfl ?_
    refine zr_iload E dX7_copy_141 5 rfl ?_
    refine zr_icmp_ge (tgt := 200) E dX7_copy_143 (by decide) (fun c1 => ?_) (fun c1 => ?_)
    · rw [if_pos c1] at hm
      refine zr_iload E dX7_copy_200 5 rfl ?_
      exact zr_iret E hr rfl hm dX7_copy_202
    · rw [if_neg c1] at hm
      refine zr_iload E dX7_copy_146 6 rfl ?_
      refine zr_if_eq (tgt := 161) E dX7_copy_148 (by decide) (fun c2 => ?_) (fun c2 => ?_)
      · rw [if_pos c2] at hm
        refine zr_iload E dX7_copy_161 7 rfl ?_
        refine zr_sub (lv' := [(0, .ref (zw_ad P 57)), (1, .int x1), (2, .int x2), (3, .int x3), (4, .int x4), (5, .int x5), (6, .int x6), (7, .int x7)]) [0, 1, 2, 3, 4, 5, 6, 7] rfl ?_
        exact t_X7_copy_163 E hr (m_X7_copy_139 n) ih σ x1 x2 x3 x4 x5 x6 x7 x7 hm
      · rw [if_neg c2] at hm
        refine zr_iload E dX7_copy_151 5 rfl ?_
        refine zr_iconst (v := 1) E dX7_copy_153 (by decide) ?_
        refine zr_isub E dX7_copy_154 ?_
        refine zr_iload E dX7_copy_155 7 rfl ?_
        refine zr_isub E dX7_copy_157 ?_
        refine zr_goto (tgt := 163) E dX7_copy_158 (by decide) ?_
        refine zr_sub (lv' := [(0, .ref (zw_ad P 57)), (1, .int x1), (2, .int x2), (3, .int x3), (4, .int x4), (5, .int x5), (6, .int x6), (7, .int x7)]) [0, 1, 2, 3, 4, 5, 6, 7] rfl ?_
        exact t_X7_copy_163 E hr (m_X7_copy_139 n) ih σ x1 x2 x3 x4 x5 x6 x7 ((x5 - 1) - x7) hm
set_option maxRecDepth 100000 in
set_option maxHeartbeats 4000000 in
theorem c_X7_copy (l : Launch) (P : zw_P) (σ : zw_S) (x1 : Int32) (x2 : Int32) (x3 : Int32) (x4 : Int32) (x5 : Int32) : zc_i l P yX7_copy cX7_copy 9 .int 2 [.ref (zw_ad P 57), .int x1, .int x2, .int x3, .int x4, .int x5] σ (m_X7_copy σ x1 x2 x3 x4 x5) := by
  refine zc_i.of (by decide) (Nat.le_of_ble_eq_true rfl) (fun B r τ E hl hr hm => ?_)
  subst hl
  refine zr_sub (lv' := [(0, .ref (zw_ad P 57)), (1, .int x1), (2, .int x2), (3, .int x3), (4, .int x4), (5, .int x5)]) [0, 1, 2, 3, 4, 5] rfl ?_
  unfold m_X7_copy at hm
  refine zr_iload_n E dX7_copy_0 1 rfl ?_
  obtain ⟨r2, s1, os1, hm⟩ := cl_some hm
  refine zr_cSi (st := []) E mw_1041 cm_X7_isSheet (c_X7_isSheet B.2.1 P σ x1) os1 ⟨by decide, by decide⟩ rfl rfl (Nat.le_of_ble_eq_true rfl) dX7_copy_1 ?_
  refine zr_if_eq (tgt := 14) E dX7_copy_4 (by decide) (fun c3 => ?_) (fun c3 => ?_)
  · rw [if_pos c3] at hm
    refine zr_aload_n E dX7_copy_14 0 rfl ?_
    refine zr_ldc E mw_115 dX7_copy_15 ?_
    obtain ⟨r5, s4, os4, hm⟩ := cl_some hm
    refine zr_cVi (st := []) E mw_127 cm_X7_finds (c_X7_finds B.2.1 P s1 (-1000001)) os4 (rc_57 P) ⟨by decide, by decide⟩ rfl rfl (Nat.le_of_ble_eq_true rfl) dX7_copy_17 ?_
    exact zr_iret E hr rfl hm dX7_copy_20
  · rw [if_neg c3] at hm
    refine zr_iload_n E dX7_copy_7 3 rfl ?_
    obtain ⟨r7, s6, os6, hm⟩ := cl_some hm
    refine zr_cSi (st := []) E mw_1041 cm_X7_isSheet (c_X7_isSheet B.2.1 P s1 x3) os6 ⟨by decide, by decide⟩ rfl rfl (Nat.le_of_ble_eq_true rfl) dX7_copy_8 ?_
    refine zr_if_ne (tgt := 21) E dX7_copy_11 (by decide) (fun c8 => ?_) (fun c8 => ?_)
    · rw [if_neg c8] at hm
      refine zr_aload_n E dX7_copy_21 0 rfl ?_
      refine fg_X7_34 E dX7_copy_22 ?_
      refine zr_iload_n E dX7_copy_25 1 rfl ?_
      obtain ⟨hv9, v9, ev9, hm⟩ := rd_some hm
      refine zr_iald E ac_66 hv9 ev9 dX7_copy_26 ?_
      refine zr_if_eq (tgt := 39) E dX7_copy_27 (by decide) (fun c10 => ?_) (fun c10 => ?_)
      · rw [if_pos c10] at hm
        refine zr_aload_n E dX7_copy_39 0 rfl ?_
        refine zr_ldcw E mw_1018 dX7_copy_40 ?_
        obtain ⟨r12, s11, os11, hm⟩ := cl_some hm
        refine zr_cVi (st := []) E mw_127 cm_X7_finds (c_X7_finds B.2.1 P s6 (-1000006)) os11 (rc_57 P) ⟨by decide, by decide⟩ rfl rfl (Nat.le_of_ble_eq_true rfl) dX7_copy_43 ?_
        exact zr_iret E hr rfl hm dX7_copy_46
      · rw [if_neg c10] at hm
        refine zr_aload_n E dX7_copy_30 0 rfl ?_
        refine fg_X7_34 E dX7_copy_31 ?_
        refine zr_iload_n E dX7_copy_34 3 rfl ?_
        obtain ⟨hv13, v13, ev13, hm⟩ := rd_some hm
        refine zr_iald E ac_66 hv13 ev13 dX7_copy_35 ?_
        refine zr_if_ne (tgt := 47) E dX7_copy_36 (by decide) (fun c14 => ?_) (fun c14 => ?_)
        · rw [if_neg c14] at hm
          refine zr_aload_n E dX7_copy_47 0 rfl ?_
          refine fg_X7_34 E dX7_copy_48 ?_
          refine zr_iload_n E dX7_copy_51 1 rfl ?_
          obtain ⟨hv15, v15, ev15, hm⟩ := rd_some hm
          refine zr_iald E ac_66 hv15 ev15 dX7_copy_52 ?_
          refine zr_aload_n E dX7_copy_53 0 rfl ?_
          refine fg_X7_34 E dX7_copy_54 ?_
          refine zr_iload_n E dX7_copy_57 3 rfl ?_
          obtain ⟨hv16, v16, ev16, hm⟩ := rd_some hm
          refine zr_iald E ac_66 hv16 ev16 dX7_copy_58 ?_
          refine zr_icmp_eq (tgt := 70) E dX7_copy_59 (by decide) (fun c17 => ?_) (fun c17 => ?_)
          · rw [if_pos c17] at hm
            refine zr_iload E dX7_copy_70 5 rfl ?_
            refine zr_if_lt (tgt := 111) E dX7_copy_72 (by decide) (fun c18 => ?_) (fun c18 => ?_)
            · rw [if_pos c18] at hm
              refine zr_aload_n E dX7_copy_111 0 rfl ?_
              refine zr_ldc E mw_115 dX7_copy_112 ?_
              obtain ⟨r20, s19, os19, hm⟩ := cl_some hm
              refine zr_cVi (st := []) E mw_127 cm_X7_finds (c_X7_finds B.2.1 P s6 (-1000001)) os19 (rc_57 P) ⟨by decide, by decide⟩ rfl rfl (Nat.le_of_ble_eq_true rfl) dX7_copy_114 ?_
              exact zr_iret E hr rfl hm dX7_copy_117
            · rw [if_neg c18] at hm
              refine zr_iload_n E dX7_copy_75 2 rfl ?_
              refine zr_if_lt (tgt := 111) E dX7_copy_76 (by decide) (fun c21 => ?_) (fun c21 => ?_)
              · rw [if_pos c21] at hm
                refine zr_aload_n E dX7_copy_111 0 rfl ?_
                refine zr_ldc E mw_115 dX7_copy_112 ?_
                obtain ⟨r23, s22, os22, hm⟩ := cl_some hm
                refine zr_cVi (st := []) E mw_127 cm_X7_finds (c_X7_finds B.2.1 P s6 (-1000001)) os22 (rc_57 P) ⟨by decide, by decide⟩ rfl rfl (Nat.le_of_ble_eq_true rfl) dX7_copy_114 ?_
                exact zr_iret E hr rfl hm dX7_copy_117
              · rw [if_neg c21] at hm
                refine zr_iload E dX7_copy_79 4 rfl ?_
                refine zr_if_lt (tgt := 111) E dX7_copy_81 (by decide) (fun c24 => ?_) (fun c24 => ?_)
                · rw [if_pos c24] at hm
                  refine zr_aload_n E dX7_copy_111 0 rfl ?_
                  refine zr_ldc E mw_115 dX7_copy_112 ?_
                  obtain ⟨r26, s25, os25, hm⟩ := cl_some hm
                  refine zr_cVi (st := []) E mw_127 cm_X7_finds (c_X7_finds B.2.1 P s6 (-1000001)) os25 (rc_57 P) ⟨by decide, by decide⟩ rfl rfl (Nat.le_of_ble_eq_true rfl) dX7_copy_114 ?_
                  exact zr_iret E hr rfl hm dX7_copy_117
                · rw [if_neg c24] at hm
                  refine zr_iload E dX7_copy_84 5 rfl ?_
                  refine zr_aload_n E dX7_copy_86 0 rfl ?_
                  refine fg_X7_37 E dX7_copy_87 ?_
                  refine zr_iload_n E dX7_copy_90 1 rfl ?_
                  obtain ⟨hv27, v27, ev27, hm⟩ := rd_some hm
                  refine zr_iald E ac_67 hv27 ev27 dX7_copy_91 ?_
                  refine zr_iload_n E dX7_copy_92 2 rfl ?_
                  refine zr_isub E dX7_copy_93 ?_
                  refine zr_icmp_gt (tgt := 111) E dX7_copy_94 (by decide) (fun c28 => ?_) (fun c28 => ?_)
                  · rw [if_pos c28] at hm
                    refine zr_aload_n E dX7_copy_111 0 rfl ?_
                    refine zr_ldc E mw_115 dX7_copy_112 ?_
                    obtain ⟨r30, s29, os29, hm⟩ := cl_some hm
                    refine zr_cVi (st := []) E mw_127 cm_X7_finds (c_X7_finds B.2.1 P s6 (-1000001)) os29 (rc_57 P) ⟨by decide, by decide⟩ rfl rfl (Nat.le_of_ble_eq_true rfl) dX7_copy_114 ?_
                    exact zr_iret E hr rfl hm dX7_copy_117
                  · rw [if_neg c28] at hm
                    refine zr_iload E dX7_copy_97 5 rfl ?_
                    refine zr_aload_n E dX7_copy_99 0 rfl ?_
                    refine fg_X7_37 E dX7_copy_100 ?_
                    refine zr_iload_n E dX7_copy_103 3 rfl ?_
                    obtain ⟨hv31, v31, ev31, hm⟩ := rd_some hm
                    refine zr_iald E ac_67 hv31 ev31 dX7_copy_104 ?_
                    refine zr_iload E dX7_copy_105 4 rfl ?_
                    refine zr_isub E dX7_copy_107 ?_
                    refine zr_icmp_le (tgt := 118) E dX7_copy_108 (by decide) (fun c32 => ?_) (fun c32 => ?_)
                    · rw [if_pos c32] at hm
                      refine zr_iload_n E dX7_copy_118 1 rfl ?_
                      refine zr_iload_n E dX7_copy_119 3 rfl ?_
                      refine zr_icmp_ne (tgt := 133) E dX7_copy_120 (by decide) (fun c33 => ?_) (fun c33 => ?_)
                      · rw [if_neg c33] at hm
                        refine zr_iconst (v := 0) E dX7_copy_133 (by decide) ?_
                        refine zr_istore (lv' := [(6, .int 0), (0, .ref (zw_ad P 57)), (1, .int x1), (2, .int x2), (3, .int x3), (4, .int x4), (5, .int x5)]) E dX7_copy_134 (by decide) rfl ?_
                        refine zr_iconst (v := 0) E dX7_copy_136 (by decide) ?_
                        refine zr_istore (lv' := [(7, .int 0), (6, .int 0), (0, .ref (zw_ad P 57)), (1, .int x1), (2, .int x2), (3, .int x3), (4, .int x4), (5, .int x5)]) E dX7_copy_137 (by decide) rfl ?_
                        refine zr_sub (lv' := [(0, .ref (zw_ad P 57)), (1, .int x1), (2, .int x2), (3, .int x3), (4, .int x4), (5, .int x5), (6, .int 0), (7, .int 0)]) [2, 3, 4, 5, 6, 7, 1, 0] rfl ?_
                        exact t_X7_copy_139 E hr 200 s6 x1 x2 x3 x4 x5 0 0 hm
                      · rw [if_pos c33] at hm
                        refine zr_iload_n E dX7_copy_123 2 rfl ?_
                        refine zr_iload E dX7_copy_124 4 rfl ?_
                        refine zr_icmp_ge (tgt := 133) E dX7_copy_126 (by decide) (fun c34 => ?_) (fun c34 => ?_)
                        · rw [if_pos c34] at hm
                          refine zr_iconst (v := 0) E dX7_copy_133 (by decide) ?_
                          refine zr_istore (lv' := [(6, .int 0), (0, .ref (zw_ad P 57)), (1, .int x1), (2, .int x2), (3, .int x3), (4, .int x4), (5, .int x5)]) E dX7_copy_134 (by decide) rfl ?_
                          refine zr_iconst (v := 0) E dX7_copy_136 (by decide) ?_
                          refine zr_istore (lv' := [(7, .int 0), (6, .int 0), (0, .ref (zw_ad P 57)), (1, .int x1), (2, .int x2), (3, .int x3), (4, .int x4), (5, .int x5)]) E dX7_copy_137 (by decide) rfl ?_
                          refine zr_sub (lv' := [(0, .ref (zw_ad P 57)), (1, .int x1), (2, .int x2), (3, .int x3), (4, .int x4), (5, .int x5), (6, .int 0), (7, .int 0)]) [2, 3, 4, 5, 6, 7, 1, 0] rfl ?_
                          exact t_X7_copy_139 E hr 200 s6 x1 x2 x3 x4 x5 0 0 hm
                        · rw [if_neg c34] at hm
                          refine zr_iconst (v := 1) E dX7_copy_129 (by decide) ?_
                          refine zr_goto (tgt := 134) E dX7_copy_130 (by decide) ?_
                          refine zr_istore (lv' := [(6, .int 1), (0, .ref (zw_ad P 57)), (1, .int x1), (2, .int x2), (3, .int x3), (4, .int x4), (5, .int x5)]) E dX7_copy_134 (by decide) rfl ?_
                          refine zr_iconst (v := 0) E dX7_copy_136 (by decide) ?_
                          refine zr_istore (lv' := [(7, .int 0), (6, .int 1), (0, .ref (zw_ad P 57)), (1, .int x1), (2, .int x2), (3, .int x3), (4, .int x4), (5, .int x5)]) E dX7_copy_137 (by decide) rfl ?_
                          refine zr_sub (lv' := [(0, .ref (zw_ad P 57)), (1, .int x1), (2, .int x2), (3, .int x3), (4, .int x4), (5, .int x5), (6, .int 1), (7, .int 0)]) [2, 3, 4, 5, 6, 7, 1, 0] rfl ?_
                          exact t_X7_copy_139 E hr 200 s6 x1 x2 x3 x4 x5 1 0 hm
                    · rw [if_neg c32] at hm
                      refine zr_aload_n E dX7_copy_111 0 rfl ?_
                      refine zr_ldc E mw_115 dX7_copy_112 ?_
                      obtain ⟨r36, s35, os35, hm⟩ := cl_some hm
                      refine zr_cVi (st := []) E mw_127 cm_X7_finds (c_X7_finds B.2.1 P s6 (-1000001)) os35 (rc_57 P) ⟨by decide, by decide⟩ rfl rfl (Nat.le_of_ble_eq_true rfl) dX7_copy_114 ?_
                      exact zr_iret E hr rfl hm dX7_copy_117
          · rw [if_neg c17] at hm
            refine zr_aload_n E dX7_copy_62 0 rfl ?_
            refine zr_ldcw E mw_1019 dX7_copy_63 ?_
            obtain ⟨r38, s37, os37, hm⟩ := cl_some hm
            refine zr_cVi (st := []) E mw_127 cm_X7_finds (c_X7_finds B.2.1 P s6 (-1000003)) os37 (rc_57 P) ⟨by decide, by decide⟩ rfl rfl (Nat.le_of_ble_eq_true rfl) dX7_copy_66 ?_
            exact zr_iret E hr rfl hm dX7_copy_69
        · rw [if_pos c14] at hm
          refine zr_aload_n E dX7_copy_39 0 rfl ?_
          refine zr_ldcw E mw_1018 dX7_copy_40 ?_
          obtain ⟨r40, s39, os39, hm⟩ := cl_some hm
          refine zr_cVi (st := []) E mw_127 cm_X7_finds (c_X7_finds B.2.1 P s6 (-1000006)) os39 (rc_57 P) ⟨by decide, by decide⟩ rfl rfl (Nat.le_of_ble_eq_true rfl) dX7_copy_43 ?_
          exact zr_iret E hr rfl hm dX7_copy_46
    · rw [if_pos c8] at hm
      refine zr_aload_n E dX7_copy_14 0 rfl ?_
      refine zr_ldc E mw_115 dX7_copy_15 ?_
      obtain ⟨r42, s41, os41, hm⟩ := cl_some hm
      refine zr_cVi (st := []) E mw_127 cm_X7_finds (c_X7_finds B.2.1 P s6 (-1000001)) os41 (rc_57 P) ⟨by decide, by decide⟩ rfl rfl (Nat.le_of_ble_eq_true rfl) dX7_copy_17 ?_
      exact zr_iret E hr rfl hm dX7_copy_20
-- X7_load
set_option maxRecDepth 100000 in
set_option maxHeartbeats 4000000 in
theorem t_X7_load_33 {B : zw_B} {P : zw_P} {r : Int32} {τ : zw_S} (E : zf B P cX7_load RX7 3 3) (hr : B.2.2.2.2.2.2.2.2.1.sig.returnType = some .int) : ∀ (n : Nat) (σ : zw_S) (x1 : Int32) (x2 : Int32), m_X7_load_33 n σ x1 x2 = some (r, τ) → zw_G B P (zq_i B P r τ) 3 σ 33 [(0, .ref (zw_ad P 57)), (1, .int x1), (2, .int x2)] [] := by
  intro n
  induction n with
  | zero => intro σ x1 x2 hm; cases hm
  | succ n ih =>
    intro σ x1 x2 hm
    unfold m_X7_load_33 at hm
    refine zr_iload_n E dX7_load_33 2 rfl ?_
    refine zr_aload_n E dX7_load_34 0 rfl ?_
    refine fg_X7_37 E dX7_load_35 ?_
    refine zr_iload_n E dX7_load_38 1 rfl ?_
    obtain ⟨hv1, v1, ev1, hm⟩ := rd_some hm
    refine zr_iald E ac_67 hv1 ev1 dX7_load_39 ?_
    refine zr_icmp_ge (tgt := 90) E dX7_load_40 (by decide) (fun c2 => ?_) (fun c2 => ?_)
    · rw [if_pos c2] at hm
      refine zr_iload_n E dX7_load_90 2 rfl ?_
      exact zr_iret E hr rfl hm dX7_load_91
    · rw [if_neg c2] at hm
      refine zr_aload_n E dX7_load_43 0 rfl ?_
      refine zr_iload_n E dX7_load_44 2 rfl ?_
      refine zr_aload_n E dX7_load_45 0 rfl ?_
      refine fg_X7_40 E dX7_load_46 ?_
      refine zr_bipush (v := 40) E dX7_load_49 (by decide) ?_
      refine zr_iload_n E dX7_load_51 1 rfl ?_
      refine zr_imul E dX7_load_52 ?_
      refine zr_iload_n E dX7_load_53 2 rfl ?_
      refine zr_iadd E dX7_load_54 ?_
      obtain ⟨hv3, v3, ev3, hm⟩ := rd_some hm
      refine zr_iald E ac_68 hv3 ev3 dX7_load_55 ?_
      obtain ⟨r5, s4, os4, hm⟩ := cl_some hm
      refine zr_cVi (st := []) E mw_390 cm_X7_wrongTake (c_X7_wrongTake B.2.1 P σ x2 v3) os4 (rc_57 P) ⟨by decide, by decide⟩ rfl rfl (Nat.le_of_ble_eq_true rfl) dX7_load_56 ?_
      refine zr_if_ne (tgt := 90) E dX7_load_59 (by decide) (fun c6 => ?_) (fun c6 => ?_)
      · rw [if_neg c6] at hm
        refine zr_iload_n E dX7_load_90 2 rfl ?_
        exact zr_iret E hr rfl hm dX7_load_91
      · rw [if_pos c6] at hm
        refine zr_aload_n E dX7_load_62 0 rfl ?_
        refine fg_X7_9 E dX7_load_63 ?_
        refine zr_bipush (v := 100) E dX7_load_66 (by decide) ?_
        refine zr_iconst (v := 4) E dX7_load_68 (by decide) ?_
        refine zr_iload_n E dX7_load_69 2 rfl ?_
        refine zr_imul E dX7_load_70 ?_
        refine zr_iadd E dX7_load_71 ?_
        refine zr_aload_n E dX7_load_72 0 rfl ?_
        refine fg_X7_40 E dX7_load_73 ?_
        refine zr_bipush (v := 40) E dX7_load_76 (by decide) ?_
        refine zr_iload_n E dX7_load_78 1 rfl ?_
        refine zr_imul E dX7_load_79 ?_
        refine zr_iload_n E dX7_load_80 2 rfl ?_
        refine zr_iadd E dX7_load_81 ?_
        obtain ⟨hv7, v7, ev7, hm⟩ := rd_some hm
        refine zr_iald E ac_68 hv7 ev7 dX7_load_82 ?_
        obtain ⟨hs8, s8, es8, hm⟩ := wt_some hm
        refine zr_iast E ac_58 hs8 es8 dX7_load_83 ?_
        obtain ⟨v9, ev9, hm⟩ := nm_some hm
        refine zr_iinc (j := 2) (lv' := [(2, .int v9), (0, .ref (zw_ad P 57)), (1, .int x1)]) E dX7_load_84 rfl ev9 (by decide) rfl ?_
        refine zr_goto (tgt := 33) E dX7_load_87 (by decide) ?_
        refine zr_sub (lv' := [(0, .ref (zw_ad P 57)), (1, .int x1), (2, .int v9)]) [1, 2, 0] rfl ?_
        exact ih s8 x1 v9 hm
set_option maxRecDepth 100000 in
set_option maxHeartbeats 4000000 in
theorem c_X7_load (l : Launch) (P : zw_P) (σ : zw_S) (x1 : Int32) : zc_i l P yX7_load cX7_load 3 .int 3 [.ref (zw_ad P 57), .int x1] σ (m_X7_load σ x1) := by
  refine zc_i.of (by decide) (Nat.le_of_ble_eq_true rfl) (fun B r τ E hl hr hm => ?_)
  subst hl
  refine zr_sub (lv' := [(0, .ref (zw_ad P 57)), (1, .int x1)]) [0, 1] rfl ?_
  unfold m_X7_load at hm
  refine zr_iload_n E dX7_load_0 1 rfl ?_
  obtain ⟨r2, s1, os1, hm⟩ := cl_some hm
  refine zr_cSi (st := []) E mw_1041 cm_X7_isSheet (c_X7_isSheet B.2.1 P σ x1) os1 ⟨by decide, by decide⟩ rfl rfl (Nat.le_of_ble_eq_true rfl) dX7_load_1 ?_
  refine zr_if_ne (tgt := 14) E dX7_load_4 (by decide) (fun c3 => ?_) (fun c3 => ?_)
  · rw [if_neg c3] at hm
    refine zr_aload_n E dX7_load_14 0 rfl ?_
    refine fg_X7_34 E dX7_load_15 ?_
    refine zr_iload_n E dX7_load_18 1 rfl ?_
    obtain ⟨hv4, v4, ev4, hm⟩ := rd_some hm
    refine zr_iald E ac_66 hv4 ev4 dX7_load_19 ?_
    refine zr_if_ne (tgt := 31) E dX7_load_20 (by decide) (fun c5 => ?_) (fun c5 => ?_)
    · rw [if_neg c5] at hm
      refine zr_iconst (v := 0) E dX7_load_31 (by decide) ?_
      refine zr_istore_n (lv' := [(2, .int 0), (0, .ref (zw_ad P 57)), (1, .int x1)]) E dX7_load_32 (by decide) rfl ?_
      refine zr_sub (lv' := [(0, .ref (zw_ad P 57)), (1, .int x1), (2, .int 0)]) [1, 2, 0] rfl ?_
      exact t_X7_load_33 E hr 200 s1 x1 0 hm
    · rw [if_pos c5] at hm
      refine zr_aload_n E dX7_load_23 0 rfl ?_
      refine zr_ldcw E mw_1018 dX7_load_24 ?_
      obtain ⟨r7, s6, os6, hm⟩ := cl_some hm
      refine zr_cVi (st := []) E mw_127 cm_X7_finds (c_X7_finds B.2.1 P s1 (-1000006)) os6 (rc_57 P) ⟨by decide, by decide⟩ rfl rfl (Nat.le_of_ble_eq_true rfl) dX7_load_27 ?_
      exact zr_iret E hr rfl hm dX7_load_30
  · rw [if_pos c3] at hm
    refine zr_aload_n E dX7_load_7 0 rfl ?_
    refine zr_ldc E mw_115 dX7_load_8 ?_
    obtain ⟨r9, s8, os8, hm⟩ := cl_some hm
    refine zr_cVi (st := []) E mw_127 cm_X7_finds (c_X7_finds B.2.1 P s1 (-1000001)) os8 (rc_57 P) ⟨by decide, by decide⟩ rfl rfl (Nat.le_of_ble_eq_true rfl) dX7_load_10 ?_
    exact zr_iret E hr rfl hm dX7_load_13
-- X7_judge
set_option maxRecDepth 100000 in
set_option maxHeartbeats 4000000 in
theorem t_X7_judge_154 {B : zw_B} {P : zw_P} {r : Int32} {τ : zw_S} (E : zf B P cX7_judge RX7 5 8) (hr : B.2.2.2.2.2.2.2.2.1.sig.returnType = some .int) (σ : zw_S) (x3 : Int32) (y0 : Int32) (hm : m_X7_judge_154 σ x3 y0 = some (r, τ)) : zw_G B P (zq_i B P r τ) 5 σ 154 [(0, .ref (zw_ad P 57)), (3, .int x3)] [.int y0] := by
  unfold m_X7_judge_154 at hm
  refine zr_istore (lv' := [(4, .int y0), (0, .ref (zw_ad P 57)), (3, .int x3)]) E dX7_judge_154 (by decide) rfl ?_
  refine zr_aload_n E dX7_judge_156 1 rfl ?_
  refine fg_X7_16 E dX7_judge_157 ?_
  refine zr_aload_n E dX7_judge_160 1 rfl ?_
  refine fg_X7_9 E dX7_judge_161 ?_
  obtain ⟨s1, os1, hm⟩ := cv_some hm
  refine zr_cSv (st := []) E mw_585 cm_X7_row (c_X7_row B.2.1 P 60 58 ac_60 ac_58 σ) os1 ⟨by decide, by decide⟩ rfl rfl (Nat.le_of_ble_eq_true rfl) dX7_judge_164 ?_
  refine zr_iload E dX7_judge_167 0 rfl ?_
  refine zr_if_eq (tgt := 176) E dX7_judge_169 (by decide) (fun c2 => ?_) (fun c2 => ?_)
  · rw [if_pos c2] at hm
    refine zr_iconst (v := 1) E dX7_judge_176 (by decide) ?_
    refine zr_iload_n E dX7_judge_177 2 rfl ?_
    refine zr_iadd E dX7_judge_178 ?_
    exact zr_iret E hr rfl hm dX7_judge_179
  · rw [if_neg c2] at hm
    refine zr_iconst (v := 0) E dX7_judge_172 (by decide) ?_
    refine zr_goto (tgt := 179) E dX7_judge_173 (by decide) ?_
    exact zr_iret E hr rfl hm dX7_judge_179
set_option maxRecDepth 100000 in
set_option maxHeartbeats 4000000 in
theorem t_X7_judge_129 {B : zw_B} {P : zw_P} {r : Int32} {τ : zw_S} (E : zf B P cX7_judge RX7 5 8) (hr : B.2.2.2.2.2.2.2.2.1.sig.returnType = some .int) (σ : zw_S) (x1 : Int32) (x3 : Int32) (hm : m_X7_judge_129 σ x1 x3 = some (r, τ)) : zw_G B P (zq_i B P r τ) 5 σ 129 [(0, .ref (zw_ad P 57)), (1, .int x1), (3, .int x3)] [] := by
  unfold m_X7_judge_129 at hm
  refine zr_iload_n E dX7_judge_129 2 rfl ?_
  refine zr_aload_n E dX7_judge_130 0 rfl ?_
  refine fg_X7_37 E dX7_judge_131 ?_
  refine zr_iload_n E dX7_judge_134 1 rfl ?_
  obtain ⟨hv1, v1, ev1, hm⟩ := rd_some hm
  refine zr_iald E ac_67 hv1 ev1 dX7_judge_135 ?_
  refine zr_icmp_ne (tgt := 153) E dX7_judge_136 (by decide) (fun c2 => ?_) (fun c2 => ?_)
  · rw [if_neg c2] at hm
    refine zr_iconst (v := 0) E dX7_judge_153 (by decide) ?_
    refine zr_sub (lv' := [(0, .ref (zw_ad P 57)), (3, .int x3)]) [0, 2] rfl ?_
    exact t_X7_judge_154 E hr σ x3 0 hm
  · rw [if_pos c2] at hm
    refine zr_iload_n E dX7_judge_139 2 rfl ?_
    refine zr_aload_n E dX7_judge_140 0 rfl ?_
    refine fg_X7_9 E dX7_judge_141 ?_
    refine zr_iconst (v := 2) E dX7_judge_144 (by decide) ?_
    obtain ⟨hv3, v3, ev3, hm⟩ := rd_some hm
    refine zr_iald E ac_58 hv3 ev3 dX7_judge_145 ?_
    refine zr_icmp_ne (tgt := 153) E dX7_judge_146 (by decide) (fun c4 => ?_) (fun c4 => ?_)
    · rw [if_neg c4] at hm
      refine zr_iconst (v := 0) E dX7_judge_153 (by decide) ?_
      refine zr_sub (lv' := [(0, .ref (zw_ad P 57)), (3, .int x3)]) [0, 2] rfl ?_
      exact t_X7_judge_154 E hr σ x3 0 hm
    · rw [if_pos c4] at hm
      refine zr_iconst (v := 1) E dX7_judge_149 (by decide) ?_
      refine zr_goto (tgt := 154) E dX7_judge_150 (by decide) ?_
      refine zr_sub (lv' := [(0, .ref (zw_ad P 57)), (3, .int x3)]) [0, 2] rfl ?_
      exact t_X7_judge_154 E hr σ x3 1 hm
set_option maxRecDepth 100000 in
set_option maxHeartbeats 4000000 in
theorem t_X7_judge_83 {B : zw_B} {P : zw_P} {r : Int32} {τ : zw_S} (E : zf B P cX7_judge RX7 5 8) (hr : B.2.2.2.2.2.2.2.2.1.sig.returnType = some .int) : ∀ (n : Nat) (σ : zw_S) (x1 : Int32) (x3 : Int32), m_X7_judge_83 n σ x1 x3 = some (r, τ) → zw_G B P (zq_i B P r τ) 5 σ 83 [(0, .ref (zw_ad P 57)), (1, .int x1), (3, .int x3)] [] := by
  intro n
  induction n with
  | zero => intro σ x1 x3 hm; cases hm
  | succ n ih =>
    intro σ x1 x3 hm
    unfold m_X7_judge_83 at hm
    refine zr_iload_n E dX7_judge_83 2 rfl ?_
    refine zr_aload_n E dX7_judge_84 0 rfl ?_
    refine fg_X7_37 E dX7_judge_85 ?_
    refine zr_iload_n E dX7_judge_88 1 rfl ?_
    obtain ⟨hv1, v1, ev1, hm⟩ := rd_some hm
    refine zr_iald E ac_67 hv1 ev1 dX7_judge_89 ?_
    refine zr_icmp_ge (tgt := 129) E dX7_judge_90 (by decide) (fun c2 => ?_) (fun c2 => ?_)
    · rw [if_pos c2] at hm
      refine zr_sub (lv' := [(0, .ref (zw_ad P 57)), (1, .int x1), (3, .int x3)]) [0, 1, 2] rfl ?_
      exact t_X7_judge_129 E hr σ x1 x3 hm
    · rw [if_neg c2] at hm
      refine zr_iload_n E dX7_judge_93 2 rfl ?_
      refine zr_aload_n E dX7_judge_94 0 rfl ?_
      refine fg_X7_9 E dX7_judge_95 ?_
      refine zr_iconst (v := 2) E dX7_judge_98 (by decide) ?_
      obtain ⟨hv3, v3, ev3, hm⟩ := rd_some hm
      refine zr_iald E ac_58 hv3 ev3 dX7_judge_99 ?_
      refine zr_icmp_ge (tgt := 129) E dX7_judge_100 (by decide) (fun c4 => ?_) (fun c4 => ?_)
      · rw [if_pos c4] at hm
        refine zr_sub (lv' := [(0, .ref (zw_ad P 57)), (1, .int x1), (3, .int x3)]) [0, 1, 2] rfl ?_
        exact t_X7_judge_129 E hr σ x1 x3 hm
      · rw [if_neg c4] at hm
        refine zr_aload_n E dX7_judge_103 0 rfl ?_
        refine fg_X7_40 E dX7_judge_104 ?_
        refine zr_bipush (v := 40) E dX7_judge_107 (by decide) ?_
        refine zr_iload_n E dX7_judge_109 1 rfl ?_
        refine zr_imul E dX7_judge_110 ?_
        refine zr_iload_n E dX7_judge_111 2 rfl ?_
        refine zr_iadd E dX7_judge_112 ?_
        obtain ⟨hv5, v5, ev5, hm⟩ := rd_some hm
        refine zr_iald E ac_68 hv5 ev5 dX7_judge_113 ?_
        refine zr_aload_n E dX7_judge_114 0 rfl ?_
        refine zr_iload_n E dX7_judge_115 2 rfl ?_
        refine zr_iconst (v := 2) E dX7_judge_116 (by decide) ?_
        obtain ⟨r7, s6, os6, hm⟩ := cl_some hm
        refine zr_cVi (st := [.int v5]) E mw_199 cm_X7_task0 (c_X7_task0 B.2.1 P σ x3 2) os6 (rc_57 P) ⟨by decide, by decide⟩ rfl rfl (Nat.le_of_ble_eq_true rfl) dX7_judge_117 ?_
        refine zr_icmp_ne (tgt := 129) E dX7_judge_120 (by decide) (fun c8 => ?_) (fun c8 => ?_)
        · rw [if_neg c8] at hm
          refine zr_sub (lv' := [(0, .ref (zw_ad P 57)), (1, .int x1), (3, .int x3)]) [0, 1, 2] rfl ?_
          exact t_X7_judge_129 E hr s6 x1 x3 hm
        · rw [if_pos c8] at hm
          obtain ⟨v9, ev9, hm⟩ := nm_some hm
          refine zr_iinc (j := 2) (lv' := [(3, .int v9), (0, .ref (zw_ad P 57)), (1, .int x1)]) E dX7_judge_123 rfl ev9 (by decide) rfl ?_
          refine zr_goto (tgt := 83) E dX7_judge_126 (by decide) ?_
          refine zr_sub (lv' := [(0, .ref (zw_ad P 57)), (1, .int x1), (3, .int v9)]) [1, 2, 0] rfl ?_
          exact ih s6 x1 v9 hm
set_option maxRecDepth 100000 in
set_option maxHeartbeats 4000000 in
theorem c_X7_judge (l : Launch) (P : zw_P) (σ : zw_S) (x1 : Int32) (x2 : Int32) : zc_i l P yX7_judge cX7_judge 5 .int 8 [.ref (zw_ad P 57), .int x1, .int x2] σ (m_X7_judge σ x1 x2) := by
  refine zc_i.of (by decide) (Nat.le_of_ble_eq_true rfl) (fun B r τ E hl hr hm => ?_)
  subst hl
  refine zr_sub (lv' := [(0, .ref (zw_ad P 57)), (1, .int x1), (2, .int x2)]) [0, 1, 2] rfl ?_
  unfold m_X7_judge at hm
  refine zr_iload_n E dX7_judge_0 1 rfl ?_
  obtain ⟨r2, s1, os1, hm⟩ := cl_some hm
  refine zr_cSi (st := []) E mw_1041 cm_X7_isSheet (c_X7_isSheet B.2.1 P σ x1) os1 ⟨by decide, by decide⟩ rfl rfl (Nat.le_of_ble_eq_true rfl) dX7_judge_1 ?_
  refine zr_if_ne (tgt := 14) E dX7_judge_4 (by decide) (fun c3 => ?_) (fun c3 => ?_)
  · rw [if_neg c3] at hm
    refine zr_aload_n E dX7_judge_14 0 rfl ?_
    refine fg_X7_34 E dX7_judge_15 ?_
    refine zr_iload_n E dX7_judge_18 1 rfl ?_
    obtain ⟨hv4, v4, ev4, hm⟩ := rd_some hm
    refine zr_iald E ac_66 hv4 ev4 dX7_judge_19 ?_
    refine zr_if_ne (tgt := 31) E dX7_judge_20 (by decide) (fun c5 => ?_) (fun c5 => ?_)
    · rw [if_neg c5] at hm
      refine zr_iload_n E dX7_judge_31 2 rfl ?_
      refine zr_i2l E dX7_judge_32 ?_
      refine zr_lconst (v := 0) E dX7_judge_33 (by decide) ?_
      refine zr_ldc2 E mw_498 dX7_judge_34 ?_
      obtain ⟨r7, s6, os6, hm⟩ := cl_some hm
      refine zr_cSi (st := []) E mw_120 cm_X7_in (c_X7_in B.2.1 P s1 x2.toInt64 0 60) os6 ⟨by decide, by decide⟩ rfl rfl (Nat.le_of_ble_eq_true rfl) dX7_judge_37 ?_
      refine zr_if_ne (tgt := 50) E dX7_judge_40 (by decide) (fun c8 => ?_) (fun c8 => ?_)
      · rw [if_neg c8] at hm
        refine zr_aload_n E dX7_judge_50 0 rfl ?_
        refine zr_iload_n E dX7_judge_51 2 rfl ?_
        obtain ⟨r10, s9, os9, hm⟩ := cl_some hm
        refine zr_cVi (st := []) E mw_499 cm_X7_isFarOn (c_X7_isFarOn B.2.1 P s6 x2) os9 (rc_57 P) ⟨by decide, by decide⟩ rfl rfl (Nat.le_of_ble_eq_true rfl) dX7_judge_52 ?_
        refine zr_if_eq (tgt := 65) E dX7_judge_55 (by decide) (fun c11 => ?_) (fun c11 => ?_)
        · rw [if_pos c11] at hm
          refine zr_aload_n E dX7_judge_65 0 rfl ?_
          refine fg_X7_9 E dX7_judge_66 ?_
          refine zr_aload_n E dX7_judge_69 0 rfl ?_
          refine fg_X7_16 E dX7_judge_70 ?_
          obtain ⟨s12, os12, hm⟩ := cv_some hm
          refine zr_cSv (st := []) E mw_585 cm_X7_row (c_X7_row B.2.1 P 58 60 ac_58 ac_60 s9) os12 ⟨by decide, by decide⟩ rfl rfl (Nat.le_of_ble_eq_true rfl) dX7_judge_73 ?_
          refine zr_aload_n E dX7_judge_76 0 rfl ?_
          refine zr_iload_n E dX7_judge_77 2 rfl ?_
          obtain ⟨s13, os13, hm⟩ := cv_some hm
          refine zr_cVv (st := []) E mw_511 cm_X7_yearsGo (c_X7_yearsGo B.2.1 P s12 x2) os13 (rc_57 P) ⟨by decide, by decide⟩ rfl rfl (Nat.le_of_ble_eq_true rfl) dX7_judge_78 ?_
          refine zr_iconst (v := 0) E dX7_judge_81 (by decide) ?_
          refine zr_istore_n (lv' := [(3, .int 0), (0, .ref (zw_ad P 57)), (1, .int x1), (2, .int x2)]) E dX7_judge_82 (by decide) rfl ?_
          refine zr_sub (lv' := [(0, .ref (zw_ad P 57)), (1, .int x1), (3, .int 0)]) [1, 2, 0] rfl ?_
          exact t_X7_judge_83 E hr 200 s13 x1 0 hm
        · rw [if_neg c11] at hm
          refine zr_aload_n E dX7_judge_58 0 rfl ?_
          refine zr_ldc E mw_394 dX7_judge_59 ?_
          obtain ⟨r15, s14, os14, hm⟩ := cl_some hm
          refine zr_cVi (st := []) E mw_127 cm_X7_finds (c_X7_finds B.2.1 P s9 (-1000005)) os14 (rc_57 P) ⟨by decide, by decide⟩ rfl rfl (Nat.le_of_ble_eq_true rfl) dX7_judge_61 ?_
          exact zr_iret E hr rfl hm dX7_judge_64
      · rw [if_pos c8] at hm
        refine zr_aload_n E dX7_judge_43 0 rfl ?_
        refine zr_ldc E mw_115 dX7_judge_44 ?_
        obtain ⟨r17, s16, os16, hm⟩ := cl_some hm
        refine zr_cVi (st := []) E mw_127 cm_X7_finds (c_X7_finds B.2.1 P s6 (-1000001)) os16 (rc_57 P) ⟨by decide, by decide⟩ rfl rfl (Nat.le_of_ble_eq_true rfl) dX7_judge_46 ?_
        exact zr_iret E hr rfl hm dX7_judge_49
    · rw [if_pos c5] at hm
      refine zr_aload_n E dX7_judge_23 0 rfl ?_
      refine zr_ldcw E mw_1018 dX7_judge_24 ?_
      obtain ⟨r19, s18, os18, hm⟩ := cl_some hm
      refine zr_cVi (st := []) E mw_127 cm_X7_finds (c_X7_finds B.2.1 P s1 (-1000006)) os18 (rc_57 P) ⟨by decide, by decide⟩ rfl rfl (Nat.le_of_ble_eq_true rfl) dX7_judge_27 ?_
      exact zr_iret E hr rfl hm dX7_judge_30
  · rw [if_pos c3] at hm
    refine zr_aload_n E dX7_judge_7 0 rfl ?_
    refine zr_ldc E mw_115 dX7_judge_8 ?_
    obtain ⟨r21, s20, os20, hm⟩ := cl_some hm
    refine zr_cVi (st := []) E mw_127 cm_X7_finds (c_X7_finds B.2.1 P s1 (-1000001)) os20 (rc_57 P) ⟨by decide, by decide⟩ rfl rfl (Nat.le_of_ble_eq_true rfl) dX7_judge_10 ?_
    exact zr_iret E hr rfl hm dX7_judge_13
-- X7_image
set_option maxRecDepth 100000 in
set_option maxHeartbeats 4000000 in
theorem c_X7_image (l : Launch) (P : zw_P) (σ : zw_S) : zc_i l P yX7_image cX7_image 1 .int 1 [.ref (zw_ad P 57)] σ (m_X7_image σ) := by
  refine zc_i.of (by decide) (Nat.le_of_ble_eq_true rfl) (fun B r τ E hl hr hm => ?_)
  subst hl
  refine zr_sub (lv' := [(0, .ref (zw_ad P 57))]) [0] rfl ?_
  unfold m_X7_image at hm
  refine zr_aload_n E dX7_image_0 0 rfl ?_
  refine fg_X7_9 E dX7_image_1 ?_
  refine zr_aload_n E dX7_image_4 0 rfl ?_
  refine fg_X7_13 E dX7_image_5 ?_
  obtain ⟨s1, os1, hm⟩ := cv_some hm
  refine zr_cSv (st := []) E mw_585 cm_X7_row (c_X7_row B.2.1 P 58 59 ac_58 ac_59 σ) os1 ⟨by decide, by decide⟩ rfl rfl (Nat.le_of_ble_eq_true rfl) dX7_image_8 ?_
  refine zr_aload_n E dX7_image_11 0 rfl ?_
  refine zr_iconst (v := 1) E dX7_image_12 (by decide) ?_
  obtain ⟨s2, es2, hm⟩ := nm_some hm
  refine fp_X7_334 (by decide) E es2 dX7_image_13 ?_
  refine zr_iconst (v := 1) E dX7_image_16 (by decide) ?_
  exact zr_iret E hr rfl hm dX7_image_17
-- X7_undo
set_option maxRecDepth 100000 in
set_option maxHeartbeats 4000000 in
theorem c_X7_undo (l : Launch) (P : zw_P) (σ : zw_S) : zc_i l P yX7_undo cX7_undo 1 .int 1 [.ref (zw_ad P 57)] σ (m_X7_undo σ) := by
  refine zc_i.of (by decide) (Nat.le_of_ble_eq_true rfl) (fun B r τ E hl hr hm => ?_)
  subst hl
  refine zr_sub (lv' := [(0, .ref (zw_ad P 57))]) [0] rfl ?_
  unfold m_X7_undo at hm
  refine zr_aload_n E dX7_undo_0 0 rfl ?_
  refine fg_X7_334 E dX7_undo_1 ?_
  refine zr_if_ne (tgt := 14) E dX7_undo_4 (by decide) (fun c1 => ?_) (fun c1 => ?_)
  · rw [if_neg c1] at hm
    refine zr_aload_n E dX7_undo_14 0 rfl ?_
    refine fg_X7_13 E dX7_undo_15 ?_
    refine zr_aload_n E dX7_undo_18 0 rfl ?_
    refine fg_X7_9 E dX7_undo_19 ?_
    obtain ⟨s2, os2, hm⟩ := cv_some hm
    refine zr_cSv (st := []) E mw_585 cm_X7_row (c_X7_row B.2.1 P 59 58 ac_59 ac_58 σ) os2 ⟨by decide, by decide⟩ rfl rfl (Nat.le_of_ble_eq_true rfl) dX7_undo_22 ?_
    refine zr_aload_n E dX7_undo_25 0 rfl ?_
    refine fg_X7_9 E dX7_undo_26 ?_
    refine zr_iconst (v := 0) E dX7_undo_29 (by decide) ?_
    obtain ⟨hv3, v3, ev3, hm⟩ := rd_some hm
    refine zr_iald E ac_58 hv3 ev3 dX7_undo_30 ?_
    exact zr_iret E hr rfl hm dX7_undo_31
  · rw [if_pos c1] at hm
    refine zr_aload_n E dX7_undo_7 0 rfl ?_
    refine zr_ldc E mw_613 dX7_undo_8 ?_
    obtain ⟨r5, s4, os4, hm⟩ := cl_some hm
    refine zr_cVi (st := []) E mw_127 cm_X7_finds (c_X7_finds B.2.1 P σ (-1000004)) os4 (rc_57 P) ⟨by decide, by decide⟩ rfl rfl (Nat.le_of_ble_eq_true rfl) dX7_undo_10 ?_
    exact zr_iret E hr rfl hm dX7_undo_13
-- X7_tear
set_option maxRecDepth 100000 in
set_option maxHeartbeats 4000000 in
theorem c_X7_tear (l : Launch) (P : zw_P) (σ : zw_S) : zc_i l P yX7_tear cX7_tear 2 .int 0 [.ref (zw_ad P 57)] σ (m_X7_tear σ) := by
  refine zc_i.of (by decide) (Nat.le_of_ble_eq_true rfl) (fun B r τ E hl hr hm => ?_)
  subst hl
  refine zr_sub (lv' := [(0, .ref (zw_ad P 57))]) [0] rfl ?_
  unfold m_X7_tear at hm
  refine zr_aload_n E dX7_tear_0 0 rfl ?_
  refine fg_X7_334 E dX7_tear_1 ?_
  refine zr_if_eq (tgt := 11) E dX7_tear_4 (by decide) (fun c1 => ?_) (fun c1 => ?_)
  · rw [if_pos c1] at hm
    refine zr_iconst (v := 0) E dX7_tear_11 (by decide) ?_
    refine zr_istore_n (lv' := [(1, .int 0), (0, .ref (zw_ad P 57))]) E dX7_tear_12 (by decide) rfl ?_
    refine zr_aload_n E dX7_tear_13 1 rfl ?_
    refine zr_iconst (v := 0) E dX7_tear_14 (by decide) ?_
    obtain ⟨s2, es2, hm⟩ := nm_some hm
    refine fp_X7_334 (by decide) E es2 dX7_tear_15 ?_
    refine zr_iload_n E dX7_tear_18 0 rfl ?_
    exact zr_iret E hr rfl hm dX7_tear_19
  · rw [if_neg c1] at hm
    refine zr_iconst (v := 1) E dX7_tear_7 (by decide) ?_
    refine zr_goto (tgt := 12) E dX7_tear_8 (by decide) ?_
    refine zr_istore_n (lv' := [(1, .int 1), (0, .ref (zw_ad P 57))]) E dX7_tear_12 (by decide) rfl ?_
    refine zr_aload_n E dX7_tear_13 1 rfl ?_
    refine zr_iconst (v := 0) E dX7_tear_14 (by decide) ?_
    obtain ⟨s3, es3, hm⟩ := nm_some hm
    refine fp_X7_334 (by decide) E es3 dX7_tear_15 ?_
    refine zr_iload_n E dX7_tear_18 0 rfl ?_
    exact zr_iret E hr rfl hm dX7_tear_19
-- X7_count
set_option maxRecDepth 100000 in
set_option maxHeartbeats 4000000 in
theorem c_X7_count (l : Launch) (P : zw_P) (σ : zw_S) (x1 : Int32) : zc_i l P yX7_count cX7_count 2 .int 4 [.ref (zw_ad P 57), .int x1] σ (m_X7_count σ x1) := by
  refine zc_i.of (by decide) (Nat.le_of_ble_eq_true rfl) (fun B r τ E hl hr hm => ?_)
  subst hl
  refine zr_sub (lv' := [(0, .ref (zw_ad P 57)), (1, .int x1)]) [0, 1] rfl ?_
  unfold m_X7_count at hm
  refine zr_iload_n E dX7_count_0 1 rfl ?_
  by_cases c1 : x1 = 0
  · rw [if_pos c1] at hm
    refine zr_tabIn (tgt := 48) E dX7_count_1 c1 (by decide) (by decide) rfl (by decide) ?_
    refine zr_aload_n E dX7_count_48 0 rfl ?_
    refine fg_X7_9 E dX7_count_49 ?_
    refine zr_iconst (v := 0) E dX7_count_52 (by decide) ?_
    obtain ⟨hv2, v2, ev2, hm⟩ := rd_some hm
    refine zr_iald E ac_58 hv2 ev2 dX7_count_53 ?_
    exact zr_iret E hr rfl hm dX7_count_54
  · rw [if_neg c1] at hm
    by_cases c3 : x1 = 1
    · rw [if_pos c3] at hm
      refine zr_tabIn (tgt := 55) E dX7_count_1 c3 (by decide) (by decide) rfl (by decide) ?_
      refine zr_aload_n E dX7_count_55 0 rfl ?_
      refine fg_X7_9 E dX7_count_56 ?_
      refine zr_iconst (v := 2) E dX7_count_59 (by decide) ?_
      obtain ⟨hv4, v4, ev4, hm⟩ := rd_some hm
      refine zr_iald E ac_58 hv4 ev4 dX7_count_60 ?_
      exact zr_iret E hr rfl hm dX7_count_61
    · rw [if_neg c3] at hm
      by_cases c5 : x1 = 2
      · rw [if_pos c5] at hm
        refine zr_tabIn (tgt := 62) E dX7_count_1 c5 (by decide) (by decide) rfl (by decide) ?_
        refine zr_aload_n E dX7_count_62 0 rfl ?_
        obtain ⟨r7, s6, os6, hm⟩ := cl_some hm
        refine zr_cVi (st := []) E mw_507 cm_X7_unended (c_X7_unended B.2.1 P σ) os6 (rc_57 P) ⟨by decide, by decide⟩ rfl rfl (Nat.le_of_ble_eq_true rfl) dX7_count_63 ?_
        exact zr_iret E hr rfl hm dX7_count_66
      · rw [if_neg c5] at hm
        by_cases c8 : x1 = 3
        · rw [if_pos c8] at hm
          refine zr_tabIn (tgt := 67) E dX7_count_1 c8 (by decide) (by decide) rfl (by decide) ?_
          refine zr_aload_n E dX7_count_67 0 rfl ?_
          refine fg_X7_9 E dX7_count_68 ?_
          refine zr_iconst (v := 3) E dX7_count_71 (by decide) ?_
          obtain ⟨hv9, v9, ev9, hm⟩ := rd_some hm
          refine zr_iald E ac_58 hv9 ev9 dX7_count_72 ?_
          exact zr_iret E hr rfl hm dX7_count_73
        · rw [if_neg c8] at hm
          by_cases c10 : x1 = 4
          · rw [if_pos c10] at hm
            refine zr_tabIn (tgt := 74) E dX7_count_1 c10 (by decide) (by decide) rfl (by decide) ?_
            refine zr_aload_n E dX7_count_74 0 rfl ?_
            obtain ⟨r12, s11, os11, hm⟩ := cl_some hm
            refine zr_cVi (st := []) E mw_596 cm_X7_endedWorth (c_X7_endedWorth B.2.1 P σ) os11 (rc_57 P) ⟨by decide, by decide⟩ rfl rfl (Nat.le_of_ble_eq_true rfl) dX7_count_75 ?_
            exact zr_iret E hr rfl hm dX7_count_78
          · rw [if_neg c10] at hm
            by_cases c13 : x1 = 5
            · rw [if_pos c13] at hm
              refine zr_tabIn (tgt := 79) E dX7_count_1 c13 (by decide) (by decide) rfl (by decide) ?_
              refine zr_aload_n E dX7_count_79 0 rfl ?_
              obtain ⟨r15, s14, os14, hm⟩ := cl_some hm
              refine zr_cVi (st := []) E mw_588 cm_X7_hours (c_X7_hours B.2.1 P σ) os14 (rc_57 P) ⟨by decide, by decide⟩ rfl rfl (Nat.le_of_ble_eq_true rfl) dX7_count_80 ?_
              exact zr_iret E hr rfl hm dX7_count_83
            · rw [if_neg c13] at hm
              by_cases c16 : x1 = 6
              · rw [if_pos c16] at hm
                refine zr_tabIn (tgt := 84) E dX7_count_1 c16 (by decide) (by decide) rfl (by decide) ?_
                refine zr_aload_n E dX7_count_84 0 rfl ?_
                refine fg_X7_229 E dX7_count_85 ?_
                exact zr_iret E hr rfl hm dX7_count_88
              · rw [if_neg c16] at hm
                by_cases c17 : x1 = 7
                · rw [if_pos c17] at hm
                  refine zr_tabIn (tgt := 89) E dX7_count_1 c17 (by decide) (by decide) rfl (by decide) ?_
                  refine zr_aload_n E dX7_count_89 0 rfl ?_
                  refine fg_X7_9 E dX7_count_90 ?_
                  refine zr_iconst (v := 1) E dX7_count_93 (by decide) ?_
                  obtain ⟨hv18, v18, ev18, hm⟩ := rd_some hm
                  refine zr_iald E ac_58 hv18 ev18 dX7_count_94 ?_
                  exact zr_iret E hr rfl hm dX7_count_95
                · rw [if_neg c17] at hm
                  refine zr_tabOut (tgt := 96) E dX7_count_1 (sw_out (0) 8 (by decide) (by decide) (fun j hj => by match j, hj with | 0, _ => exact c1 | 1, _ => exact c3 | 2, _ => exact c5 | 3, _ => exact c8 | 4, _ => exact c10 | 5, _ => exact c13 | 6, _ => exact c16 | 7, _ => exact c17 | (j + 8), hj => exact absurd hj (by omega)) _ (by decide)) (by decide) ?_
                  refine zr_aload_n E dX7_count_96 0 rfl ?_
                  refine zr_ldc E mw_115 dX7_count_97 ?_
                  obtain ⟨r20, s19, os19, hm⟩ := cl_some hm
                  refine zr_cVi (st := []) E mw_127 cm_X7_finds (c_X7_finds B.2.1 P σ (-1000001)) os19 (rc_57 P) ⟨by decide, by decide⟩ rfl rfl (Nat.le_of_ble_eq_true rfl) dX7_count_99 ?_
                  exact zr_iret E hr rfl hm dX7_count_102
