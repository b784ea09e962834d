-- X0_setTo
set_option maxRecDepth 100000 in
set_option maxHeartbeats 4000000 in
theorem c_X0_setTo (l : Launch) (P : zw_P) (k : Nat) (b1 : Nat) (hk : zw_bk k = true) (hb1 : zw_bk b1 = true) (σ : zw_S) : zc_v l P yX0_setTo cX0_setTo 2 1 [.ref (zw_ad P k), .ref (zw_ad P b1)] σ (m_X0_setTo k b1 σ) := by
  refine zc_v.of (by decide) (Nat.le_of_ble_eq_true rfl) (fun B τ E hl hr hm => ?_)
  subst hl
  refine zr_sub (lv' := [(0, .ref (zw_ad P k)), (1, .ref (zw_ad P b1))]) [0, 1] rfl ?_
  unfold m_X0_setTo at hm
  refine zr_aload_n E dX0_setTo_0 0 rfl ?_
  refine zr_aload_n E dX0_setTo_1 1 rfl ?_
  refine fg_X0_55 hb1 E dX0_setTo_2 ?_
  obtain ⟨s1, es1, hm⟩ := nm_some hm
  refine fp_X0_55 hk E es1 dX0_setTo_5 ?_
  refine zr_aload_n E dX0_setTo_8 0 rfl ?_
  refine zr_aload_n E dX0_setTo_9 1 rfl ?_
  refine fg_X0_9 hb1 E dX0_setTo_10 ?_
  obtain ⟨s2, es2, hm⟩ := nm_some hm
  refine fp_X0_9 hk E es2 dX0_setTo_13 ?_
  refine zr_aload_n E dX0_setTo_16 0 rfl ?_
  refine zr_aload_n E dX0_setTo_17 1 rfl ?_
  refine fg_X0_58 hb1 E dX0_setTo_18 ?_
  obtain ⟨s3, es3, hm⟩ := nm_some hm
  refine fp_X0_58 hk E es3 dX0_setTo_21 ?_
  refine zr_aload_n E dX0_setTo_24 0 rfl ?_
  refine zr_aload_n E dX0_setTo_25 1 rfl ?_
  refine fg_X0_61 hb1 E dX0_setTo_26 ?_
  obtain ⟨s4, es4, hm⟩ := nm_some hm
  refine fp_X0_61 hk E es4 dX0_setTo_29 ?_
  refine zr_aload_n E dX0_setTo_32 1 rfl ?_
  refine fg_X0_15 hb1 E dX0_setTo_33 ?_
  refine zr_iconst (v := 0) E dX0_setTo_36 (by decide) ?_
  refine zr_aload_n E dX0_setTo_37 0 rfl ?_
  refine fg_X0_15 hk E dX0_setTo_38 ?_
  refine zr_iconst (v := 0) E dX0_setTo_41 (by decide) ?_
  refine zr_bipush (v := 8) E dX0_setTo_42 (by decide) ?_
  obtain ⟨hz6, hm⟩ := tt_some hm
  obtain ⟨s5, es5, hm⟩ := nm_some hm
  refine zr_copy (h := 0) E mw_558 mC_1 mC_2 mC_3 (ab_1 hb1) (ab_1 hk) (zcp_1 hz6) (zcp_2 hz6) (zcp_3 hz6) (zcp_4 hz6) (zcp_5 hz6) (Nat.le_of_ble_eq_true rfl) es5 dX0_setTo_44 ?_
  refine zr_aload_n E dX0_setTo_47 1 rfl ?_
  refine fg_X0_19 hb1 E dX0_setTo_48 ?_
  refine zr_iconst (v := 0) E dX0_setTo_51 (by decide) ?_
  refine zr_aload_n E dX0_setTo_52 0 rfl ?_
  refine fg_X0_19 hk E dX0_setTo_53 ?_
  refine zr_iconst (v := 0) E dX0_setTo_56 (by decide) ?_
  refine zr_bipush (v := 8) E dX0_setTo_57 (by decide) ?_
  obtain ⟨hz8, hm⟩ := tt_some hm
  obtain ⟨s7, es7, hm⟩ := nm_some hm
  refine zr_copy (h := 0) E mw_558 mC_1 mC_2 mC_3 (ab_2 hb1) (ab_2 hk) (zcp_1 hz8) (zcp_2 hz8) (zcp_3 hz8) (zcp_4 hz8) (zcp_5 hz8) (Nat.le_of_ble_eq_true rfl) es7 dX0_setTo_59 ?_
  refine zr_aload_n E dX0_setTo_62 1 rfl ?_
  refine fg_X0_22 hb1 E dX0_setTo_63 ?_
  refine zr_iconst (v := 0) E dX0_setTo_66 (by decide) ?_
  refine zr_aload_n E dX0_setTo_67 0 rfl ?_
  refine fg_X0_22 hk E dX0_setTo_68 ?_
  refine zr_iconst (v := 0) E dX0_setTo_71 (by decide) ?_
  refine zr_bipush (v := 20) E dX0_setTo_72 (by decide) ?_
  obtain ⟨hz10, hm⟩ := tt_some hm
  obtain ⟨s9, es9, hm⟩ := nm_some hm
  refine zr_copy (h := 0) E mw_558 mC_1 mC_2 mC_3 (ab_3 hb1) (ab_3 hk) (zcp_1 hz10) (zcp_2 hz10) (zcp_3 hz10) (zcp_4 hz10) (zcp_5 hz10) (Nat.le_of_ble_eq_true rfl) es9 dX0_setTo_74 ?_
  refine zr_aload_n E dX0_setTo_77 1 rfl ?_
  refine fg_X0_25 hb1 E dX0_setTo_78 ?_
  refine zr_iconst (v := 0) E dX0_setTo_81 (by decide) ?_
  refine zr_aload_n E dX0_setTo_82 0 rfl ?_
  refine fg_X0_25 hk E dX0_setTo_83 ?_
  refine zr_iconst (v := 0) E dX0_setTo_86 (by decide) ?_
  refine zr_bipush (v := 20) E dX0_setTo_87 (by decide) ?_
  obtain ⟨hz12, hm⟩ := tt_some hm
  obtain ⟨s11, es11, hm⟩ := nm_some hm
  refine zr_copy (h := 0) E mw_558 mC_1 mC_2 mC_3 (ab_4 hb1) (ab_4 hk) (zcp_1 hz12) (zcp_2 hz12) (zcp_3 hz12) (zcp_4 hz12) (zcp_5 hz12) (Nat.le_of_ble_eq_true rfl) es11 dX0_setTo_89 ?_
  refine zr_aload_n E dX0_setTo_92 1 rfl ?_
  refine fg_X0_28 hb1 E dX0_setTo_93 ?_
  refine zr_iconst (v := 0) E dX0_setTo_96 (by decide) ?_
  refine zr_aload_n E dX0_setTo_97 0 rfl ?_
  refine fg_X0_28 hk E dX0_setTo_98 ?_
  refine zr_iconst (v := 0) E dX0_setTo_101 (by decide) ?_
  refine zr_bipush (v := 20) E dX0_setTo_102 (by decide) ?_
  obtain ⟨hz14, hm⟩ := tt_some hm
  obtain ⟨s13, es13, hm⟩ := nm_some hm
  refine zr_copy (h := 0) E mw_558 mC_1 mC_2 mC_3 (ab_5 hb1) (ab_5 hk) (zcp_1 hz14) (zcp_2 hz14) (zcp_3 hz14) (zcp_4 hz14) (zcp_5 hz14) (Nat.le_of_ble_eq_true rfl) es13 dX0_setTo_104 ?_
  refine zr_aload_n E dX0_setTo_107 1 rfl ?_
  refine fg_X0_31 hb1 E dX0_setTo_108 ?_
  refine zr_iconst (v := 0) E dX0_setTo_111 (by decide) ?_
  refine zr_aload_n E dX0_setTo_112 0 rfl ?_
  refine fg_X0_31 hk E dX0_setTo_113 ?_
  refine zr_iconst (v := 0) E dX0_setTo_116 (by decide) ?_
  refine zr_bipush (v := 20) E dX0_setTo_117 (by decide) ?_
  obtain ⟨hz16, hm⟩ := tt_some hm
  obtain ⟨s15, es15, hm⟩ := nm_some hm
  refine zr_copy (h := 0) E mw_558 mC_1 mC_2 mC_3 (ab_6 hb1) (ab_6 hk) (zcp_1 hz16) (zcp_2 hz16) (zcp_3 hz16) (zcp_4 hz16) (zcp_5 hz16) (Nat.le_of_ble_eq_true rfl) es15 dX0_setTo_119 ?_
  refine zr_aload_n E dX0_setTo_122 1 rfl ?_
  refine fg_X0_34 hb1 E dX0_setTo_123 ?_
  refine zr_iconst (v := 0) E dX0_setTo_126 (by decide) ?_
  refine zr_aload_n E dX0_setTo_127 0 rfl ?_
  refine fg_X0_34 hk E dX0_setTo_128 ?_
  refine zr_iconst (v := 0) E dX0_setTo_131 (by decide) ?_
  refine zr_bipush (v := 8) E dX0_setTo_132 (by decide) ?_
  obtain ⟨hz18, hm⟩ := tt_some hm
  obtain ⟨s17, es17, hm⟩ := nm_some hm
  refine zr_copy (h := 0) E mw_558 mC_1 mC_2 mC_3 (ab_7 hb1) (ab_7 hk) (zcp_1 hz18) (zcp_2 hz18) (zcp_3 hz18) (zcp_4 hz18) (zcp_5 hz18) (Nat.le_of_ble_eq_true rfl) es17 dX0_setTo_134 ?_
  refine zr_aload_n E dX0_setTo_137 1 rfl ?_
  refine fg_X0_37 hb1 E dX0_setTo_138 ?_
  refine zr_iconst (v := 0) E dX0_setTo_141 (by decide) ?_
  refine zr_aload_n E dX0_setTo_142 0 rfl ?_
  refine fg_X0_37 hk E dX0_setTo_143 ?_
  refine zr_iconst (v := 0) E dX0_setTo_146 (by decide) ?_
  refine zr_bipush (v := 8) E dX0_setTo_147 (by decide) ?_
  obtain ⟨hz20, hm⟩ := tt_some hm
  obtain ⟨s19, es19, hm⟩ := nm_some hm
  refine zr_copy (h := 0) E mw_558 mC_1 mC_2 mC_3 (ab_8 hb1) (ab_8 hk) (zcp_1 hz20) (zcp_2 hz20) (zcp_3 hz20) (zcp_4 hz20) (zcp_5 hz20) (Nat.le_of_ble_eq_true rfl) es19 dX0_setTo_149 ?_
  refine zr_aload_n E dX0_setTo_152 1 rfl ?_
  refine fg_X0_40 hb1 E dX0_setTo_153 ?_
  refine zr_iconst (v := 0) E dX0_setTo_156 (by decide) ?_
  refine zr_aload_n E dX0_setTo_157 0 rfl ?_
  refine fg_X0_40 hk E dX0_setTo_158 ?_
  refine zr_iconst (v := 0) E dX0_setTo_161 (by decide) ?_
  refine zr_bipush (v := 8) E dX0_setTo_162 (by decide) ?_
  obtain ⟨hz22, hm⟩ := tt_some hm
  obtain ⟨s21, es21, hm⟩ := nm_some hm
  refine zr_copy (h := 0) E mw_558 mC_1 mC_2 mC_3 (ab_9 hb1) (ab_9 hk) (zcp_1 hz22) (zcp_2 hz22) (zcp_3 hz22) (zcp_4 hz22) (zcp_5 hz22) (Nat.le_of_ble_eq_true rfl) es21 dX0_setTo_164 ?_
  refine zr_aload_n E dX0_setTo_167 1 rfl ?_
  refine fg_X0_43 hb1 E dX0_setTo_168 ?_
  refine zr_iconst (v := 0) E dX0_setTo_171 (by decide) ?_
  refine zr_aload_n E dX0_setTo_172 0 rfl ?_
  refine fg_X0_43 hk E dX0_setTo_173 ?_
  refine zr_iconst (v := 0) E dX0_setTo_176 (by decide) ?_
  refine zr_bipush (v := 8) E dX0_setTo_177 (by decide) ?_
  obtain ⟨hz24, hm⟩ := tt_some hm
  obtain ⟨s23, es23, hm⟩ := nm_some hm
  refine zr_copy (h := 0) E mw_558 mC_1 mC_2 mC_3 (ab_10 hb1) (ab_10 hk) (zcp_1 hz24) (zcp_2 hz24) (zcp_3 hz24) (zcp_4 hz24) (zcp_5 hz24) (Nat.le_of_ble_eq_true rfl) es23 dX0_setTo_179 ?_
  refine zr_aload_n E dX0_setTo_182 1 rfl ?_
  refine fg_X0_46 hb1 E dX0_setTo_183 ?_
  refine zr_iconst (v := 0) E dX0_setTo_186 (by decide) ?_
  refine zr_aload_n E dX0_setTo_187 0 rfl ?_
  refine fg_X0_46 hk E dX0_setTo_188 ?_
  refine zr_iconst (v := 0) E dX0_setTo_191 (by decide) ?_
  refine zr_bipush (v := 10) E dX0_setTo_192 (by decide) ?_
  obtain ⟨hz26, hm⟩ := tt_some hm
  obtain ⟨s25, es25, hm⟩ := nm_some hm
  refine zr_copy (h := 0) E mw_558 mC_1 mC_2 mC_3 (ab_11 hb1) (ab_11 hk) (zcp_1 hz26) (zcp_2 hz26) (zcp_3 hz26) (zcp_4 hz26) (zcp_5 hz26) (Nat.le_of_ble_eq_true rfl) es25 dX0_setTo_194 ?_
  exact zr_vret E hr hm dX0_setTo_197
-- X0_draw
set_option maxRecDepth 100000 in
set_option maxHeartbeats 4000000 in
theorem c_X0_draw (l : Launch) (P : zw_P) (k : Nat) (hk : zw_bk k = true) (σ : zw_S) : zc_i l P yX0_draw cX0_draw 1 .int 0 [.ref (zw_ad P k)] σ (m_X0_draw k σ) := by
  refine zc_i.of (by decide) (Nat.le_of_ble_eq_true rfl) (fun B r τ E hl hr hm => ?_)
  subst hl
  refine zr_sub (lv' := [(0, .ref (zw_ad P k))]) [0] rfl ?_
  unfold m_X0_draw at hm
  refine zr_aload_n E dX0_draw_0 0 rfl ?_
  refine zr_aload_n E dX0_draw_1 0 rfl ?_
  refine fg_X0_9 hk E dX0_draw_2 ?_
  refine zr_ldc E mw_411 dX0_draw_5 ?_
  refine zr_imul E dX0_draw_7 ?_
  refine zr_sipush (v := 12345) E dX0_draw_8 (by decide) ?_
  refine zr_iadd E dX0_draw_11 ?_
  obtain ⟨s1, es1, hm⟩ := nm_some hm
  refine fp_X0_9 hk E es1 dX0_draw_12 ?_
  refine zr_aload_n E dX0_draw_15 0 rfl ?_
  refine fg_X0_9 hk E dX0_draw_16 ?_
  refine zr_bipush (v := 8) E dX0_draw_19 (by decide) ?_
  refine zr_iushr E dX0_draw_21 ?_
  exact zr_iret E hr rfl hm dX0_draw_22
-- X0_hasTask
set_option maxRecDepth 100000 in
set_option maxHeartbeats 4000000 in
theorem c_X0_hasTask (l : Launch) (P : zw_P) (k : Nat) (hk : zw_bk k = true) (σ : zw_S) (x1 : Int32) : zc_i l P yX0_hasTask cX0_hasTask 2 .boolean 0 [.ref (zw_ad P k), .int x1] σ (m_X0_hasTask k σ x1) := by
  refine zc_i.of (by decide) (Nat.le_of_ble_eq_true rfl) (fun B r τ E hl hr hm => ?_)
  subst hl
  refine zr_sub (lv' := [(0, .ref (zw_ad P k)), (1, .int x1)]) [0, 1] rfl ?_
  unfold m_X0_hasTask at hm
  refine zr_iload_n E dX0_hasTask_0 1 rfl ?_
  refine zr_if_lt (tgt := 16) E dX0_hasTask_1 (by decide) (fun c1 => ?_) (fun c1 => ?_)
  · rw [if_pos c1] at hm
    refine zr_iconst (v := 0) E dX0_hasTask_16 (by decide) ?_
    exact zr_iret E hr (by decide) hm dX0_hasTask_17
  · rw [if_neg c1] at hm
    refine zr_iload_n E dX0_hasTask_4 1 rfl ?_
    refine zr_aload_n E dX0_hasTask_5 0 rfl ?_
    refine fg_X0_58 hk E dX0_hasTask_6 ?_
    refine zr_icmp_ge (tgt := 16) E dX0_hasTask_9 (by decide) (fun c2 => ?_) (fun c2 => ?_)
    · rw [if_pos c2] at hm
      refine zr_iconst (v := 0) E dX0_hasTask_16 (by decide) ?_
      exact zr_iret E hr (by decide) hm dX0_hasTask_17
    · rw [if_neg c2] at hm
      refine zr_iconst (v := 1) E dX0_hasTask_12 (by decide) ?_
      refine zr_goto (tgt := 17) E dX0_hasTask_13 (by decide) ?_
      exact zr_iret E hr (by decide) hm dX0_hasTask_17
-- X0_hasPerson
set_option maxRecDepth 100000 in
set_option maxHeartbeats 4000000 in
theorem c_X0_hasPerson (l : Launch) (P : zw_P) (k : Nat) (hk : zw_bk k = true) (σ : zw_S) (x1 : Int32) : zc_i l P yX0_hasPerson cX0_hasPerson 2 .boolean 0 [.ref (zw_ad P k), .int x1] σ (m_X0_hasPerson k σ x1) := by
  refine zc_i.of (by decide) (Nat.le_of_ble_eq_true rfl) (fun B r τ E hl hr hm => ?_)
  subst hl
  refine zr_sub (lv' := [(0, .ref (zw_ad P k)), (1, .int x1)]) [0, 1] rfl ?_
  unfold m_X0_hasPerson at hm
  refine zr_iload_n E dX0_hasPerson_0 1 rfl ?_
  refine zr_if_lt (tgt := 16) E dX0_hasPerson_1 (by decide) (fun c1 => ?_) (fun c1 => ?_)
  · rw [if_pos c1] at hm
    refine zr_iconst (v := 0) E dX0_hasPerson_16 (by decide) ?_
    exact zr_iret E hr (by decide) hm dX0_hasPerson_17
  · rw [if_neg c1] at hm
    refine zr_iload_n E dX0_hasPerson_4 1 rfl ?_
    refine zr_aload_n E dX0_hasPerson_5 0 rfl ?_
    refine fg_X0_61 hk E dX0_hasPerson_6 ?_
    refine zr_icmp_ge (tgt := 16) E dX0_hasPerson_9 (by decide) (fun c2 => ?_) (fun c2 => ?_)
    · rw [if_pos c2] at hm
      refine zr_iconst (v := 0) E dX0_hasPerson_16 (by decide) ?_
      exact zr_iret E hr (by decide) hm dX0_hasPerson_17
    · rw [if_neg c2] at hm
      refine zr_iconst (v := 1) E dX0_hasPerson_12 (by decide) ?_
      refine zr_goto (tgt := 17) E dX0_hasPerson_13 (by decide) ?_
      exact zr_iret E hr (by decide) hm dX0_hasPerson_17
-- X0_addTask
set_option maxRecDepth 100000 in
set_option maxHeartbeats 4000000 in
theorem c_X0_addTask (l : Launch) (P : zw_P) (k : Nat) (hk : zw_bk k = true) (σ : zw_S) (x1 : Int32) (x2 : Int32) (x3 : Int32) (x4 : Int32) : zc_i l P yX0_addTask cX0_addTask 5 .int 0 [.ref (zw_ad P k), .int x1, .int x2, .int x3, .int x4] σ (m_X0_addTask k σ x1 x2 x3 x4) := by
  refine zc_i.of (by decide) (Nat.le_of_ble_eq_true rfl) (fun B r τ E hl hr hm => ?_)
  subst hl
  refine zr_sub (lv' := [(0, .ref (zw_ad P k)), (1, .int x1), (2, .int x2), (3, .int x3), (4, .int x4)]) [0, 1, 2, 3, 4] rfl ?_
  unfold m_X0_addTask at hm
  refine zr_aload_n E dX0_addTask_0 0 rfl ?_
  refine fg_X0_58 hk E dX0_addTask_1 ?_
  refine zr_bipush (v := 20) E dX0_addTask_4 (by decide) ?_
  refine zr_icmp_lt (tgt := 11) E dX0_addTask_6 (by decide) (fun c1 => ?_) (fun c1 => ?_)
  · rw [if_pos c1] at hm
    refine zr_aload_n E dX0_addTask_11 0 rfl ?_
    refine fg_X0_22 hk E dX0_addTask_12 ?_
    refine zr_aload_n E dX0_addTask_15 0 rfl ?_
    refine fg_X0_58 hk E dX0_addTask_16 ?_
    refine zr_iload_n E dX0_addTask_19 1 rfl ?_
    obtain ⟨hs2, s2, es2, hm⟩ := wt_some hm
    refine zr_iast E (ab_3 hk) hs2 es2 dX0_addTask_20 ?_
    refine zr_aload_n E dX0_addTask_21 0 rfl ?_
    refine fg_X0_25 hk E dX0_addTask_22 ?_
    refine zr_aload_n E dX0_addTask_25 0 rfl ?_
    refine fg_X0_58 hk E dX0_addTask_26 ?_
    refine zr_iload_n E dX0_addTask_29 2 rfl ?_
    obtain ⟨hs3, s3, es3, hm⟩ := wt_some hm
    refine zr_iast E (ab_4 hk) hs3 es3 dX0_addTask_30 ?_
    refine zr_aload_n E dX0_addTask_31 0 rfl ?_
    refine fg_X0_28 hk E dX0_addTask_32 ?_
    refine zr_aload_n E dX0_addTask_35 0 rfl ?_
    refine fg_X0_58 hk E dX0_addTask_36 ?_
    refine zr_iload_n E dX0_addTask_39 3 rfl ?_
    obtain ⟨hs4, s4, es4, hm⟩ := wt_some hm
    refine zr_iast E (ab_5 hk) hs4 es4 dX0_addTask_40 ?_
    refine zr_aload_n E dX0_addTask_41 0 rfl ?_
    refine fg_X0_31 hk E dX0_addTask_42 ?_
    refine zr_aload_n E dX0_addTask_45 0 rfl ?_
    refine fg_X0_58 hk E dX0_addTask_46 ?_
    refine zr_iload E dX0_addTask_49 4 rfl ?_
    obtain ⟨hs5, s5, es5, hm⟩ := wt_some hm
    refine zr_iast E (ab_6 hk) hs5 es5 dX0_addTask_51 ?_
    refine zr_aload_n E dX0_addTask_52 0 rfl ?_
    refine zr_dup E dX0_addTask_53 rfl ?_
    refine fg_X0_58 hk E dX0_addTask_54 ?_
    obtain ⟨v6, ev6, hm⟩ := nm_some hm
    refine zr_top ev6 ?_
    refine zr_dup_x1 E dX0_addTask_57 rfl rfl ?_
    refine zr_iconst (v := 1) E dX0_addTask_58 (by decide) ?_
    refine zr_iadd E dX0_addTask_59 ?_
    obtain ⟨s7, es7, hm⟩ := nm_some hm
    refine fp_X0_58 hk E es7 dX0_addTask_60 ?_
    exact zr_iret E hr rfl hm dX0_addTask_63
  · rw [if_neg c1] at hm
    refine zr_iconst (v := (-1)) E dX0_addTask_9 (by decide) ?_
    exact zr_iret E hr rfl hm dX0_addTask_10
-- X0_addPerson
set_option maxRecDepth 100000 in
set_option maxHeartbeats 4000000 in
theorem c_X0_addPerson (l : Launch) (P : zw_P) (k : Nat) (hk : zw_bk k = true) (σ : zw_S) (x1 : Int32) (x2 : Int32) (x3 : Int32) : zc_i l P yX0_addPerson cX0_addPerson 4 .int 0 [.ref (zw_ad P k), .int x1, .int x2, .int x3] σ (m_X0_addPerson k σ x1 x2 x3) := by
  refine zc_i.of (by decide) (Nat.le_of_ble_eq_true rfl) (fun B r τ E hl hr hm => ?_)
  subst hl
  refine zr_sub (lv' := [(0, .ref (zw_ad P k)), (1, .int x1), (2, .int x2), (3, .int x3)]) [0, 1, 2, 3] rfl ?_
  unfold m_X0_addPerson at hm
  refine zr_aload_n E dX0_addPerson_0 0 rfl ?_
  refine fg_X0_61 hk E dX0_addPerson_1 ?_
  refine zr_bipush (v := 8) E dX0_addPerson_4 (by decide) ?_
  refine zr_icmp_lt (tgt := 11) E dX0_addPerson_6 (by decide) (fun c1 => ?_) (fun c1 => ?_)
  · rw [if_pos c1] at hm
    refine zr_aload_n E dX0_addPerson_11 0 rfl ?_
    refine fg_X0_40 hk E dX0_addPerson_12 ?_
    refine zr_aload_n E dX0_addPerson_15 0 rfl ?_
    refine fg_X0_61 hk E dX0_addPerson_16 ?_
    refine zr_iload_n E dX0_addPerson_19 1 rfl ?_
    obtain ⟨hs2, s2, es2, hm⟩ := wt_some hm
    refine zr_iast E (ab_9 hk) hs2 es2 dX0_addPerson_20 ?_
    refine zr_aload_n E dX0_addPerson_21 0 rfl ?_
    refine fg_X0_37 hk E dX0_addPerson_22 ?_
    refine zr_aload_n E dX0_addPerson_25 0 rfl ?_
    refine fg_X0_61 hk E dX0_addPerson_26 ?_
    refine zr_iload_n E dX0_addPerson_29 2 rfl ?_
    obtain ⟨hs3, s3, es3, hm⟩ := wt_some hm
    refine zr_iast E (ab_8 hk) hs3 es3 dX0_addPerson_30 ?_
    refine zr_aload_n E dX0_addPerson_31 0 rfl ?_
    refine fg_X0_34 hk E dX0_addPerson_32 ?_
    refine zr_aload_n E dX0_addPerson_35 0 rfl ?_
    refine fg_X0_61 hk E dX0_addPerson_36 ?_
    refine zr_iload_n E dX0_addPerson_39 3 rfl ?_
    obtain ⟨hs4, s4, es4, hm⟩ := wt_some hm
    refine zr_iast E (ab_7 hk) hs4 es4 dX0_addPerson_40 ?_
    refine zr_aload_n E dX0_addPerson_41 0 rfl ?_
    refine fg_X0_43 hk E dX0_addPerson_42 ?_
    refine zr_aload_n E dX0_addPerson_45 0 rfl ?_
    refine fg_X0_61 hk E dX0_addPerson_46 ?_
    refine zr_iconst (v := (-1)) E dX0_addPerson_49 (by decide) ?_
    obtain ⟨hs5, s5, es5, hm⟩ := wt_some hm
    refine zr_iast E (ab_10 hk) hs5 es5 dX0_addPerson_50 ?_
    refine zr_aload_n E dX0_addPerson_51 0 rfl ?_
    refine zr_dup E dX0_addPerson_52 rfl ?_
    refine fg_X0_61 hk E dX0_addPerson_53 ?_
    obtain ⟨v6, ev6, hm⟩ := nm_some hm
    refine zr_top ev6 ?_
    refine zr_dup_x1 E dX0_addPerson_56 rfl rfl ?_
    refine zr_iconst (v := 1) E dX0_addPerson_57 (by decide) ?_
    refine zr_iadd E dX0_addPerson_58 ?_
    obtain ⟨s7, es7, hm⟩ := nm_some hm
    refine fp_X0_61 hk E es7 dX0_addPerson_59 ?_
    exact zr_iret E hr rfl hm dX0_addPerson_62
  · rw [if_neg c1] at hm
    refine zr_iconst (v := (-1)) E dX0_addPerson_9 (by decide) ?_
    exact zr_iret E hr rfl hm dX0_addPerson_10
-- X0_isEnded
set_option maxRecDepth 100000 in
set_option maxHeartbeats 4000000 in
theorem c_X0_isEnded (l : Launch) (P : zw_P) (k : Nat) (hk : zw_bk k = true) (σ : zw_S) (x1 : Int32) : zc_i l P yX0_isEnded cX0_isEnded 2 .boolean 0 [.ref (zw_ad P k), .int x1] σ (m_X0_isEnded k σ x1) := by
  refine zc_i.of (by decide) (Nat.le_of_ble_eq_true rfl) (fun B r τ E hl hr hm => ?_)
  subst hl
  refine zr_sub (lv' := [(0, .ref (zw_ad P k)), (1, .int x1)]) [0, 1] rfl ?_
  unfold m_X0_isEnded at hm
  refine zr_aload_n E dX0_isEnded_0 0 rfl ?_
  refine fg_X0_28 hk E dX0_isEnded_1 ?_
  refine zr_iload_n E dX0_isEnded_4 1 rfl ?_
  obtain ⟨hv1, v1, ev1, hm⟩ := rd_some hm
  refine zr_iald E (ab_5 hk) hv1 ev1 dX0_isEnded_5 ?_
  refine zr_if_ne (tgt := 13) E dX0_isEnded_6 (by decide) (fun c2 => ?_) (fun c2 => ?_)
  · rw [if_neg c2] at hm
    refine zr_iconst (v := 0) E dX0_isEnded_13 (by decide) ?_
    exact zr_iret E hr (by decide) hm dX0_isEnded_14
  · rw [if_pos c2] at hm
    refine zr_iconst (v := 1) E dX0_isEnded_9 (by decide) ?_
    refine zr_goto (tgt := 14) E dX0_isEnded_10 (by decide) ?_
    exact zr_iret E hr (by decide) hm dX0_isEnded_14
-- X0_endedTasks
set_option maxRecDepth 100000 in
set_option maxHeartbeats 4000000 in
theorem t_X0_endedTasks_4 {B : zw_B} {P : zw_P} {r : Int32} {τ : zw_S} (k : Nat) (hk : zw_bk k = true) (E : zf B P cX0_endedTasks RX0 3 0) (hr : B.2.2.2.2.2.2.2.2.1.sig.returnType = some .int) : ∀ (n : Nat) (σ : zw_S) (x1 : Int32) (x2 : Int32), m_X0_endedTasks_4 k n σ x1 x2 = some (r, τ) → zw_G B P (zq_i B P r τ) 3 σ 4 [(0, .ref (zw_ad P k)), (1, .int x1), (2, .int x2)] [] := by
  intro n
  induction n with
  | zero => intro σ x1 x2 hm; cases hm
  | succ n ih =>
    intro σ x1 x2 hm
    unfold m_X0_endedTasks_4 at hm
    refine zr_iload_n E dX0_endedTasks_4 2 rfl ?_
    refine zr_aload_n E dX0_endedTasks_5 0 rfl ?_
    refine fg_X0_58 hk E dX0_endedTasks_6 ?_
    refine zr_icmp_ge (tgt := 30) E dX0_endedTasks_9 (by decide) (fun c1 => ?_) (fun c1 => ?_)
    · rw [if_pos c1] at hm
      refine zr_iload_n E dX0_endedTasks_30 1 rfl ?_
      exact zr_iret E hr rfl hm dX0_endedTasks_31
    · rw [if_neg c1] at hm
      refine zr_aload_n E dX0_endedTasks_12 0 rfl ?_
      refine fg_X0_28 hk E dX0_endedTasks_13 ?_
      refine zr_iload_n E dX0_endedTasks_16 2 rfl ?_
      obtain ⟨hv2, v2, ev2, hm⟩ := rd_some hm
      refine zr_iald E (ab_5 hk) hv2 ev2 dX0_endedTasks_17 ?_
      refine zr_if_ne (tgt := 24) E dX0_endedTasks_18 (by decide) (fun c3 => ?_) (fun c3 => ?_)
      · rw [if_neg c3] at hm
        obtain ⟨v4, ev4, hm⟩ := nm_some hm
        refine zr_iinc (j := 2) (lv' := [(2, .int v4), (0, .ref (zw_ad P k)), (1, .int x1)]) E dX0_endedTasks_24 rfl ev4 (by decide) rfl ?_
        refine zr_goto (tgt := 4) E dX0_endedTasks_27 (by decide) ?_
        refine zr_sub (lv' := [(0, .ref (zw_ad P k)), (1, .int x1), (2, .int v4)]) [1, 2, 0] rfl ?_
        exact ih σ x1 v4 hm
      · rw [if_pos c3] at hm
        obtain ⟨v5, ev5, hm⟩ := nm_some hm
        refine zr_iinc (j := 1) (lv' := [(1, .int v5), (0, .ref (zw_ad P k)), (2, .int x2)]) E dX0_endedTasks_21 rfl ev5 (by decide) rfl ?_
        obtain ⟨v6, ev6, hm⟩ := nm_some hm
        refine zr_iinc (j := 2) (lv' := [(2, .int v6), (1, .int v5), (0, .ref (zw_ad P k))]) E dX0_endedTasks_24 rfl ev6 (by decide) rfl ?_
        refine zr_goto (tgt := 4) E dX0_endedTasks_27 (by decide) ?_
        refine zr_sub (lv' := [(0, .ref (zw_ad P k)), (1, .int v5), (2, .int v6)]) [2, 1, 0] rfl ?_
        exact ih σ v5 v6 hm
set_option maxRecDepth 100000 in
set_option maxHeartbeats 4000000 in
theorem c_X0_endedTasks (l : Launch) (P : zw_P) (k : Nat) (hk : zw_bk k = true) (σ : zw_S) : zc_i l P yX0_endedTasks cX0_endedTasks 3 .int 0 [.ref (zw_ad P k)] σ (m_X0_endedTasks k σ) := by
  refine zc_i.of (by decide) (Nat.le_of_ble_eq_true rfl) (fun B r τ E hl hr hm => ?_)
  subst hl
  refine zr_sub (lv' := [(0, .ref (zw_ad P k))]) [0] rfl ?_
  unfold m_X0_endedTasks at hm
  refine zr_iconst (v := 0) E dX0_endedTasks_0 (by decide) ?_
  refine zr_istore_n (lv' := [(1, .int 0), (0, .ref (zw_ad P k))]) E dX0_endedTasks_1 (by decide) rfl ?_
  refine zr_iconst (v := 0) E dX0_endedTasks_2 (by decide) ?_
  refine zr_istore_n (lv' := [(2, .int 0), (1, .int 0), (0, .ref (zw_ad P k))]) E dX0_endedTasks_3 (by decide) rfl ?_
  refine zr_sub (lv' := [(0, .ref (zw_ad P k)), (1, .int 0), (2, .int 0)]) [2, 1, 0] rfl ?_
  exact t_X0_endedTasks_4 k hk E hr 200 σ 0 0 hm
-- X0_hoursOfAll
set_option maxRecDepth 100000 in
set_option maxHeartbeats 4000000 in
theorem t_X0_hoursOfAll_4 {B : zw_B} {P : zw_P} {r : Int32} {τ : zw_S} (k : Nat) (hk : zw_bk k = true) (E : zf B P cX0_hoursOfAll RX0 3 0) (hr : B.2.2.2.2.2.2.2.2.1.sig.returnType = some .int) : ∀ (n : Nat) (σ : zw_S) (x1 : Int32) (x2 : Int32), m_X0_hoursOfAll_4 k n σ x1 x2 = some (r, τ) → zw_G B P (zq_i B P r τ) 3 σ 4 [(0, .ref (zw_ad P k)), (1, .int x1), (2, .int x2)] [] := by
  intro n
  induction n with
  | zero => intro σ x1 x2 hm; cases hm
  | succ n ih =>
    intro σ x1 x2 hm
    unfold m_X0_hoursOfAll_4 at hm
    refine zr_iload_n E dX0_hoursOfAll_4 2 rfl ?_
    refine zr_aload_n E dX0_hoursOfAll_5 0 rfl ?_
    refine fg_X0_58 hk E dX0_hoursOfAll_6 ?_
    refine zr_icmp_ge (tgt := 27) E dX0_hoursOfAll_9 (by decide) (fun c1 => ?_) (fun c1 => ?_)
    · rw [if_pos c1] at hm
      refine zr_iload_n E dX0_hoursOfAll_27 1 rfl ?_
      exact zr_iret E hr rfl hm dX0_hoursOfAll_28
    · rw [if_neg c1] at hm
      refine zr_iload_n E dX0_hoursOfAll_12 1 rfl ?_
      refine zr_aload_n E dX0_hoursOfAll_13 0 rfl ?_
      refine fg_X0_28 hk E dX0_hoursOfAll_14 ?_
      refine zr_iload_n E dX0_hoursOfAll_17 2 rfl ?_
      obtain ⟨hv2, v2, ev2, hm⟩ := rd_some hm
      refine zr_iald E (ab_5 hk) hv2 ev2 dX0_hoursOfAll_18 ?_
      refine zr_iadd E dX0_hoursOfAll_19 ?_
      obtain ⟨v3, ev3, hm⟩ := nm_some hm
      refine zr_top ev3 ?_
      refine zr_istore_n (lv' := [(1, .int v3), (0, .ref (zw_ad P k)), (2, .int x2)]) E dX0_hoursOfAll_20 (by decide) rfl ?_
      obtain ⟨v4, ev4, hm⟩ := nm_some hm
      refine zr_iinc (j := 2) (lv' := [(2, .int v4), (1, .int v3), (0, .ref (zw_ad P k))]) E dX0_hoursOfAll_21 rfl ev4 (by decide) rfl ?_
      refine zr_goto (tgt := 4) E dX0_hoursOfAll_24 (by decide) ?_
      refine zr_sub (lv' := [(0, .ref (zw_ad P k)), (1, .int v3), (2, .int v4)]) [2, 1, 0] rfl ?_
      exact ih σ v3 v4 hm
set_option maxRecDepth 100000 in
set_option maxHeartbeats 4000000 in
theorem c_X0_hoursOfAll (l : Launch) (P : zw_P) (k : Nat) (hk : zw_bk k = true) (σ : zw_S) : zc_i l P yX0_hoursOfAll cX0_hoursOfAll 3 .int 0 [.ref (zw_ad P k)] σ (m_X0_hoursOfAll k σ) := by
  refine zc_i.of (by decide) (Nat.le_of_ble_eq_true rfl) (fun B r τ E hl hr hm => ?_)
  subst hl
  refine zr_sub (lv' := [(0, .ref (zw_ad P k))]) [0] rfl ?_
  unfold m_X0_hoursOfAll at hm
  refine zr_iconst (v := 0) E dX0_hoursOfAll_0 (by decide) ?_
  refine zr_istore_n (lv' := [(1, .int 0), (0, .ref (zw_ad P k))]) E dX0_hoursOfAll_1 (by decide) rfl ?_
  refine zr_iconst (v := 0) E dX0_hoursOfAll_2 (by decide) ?_
  refine zr_istore_n (lv' := [(2, .int 0), (1, .int 0), (0, .ref (zw_ad P k))]) E dX0_hoursOfAll_3 (by decide) rfl ?_
  refine zr_sub (lv' := [(0, .ref (zw_ad P k)), (1, .int 0), (2, .int 0)]) [2, 1, 0] rfl ?_
  exact t_X0_hoursOfAll_4 k hk E hr 200 σ 0 0 hm
-- X2_growthOf
set_option maxRecDepth 100000 in
set_option maxHeartbeats 4000000 in
theorem c_X2_growthOf (l : Launch) (P : zw_P) (σ : zw_S) (x0 : Int32) (x1 : Int32) (x2 : Int32) : zc_i l P yX2_growthOf cX2_growthOf 3 .int 0 [.int x0, .int x1, .int x2] σ (m_X2_growthOf σ x0 x1 x2) := by
  refine zc_i.of (by decide) (Nat.le_of_ble_eq_true rfl) (fun B r τ E hl hr hm => ?_)
  subst hl
  refine zr_sub (lv' := [(0, .int x0), (1, .int x1), (2, .int x2)]) [0, 1, 2] rfl ?_
  unfold m_X2_growthOf at hm
  refine zr_iload_n E dX2_growthOf_0 0 rfl ?_
  by_cases c1 : x0 = 2
  · rw [if_pos c1] at hm
    refine zr_tabIn (tgt := 36) E dX2_growthOf_1 c1 (by decide) (by decide) rfl (by decide) ?_
    refine zr_iload_n E dX2_growthOf_36 1 rfl ?_
    refine zr_bipush (v := 10) E dX2_growthOf_37 (by decide) ?_
    refine zr_idiv E dX2_growthOf_39 (by decide) ?_
    exact zr_iret E hr rfl hm dX2_growthOf_40
  · rw [if_neg c1] at hm
    by_cases c2 : x0 = 3
    · rw [if_pos c2] at hm
      refine zr_tabIn (tgt := 41) E dX2_growthOf_1 c2 (by decide) (by decide) rfl (by decide) ?_
      refine zr_iload_n E dX2_growthOf_41 1 rfl ?_
      refine zr_bipush (v := 10) E dX2_growthOf_42 (by decide) ?_
      refine zr_idiv E dX2_growthOf_44 (by decide) ?_
      refine zr_iconst (v := 1) E dX2_growthOf_45 (by decide) ?_
      refine zr_iadd E dX2_growthOf_46 ?_
      exact zr_iret E hr rfl hm dX2_growthOf_47
    · rw [if_neg c2] at hm
      by_cases c3 : x0 = 4
      · rw [if_pos c3] at hm
        refine zr_tabIn (tgt := 60) E dX2_growthOf_1 c3 (by decide) (by decide) rfl (by decide) ?_
        refine zr_iconst (v := 0) E dX2_growthOf_60 (by decide) ?_
        exact zr_iret E hr rfl hm dX2_growthOf_61
      · rw [if_neg c3] at hm
        by_cases c4 : x0 = 5
        · rw [if_pos c4] at hm
          refine zr_tabIn (tgt := 60) E dX2_growthOf_1 c4 (by decide) (by decide) rfl (by decide) ?_
          refine zr_iconst (v := 0) E dX2_growthOf_60 (by decide) ?_
          exact zr_iret E hr rfl hm dX2_growthOf_61
        · rw [if_neg c4] at hm
          by_cases c5 : x0 = 6
          · rw [if_pos c5] at hm
            refine zr_tabIn (tgt := 48) E dX2_growthOf_1 c5 (by decide) (by decide) rfl (by decide) ?_
            refine zr_iload_n E dX2_growthOf_48 2 rfl ?_
            refine zr_iconst (v := 2) E dX2_growthOf_49 (by decide) ?_
            refine zr_irem E dX2_growthOf_50 (by decide) ?_
            refine zr_if_ne (tgt := 58) E dX2_growthOf_51 (by decide) (fun c6 => ?_) (fun c6 => ?_)
            · rw [if_neg c6] at hm
              refine zr_iconst (v := 0) E dX2_growthOf_58 (by decide) ?_
              exact zr_iret E hr rfl hm dX2_growthOf_59
            · rw [if_pos c6] at hm
              refine zr_iconst (v := 1) E dX2_growthOf_54 (by decide) ?_
              refine zr_goto (tgt := 59) E dX2_growthOf_55 (by decide) ?_
              exact zr_iret E hr rfl hm dX2_growthOf_59
          · rw [if_neg c5] at hm
            refine zr_tabOut (tgt := 60) E dX2_growthOf_1 (sw_out (2) 5 (by decide) (by decide) (fun j hj => by match j, hj with | 0, _ => exact c1 | 1, _ => exact c2 | 2, _ => exact c3 | 3, _ => exact c4 | 4, _ => exact c5 | (j + 5), hj => exact absurd hj (by omega)) _ (by decide)) (by decide) ?_
            refine zr_iconst (v := 0) E dX2_growthOf_60 (by decide) ?_
            exact zr_iret E hr rfl hm dX2_growthOf_61
-- X0_growthOf
set_option maxRecDepth 100000 in
set_option maxHeartbeats 4000000 in
theorem c_X0_growthOf (l : Launch) (P : zw_P) (k : Nat) (hk : zw_bk k = true) (σ : zw_S) (x1 : Int32) : zc_i l P yX0_growthOf cX0_growthOf 2 .int 1 [.ref (zw_ad P k), .int x1] σ (m_X0_growthOf k σ x1) := by
  refine zc_i.of (by decide) (Nat.le_of_ble_eq_true rfl) (fun B r τ E hl hr hm => ?_)
  subst hl
  refine zr_sub (lv' := [(0, .ref (zw_ad P k)), (1, .int x1)]) [0, 1] rfl ?_
  unfold m_X0_growthOf at hm
  refine zr_aload_n E dX0_growthOf_0 0 rfl ?_
  refine zr_iload_n E dX0_growthOf_1 1 rfl ?_
  obtain ⟨r2, s1, os1, hm⟩ := cl_some hm
  refine zr_cVi (st := []) E mw_178 cm_X0_isEnded (c_X0_isEnded B.2.1 P k hk σ x1) os1 (rc_bk P hk) ⟨by decide, by decide⟩ rfl rfl (Nat.le_of_ble_eq_true rfl) dX0_growthOf_2 ?_
  refine zr_if_eq (tgt := 12) E dX0_growthOf_5 (by decide) (fun c3 => ?_) (fun c3 => ?_)
  · rw [if_pos c3] at hm
    refine zr_aload_n E dX0_growthOf_12 0 rfl ?_
    refine fg_X0_22 hk E dX0_growthOf_13 ?_
    refine zr_iload_n E dX0_growthOf_16 1 rfl ?_
    obtain ⟨hv4, v4, ev4, hm⟩ := rd_some hm
    refine zr_iald E (ab_3 hk) hv4 ev4 dX0_growthOf_17 ?_
    refine zr_aload_n E dX0_growthOf_18 0 rfl ?_
    refine fg_X0_28 hk E dX0_growthOf_19 ?_
    refine zr_iload_n E dX0_growthOf_22 1 rfl ?_
    obtain ⟨hv5, v5, ev5, hm⟩ := rd_some hm
    refine zr_iald E (ab_5 hk) hv5 ev5 dX0_growthOf_23 ?_
    refine zr_aload_n E dX0_growthOf_24 0 rfl ?_
    refine fg_X0_55 hk E dX0_growthOf_25 ?_
    obtain ⟨r7, s6, os6, hm⟩ := cl_some hm
    refine zr_cSi (st := []) E mw_182 cm_X2_growthOf (c_X2_growthOf B.2.1 P s1 v4 v5 (s1 k 0)) os6 ⟨by decide, by decide⟩ rfl rfl (Nat.le_of_ble_eq_true rfl) dX0_growthOf_28 ?_
    exact zr_iret E hr rfl hm dX0_growthOf_31
  · rw [if_neg c3] at hm
    refine zr_iconst (v := 0) E dX0_growthOf_8 (by decide) ?_
    refine zr_goto (tgt := 31) E dX0_growthOf_9 (by decide) ?_
    exact zr_iret E hr rfl hm dX0_growthOf_31
-- X0_bearerOf
set_option maxRecDepth 100000 in
set_option maxHeartbeats 4000000 in
theorem t_X0_bearerOf_2 {B : zw_B} {P : zw_P} {r : Int32} {τ : zw_S} (k : Nat) (hk : zw_bk k = true) (E : zf B P cX0_bearerOf RX0 3 0) (hr : B.2.2.2.2.2.2.2.2.1.sig.returnType = some .int) : ∀ (n : Nat) (σ : zw_S) (x1 : Int32) (x2 : Int32), m_X0_bearerOf_2 k n σ x1 x2 = some (r, τ) → zw_G B P (zq_i B P r τ) 3 σ 2 [(0, .ref (zw_ad P k)), (1, .int x1), (2, .int x2)] [] := by
  intro n
  induction n with
  | zero => intro σ x1 x2 hm; cases hm
  | succ n ih =>
    intro σ x1 x2 hm
    unfold m_X0_bearerOf_2 at hm
    refine zr_iload_n E dX0_bearerOf_2 2 rfl ?_
    refine zr_aload_n E dX0_bearerOf_3 0 rfl ?_
    refine fg_X0_61 hk E dX0_bearerOf_4 ?_
    refine zr_icmp_ge (tgt := 28) E dX0_bearerOf_7 (by decide) (fun c1 => ?_) (fun c1 => ?_)
    · rw [if_pos c1] at hm
      refine zr_iconst (v := (-1)) E dX0_bearerOf_28 (by decide) ?_
      exact zr_iret E hr rfl hm dX0_bearerOf_29
    · rw [if_neg c1] at hm
      refine zr_aload_n E dX0_bearerOf_10 0 rfl ?_
      refine fg_X0_34 hk E dX0_bearerOf_11 ?_
      refine zr_iload_n E dX0_bearerOf_14 2 rfl ?_
      obtain ⟨hv2, v2, ev2, hm⟩ := rd_some hm
      refine zr_iald E (ab_7 hk) hv2 ev2 dX0_bearerOf_15 ?_
      refine zr_iload_n E dX0_bearerOf_16 1 rfl ?_
      refine zr_icmp_ne (tgt := 22) E dX0_bearerOf_17 (by decide) (fun c3 => ?_) (fun c3 => ?_)
      · rw [if_neg c3] at hm
        obtain ⟨v4, ev4, hm⟩ := nm_some hm
        refine zr_iinc (j := 2) (lv' := [(2, .int v4), (0, .ref (zw_ad P k)), (1, .int x1)]) E dX0_bearerOf_22 rfl ev4 (by decide) rfl ?_
        refine zr_goto (tgt := 2) E dX0_bearerOf_25 (by decide) ?_
        refine zr_sub (lv' := [(0, .ref (zw_ad P k)), (1, .int x1), (2, .int v4)]) [1, 2, 0] rfl ?_
        exact ih σ x1 v4 hm
      · rw [if_pos c3] at hm
        refine zr_iload_n E dX0_bearerOf_20 2 rfl ?_
        exact zr_iret E hr rfl hm dX0_bearerOf_21
set_option maxRecDepth 100000 in
set_option maxHeartbeats 4000000 in
theorem c_X0_bearerOf (l : Launch) (P : zw_P) (k : Nat) (hk : zw_bk k = true) (σ : zw_S) (x1 : Int32) : zc_i l P yX0_bearerOf cX0_bearerOf 3 .int 0 [.ref (zw_ad P k), .int x1] σ (m_X0_bearerOf k σ x1) := by
  refine zc_i.of (by decide) (Nat.le_of_ble_eq_true rfl) (fun B r τ E hl hr hm => ?_)
  subst hl
  refine zr_sub (lv' := [(0, .ref (zw_ad P k)), (1, .int x1)]) [0, 1] rfl ?_
  unfold m_X0_bearerOf at hm
  refine zr_iconst (v := 0) E dX0_bearerOf_0 (by decide) ?_
  refine zr_istore_n (lv' := [(2, .int 0), (0, .ref (zw_ad P k)), (1, .int x1)]) E dX0_bearerOf_1 (by decide) rfl ?_
  refine zr_sub (lv' := [(0, .ref (zw_ad P k)), (1, .int x1), (2, .int 0)]) [1, 2, 0] rfl ?_
  exact t_X0_bearerOf_2 k hk E hr 200 σ x1 0 hm
-- X2_workOf
set_option maxRecDepth 100000 in
set_option maxHeartbeats 4000000 in
theorem t_X2_workOf_13 {B : zw_B} {P : zw_P} {r : Int32} {τ : zw_S} (E : zf B P cX2_workOf RX2 4 0) (hr : B.2.2.2.2.2.2.2.2.1.sig.returnType = some .int) (σ : zw_S) (x0 : Int32) (x1 : Int32) (y0 : Int32) (hm : m_X2_workOf_13 σ x0 x1 y0 = some (r, τ)) : zw_G B P (zq_i B P r τ) 4 σ 13 [(0, .int x0), (1, .int x1)] [.int y0] := by
  unfold m_X2_workOf_13 at hm
  refine zr_istore_n (lv' := [(3, .int y0), (0, .int x0), (1, .int x1)]) E dX2_workOf_13 (by decide) rfl ?_
  refine zr_iload_n E dX2_workOf_14 1 rfl ?_
  by_cases c1 : x0 = 1
  · rw [if_pos c1] at hm
    refine zr_tabIn (tgt := 52) E dX2_workOf_15 c1 (by decide) (by decide) rfl (by decide) ?_
    refine zr_iload_n E dX2_workOf_52 0 rfl ?_
    exact zr_iret E hr rfl hm dX2_workOf_53
  · rw [if_neg c1] at hm
    by_cases c2 : x0 = 2
    · rw [if_pos c2] at hm
      refine zr_tabIn (tgt := 76) E dX2_workOf_15 c2 (by decide) (by decide) rfl (by decide) ?_
      refine zr_iload_n E dX2_workOf_76 2 rfl ?_
      exact zr_iret E hr rfl hm dX2_workOf_77
    · rw [if_neg c2] at hm
      by_cases c3 : x0 = 3
      · rw [if_pos c3] at hm
        refine zr_tabIn (tgt := 76) E dX2_workOf_15 c3 (by decide) (by decide) rfl (by decide) ?_
        refine zr_iload_n E dX2_workOf_76 2 rfl ?_
        exact zr_iret E hr rfl hm dX2_workOf_77
      · rw [if_neg c3] at hm
        by_cases c4 : x0 = 4
        · rw [if_pos c4] at hm
          refine zr_tabIn (tgt := 66) E dX2_workOf_15 c4 (by decide) (by decide) rfl (by decide) ?_
          refine zr_iconst (v := 2) E dX2_workOf_66 (by decide) ?_
          refine zr_iload_n E dX2_workOf_67 2 rfl ?_
          refine zr_imul E dX2_workOf_68 ?_
          exact zr_iret E hr rfl hm dX2_workOf_69
        · rw [if_neg c4] at hm
          by_cases c5 : x0 = 5
          · rw [if_pos c5] at hm
            refine zr_tabIn (tgt := 70) E dX2_workOf_15 c5 (by decide) (by decide) rfl (by decide) ?_
            refine zr_iconst (v := 2) E dX2_workOf_70 (by decide) ?_
            refine zr_iload_n E dX2_workOf_71 2 rfl ?_
            refine zr_imul E dX2_workOf_72 ?_
            refine zr_iconst (v := 1) E dX2_workOf_73 (by decide) ?_
            refine zr_iadd E dX2_workOf_74 ?_
            exact zr_iret E hr rfl hm dX2_workOf_75
          · rw [if_neg c5] at hm
            by_cases c6 : x0 = 6
            · rw [if_pos c6] at hm
              refine zr_tabIn (tgt := 54) E dX2_workOf_15 c6 (by decide) (by decide) rfl (by decide) ?_
              refine zr_iload_n E dX2_workOf_54 0 rfl ?_
              refine zr_if_le (tgt := 64) E dX2_workOf_55 (by decide) (fun c7 => ?_) (fun c7 => ?_)
              · rw [if_pos c7] at hm
                refine zr_iconst (v := 0) E dX2_workOf_64 (by decide) ?_
                exact zr_iret E hr rfl hm dX2_workOf_65
              · rw [if_neg c7] at hm
                refine zr_iload_n E dX2_workOf_58 0 rfl ?_
                refine zr_iconst (v := 1) E dX2_workOf_59 (by decide) ?_
                refine zr_isub E dX2_workOf_60 ?_
                refine zr_goto (tgt := 65) E dX2_workOf_61 (by decide) ?_
                exact zr_iret E hr rfl hm dX2_workOf_65
            · rw [if_neg c6] at hm
              refine zr_tabOut (tgt := 76) E dX2_workOf_15 (sw_out (1) 6 (by decide) (by decide) (fun j hj => by match j, hj with | 0, _ => exact c1 | 1, _ => exact c2 | 2, _ => exact c3 | 3, _ => exact c4 | 4, _ => exact c5 | 5, _ => exact c6 | (j + 6), hj => exact absurd hj (by omega)) _ (by decide)) (by decide) ?_
              refine zr_iload_n E dX2_workOf_76 2 rfl ?_
              exact zr_iret E hr rfl hm dX2_workOf_77
set_option maxRecDepth 100000 in
set_option maxHeartbeats 4000000 in
theorem c_X2_workOf (l : Launch) (P : zw_P) (σ : zw_S) (x0 : Int32) (x1 : Int32) (x2 : Int32) : zc_i l P yX2_workOf cX2_workOf 4 .int 0 [.int x0, .int x1, .int x2] σ (m_X2_workOf σ x0 x1 x2) := by
  refine zc_i.of (by decide) (Nat.le_of_ble_eq_true rfl) (fun B r τ E hl hr hm => ?_)
  subst hl
  refine zr_sub (lv' := [(0, .int x0), (1, .int x1), (2, .int x2)]) [0, 1, 2] rfl ?_
  unfold m_X2_workOf at hm
  refine zr_iload_n E dX2_workOf_0 2 rfl ?_
  refine zr_iconst (v := 2) E dX2_workOf_1 (by decide) ?_
  refine zr_irem E dX2_workOf_2 (by decide) ?_
  refine zr_if_ne (tgt := 10) E dX2_workOf_3 (by decide) (fun c1 => ?_) (fun c1 => ?_)
  · rw [if_neg c1] at hm
    refine zr_iload_n E dX2_workOf_10 1 rfl ?_
    refine zr_iconst (v := 2) E dX2_workOf_11 (by decide) ?_
    refine zr_idiv E dX2_workOf_12 (by decide) ?_
    refine zr_sub (lv' := [(0, .int x0), (1, .int x1)]) [0, 1] rfl ?_
    exact t_X2_workOf_13 E hr σ x0 x1 (x1 / 2) hm
  · rw [if_pos c1] at hm
    refine zr_iload_n E dX2_workOf_6 1 rfl ?_
    refine zr_goto (tgt := 13) E dX2_workOf_7 (by decide) ?_
    refine zr_sub (lv' := [(0, .int x0), (1, .int x1)]) [0, 1] rfl ?_
    exact t_X2_workOf_13 E hr σ x0 x1 x1 hm
-- X0_workOf
set_option maxRecDepth 100000 in
set_option maxHeartbeats 4000000 in
theorem t_X0_workOf_36 {B : zw_B} {P : zw_P} {r : Int32} {τ : zw_S} (k : Nat) (hk : zw_bk k = true) (E : zf B P cX0_workOf RX0 4 1) (hr : B.2.2.2.2.2.2.2.2.1.sig.returnType = some .int) (σ : zw_S) (x1 : Int32) (x2 : Int32) (hm : m_X0_workOf_36 k σ x1 x2 = some (r, τ)) : zw_G B P (zq_i B P r τ) 4 σ 36 [(0, .ref (zw_ad P k)), (1, .int x1), (2, .int x2)] [] := by
  unfold m_X0_workOf_36 at hm
  refine zr_aload_n E dX0_workOf_36 0 rfl ?_
  refine fg_X0_22 hk E dX0_workOf_37 ?_
  refine zr_iload_n E dX0_workOf_40 1 rfl ?_
  obtain ⟨hv1, v1, ev1, hm⟩ := rd_some hm
  refine zr_iald E (ab_3 hk) hv1 ev1 dX0_workOf_41 ?_
  refine zr_iload_n E dX0_workOf_42 2 rfl ?_
  refine zr_aload_n E dX0_workOf_43 0 rfl ?_
  refine fg_X0_55 hk E dX0_workOf_44 ?_
  obtain ⟨r3, s2, os2, hm⟩ := cl_some hm
  refine zr_cSi (st := []) E mw_465 cm_X2_workOf (c_X2_workOf B.2.1 P σ v1 x2 (σ k 0)) os2 ⟨by decide, by decide⟩ rfl rfl (Nat.le_of_ble_eq_true rfl) dX0_workOf_47 ?_
  exact zr_iret E hr rfl hm dX0_workOf_50
set_option maxRecDepth 100000 in
set_option maxHeartbeats 4000000 in
theorem c_X0_workOf (l : Launch) (P : zw_P) (k : Nat) (hk : zw_bk k = true) (σ : zw_S) (x1 : Int32) (x2 : Int32) : zc_i l P yX0_workOf cX0_workOf 4 .int 1 [.ref (zw_ad P k), .int x1, .int x2] σ (m_X0_workOf k σ x1 x2) := by
  refine zc_i.of (by decide) (Nat.le_of_ble_eq_true rfl) (fun B r τ E hl hr hm => ?_)
  subst hl
  refine zr_sub (lv' := [(0, .ref (zw_ad P k)), (1, .int x1), (2, .int x2)]) [0, 1, 2] rfl ?_
  unfold m_X0_workOf at hm
  refine zr_aload_n E dX0_workOf_0 0 rfl ?_
  refine fg_X0_31 hk E dX0_workOf_1 ?_
  refine zr_iload_n E dX0_workOf_4 1 rfl ?_
  obtain ⟨hv1, v1, ev1, hm⟩ := rd_some hm
  refine zr_iald E (ab_6 hk) hv1 ev1 dX0_workOf_5 ?_
  refine zr_istore_n (lv' := [(3, .int v1), (0, .ref (zw_ad P k)), (1, .int x1), (2, .int x2)]) E dX0_workOf_6 (by decide) rfl ?_
  refine zr_aload_n E dX0_workOf_7 1 rfl ?_
  refine fg_X0_22 hk E dX0_workOf_8 ?_
  refine zr_iload_n E dX0_workOf_11 2 rfl ?_
  obtain ⟨hv2, v2, ev2, hm⟩ := rd_some hm
  refine zr_iald E (ab_3 hk) hv2 ev2 dX0_workOf_12 ?_
  refine zr_iconst (v := 3) E dX0_workOf_13 (by decide) ?_
  refine zr_icmp_ne (tgt := 36) E dX0_workOf_14 (by decide) (fun c3 => ?_) (fun c3 => ?_)
  · rw [if_neg c3] at hm
    refine zr_sub (lv' := [(0, .ref (zw_ad P k)), (1, .int x1), (2, .int x2)]) [1, 2, 3] rfl ?_
    exact t_X0_workOf_36 k hk E hr σ x1 x2 hm
  · rw [if_pos c3] at hm
    refine zr_iload_n E dX0_workOf_17 0 rfl ?_
    refine zr_if_lt (tgt := 36) E dX0_workOf_18 (by decide) (fun c4 => ?_) (fun c4 => ?_)
    · rw [if_pos c4] at hm
      refine zr_sub (lv' := [(0, .ref (zw_ad P k)), (1, .int x1), (2, .int x2)]) [1, 2, 3] rfl ?_
      exact t_X0_workOf_36 k hk E hr σ x1 x2 hm
    · rw [if_neg c4] at hm
      refine zr_aload_n E dX0_workOf_21 1 rfl ?_
      refine zr_aload_n E dX0_workOf_22 1 rfl ?_
      refine fg_X0_25 hk E dX0_workOf_23 ?_
      refine zr_iload_n E dX0_workOf_26 0 rfl ?_
      obtain ⟨hv5, v5, ev5, hm⟩ := rd_some hm
      refine zr_iald E (ab_4 hk) hv5 ev5 dX0_workOf_27 ?_
      obtain ⟨r7, s6, os6, hm⟩ := cl_some hm
      refine zr_cVi (st := []) E mw_385 cm_X0_bearerOf (c_X0_bearerOf B.2.1 P k hk σ v5) os6 (rc_bk P hk) ⟨by decide, by decide⟩ rfl rfl (Nat.le_of_ble_eq_true rfl) dX0_workOf_28 ?_
      refine zr_if_ge (tgt := 36) E dX0_workOf_31 (by decide) (fun c8 => ?_) (fun c8 => ?_)
      · rw [if_pos c8] at hm
        refine zr_sub (lv' := [(0, .ref (zw_ad P k)), (1, .int x1), (2, .int x2)]) [1, 2, 3] rfl ?_
        exact t_X0_workOf_36 k hk E hr s6 x1 x2 hm
      · rw [if_neg c8] at hm
        refine zr_iconst (v := 0) E dX0_workOf_34 (by decide) ?_
        exact zr_iret E hr rfl hm dX0_workOf_35
-- X0_isWaiting
set_option maxRecDepth 100000 in
set_option maxHeartbeats 4000000 in
theorem t_X0_isWaiting_43 {B : zw_B} {P : zw_P} {r : Int32} {τ : zw_S} (k : Nat) (hk : zw_bk k = true) (E : zf B P cX0_isWaiting RX0 5 1) (hr : B.2.2.2.2.2.2.2.2.1.sig.returnType = some .boolean) (σ : zw_S) (x2 : Int32) (hm : m_X0_isWaiting_43 k σ x2 = some (r, τ)) : zw_G B P (zq_i B P r τ) 5 σ 43 [(0, .ref (zw_ad P k)), (2, .int x2)] [] := by
  unfold m_X0_isWaiting_43 at hm
  refine zr_aload_n E dX0_isWaiting_43 0 rfl ?_
  refine fg_X0_28 hk E dX0_isWaiting_44 ?_
  refine zr_iload_n E dX0_isWaiting_47 1 rfl ?_
  obtain ⟨hv1, v1, ev1, hm⟩ := rd_some hm
  refine zr_iald E (ab_5 hk) hv1 ev1 dX0_isWaiting_48 ?_
  refine zr_if_le (tgt := 56) E dX0_isWaiting_49 (by decide) (fun c2 => ?_) (fun c2 => ?_)
  · rw [if_pos c2] at hm
    refine zr_iconst (v := 0) E dX0_isWaiting_56 (by decide) ?_
    exact zr_iret E hr (by decide) hm dX0_isWaiting_57
  · rw [if_neg c2] at hm
    refine zr_iconst (v := 1) E dX0_isWaiting_52 (by decide) ?_
    refine zr_goto (tgt := 57) E dX0_isWaiting_53 (by decide) ?_
    exact zr_iret E hr (by decide) hm dX0_isWaiting_57
set_option maxRecDepth 100000 in
set_option maxHeartbeats 4000000 in
theorem t_X0_isWaiting_5 {B : zw_B} {P : zw_P} {r : Int32} {τ : zw_S} (k : Nat) (hk : zw_bk k = true) (E : zf B P cX0_isWaiting RX0 5 1) (hr : B.2.2.2.2.2.2.2.2.1.sig.returnType = some .boolean) : ∀ (n : Nat) (σ : zw_S) (x2 : Int32) (x3 : Int32) (x4 : Int32), m_X0_isWaiting_5 k n σ x2 x3 x4 = some (r, τ) → zw_G B P (zq_i B P r τ) 5 σ 5 [(0, .ref (zw_ad P k)), (2, .int x2), (3, .int x3), (4, .int x4)] [] := by
  intro n
  induction n with
  | zero => intro σ x2 x3 x4 hm; cases hm
  | succ n ih =>
    intro σ x2 x3 x4 hm
    unfold m_X0_isWaiting_5 at hm
    refine zr_iload E dX0_isWaiting_5 3 rfl ?_
    refine zr_aload_n E dX0_isWaiting_7 0 rfl ?_
    refine fg_X0_58 hk E dX0_isWaiting_8 ?_
    refine zr_icmp_ge (tgt := 64) E dX0_isWaiting_11 (by decide) (fun c1 => ?_) (fun c1 => ?_)
    · rw [if_pos c1] at hm
      refine zr_iconst (v := 0) E dX0_isWaiting_64 (by decide) ?_
      exact zr_iret E hr (by decide) hm dX0_isWaiting_65
    · rw [if_neg c1] at hm
      refine zr_aload_n E dX0_isWaiting_14 0 rfl ?_
      refine zr_iload_n E dX0_isWaiting_15 2 rfl ?_
      obtain ⟨r3, s2, os2, hm⟩ := cl_some hm
      refine zr_cVi (st := []) E mw_189 cm_X0_hasTask (c_X0_hasTask B.2.1 P k hk σ x3) os2 (rc_bk P hk) ⟨by decide, by decide⟩ rfl rfl (Nat.le_of_ble_eq_true rfl) dX0_isWaiting_16 ?_
      refine zr_if_eq (tgt := 64) E dX0_isWaiting_19 (by decide) (fun c4 => ?_) (fun c4 => ?_)
      · rw [if_pos c4] at hm
        refine zr_iconst (v := 0) E dX0_isWaiting_64 (by decide) ?_
        exact zr_iret E hr (by decide) hm dX0_isWaiting_65
      · rw [if_neg c4] at hm
        refine zr_aload_n E dX0_isWaiting_22 0 rfl ?_
        refine fg_X0_28 hk E dX0_isWaiting_23 ?_
        refine zr_iload_n E dX0_isWaiting_26 2 rfl ?_
        obtain ⟨hv5, v5, ev5, hm⟩ := rd_some hm
        refine zr_iald E (ab_5 hk) hv5 ev5 dX0_isWaiting_27 ?_
        refine zr_if_le (tgt := 64) E dX0_isWaiting_28 (by decide) (fun c6 => ?_) (fun c6 => ?_)
        · rw [if_pos c6] at hm
          refine zr_iconst (v := 0) E dX0_isWaiting_64 (by decide) ?_
          exact zr_iret E hr (by decide) hm dX0_isWaiting_65
        · rw [if_neg c6] at hm
          refine zr_aload_n E dX0_isWaiting_31 0 rfl ?_
          refine fg_X0_31 hk E dX0_isWaiting_32 ?_
          refine zr_iload_n E dX0_isWaiting_35 2 rfl ?_
          obtain ⟨hv7, v7, ev7, hm⟩ := rd_some hm
          refine zr_iald E (ab_6 hk) hv7 ev7 dX0_isWaiting_36 ?_
          refine zr_istore_n (lv' := [(3, .int v7), (0, .ref (zw_ad P k)), (2, .int x2), (4, .int x4)]) E dX0_isWaiting_37 (by decide) rfl ?_
          refine zr_iload_n E dX0_isWaiting_38 0 rfl ?_
          refine zr_iload_n E dX0_isWaiting_39 2 rfl ?_
          refine zr_icmp_ne (tgt := 58) E dX0_isWaiting_40 (by decide) (fun c8 => ?_) (fun c8 => ?_)
          · rw [if_neg c8] at hm
            obtain ⟨v9, ev9, hm⟩ := nm_some hm
            refine zr_iinc (j := 3) (lv' := [(4, .int v9), (3, .int v7), (0, .ref (zw_ad P k)), (2, .int x2)]) E dX0_isWaiting_58 rfl ev9 (by decide) rfl ?_
            refine zr_goto (tgt := 5) E dX0_isWaiting_61 (by decide) ?_
            refine zr_sub (lv' := [(0, .ref (zw_ad P k)), (2, .int x2), (3, .int v7), (4, .int v9)]) [2, 3, 1, 0] rfl ?_
            exact ih s2 x2 v7 v9 hm
          · rw [if_pos c8] at hm
            refine zr_sub (lv' := [(0, .ref (zw_ad P k)), (2, .int x2)]) [1, 2] rfl ?_
            exact t_X0_isWaiting_43 k hk E hr s2 x2 hm
set_option maxRecDepth 100000 in
set_option maxHeartbeats 4000000 in
theorem c_X0_isWaiting (l : Launch) (P : zw_P) (k : Nat) (hk : zw_bk k = true) (σ : zw_S) (x1 : Int32) (x2 : Int32) : zc_i l P yX0_isWaiting cX0_isWaiting 5 .boolean 1 [.ref (zw_ad P k), .int x1, .int x2] σ (m_X0_isWaiting k σ x1 x2) := by
  refine zc_i.of (by decide) (Nat.le_of_ble_eq_true rfl) (fun B r τ E hl hr hm => ?_)
  subst hl
  refine zr_sub (lv' := [(0, .ref (zw_ad P k)), (1, .int x1), (2, .int x2)]) [0, 1, 2] rfl ?_
  unfold m_X0_isWaiting at hm
  refine zr_iload_n E dX0_isWaiting_0 1 rfl ?_
  refine zr_istore_n (lv' := [(3, .int x1), (0, .ref (zw_ad P k)), (1, .int x1), (2, .int x2)]) E dX0_isWaiting_1 (by decide) rfl ?_
  refine zr_iconst (v := 0) E dX0_isWaiting_2 (by decide) ?_
  refine zr_istore (lv' := [(4, .int 0), (3, .int x1), (0, .ref (zw_ad P k)), (1, .int x1), (2, .int x2)]) E dX0_isWaiting_3 (by decide) rfl ?_
  refine zr_sub (lv' := [(0, .ref (zw_ad P k)), (2, .int x2), (3, .int x1), (4, .int 0)]) [2, 4, 1, 0] rfl ?_
  exact t_X0_isWaiting_5 k hk E hr 200 σ x2 x1 0 hm
-- X0_openNames
set_option maxRecDepth 100000 in
set_option maxHeartbeats 4000000 in
theorem t_X0_openNames_4 {B : zw_B} {P : zw_P} {r : Int32} {τ : zw_S} (k : Nat) (hk : zw_bk k = true) (E : zf B P cX0_openNames RX0 3 0) (hr : B.2.2.2.2.2.2.2.2.1.sig.returnType = some .int) : ∀ (n : Nat) (σ : zw_S) (x1 : Int32) (x2 : Int32), m_X0_openNames_4 k n σ x1 x2 = some (r, τ) → zw_G B P (zq_i B P r τ) 3 σ 4 [(0, .ref (zw_ad P k)), (1, .int x1), (2, .int x2)] [] := by
  intro n
  induction n with
  | zero => intro σ x1 x2 hm; cases hm
  | succ n ih =>
    intro σ x1 x2 hm
    unfold m_X0_openNames_4 at hm
    refine zr_iload_n E dX0_openNames_4 2 rfl ?_
    refine zr_aload_n E dX0_openNames_5 0 rfl ?_
    refine fg_X0_58 hk E dX0_openNames_6 ?_
    refine zr_icmp_ge (tgt := 38) E dX0_openNames_9 (by decide) (fun c1 => ?_) (fun c1 => ?_)
    · rw [if_pos c1] at hm
      refine zr_iload_n E dX0_openNames_38 1 rfl ?_
      exact zr_iret E hr rfl hm dX0_openNames_39
    · rw [if_neg c1] at hm
      refine zr_aload_n E dX0_openNames_12 0 rfl ?_
      refine fg_X0_28 hk E dX0_openNames_13 ?_
      refine zr_iload_n E dX0_openNames_16 2 rfl ?_
      obtain ⟨hv2, v2, ev2, hm⟩ := rd_some hm
      refine zr_iald E (ab_5 hk) hv2 ev2 dX0_openNames_17 ?_
      refine zr_if_le (tgt := 32) E dX0_openNames_18 (by decide) (fun c3 => ?_) (fun c3 => ?_)
      · rw [if_pos c3] at hm
        obtain ⟨v4, ev4, hm⟩ := nm_some hm
        refine zr_iinc (j := 2) (lv' := [(2, .int v4), (0, .ref (zw_ad P k)), (1, .int x1)]) E dX0_openNames_32 rfl ev4 (by decide) rfl ?_
        refine zr_goto (tgt := 4) E dX0_openNames_35 (by decide) ?_
        refine zr_sub (lv' := [(0, .ref (zw_ad P k)), (1, .int x1), (2, .int v4)]) [1, 2, 0] rfl ?_
        exact ih σ x1 v4 hm
      · rw [if_neg c3] at hm
        refine zr_iload_n E dX0_openNames_21 1 rfl ?_
        refine zr_iconst (v := 1) E dX0_openNames_22 (by decide) ?_
        refine zr_aload_n E dX0_openNames_23 0 rfl ?_
        refine fg_X0_25 hk E dX0_openNames_24 ?_
        refine zr_iload_n E dX0_openNames_27 2 rfl ?_
        obtain ⟨hv5, v5, ev5, hm⟩ := rd_some hm
        refine zr_iald E (ab_4 hk) hv5 ev5 dX0_openNames_28 ?_
        refine zr_ishl E dX0_openNames_29 ?_
        refine zr_ior E dX0_openNames_30 ?_
        obtain ⟨v6, ev6, hm⟩ := nm_some hm
        refine zr_top ev6 ?_
        refine zr_istore_n (lv' := [(1, .int v6), (0, .ref (zw_ad P k)), (2, .int x2)]) E dX0_openNames_31 (by decide) rfl ?_
        obtain ⟨v7, ev7, hm⟩ := nm_some hm
        refine zr_iinc (j := 2) (lv' := [(2, .int v7), (1, .int v6), (0, .ref (zw_ad P k))]) E dX0_openNames_32 rfl ev7 (by decide) rfl ?_
        refine zr_goto (tgt := 4) E dX0_openNames_35 (by decide) ?_
        refine zr_sub (lv' := [(0, .ref (zw_ad P k)), (1, .int v6), (2, .int v7)]) [2, 1, 0] rfl ?_
        exact ih σ v6 v7 hm
set_option maxRecDepth 100000 in
set_option maxHeartbeats 4000000 in
theorem c_X0_openNames (l : Launch) (P : zw_P) (k : Nat) (hk : zw_bk k = true) (σ : zw_S) : zc_i l P yX0_openNames cX0_openNames 3 .int 0 [.ref (zw_ad P k)] σ (m_X0_openNames k σ) := by
  refine zc_i.of (by decide) (Nat.le_of_ble_eq_true rfl) (fun B r τ E hl hr hm => ?_)
  subst hl
  refine zr_sub (lv' := [(0, .ref (zw_ad P k))]) [0] rfl ?_
  unfold m_X0_openNames at hm
  refine zr_iconst (v := 0) E dX0_openNames_0 (by decide) ?_
  refine zr_istore_n (lv' := [(1, .int 0), (0, .ref (zw_ad P k))]) E dX0_openNames_1 (by decide) rfl ?_
  refine zr_iconst (v := 0) E dX0_openNames_2 (by decide) ?_
  refine zr_istore_n (lv' := [(2, .int 0), (1, .int 0), (0, .ref (zw_ad P k))]) E dX0_openNames_3 (by decide) rfl ?_
  refine zr_sub (lv' := [(0, .ref (zw_ad P k)), (1, .int 0), (2, .int 0)]) [2, 1, 0] rfl ?_
  exact t_X0_openNames_4 k hk E hr 200 σ 0 0 hm
-- X0_isOpen
set_option maxRecDepth 100000 in
set_option maxHeartbeats 4000000 in
theorem c_X0_isOpen (l : Launch) (P : zw_P) (k : Nat) (hk : zw_bk k = true) (σ : zw_S) (x1 : Int32) : zc_i l P yX0_isOpen cX0_isOpen 2 .boolean 1 [.ref (zw_ad P k), .int x1] σ (m_X0_isOpen k σ x1) := by
  refine zc_i.of (by decide) (Nat.le_of_ble_eq_true rfl) (fun B r τ E hl hr hm => ?_)
  subst hl
  refine zr_sub (lv' := [(0, .ref (zw_ad P k)), (1, .int x1)]) [0, 1] rfl ?_
  unfold m_X0_isOpen at hm
  refine zr_aload_n E dX0_isOpen_0 0 rfl ?_
  obtain ⟨r2, s1, os1, hm⟩ := cl_some hm
  refine zr_cVi (st := []) E mw_252 cm_X0_openNames (c_X0_openNames B.2.1 P k hk σ) os1 (rc_bk P hk) ⟨by decide, by decide⟩ rfl rfl (Nat.le_of_ble_eq_true rfl) dX0_isOpen_1 ?_
  refine zr_iload_n E dX0_isOpen_4 1 rfl ?_
  refine zr_iushr E dX0_isOpen_5 ?_
  refine zr_iconst (v := 1) E dX0_isOpen_6 (by decide) ?_
  refine zr_iand E dX0_isOpen_7 ?_
  refine zr_iconst (v := 1) E dX0_isOpen_8 (by decide) ?_
  refine zr_icmp_ne (tgt := 16) E dX0_isOpen_9 (by decide) (fun c3 => ?_) (fun c3 => ?_)
  · rw [if_neg c3] at hm
    refine zr_iconst (v := 0) E dX0_isOpen_16 (by decide) ?_
    exact zr_iret E hr (by decide) hm dX0_isOpen_17
  · rw [if_pos c3] at hm
    refine zr_iconst (v := 1) E dX0_isOpen_12 (by decide) ?_
    refine zr_goto (tgt := 17) E dX0_isOpen_13 (by decide) ?_
    exact zr_iret E hr (by decide) hm dX0_isOpen_17
-- X0_freeNames
set_option maxRecDepth 100000 in
set_option maxHeartbeats 4000000 in
theorem t_X0_freeNames_7 {B : zw_B} {P : zw_P} {r : Int32} {τ : zw_S} (k : Nat) (hk : zw_bk k = true) (E : zf B P cX0_freeNames RX0 3 1) (hr : B.2.2.2.2.2.2.2.2.1.sig.returnType = some .int) : ∀ (n : Nat) (σ : zw_S) (x1 : Int32) (x2 : Int32), m_X0_freeNames_7 k n σ x1 x2 = some (r, τ) → zw_G B P (zq_i B P r τ) 3 σ 7 [(0, .ref (zw_ad P k)), (1, .int x1), (2, .int x2)] [] := by
  intro n
  induction n with
  | zero => intro σ x1 x2 hm; cases hm
  | succ n ih =>
    intro σ x1 x2 hm
    unfold m_X0_freeNames_7 at hm
    refine zr_iload_n E dX0_freeNames_7 2 rfl ?_
    refine zr_aload_n E dX0_freeNames_8 0 rfl ?_
    refine fg_X0_61 hk E dX0_freeNames_9 ?_
    refine zr_icmp_ge (tgt := 43) E dX0_freeNames_12 (by decide) (fun c1 => ?_) (fun c1 => ?_)
    · rw [if_pos c1] at hm
      refine zr_iload_n E dX0_freeNames_43 1 rfl ?_
      exact zr_iret E hr rfl hm dX0_freeNames_44
    · rw [if_neg c1] at hm
      refine zr_aload_n E dX0_freeNames_15 0 rfl ?_
      refine fg_X0_34 hk E dX0_freeNames_16 ?_
      refine zr_iload_n E dX0_freeNames_19 2 rfl ?_
      obtain ⟨hv2, v2, ev2, hm⟩ := rd_some hm
      refine zr_iald E (ab_7 hk) hv2 ev2 dX0_freeNames_20 ?_
      refine zr_if_lt (tgt := 37) E dX0_freeNames_21 (by decide) (fun c3 => ?_) (fun c3 => ?_)
      · rw [if_pos c3] at hm
        obtain ⟨v4, ev4, hm⟩ := nm_some hm
        refine zr_iinc (j := 2) (lv' := [(2, .int v4), (0, .ref (zw_ad P k)), (1, .int x1)]) E dX0_freeNames_37 rfl ev4 (by decide) rfl ?_
        refine zr_goto (tgt := 7) E dX0_freeNames_40 (by decide) ?_
        refine zr_sub (lv' := [(0, .ref (zw_ad P k)), (1, .int x1), (2, .int v4)]) [1, 2, 0] rfl ?_
        exact ih σ x1 v4 hm
      · rw [if_neg c3] at hm
        refine zr_iload_n E dX0_freeNames_24 1 rfl ?_
        refine zr_iconst (v := 1) E dX0_freeNames_25 (by decide) ?_
        refine zr_aload_n E dX0_freeNames_26 0 rfl ?_
        refine fg_X0_34 hk E dX0_freeNames_27 ?_
        refine zr_iload_n E dX0_freeNames_30 2 rfl ?_
        obtain ⟨hv5, v5, ev5, hm⟩ := rd_some hm
        refine zr_iald E (ab_7 hk) hv5 ev5 dX0_freeNames_31 ?_
        refine zr_ishl E dX0_freeNames_32 ?_
        refine zr_iconst (v := (-1)) E dX0_freeNames_33 (by decide) ?_
        refine zr_ixor E dX0_freeNames_34 ?_
        refine zr_iand E dX0_freeNames_35 ?_
        obtain ⟨v6, ev6, hm⟩ := nm_some hm
        refine zr_top ev6 ?_
        refine zr_istore_n (lv' := [(1, .int v6), (0, .ref (zw_ad P k)), (2, .int x2)]) E dX0_freeNames_36 (by decide) rfl ?_
        obtain ⟨v7, ev7, hm⟩ := nm_some hm
        refine zr_iinc (j := 2) (lv' := [(2, .int v7), (1, .int v6), (0, .ref (zw_ad P k))]) E dX0_freeNames_37 rfl ev7 (by decide) rfl ?_
        refine zr_goto (tgt := 7) E dX0_freeNames_40 (by decide) ?_
        refine zr_sub (lv' := [(0, .ref (zw_ad P k)), (1, .int v6), (2, .int v7)]) [2, 1, 0] rfl ?_
        exact ih σ v6 v7 hm
set_option maxRecDepth 100000 in
set_option maxHeartbeats 4000000 in
theorem c_X0_freeNames (l : Launch) (P : zw_P) (k : Nat) (hk : zw_bk k = true) (σ : zw_S) : zc_i l P yX0_freeNames cX0_freeNames 3 .int 1 [.ref (zw_ad P k)] σ (m_X0_freeNames k σ) := by
  refine zc_i.of (by decide) (Nat.le_of_ble_eq_true rfl) (fun B r τ E hl hr hm => ?_)
  subst hl
  refine zr_sub (lv' := [(0, .ref (zw_ad P k))]) [0] rfl ?_
  unfold m_X0_freeNames at hm
  refine zr_aload_n E dX0_freeNames_0 0 rfl ?_
  obtain ⟨r2, s1, os1, hm⟩ := cl_some hm
  refine zr_cVi (st := []) E mw_252 cm_X0_openNames (c_X0_openNames B.2.1 P k hk σ) os1 (rc_bk P hk) ⟨by decide, by decide⟩ rfl rfl (Nat.le_of_ble_eq_true rfl) dX0_freeNames_1 ?_
  refine zr_istore_n (lv' := [(1, .int r2), (0, .ref (zw_ad P k))]) E dX0_freeNames_4 (by decide) rfl ?_
  refine zr_iconst (v := 0) E dX0_freeNames_5 (by decide) ?_
  refine zr_istore_n (lv' := [(2, .int 0), (1, .int r2), (0, .ref (zw_ad P k))]) E dX0_freeNames_6 (by decide) rfl ?_
  refine zr_sub (lv' := [(0, .ref (zw_ad P k)), (1, .int r2), (2, .int 0)]) [2, 1, 0] rfl ?_
  exact t_X0_freeNames_7 k hk E hr 200 s1 r2 0 hm
-- X0_mayTake
set_option maxRecDepth 100000 in
set_option maxHeartbeats 4000000 in
theorem c_X0_mayTake (l : Launch) (P : zw_P) (k : Nat) (hk : zw_bk k = true) (σ : zw_S) (x1 : Int32) (x2 : Int32) : zc_i l P yX0_mayTake cX0_mayTake 4 .boolean 1 [.ref (zw_ad P k), .int x1, .int x2] σ (m_X0_mayTake k σ x1 x2) := by
  refine zc_i.of (by decide) (Nat.le_of_ble_eq_true rfl) (fun B r τ E hl hr hm => ?_)
  subst hl
  refine zr_sub (lv' := [(0, .ref (zw_ad P k)), (1, .int x1), (2, .int x2)]) [0, 1, 2] rfl ?_
  unfold m_X0_mayTake at hm
  refine zr_iload_n E dX0_mayTake_0 2 rfl ?_
  refine zr_iconst (v := (-1)) E dX0_mayTake_1 (by decide) ?_
  refine zr_icmp_ne (tgt := 7) E dX0_mayTake_2 (by decide) (fun c1 => ?_) (fun c1 => ?_)
  · rw [if_neg c1] at hm
    refine zr_aload_n E dX0_mayTake_7 0 rfl ?_
    refine zr_iload_n E dX0_mayTake_8 2 rfl ?_
    obtain ⟨r3, s2, os2, hm⟩ := cl_some hm
    refine zr_cVi (st := []) E mw_385 cm_X0_bearerOf (c_X0_bearerOf B.2.1 P k hk σ x2) os2 (rc_bk P hk) ⟨by decide, by decide⟩ rfl rfl (Nat.le_of_ble_eq_true rfl) dX0_mayTake_9 ?_
    refine zr_istore_n (lv' := [(3, .int r3), (0, .ref (zw_ad P k)), (1, .int x1), (2, .int x2)]) E dX0_mayTake_12 (by decide) rfl ?_
    refine zr_aload_n E dX0_mayTake_13 1 rfl ?_
    refine fg_X0_37 hk E dX0_mayTake_14 ?_
    refine zr_iload_n E dX0_mayTake_17 2 rfl ?_
    obtain ⟨hv4, v4, ev4, hm⟩ := rd_some hm
    refine zr_iald E (ab_8 hk) hv4 ev4 dX0_mayTake_18 ?_
    refine zr_bipush (v := 40) E dX0_mayTake_19 (by decide) ?_
    refine zr_icmp_ge (tgt := 37) E dX0_mayTake_21 (by decide) (fun c5 => ?_) (fun c5 => ?_)
    · rw [if_pos c5] at hm
      refine zr_iconst (v := 0) E dX0_mayTake_37 (by decide) ?_
      exact zr_iret E hr (by decide) hm dX0_mayTake_38
    · rw [if_neg c5] at hm
      refine zr_iload_n E dX0_mayTake_24 0 rfl ?_
      refine zr_if_lt (tgt := 33) E dX0_mayTake_25 (by decide) (fun c6 => ?_) (fun c6 => ?_)
      · rw [if_pos c6] at hm
        refine zr_iconst (v := 1) E dX0_mayTake_33 (by decide) ?_
        refine zr_goto (tgt := 38) E dX0_mayTake_34 (by decide) ?_
        exact zr_iret E hr (by decide) hm dX0_mayTake_38
      · rw [if_neg c6] at hm
        refine zr_iload_n E dX0_mayTake_28 0 rfl ?_
        refine zr_iload_n E dX0_mayTake_29 2 rfl ?_
        refine zr_icmp_ne (tgt := 37) E dX0_mayTake_30 (by decide) (fun c7 => ?_) (fun c7 => ?_)
        · rw [if_neg c7] at hm
          refine zr_iconst (v := 0) E dX0_mayTake_37 (by decide) ?_
          exact zr_iret E hr (by decide) hm dX0_mayTake_38
        · rw [if_pos c7] at hm
          refine zr_iconst (v := 1) E dX0_mayTake_33 (by decide) ?_
          refine zr_goto (tgt := 38) E dX0_mayTake_34 (by decide) ?_
          exact zr_iret E hr (by decide) hm dX0_mayTake_38
  · rw [if_pos c1] at hm
    refine zr_iconst (v := 1) E dX0_mayTake_5 (by decide) ?_
    exact zr_iret E hr (by decide) hm dX0_mayTake_6
-- X0_tasksOf
set_option maxRecDepth 100000 in
set_option maxHeartbeats 4000000 in
theorem t_X0_tasksOf_4 {B : zw_B} {P : zw_P} {r : Int32} {τ : zw_S} (k : Nat) (hk : zw_bk k = true) (E : zf B P cX0_tasksOf RX0 4 0) (hr : B.2.2.2.2.2.2.2.2.1.sig.returnType = some .int) : ∀ (n : Nat) (σ : zw_S) (x1 : Int32) (x2 : Int32) (x3 : Int32), m_X0_tasksOf_4 k n σ x1 x2 x3 = some (r, τ) → zw_G B P (zq_i B P r τ) 4 σ 4 [(0, .ref (zw_ad P k)), (1, .int x1), (2, .int x2), (3, .int x3)] [] := by
  intro n
  induction n with
  | zero => intro σ x1 x2 x3 hm; cases hm
  | succ n ih =>
    intro σ x1 x2 x3 hm
    unfold m_X0_tasksOf_4 at hm
    refine zr_iload_n E dX0_tasksOf_4 3 rfl ?_
    refine zr_aload_n E dX0_tasksOf_5 0 rfl ?_
    refine fg_X0_58 hk E dX0_tasksOf_6 ?_
    refine zr_icmp_ge (tgt := 31) E dX0_tasksOf_9 (by decide) (fun c1 => ?_) (fun c1 => ?_)
    · rw [if_pos c1] at hm
      refine zr_iload_n E dX0_tasksOf_31 2 rfl ?_
      exact zr_iret E hr rfl hm dX0_tasksOf_32
    · rw [if_neg c1] at hm
      refine zr_aload_n E dX0_tasksOf_12 0 rfl ?_
      refine fg_X0_25 hk E dX0_tasksOf_13 ?_
      refine zr_iload_n E dX0_tasksOf_16 3 rfl ?_
      obtain ⟨hv2, v2, ev2, hm⟩ := rd_some hm
      refine zr_iald E (ab_4 hk) hv2 ev2 dX0_tasksOf_17 ?_
      refine zr_iload_n E dX0_tasksOf_18 1 rfl ?_
      refine zr_icmp_ne (tgt := 25) E dX0_tasksOf_19 (by decide) (fun c3 => ?_) (fun c3 => ?_)
      · rw [if_neg c3] at hm
        obtain ⟨v4, ev4, hm⟩ := nm_some hm
        refine zr_iinc (j := 3) (lv' := [(3, .int v4), (0, .ref (zw_ad P k)), (1, .int x1), (2, .int x2)]) E dX0_tasksOf_25 rfl ev4 (by decide) rfl ?_
        refine zr_goto (tgt := 4) E dX0_tasksOf_28 (by decide) ?_
        refine zr_sub (lv' := [(0, .ref (zw_ad P k)), (1, .int x1), (2, .int x2), (3, .int v4)]) [1, 2, 3, 0] rfl ?_
        exact ih σ x1 x2 v4 hm
      · rw [if_pos c3] at hm
        obtain ⟨v5, ev5, hm⟩ := nm_some hm
        refine zr_iinc (j := 2) (lv' := [(2, .int v5), (0, .ref (zw_ad P k)), (1, .int x1), (3, .int x3)]) E dX0_tasksOf_22 rfl ev5 (by decide) rfl ?_
        obtain ⟨v6, ev6, hm⟩ := nm_some hm
        refine zr_iinc (j := 3) (lv' := [(3, .int v6), (2, .int v5), (0, .ref (zw_ad P k)), (1, .int x1)]) E dX0_tasksOf_25 rfl ev6 (by decide) rfl ?_
        refine zr_goto (tgt := 4) E dX0_tasksOf_28 (by decide) ?_
        refine zr_sub (lv' := [(0, .ref (zw_ad P k)), (1, .int x1), (2, .int v5), (3, .int v6)]) [2, 3, 1, 0] rfl ?_
        exact ih σ x1 v5 v6 hm
set_option maxRecDepth 100000 in
set_option maxHeartbeats 4000000 in
theorem c_X0_tasksOf (l : Launch) (P : zw_P) (k : Nat) (hk : zw_bk k = true) (σ : zw_S) (x1 : Int32) : zc_i l P yX0_tasksOf cX0_tasksOf 4 .int 0 [.ref (zw_ad P k), .int x1] σ (m_X0_tasksOf k σ x1) := by
  refine zc_i.of (by decide) (Nat.le_of_ble_eq_true rfl) (fun B r τ E hl hr hm => ?_)
  subst hl
  refine zr_sub (lv' := [(0, .ref (zw_ad P k)), (1, .int x1)]) [0, 1] rfl ?_
  unfold m_X0_tasksOf at hm
  refine zr_iconst (v := 0) E dX0_tasksOf_0 (by decide) ?_
  refine zr_istore_n (lv' := [(2, .int 0), (0, .ref (zw_ad P k)), (1, .int x1)]) E dX0_tasksOf_1 (by decide) rfl ?_
  refine zr_iconst (v := 0) E dX0_tasksOf_2 (by decide) ?_
  refine zr_istore_n (lv' := [(3, .int 0), (2, .int 0), (0, .ref (zw_ad P k)), (1, .int x1)]) E dX0_tasksOf_3 (by decide) rfl ?_
  refine zr_sub (lv' := [(0, .ref (zw_ad P k)), (1, .int x1), (2, .int 0), (3, .int 0)]) [2, 3, 1, 0] rfl ?_
  exact t_X0_tasksOf_4 k hk E hr 200 σ x1 0 0 hm
-- X0_hoursOf
set_option maxRecDepth 100000 in
set_option maxHeartbeats 4000000 in
theorem t_X0_hoursOf_4 {B : zw_B} {P : zw_P} {r : Int32} {τ : zw_S} (k : Nat) (hk : zw_bk k = true) (E : zf B P cX0_hoursOf RX0 4 0) (hr : B.2.2.2.2.2.2.2.2.1.sig.returnType = some .int) : ∀ (n : Nat) (σ : zw_S) (x1 : Int32) (x2 : Int32) (x3 : Int32), m_X0_hoursOf_4 k n σ x1 x2 x3 = some (r, τ) → zw_G B P (zq_i B P r τ) 4 σ 4 [(0, .ref (zw_ad P k)), (1, .int x1), (2, .int x2), (3, .int x3)] [] := by
  intro n
  induction n with
  | zero => intro σ x1 x2 x3 hm; cases hm
  | succ n ih =>
    intro σ x1 x2 x3 hm
    unfold m_X0_hoursOf_4 at hm
    refine zr_iload_n E dX0_hoursOf_4 3 rfl ?_
    refine zr_aload_n E dX0_hoursOf_5 0 rfl ?_
    refine fg_X0_58 hk E dX0_hoursOf_6 ?_
    refine zr_icmp_ge (tgt := 37) E dX0_hoursOf_9 (by decide) (fun c1 => ?_) (fun c1 => ?_)
    · rw [if_pos c1] at hm
      refine zr_iload_n E dX0_hoursOf_37 2 rfl ?_
      exact zr_iret E hr rfl hm dX0_hoursOf_38
    · rw [if_neg c1] at hm
      refine zr_aload_n E dX0_hoursOf_12 0 rfl ?_
      refine fg_X0_25 hk E dX0_hoursOf_13 ?_
      refine zr_iload_n E dX0_hoursOf_16 3 rfl ?_
      obtain ⟨hv2, v2, ev2, hm⟩ := rd_some hm
      refine zr_iald E (ab_4 hk) hv2 ev2 dX0_hoursOf_17 ?_
      refine zr_iload_n E dX0_hoursOf_18 1 rfl ?_
      refine zr_icmp_ne (tgt := 31) E dX0_hoursOf_19 (by decide) (fun c3 => ?_) (fun c3 => ?_)
      · rw [if_neg c3] at hm
        obtain ⟨v4, ev4, hm⟩ := nm_some hm
        refine zr_iinc (j := 3) (lv' := [(3, .int v4), (0, .ref (zw_ad P k)), (1, .int x1), (2, .int x2)]) E dX0_hoursOf_31 rfl ev4 (by decide) rfl ?_
        refine zr_goto (tgt := 4) E dX0_hoursOf_34 (by decide) ?_
        refine zr_sub (lv' := [(0, .ref (zw_ad P k)), (1, .int x1), (2, .int x2), (3, .int v4)]) [1, 2, 3, 0] rfl ?_
        exact ih σ x1 x2 v4 hm
      · rw [if_pos c3] at hm
        refine zr_iload_n E dX0_hoursOf_22 2 rfl ?_
        refine zr_aload_n E dX0_hoursOf_23 0 rfl ?_
        refine fg_X0_28 hk E dX0_hoursOf_24 ?_
        refine zr_iload_n E dX0_hoursOf_27 3 rfl ?_
        obtain ⟨hv5, v5, ev5, hm⟩ := rd_some hm
        refine zr_iald E (ab_5 hk) hv5 ev5 dX0_hoursOf_28 ?_
        refine zr_iadd E dX0_hoursOf_29 ?_
        obtain ⟨v6, ev6, hm⟩ := nm_some hm
        refine zr_top ev6 ?_
        refine zr_istore_n (lv' := [(2, .int v6), (0, .ref (zw_ad P k)), (1, .int x1), (3, .int x3)]) E dX0_hoursOf_30 (by decide) rfl ?_
        obtain ⟨v7, ev7, hm⟩ := nm_some hm
        refine zr_iinc (j := 3) (lv' := [(3, .int v7), (2, .int v6), (0, .ref (zw_ad P k)), (1, .int x1)]) E dX0_hoursOf_31 rfl ev7 (by decide) rfl ?_
        refine zr_goto (tgt := 4) E dX0_hoursOf_34 (by decide) ?_
        refine zr_sub (lv' := [(0, .ref (zw_ad P k)), (1, .int x1), (2, .int v6), (3, .int v7)]) [2, 3, 1, 0] rfl ?_
        exact ih σ x1 v6 v7 hm
set_option maxRecDepth 100000 in
set_option maxHeartbeats 4000000 in
theorem c_X0_hoursOf (l : Launch) (P : zw_P) (k : Nat) (hk : zw_bk k = true) (σ : zw_S) (x1 : Int32) : zc_i l P yX0_hoursOf cX0_hoursOf 4 .int 0 [.ref (zw_ad P k), .int x1] σ (m_X0_hoursOf k σ x1) := by
  refine zc_i.of (by decide) (Nat.le_of_ble_eq_true rfl) (fun B r τ E hl hr hm => ?_)
  subst hl
  refine zr_sub (lv' := [(0, .ref (zw_ad P k)), (1, .int x1)]) [0, 1] rfl ?_
  unfold m_X0_hoursOf at hm
  refine zr_iconst (v := 0) E dX0_hoursOf_0 (by decide) ?_
  refine zr_istore_n (lv' := [(2, .int 0), (0, .ref (zw_ad P k)), (1, .int x1)]) E dX0_hoursOf_1 (by decide) rfl ?_
  refine zr_iconst (v := 0) E dX0_hoursOf_2 (by decide) ?_
  refine zr_istore_n (lv' := [(3, .int 0), (2, .int 0), (0, .ref (zw_ad P k)), (1, .int x1)]) E dX0_hoursOf_3 (by decide) rfl ?_
  refine zr_sub (lv' := [(0, .ref (zw_ad P k)), (1, .int x1), (2, .int 0), (3, .int 0)]) [2, 3, 1, 0] rfl ?_
  exact t_X0_hoursOf_4 k hk E hr 200 σ x1 0 0 hm
-- X2_isUnder
set_option maxRecDepth 100000 in
set_option maxHeartbeats 4000000 in
theorem t_X2_isUnder_4 {B : zw_B} {P : zw_P} {r : Int32} {τ : zw_S} (E : zf B P cX2_isUnder RX2 4 0) (hr : B.2.2.2.2.2.2.2.2.1.sig.returnType = some .boolean) : ∀ (n : Nat) (σ : zw_S) (x1 : Int32) (x2 : Int32) (x3 : Int32), m_X2_isUnder_4 n σ x1 x2 x3 = some (r, τ) → zw_G B P (zq_i B P r τ) 4 σ 4 [(1, .int x1), (2, .int x2), (3, .int x3)] [] := by
  intro n
  induction n with
  | zero => intro σ x1 x2 x3 hm; cases hm
  | succ n ih =>
    intro σ x1 x2 x3 hm
    unfold m_X2_isUnder_4 at hm
    refine zr_iload_n E dX2_isUnder_4 2 rfl ?_
    refine zr_abv E mw_141 dX2_isUnder_5 ?_
    refine zr_abvlen E dX2_isUnder_8 ?_
    refine zr_icmp_ge (tgt := 43) E dX2_isUnder_9 (by decide) (fun c1 => ?_) (fun c1 => ?_)
    · rw [if_pos c1] at hm
      refine zr_iconst (v := 0) E dX2_isUnder_43 (by decide) ?_
      exact zr_iret E hr (by decide) hm dX2_isUnder_44
    · rw [if_neg c1] at hm
      refine zr_iload_n E dX2_isUnder_12 1 rfl ?_
      refine zr_if_lt (tgt := 43) E dX2_isUnder_13 (by decide) (fun c2 => ?_) (fun c2 => ?_)
      · rw [if_pos c2] at hm
        refine zr_iconst (v := 0) E dX2_isUnder_43 (by decide) ?_
        exact zr_iret E hr (by decide) hm dX2_isUnder_44
      · rw [if_neg c2] at hm
        refine zr_iload_n E dX2_isUnder_16 1 rfl ?_
        refine zr_abv E mw_141 dX2_isUnder_17 ?_
        refine zr_abvlen E dX2_isUnder_20 ?_
        refine zr_icmp_ge (tgt := 43) E dX2_isUnder_21 (by decide) (fun c3 => ?_) (fun c3 => ?_)
        · rw [if_pos c3] at hm
          refine zr_iconst (v := 0) E dX2_isUnder_43 (by decide) ?_
          exact zr_iret E hr (by decide) hm dX2_isUnder_44
        · rw [if_neg c3] at hm
          refine zr_iload_n E dX2_isUnder_24 1 rfl ?_
          refine zr_iload_n E dX2_isUnder_25 0 rfl ?_
          refine zr_icmp_ne (tgt := 31) E dX2_isUnder_26 (by decide) (fun c4 => ?_) (fun c4 => ?_)
          · rw [if_neg c4] at hm
            refine zr_abv E mw_141 dX2_isUnder_31 ?_
            refine zr_iload_n E dX2_isUnder_34 1 rfl ?_
            obtain ⟨hz6, hm⟩ := tt_some hm
            obtain ⟨v5, ev5, hm⟩ := nm_some hm
            refine zr_abvld E (zi_in hz6) ev5 dX2_isUnder_35 ?_
            refine zr_istore_n (lv' := [(2, .int v5), (1, .int x1), (3, .int x3)]) E dX2_isUnder_36 (by decide) rfl ?_
            obtain ⟨v7, ev7, hm⟩ := nm_some hm
            refine zr_iinc (j := 2) (lv' := [(3, .int v7), (2, .int v5), (1, .int x1)]) E dX2_isUnder_37 rfl ev7 (by decide) rfl ?_
            refine zr_goto (tgt := 4) E dX2_isUnder_40 (by decide) ?_
            refine zr_sub (lv' := [(1, .int x1), (2, .int v5), (3, .int v7)]) [2, 1, 0] rfl ?_
            exact ih σ x1 v5 v7 hm
          · rw [if_pos c4] at hm
            refine zr_iconst (v := 1) E dX2_isUnder_29 (by decide) ?_
            exact zr_iret E hr (by decide) hm dX2_isUnder_30
set_option maxRecDepth 100000 in
set_option maxHeartbeats 4000000 in
theorem c_X2_isUnder (l : Launch) (P : zw_P) (σ : zw_S) (x0 : Int32) (x1 : Int32) : zc_i l P yX2_isUnder cX2_isUnder 4 .boolean 0 [.int x0, .int x1] σ (m_X2_isUnder σ x0 x1) := by
  refine zc_i.of (by decide) (Nat.le_of_ble_eq_true rfl) (fun B r τ E hl hr hm => ?_)
  subst hl
  refine zr_sub (lv' := [(0, .int x0), (1, .int x1)]) [0, 1] rfl ?_
  unfold m_X2_isUnder at hm
  refine zr_iload_n E dX2_isUnder_0 0 rfl ?_
  refine zr_istore_n (lv' := [(2, .int x0), (0, .int x0), (1, .int x1)]) E dX2_isUnder_1 (by decide) rfl ?_
  refine zr_iconst (v := 0) E dX2_isUnder_2 (by decide) ?_
  refine zr_istore_n (lv' := [(3, .int 0), (2, .int x0), (0, .int x0), (1, .int x1)]) E dX2_isUnder_3 (by decide) rfl ?_
  refine zr_sub (lv' := [(1, .int x1), (2, .int x0), (3, .int 0)]) [3, 1, 0] rfl ?_
  exact t_X2_isUnder_4 E hr 200 σ x1 x0 0 hm
-- X0_mostWorkOf
set_option maxRecDepth 100000 in
set_option maxHeartbeats 4000000 in
theorem t_X0_mostWorkOf_42 {B : zw_B} {P : zw_P} {r : Int32} {τ : zw_S} (k : Nat) (hk : zw_bk k = true) (E : zf B P cX0_mostWorkOf RX0 4 1) (hr : B.2.2.2.2.2.2.2.2.1.sig.returnType = some .int) (σ : zw_S) (x2 : Int32) (hm : m_X0_mostWorkOf_42 k σ x2 = some (r, τ)) : zw_G B P (zq_i B P r τ) 4 σ 42 [(0, .ref (zw_ad P k)), (2, .int x2)] [] := by
  unfold m_X0_mostWorkOf_42 at hm
  refine zr_iconst (v := 5) E dX0_mostWorkOf_42 (by decide) ?_
  refine zr_iload_n E dX0_mostWorkOf_43 1 rfl ?_
  refine zr_aload_n E dX0_mostWorkOf_44 0 rfl ?_
  refine fg_X0_55 hk E dX0_mostWorkOf_45 ?_
  obtain ⟨r2, s1, os1, hm⟩ := cl_some hm
  refine zr_cSi (st := []) E mw_465 cm_X2_workOf (c_X2_workOf B.2.1 P σ 5 x2 (σ k 0)) os1 ⟨by decide, by decide⟩ rfl rfl (Nat.le_of_ble_eq_true rfl) dX0_mostWorkOf_48 ?_
  exact zr_iret E hr rfl hm dX0_mostWorkOf_51
set_option maxRecDepth 100000 in
set_option maxHeartbeats 4000000 in
theorem t_X0_mostWorkOf_2 {B : zw_B} {P : zw_P} {r : Int32} {τ : zw_S} (k : Nat) (hk : zw_bk k = true) (E : zf B P cX0_mostWorkOf RX0 4 1) (hr : B.2.2.2.2.2.2.2.2.1.sig.returnType = some .int) : ∀ (n : Nat) (σ : zw_S) (x1 : Int32) (x2 : Int32) (x3 : Int32), m_X0_mostWorkOf_2 k n σ x1 x2 x3 = some (r, τ) → zw_G B P (zq_i B P r τ) 4 σ 2 [(0, .ref (zw_ad P k)), (1, .int x1), (2, .int x2), (3, .int x3)] [] := by
  intro n
  induction n with
  | zero => intro σ x1 x2 x3 hm; cases hm
  | succ n ih =>
    intro σ x1 x2 x3 hm
    unfold m_X0_mostWorkOf_2 at hm
    refine zr_iload_n E dX0_mostWorkOf_2 3 rfl ?_
    refine zr_aload_n E dX0_mostWorkOf_3 0 rfl ?_
    refine fg_X0_58 hk E dX0_mostWorkOf_4 ?_
    refine zr_icmp_ge (tgt := 58) E dX0_mostWorkOf_7 (by decide) (fun c1 => ?_) (fun c1 => ?_)
    · rw [if_pos c1] at hm
      refine zr_iload_n E dX0_mostWorkOf_58 2 rfl ?_
      exact zr_iret E hr rfl hm dX0_mostWorkOf_59
    · rw [if_neg c1] at hm
      refine zr_aload_n E dX0_mostWorkOf_10 0 rfl ?_
      refine fg_X0_25 hk E dX0_mostWorkOf_11 ?_
      refine zr_iload_n E dX0_mostWorkOf_14 3 rfl ?_
      obtain ⟨hv2, v2, ev2, hm⟩ := rd_some hm
      refine zr_iald E (ab_4 hk) hv2 ev2 dX0_mostWorkOf_15 ?_
      refine zr_iload_n E dX0_mostWorkOf_16 1 rfl ?_
      refine zr_icmp_ne (tgt := 52) E dX0_mostWorkOf_17 (by decide) (fun c3 => ?_) (fun c3 => ?_)
      · rw [if_neg c3] at hm
        obtain ⟨v4, ev4, hm⟩ := nm_some hm
        refine zr_iinc (j := 3) (lv' := [(3, .int v4), (0, .ref (zw_ad P k)), (1, .int x1), (2, .int x2)]) E dX0_mostWorkOf_52 rfl ev4 (by decide) rfl ?_
        refine zr_goto (tgt := 2) E dX0_mostWorkOf_55 (by decide) ?_
        refine zr_sub (lv' := [(0, .ref (zw_ad P k)), (1, .int x1), (2, .int x2), (3, .int v4)]) [1, 2, 3, 0] rfl ?_
        exact ih σ x1 x2 v4 hm
      · rw [if_pos c3] at hm
        refine zr_aload_n E dX0_mostWorkOf_20 0 rfl ?_
        refine fg_X0_28 hk E dX0_mostWorkOf_21 ?_
        refine zr_iload_n E dX0_mostWorkOf_24 3 rfl ?_
        obtain ⟨hv5, v5, ev5, hm⟩ := rd_some hm
        refine zr_iald E (ab_5 hk) hv5 ev5 dX0_mostWorkOf_25 ?_
        refine zr_if_le (tgt := 52) E dX0_mostWorkOf_26 (by decide) (fun c6 => ?_) (fun c6 => ?_)
        · rw [if_pos c6] at hm
          obtain ⟨v7, ev7, hm⟩ := nm_some hm
          refine zr_iinc (j := 3) (lv' := [(3, .int v7), (0, .ref (zw_ad P k)), (1, .int x1), (2, .int x2)]) E dX0_mostWorkOf_52 rfl ev7 (by decide) rfl ?_
          refine zr_goto (tgt := 2) E dX0_mostWorkOf_55 (by decide) ?_
          refine zr_sub (lv' := [(0, .ref (zw_ad P k)), (1, .int x1), (2, .int x2), (3, .int v7)]) [1, 2, 3, 0] rfl ?_
          exact ih σ x1 x2 v7 hm
        · rw [if_neg c6] at hm
          refine zr_aload_n E dX0_mostWorkOf_29 0 rfl ?_
          refine fg_X0_22 hk E dX0_mostWorkOf_30 ?_
          refine zr_iload_n E dX0_mostWorkOf_33 3 rfl ?_
          obtain ⟨hv8, v8, ev8, hm⟩ := rd_some hm
          refine zr_iald E (ab_3 hk) hv8 ev8 dX0_mostWorkOf_34 ?_
          refine zr_iconst (v := 4) E dX0_mostWorkOf_35 (by decide) ?_
          obtain ⟨r10, s9, os9, hm⟩ := cl_some hm
          refine zr_cSi (st := []) E mw_705 cm_X2_isUnder (c_X2_isUnder B.2.1 P σ v8 4) os9 ⟨by decide, by decide⟩ rfl rfl (Nat.le_of_ble_eq_true rfl) dX0_mostWorkOf_36 ?_
          refine zr_if_eq (tgt := 52) E dX0_mostWorkOf_39 (by decide) (fun c11 => ?_) (fun c11 => ?_)
          · rw [if_pos c11] at hm
            obtain ⟨v12, ev12, hm⟩ := nm_some hm
            refine zr_iinc (j := 3) (lv' := [(3, .int v12), (0, .ref (zw_ad P k)), (1, .int x1), (2, .int x2)]) E dX0_mostWorkOf_52 rfl ev12 (by decide) rfl ?_
            refine zr_goto (tgt := 2) E dX0_mostWorkOf_55 (by decide) ?_
            refine zr_sub (lv' := [(0, .ref (zw_ad P k)), (1, .int x1), (2, .int x2), (3, .int v12)]) [1, 2, 3, 0] rfl ?_
            exact ih s9 x1 x2 v12 hm
          · rw [if_neg c11] at hm
            refine zr_sub (lv' := [(0, .ref (zw_ad P k)), (2, .int x2)]) [0, 2] rfl ?_
            exact t_X0_mostWorkOf_42 k hk E hr s9 x2 hm
set_option maxRecDepth 100000 in
set_option maxHeartbeats 4000000 in
theorem c_X0_mostWorkOf (l : Launch) (P : zw_P) (k : Nat) (hk : zw_bk k = true) (σ : zw_S) (x1 : Int32) (x2 : Int32) : zc_i l P yX0_mostWorkOf cX0_mostWorkOf 4 .int 1 [.ref (zw_ad P k), .int x1, .int x2] σ (m_X0_mostWorkOf k σ x1 x2) := by
  refine zc_i.of (by decide) (Nat.le_of_ble_eq_true rfl) (fun B r τ E hl hr hm => ?_)
  subst hl
  refine zr_sub (lv' := [(0, .ref (zw_ad P k)), (1, .int x1), (2, .int x2)]) [0, 1, 2] rfl ?_
  unfold m_X0_mostWorkOf at hm
  refine zr_iconst (v := 0) E dX0_mostWorkOf_0 (by decide) ?_
  refine zr_istore_n (lv' := [(3, .int 0), (0, .ref (zw_ad P k)), (1, .int x1), (2, .int x2)]) E dX0_mostWorkOf_1 (by decide) rfl ?_
  refine zr_sub (lv' := [(0, .ref (zw_ad P k)), (1, .int x1), (2, .int x2), (3, .int 0)]) [1, 2, 3, 0] rfl ?_
  exact t_X0_mostWorkOf_2 k hk E hr 200 σ x1 x2 0 hm
-- X0_mostWork
set_option maxRecDepth 100000 in
set_option maxHeartbeats 4000000 in
theorem t_X0_mostWork_50 {B : zw_B} {P : zw_P} {r : Int32} {τ : zw_S} (k : Nat) (hk : zw_bk k = true) (E : zf B P cX0_mostWork RX0 7 2) (hr : B.2.2.2.2.2.2.2.2.1.sig.returnType = some .int) : ∀ (n : Nat) (σ : zw_S) (x1 : Int32) (x2 : Int32) (x4 : Int32) (x5 : Int32) (x6 : Int32), m_X0_mostWork_50 k n σ x1 x2 x4 x5 x6 = some (r, τ) → zw_G B P (zq_i B P r τ) 7 σ 50 [(0, .ref (zw_ad P k)), (1, .int x1), (2, .int x2), (4, .int x4), (5, .int x5), (6, .int x6)] [] := by
  intro n
  induction n with
  | zero => intro σ x1 x2 x4 x5 x6 hm; cases hm
  | succ n ih =>
    intro σ x1 x2 x4 x5 x6 hm
    unfold m_X0_mostWork_50 at hm
    refine zr_iload E dX0_mostWork_50 5 rfl ?_
    refine zr_aload_n E dX0_mostWork_52 0 rfl ?_
    refine fg_X0_61 hk E dX0_mostWork_53 ?_
    refine zr_icmp_ge (tgt := 105) E dX0_mostWork_56 (by decide) (fun c1 => ?_) (fun c1 => ?_)
    · rw [if_pos c1] at hm
      refine zr_iload E dX0_mostWork_105 4 rfl ?_
      exact zr_iret E hr rfl hm dX0_mostWork_107
    · rw [if_neg c1] at hm
      refine zr_aload_n E dX0_mostWork_59 0 rfl ?_
      refine fg_X0_43 hk E dX0_mostWork_60 ?_
      refine zr_iload E dX0_mostWork_63 5 rfl ?_
      obtain ⟨hv2, v2, ev2, hm⟩ := rd_some hm
      refine zr_iald E (ab_10 hk) hv2 ev2 dX0_mostWork_65 ?_
      refine zr_iload_n E dX0_mostWork_66 1 rfl ?_
      refine zr_icmp_ne (tgt := 99) E dX0_mostWork_67 (by decide) (fun c3 => ?_) (fun c3 => ?_)
      · rw [if_neg c3] at hm
        obtain ⟨v4, ev4, hm⟩ := nm_some hm
        refine zr_iinc (j := 5) (lv' := [(6, .int v4), (0, .ref (zw_ad P k)), (1, .int x1), (2, .int x2), (4, .int x4), (5, .int x5)]) E dX0_mostWork_99 rfl ev4 (by decide) rfl ?_
        refine zr_goto (tgt := 50) E dX0_mostWork_102 (by decide) ?_
        refine zr_sub (lv' := [(0, .ref (zw_ad P k)), (1, .int x1), (2, .int x2), (4, .int x4), (5, .int x5), (6, .int v4)]) [1, 2, 3, 4, 5, 0] rfl ?_
        exact ih σ x1 x2 x4 x5 v4 hm
      · rw [if_pos c3] at hm
        refine zr_iload E dX0_mostWork_70 4 rfl ?_
        refine zr_iload E dX0_mostWork_72 3 rfl ?_
        refine zr_aload_n E dX0_mostWork_74 0 rfl ?_
        refine fg_X0_37 hk E dX0_mostWork_75 ?_
        refine zr_iload_n E dX0_mostWork_78 1 rfl ?_
        obtain ⟨hv5, v5, ev5, hm⟩ := rd_some hm
        refine zr_iald E (ab_8 hk) hv5 ev5 dX0_mostWork_79 ?_
        refine zr_isub E dX0_mostWork_80 ?_
        refine zr_aload_n E dX0_mostWork_81 0 rfl ?_
        refine zr_iload_n E dX0_mostWork_82 2 rfl ?_
        refine zr_aload_n E dX0_mostWork_83 0 rfl ?_
        refine fg_X0_40 hk E dX0_mostWork_84 ?_
        refine zr_iload E dX0_mostWork_87 5 rfl ?_
        obtain ⟨hv6, v6, ev6, hm⟩ := rd_some hm
        refine zr_iald E (ab_9 hk) hv6 ev6 dX0_mostWork_89 ?_
        refine zr_iconst (v := 2) E dX0_mostWork_90 (by decide) ?_
        refine zr_idiv E dX0_mostWork_91 (by decide) ?_
        obtain ⟨r8, s7, os7, hm⟩ := cl_some hm
        refine zr_cVi (st := [.int (x4 - v5), .int x5]) E mw_701 cm_X0_mostWorkOf (c_X0_mostWorkOf B.2.1 P k hk σ x2 (v6 / 2)) os7 (rc_bk P hk) ⟨by decide, by decide⟩ rfl rfl (Nat.le_of_ble_eq_true rfl) dX0_mostWork_92 ?_
        refine zr_imul E dX0_mostWork_95 ?_
        refine zr_iadd E dX0_mostWork_96 ?_
        obtain ⟨v9, ev9, hm⟩ := nm_some hm
        refine zr_top ev9 ?_
        refine zr_istore (lv' := [(5, .int v9), (0, .ref (zw_ad P k)), (1, .int x1), (2, .int x2), (4, .int x4), (6, .int x6)]) E dX0_mostWork_97 (by decide) rfl ?_
        obtain ⟨v10, ev10, hm⟩ := nm_some hm
        refine zr_iinc (j := 5) (lv' := [(6, .int v10), (5, .int v9), (0, .ref (zw_ad P k)), (1, .int x1), (2, .int x2), (4, .int x4)]) E dX0_mostWork_99 rfl ev10 (by decide) rfl ?_
        refine zr_goto (tgt := 50) E dX0_mostWork_102 (by decide) ?_
        refine zr_sub (lv' := [(0, .ref (zw_ad P k)), (1, .int x1), (2, .int x2), (4, .int x4), (5, .int v9), (6, .int v10)]) [2, 3, 4, 5, 1, 0] rfl ?_
        exact ih s7 x1 x2 x4 v9 v10 hm
set_option maxRecDepth 100000 in
set_option maxHeartbeats 4000000 in
theorem c_X0_mostWork (l : Launch) (P : zw_P) (k : Nat) (hk : zw_bk k = true) (σ : zw_S) (x1 : Int32) (x2 : Int32) (x3 : Int32) : zc_i l P yX0_mostWork cX0_mostWork 7 .int 2 [.ref (zw_ad P k), .int x1, .int x2, .int x3] σ (m_X0_mostWork k σ x1 x2 x3) := by
  refine zc_i.of (by decide) (Nat.le_of_ble_eq_true rfl) (fun B r τ E hl hr hm => ?_)
  subst hl
  refine zr_sub (lv' := [(0, .ref (zw_ad P k)), (1, .int x1), (2, .int x2), (3, .int x3)]) [0, 1, 2, 3] rfl ?_
  unfold m_X0_mostWork at hm
  refine zr_aload_n E dX0_mostWork_0 0 rfl ?_
  refine fg_X0_37 hk E dX0_mostWork_1 ?_
  refine zr_iload_n E dX0_mostWork_4 1 rfl ?_
  obtain ⟨hv1, v1, ev1, hm⟩ := rd_some hm
  refine zr_iald E (ab_8 hk) hv1 ev1 dX0_mostWork_5 ?_
  refine zr_iload_n E dX0_mostWork_6 3 rfl ?_
  refine zr_iadd E dX0_mostWork_7 ?_
  refine zr_bipush (v := 40) E dX0_mostWork_8 (by decide) ?_
  refine zr_min (h := 1) E mw_699 mM_min_1 mM_min_2 mM_min_3 (Nat.le_of_ble_eq_true rfl) dX0_mostWork_10 ?_
  obtain ⟨v2, ev2, hm⟩ := nm_some hm
  refine zr_top ev2 ?_
  refine zr_istore (lv' := [(4, .int v2), (0, .ref (zw_ad P k)), (1, .int x1), (2, .int x2), (3, .int x3)]) E dX0_mostWork_13 (by decide) rfl ?_
  refine zr_iconst (v := 0) E dX0_mostWork_15 (by decide) ?_
  refine zr_iload E dX0_mostWork_16 0 rfl ?_
  refine zr_aload_n E dX0_mostWork_18 1 rfl ?_
  refine fg_X0_37 hk E dX0_mostWork_19 ?_
  refine zr_iload_n E dX0_mostWork_22 2 rfl ?_
  obtain ⟨hv3, v3, ev3, hm⟩ := rd_some hm
  refine zr_iald E (ab_8 hk) hv3 ev3 dX0_mostWork_23 ?_
  refine zr_bipush (v := 7) E dX0_mostWork_24 (by decide) ?_
  refine zr_max (h := 1) E mw_700 mM_max_1 mM_max_2 mM_max_3 (Nat.le_of_ble_eq_true rfl) dX0_mostWork_26 ?_
  refine zr_isub E dX0_mostWork_29 ?_
  refine zr_max (h := 1) E mw_700 mM_max_1 mM_max_2 mM_max_3 (Nat.le_of_ble_eq_true rfl) dX0_mostWork_30 ?_
  refine zr_aload_n E dX0_mostWork_33 1 rfl ?_
  refine zr_iload_n E dX0_mostWork_34 3 rfl ?_
  refine zr_aload_n E dX0_mostWork_35 1 rfl ?_
  refine fg_X0_40 hk E dX0_mostWork_36 ?_
  refine zr_iload_n E dX0_mostWork_39 2 rfl ?_
  obtain ⟨hv4, v4, ev4, hm⟩ := rd_some hm
  refine zr_iald E (ab_9 hk) hv4 ev4 dX0_mostWork_40 ?_
  obtain ⟨r6, s5, os5, hm⟩ := cl_some hm
  refine zr_cVi (st := [.int (zmax 0 (v2 - (zmax v3 7)))]) E mw_701 cm_X0_mostWorkOf (c_X0_mostWorkOf B.2.1 P k hk σ x2 v4) os5 (rc_bk P hk) ⟨by decide, by decide⟩ rfl rfl (Nat.le_of_ble_eq_true rfl) dX0_mostWork_41 ?_
  refine zr_imul E dX0_mostWork_44 ?_
  obtain ⟨v7, ev7, hm⟩ := nm_some hm
  refine zr_top ev7 ?_
  refine zr_istore (lv' := [(5, .int v7), (4, .int v2), (0, .ref (zw_ad P k)), (1, .int x1), (2, .int x2), (3, .int x3)]) E dX0_mostWork_45 (by decide) rfl ?_
  refine zr_iconst (v := 0) E dX0_mostWork_47 (by decide) ?_
  refine zr_istore (lv' := [(6, .int 0), (5, .int v7), (4, .int v2), (0, .ref (zw_ad P k)), (1, .int x1), (2, .int x2), (3, .int x3)]) E dX0_mostWork_48 (by decide) rfl ?_
  refine zr_sub (lv' := [(0, .ref (zw_ad P k)), (1, .int x1), (2, .int x2), (4, .int v2), (5, .int v7), (6, .int 0)]) [3, 4, 5, 2, 1, 0] rfl ?_
  exact t_X0_mostWork_50 k hk E hr 200 s5 x1 x2 v2 v7 0 hm
-- X0_isAtHand
set_option maxRecDepth 100000 in
set_option maxHeartbeats 4000000 in
theorem c_X0_isAtHand (l : Launch) (P : zw_P) (k : Nat) (hk : zw_bk k = true) (σ : zw_S) (x1 : Int32) : zc_i l P yX0_isAtHand cX0_isAtHand 2 .boolean 0 [.ref (zw_ad P k), .int x1] σ (m_X0_isAtHand k σ x1) := by
  refine zc_i.of (by decide) (Nat.le_of_ble_eq_true rfl) (fun B r τ E hl hr hm => ?_)
  subst hl
  refine zr_sub (lv' := [(0, .ref (zw_ad P k)), (1, .int x1)]) [0, 1] rfl ?_
  unfold m_X0_isAtHand at hm
  refine zr_aload_n E dX0_isAtHand_0 0 rfl ?_
  refine fg_X0_28 hk E dX0_isAtHand_1 ?_
  refine zr_iload_n E dX0_isAtHand_4 1 rfl ?_
  obtain ⟨hv1, v1, ev1, hm⟩ := rd_some hm
  refine zr_iald E (ab_5 hk) hv1 ev1 dX0_isAtHand_5 ?_
  refine zr_if_le (tgt := 36) E dX0_isAtHand_6 (by decide) (fun c2 => ?_) (fun c2 => ?_)
  · rw [if_pos c2] at hm
    refine zr_iconst (v := 0) E dX0_isAtHand_36 (by decide) ?_
    exact zr_iret E hr (by decide) hm dX0_isAtHand_37
  · rw [if_neg c2] at hm
    refine zr_aload_n E dX0_isAtHand_9 0 rfl ?_
    refine fg_X0_31 hk E dX0_isAtHand_10 ?_
    refine zr_iload_n E dX0_isAtHand_13 1 rfl ?_
    obtain ⟨hv3, v3, ev3, hm⟩ := rd_some hm
    refine zr_iald E (ab_6 hk) hv3 ev3 dX0_isAtHand_14 ?_
    refine zr_if_lt (tgt := 32) E dX0_isAtHand_15 (by decide) (fun c4 => ?_) (fun c4 => ?_)
    · rw [if_pos c4] at hm
      refine zr_iconst (v := 1) E dX0_isAtHand_32 (by decide) ?_
      refine zr_goto (tgt := 37) E dX0_isAtHand_33 (by decide) ?_
      exact zr_iret E hr (by decide) hm dX0_isAtHand_37
    · rw [if_neg c4] at hm
      refine zr_aload_n E dX0_isAtHand_18 0 rfl ?_
      refine fg_X0_28 hk E dX0_isAtHand_19 ?_
      refine zr_aload_n E dX0_isAtHand_22 0 rfl ?_
      refine fg_X0_31 hk E dX0_isAtHand_23 ?_
      refine zr_iload_n E dX0_isAtHand_26 1 rfl ?_
      obtain ⟨hv5, v5, ev5, hm⟩ := rd_some hm
      refine zr_iald E (ab_6 hk) hv5 ev5 dX0_isAtHand_27 ?_
      obtain ⟨hv6, v6, ev6, hm⟩ := rd_some hm
      refine zr_iald E (ab_5 hk) hv6 ev6 dX0_isAtHand_28 ?_
      refine zr_if_ne (tgt := 36) E dX0_isAtHand_29 (by decide) (fun c7 => ?_) (fun c7 => ?_)
      · rw [if_neg c7] at hm
        refine zr_iconst (v := 0) E dX0_isAtHand_36 (by decide) ?_
        exact zr_iret E hr (by decide) hm dX0_isAtHand_37
      · rw [if_pos c7] at hm
        refine zr_iconst (v := 1) E dX0_isAtHand_32 (by decide) ?_
        refine zr_goto (tgt := 37) E dX0_isAtHand_33 (by decide) ?_
        exact zr_iret E hr (by decide) hm dX0_isAtHand_37
-- X0_handOf
set_option maxRecDepth 100000 in
set_option maxHeartbeats 4000000 in
theorem t_X0_handOf_2 {B : zw_B} {P : zw_P} {r : Int32} {τ : zw_S} (k : Nat) (hk : zw_bk k = true) (E : zf B P cX0_handOf RX0 3 1) (hr : B.2.2.2.2.2.2.2.2.1.sig.returnType = some .int) : ∀ (n : Nat) (σ : zw_S) (x1 : Int32) (x2 : Int32), m_X0_handOf_2 k n σ x1 x2 = some (r, τ) → zw_G B P (zq_i B P r τ) 3 σ 2 [(0, .ref (zw_ad P k)), (1, .int x1), (2, .int x2)] [] := by
  intro n
  induction n with
  | zero => intro σ x1 x2 hm; cases hm
  | succ n ih =>
    intro σ x1 x2 hm
    unfold m_X0_handOf_2 at hm
    refine zr_iload_n E dX0_handOf_2 2 rfl ?_
    refine zr_aload_n E dX0_handOf_3 0 rfl ?_
    refine fg_X0_58 hk E dX0_handOf_4 ?_
    refine zr_icmp_ge (tgt := 36) E dX0_handOf_7 (by decide) (fun c1 => ?_) (fun c1 => ?_)
    · rw [if_pos c1] at hm
      refine zr_iconst (v := (-1)) E dX0_handOf_36 (by decide) ?_
      exact zr_iret E hr rfl hm dX0_handOf_37
    · rw [if_neg c1] at hm
      refine zr_aload_n E dX0_handOf_10 0 rfl ?_
      refine fg_X0_25 hk E dX0_handOf_11 ?_
      refine zr_iload_n E dX0_handOf_14 2 rfl ?_
      obtain ⟨hv2, v2, ev2, hm⟩ := rd_some hm
      refine zr_iald E (ab_4 hk) hv2 ev2 dX0_handOf_15 ?_
      refine zr_iload_n E dX0_handOf_16 1 rfl ?_
      refine zr_icmp_ne (tgt := 30) E dX0_handOf_17 (by decide) (fun c3 => ?_) (fun c3 => ?_)
      · rw [if_neg c3] at hm
        obtain ⟨v4, ev4, hm⟩ := nm_some hm
        refine zr_iinc (j := 2) (lv' := [(2, .int v4), (0, .ref (zw_ad P k)), (1, .int x1)]) E dX0_handOf_30 rfl ev4 (by decide) rfl ?_
        refine zr_goto (tgt := 2) E dX0_handOf_33 (by decide) ?_
        refine zr_sub (lv' := [(0, .ref (zw_ad P k)), (1, .int x1), (2, .int v4)]) [1, 2, 0] rfl ?_
        exact ih σ x1 v4 hm
      · rw [if_pos c3] at hm
        refine zr_aload_n E dX0_handOf_20 0 rfl ?_
        refine zr_iload_n E dX0_handOf_21 2 rfl ?_
        obtain ⟨r6, s5, os5, hm⟩ := cl_some hm
        refine zr_cVi (st := []) E mw_273 cm_X0_isAtHand (c_X0_isAtHand B.2.1 P k hk σ x2) os5 (rc_bk P hk) ⟨by decide, by decide⟩ rfl rfl (Nat.le_of_ble_eq_true rfl) dX0_handOf_22 ?_
        refine zr_if_eq (tgt := 30) E dX0_handOf_25 (by decide) (fun c7 => ?_) (fun c7 => ?_)
        · rw [if_pos c7] at hm
          obtain ⟨v8, ev8, hm⟩ := nm_some hm
          refine zr_iinc (j := 2) (lv' := [(2, .int v8), (0, .ref (zw_ad P k)), (1, .int x1)]) E dX0_handOf_30 rfl ev8 (by decide) rfl ?_
          refine zr_goto (tgt := 2) E dX0_handOf_33 (by decide) ?_
          refine zr_sub (lv' := [(0, .ref (zw_ad P k)), (1, .int x1), (2, .int v8)]) [1, 2, 0] rfl ?_
          exact ih s5 x1 v8 hm
        · rw [if_neg c7] at hm
          refine zr_iload_n E dX0_handOf_28 2 rfl ?_
          exact zr_iret E hr rfl hm dX0_handOf_29
set_option maxRecDepth 100000 in
set_option maxHeartbeats 4000000 in
theorem c_X0_handOf (l : Launch) (P : zw_P) (k : Nat) (hk : zw_bk k = true) (σ : zw_S) (x1 : Int32) : zc_i l P yX0_handOf cX0_handOf 3 .int 1 [.ref (zw_ad P k), .int x1] σ (m_X0_handOf k σ x1) := by
  refine zc_i.of (by decide) (Nat.le_of_ble_eq_true rfl) (fun B r τ E hl hr hm => ?_)
  subst hl
  refine zr_sub (lv' := [(0, .ref (zw_ad P k)), (1, .int x1)]) [0, 1] rfl ?_
  unfold m_X0_handOf at hm
  refine zr_iconst (v := 0) E dX0_handOf_0 (by decide) ?_
  refine zr_istore_n (lv' := [(2, .int 0), (0, .ref (zw_ad P k)), (1, .int x1)]) E dX0_handOf_1 (by decide) rfl ?_
  refine zr_sub (lv' := [(0, .ref (zw_ad P k)), (1, .int x1), (2, .int 0)]) [1, 2, 0] rfl ?_
  exact t_X0_handOf_2 k hk E hr 200 σ x1 0 hm
