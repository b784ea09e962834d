-- X7_finds
set_option maxRecDepth 100000 in
set_option maxHeartbeats 4000000 in
theorem c_X7_finds (l : Launch) (P : zw_P) (σ : zw_S) (x1 : Int32) : zc_i l P yX7_finds cX7_finds 2 .int 0 [.ref (zw_ad P 57), .int x1] σ (m_X7_finds σ x1) := by
  refine zc_i.of (by decide) (Nat.le_of_ble_eq_true rfl) (fun B r τ E hl hr hm => ?_)
  subst hl
  refine zr_sub (lv' := [(0, .ref (zw_ad P 57)), (1, .int x1)]) [0, 1] rfl ?_
  unfold m_X7_finds at hm
  refine zr_aload_n E dX7_finds_0 0 rfl ?_
  refine fg_X7_22 E dX7_finds_1 ?_
  refine zr_ldc E mw_115 dX7_finds_4 ?_
  refine zr_iload_n E dX7_finds_6 1 rfl ?_
  refine zr_isub E dX7_finds_7 ?_
  obtain ⟨v1, ev1, hm⟩ := nm_some hm
  refine zr_top ev1 ?_
  refine zr_dup2 E dX7_finds_8 rfl rfl ?_
  obtain ⟨hv2, v2, ev2, hm⟩ := rd_some hm
  refine zr_iald E ac_62 hv2 ev2 dX7_finds_9 ?_
  refine zr_iconst (v := 1) E dX7_finds_10 (by decide) ?_
  refine zr_iadd E dX7_finds_11 ?_
  obtain ⟨hs3, s3, es3, hm⟩ := wt_some hm
  refine zr_iast E ac_62 hs3 es3 dX7_finds_12 ?_
  refine zr_iload_n E dX7_finds_13 1 rfl ?_
  exact zr_iret E hr rfl hm dX7_finds_14
-- X7_orNone
set_option maxRecDepth 100000 in
set_option maxHeartbeats 4000000 in
theorem c_X7_orNone (l : Launch) (P : zw_P) (σ : zw_S) (x1 : Int32) : zc_i l P yX7_orNone cX7_orNone 2 .int 1 [.ref (zw_ad P 57), .int x1] σ (m_X7_orNone σ x1) := by
  refine zc_i.of (by decide) (Nat.le_of_ble_eq_true rfl) (fun B r τ E hl hr hm => ?_)
  subst hl
  refine zr_sub (lv' := [(0, .ref (zw_ad P 57)), (1, .int x1)]) [0, 1] rfl ?_
  unfold m_X7_orNone at hm
  refine zr_iload_n E dX7_orNone_0 1 rfl ?_
  refine zr_if_ge (tgt := 13) E dX7_orNone_1 (by decide) (fun c1 => ?_) (fun c1 => ?_)
  · rw [if_pos c1] at hm
    refine zr_iload_n E dX7_orNone_13 1 rfl ?_
    exact zr_iret E hr rfl hm dX7_orNone_14
  · rw [if_neg c1] at hm
    refine zr_aload_n E dX7_orNone_4 0 rfl ?_
    refine zr_ldc E mw_613 dX7_orNone_5 ?_
    obtain ⟨r3, s2, os2, hm⟩ := cl_some hm
    refine zr_cVi (st := []) E mw_127 cm_X7_finds (c_X7_finds B.2.1 P σ (-1000004)) os2 (rc_57 P) ⟨by decide, by decide⟩ rfl rfl (Nat.le_of_ble_eq_true rfl) dX7_orNone_7 ?_
    refine zr_goto (tgt := 14) E dX7_orNone_10 (by decide) ?_
    exact zr_iret E hr rfl hm dX7_orNone_14
-- X7_in
set_option maxRecDepth 100000 in
set_option maxHeartbeats 4000000 in
theorem c_X7_in (l : Launch) (P : zw_P) (σ : zw_S) (x0 : Int64) (x2 : Int64) (x4 : Int64) : zc_i l P yX7_in cX7_in 6 .boolean 0 [.long (x0), .long (x2), .long (x4)] σ (m_X7_in σ x0 x2 x4) := by
  refine zc_i.of (by decide) (Nat.le_of_ble_eq_true rfl) (fun B r τ E hl hr hm => ?_)
  subst hl
  refine zr_sub (lv' := [(0, .long (x0)), (2, .long (x2)), (4, .long (x4))]) [0, 1, 2] rfl ?_
  unfold m_X7_in at hm
  refine zr_lload_n E dX7_in_0 0 rfl ?_
  refine zr_lload_n E dX7_in_1 1 rfl ?_
  refine zr_lcmp E dX7_in_2 ?_
  refine zr_if_lt (tgt := 17) E dX7_in_3 (by decide) (fun c1 => ?_) (fun c1 => ?_)
  · rw [if_pos c1] at hm
    refine zr_iconst (v := 0) E dX7_in_17 (by decide) ?_
    exact zr_iret E hr (by decide) hm dX7_in_18
  · rw [if_neg c1] at hm
    refine zr_lload_n E dX7_in_6 0 rfl ?_
    refine zr_lload E dX7_in_7 2 rfl ?_
    refine zr_lcmp E dX7_in_9 ?_
    refine zr_if_gt (tgt := 17) E dX7_in_10 (by decide) (fun c2 => ?_) (fun c2 => ?_)
    · rw [if_pos c2] at hm
      refine zr_iconst (v := 0) E dX7_in_17 (by decide) ?_
      exact zr_iret E hr (by decide) hm dX7_in_18
    · rw [if_neg c2] at hm
      refine zr_iconst (v := 1) E dX7_in_13 (by decide) ?_
      refine zr_goto (tgt := 18) E dX7_in_14 (by decide) ?_
      exact zr_iret E hr (by decide) hm dX7_in_18
-- X7_held
set_option maxRecDepth 100000 in
set_option maxHeartbeats 4000000 in
theorem c_X7_held (l : Launch) (P : zw_P) (σ : zw_S) (x0 : Int32) : zc_i l P yX7_held cX7_held 1 .int 0 [.int x0] σ (m_X7_held σ x0) := by
  refine zc_i.of (by decide) (Nat.le_of_ble_eq_true rfl) (fun B r τ E hl hr hm => ?_)
  subst hl
  refine zr_sub (lv' := [(0, .int x0)]) [0] rfl ?_
  unfold m_X7_held at hm
  refine zr_iload_n E dX7_held_0 0 rfl ?_
  refine zr_if_ge (tgt := 8) E dX7_held_1 (by decide) (fun c1 => ?_) (fun c1 => ?_)
  · rw [if_pos c1] at hm
    refine zr_iload_n E dX7_held_8 0 rfl ?_
    refine zr_sipush (v := 999) E dX7_held_9 (by decide) ?_
    refine zr_icmp_le (tgt := 21) E dX7_held_12 (by decide) (fun c2 => ?_) (fun c2 => ?_)
    · rw [if_pos c2] at hm
      refine zr_iload_n E dX7_held_21 0 rfl ?_
      exact zr_iret E hr rfl hm dX7_held_22
    · rw [if_neg c2] at hm
      refine zr_sipush (v := 999) E dX7_held_15 (by decide) ?_
      refine zr_goto (tgt := 22) E dX7_held_18 (by decide) ?_
      exact zr_iret E hr rfl hm dX7_held_22
  · rw [if_neg c1] at hm
    refine zr_iconst (v := 0) E dX7_held_4 (by decide) ?_
    refine zr_goto (tgt := 22) E dX7_held_5 (by decide) ?_
    exact zr_iret E hr rfl hm dX7_held_22
-- X7_row
set_option maxRecDepth 100000 in
set_option maxHeartbeats 4000000 in
theorem t_X7_row_2 {B : zw_B} {P : zw_P} {τ : zw_S} (a : Nat) (b : Nat) (ha : zw_ar a = true ∧ zw_ln a = 142) (hb : zw_ar b = true ∧ zw_ln b = 142) (E : zf B P cX7_row RX7 3 0) (hr : B.2.2.2.2.2.2.2.2.1.sig.returnType = none) : ∀ (n : Nat) (σ : zw_S) (x2 : Int32), m_X7_row_2 a b n σ x2 = some τ → zw_G B P (zq_v B P τ) 3 σ 2 [(0, .ref (zw_ad P a)), (1, .ref (zw_ad P b)), (2, .int x2)] [] := by
  intro n
  induction n with
  | zero => intro σ x2 hm; cases hm
  | succ n ih =>
    intro σ x2 hm
    unfold m_X7_row_2 at hm
    refine zr_iload_n E dX7_row_2 2 rfl ?_
    refine zr_sipush (v := 142) E dX7_row_3 (by decide) ?_
    refine zr_icmp_ge (tgt := 21) E dX7_row_6 (by decide) (fun c1 => ?_) (fun c1 => ?_)
    · rw [if_pos c1] at hm
      exact zr_vret E hr hm dX7_row_21
    · rw [if_neg c1] at hm
      refine zr_aload_n E dX7_row_9 1 rfl ?_
      refine zr_iload_n E dX7_row_10 2 rfl ?_
      refine zr_aload_n E dX7_row_11 0 rfl ?_
      refine zr_iload_n E dX7_row_12 2 rfl ?_
      obtain ⟨hv2, v2, ev2, hm⟩ := rd_some hm
      refine zr_iald E ha hv2 ev2 dX7_row_13 ?_
      obtain ⟨hs3, s3, es3, hm⟩ := wt_some hm
      refine zr_iast E hb hs3 es3 dX7_row_14 ?_
      obtain ⟨v4, ev4, hm⟩ := nm_some hm
      refine zr_iinc (j := 2) (lv' := [(2, .int v4), (0, .ref (zw_ad P a)), (1, .ref (zw_ad P b))]) E dX7_row_15 rfl ev4 (by decide) rfl ?_
      refine zr_goto (tgt := 2) E dX7_row_18 (by decide) ?_
      refine zr_sub (lv' := [(0, .ref (zw_ad P a)), (1, .ref (zw_ad P b)), (2, .int v4)]) [1, 2, 0] rfl ?_
      exact ih s3 v4 hm
set_option maxRecDepth 100000 in
set_option maxHeartbeats 4000000 in
theorem c_X7_row (l : Launch) (P : zw_P) (a : Nat) (b : Nat) (ha : zw_ar a = true ∧ zw_ln a = 142) (hb : zw_ar b = true ∧ zw_ln b = 142) (σ : zw_S) : zc_v l P yX7_row cX7_row 3 0 [.ref (zw_ad P a), .ref (zw_ad P b)] σ (m_X7_row a b σ) := by
  refine zc_v.of (by decide) (Nat.le_of_ble_eq_true rfl) (fun B τ E hl hr hm => ?_)
  subst hl
  refine zr_sub (lv' := [(0, .ref (zw_ad P a)), (1, .ref (zw_ad P b))]) [0, 1] rfl ?_
  unfold m_X7_row at hm
  refine zr_iconst (v := 0) E dX7_row_0 (by decide) ?_
  refine zr_istore_n (lv' := [(2, .int 0), (0, .ref (zw_ad P a)), (1, .ref (zw_ad P b))]) E dX7_row_1 (by decide) rfl ?_
  refine zr_sub (lv' := [(0, .ref (zw_ad P a)), (1, .ref (zw_ad P b)), (2, .int 0)]) [1, 2, 0] rfl ?_
  exact t_X7_row_2 a b ha hb E hr 200 σ 0 hm
-- X7_becomes
set_option maxRecDepth 100000 in
set_option maxHeartbeats 4000000 in
theorem c_X7_becomes (l : Launch) (P : zw_P) (σ : zw_S) (x1 : Int32) (x2 : Int32) : zc_i l P yX7_becomes cX7_becomes 4 .int 0 [.ref (zw_ad P 57), .int x1, .int x2] σ (m_X7_becomes σ x1 x2) := by
  refine zc_i.of (by decide) (Nat.le_of_ble_eq_true rfl) (fun B r τ E hl hr hm => ?_)
  subst hl
  refine zr_sub (lv' := [(0, .ref (zw_ad P 57)), (1, .int x1), (2, .int x2)]) [0, 1, 2] rfl ?_
  unfold m_X7_becomes at hm
  refine zr_aload_n E dX7_becomes_0 0 rfl ?_
  refine fg_X7_9 E dX7_becomes_1 ?_
  refine zr_iload_n E dX7_becomes_4 1 rfl ?_
  obtain ⟨hv1, v1, ev1, hm⟩ := rd_some hm
  refine zr_iald E ac_58 hv1 ev1 dX7_becomes_5 ?_
  refine zr_istore_n (lv' := [(3, .int v1), (0, .ref (zw_ad P 57)), (1, .int x1), (2, .int x2)]) E dX7_becomes_6 (by decide) rfl ?_
  refine zr_aload_n E dX7_becomes_7 1 rfl ?_
  refine fg_X7_9 E dX7_becomes_8 ?_
  refine zr_iload_n E dX7_becomes_11 2 rfl ?_
  refine zr_iload_n E dX7_becomes_12 3 rfl ?_
  obtain ⟨hs2, s2, es2, hm⟩ := wt_some hm
  refine zr_iast E ac_58 hs2 es2 dX7_becomes_13 ?_
  refine zr_iload_n E dX7_becomes_14 0 rfl ?_
  exact zr_iret E hr rfl hm dX7_becomes_15
-- X7_isName
set_option maxRecDepth 100000 in
set_option maxHeartbeats 4000000 in
theorem c_X7_isName (l : Launch) (P : zw_P) (σ : zw_S) (x0 : Int32) : zc_i l P yX7_isName cX7_isName 1 .boolean 1 [.int x0] σ (m_X7_isName σ x0) := by
  refine zc_i.of (by decide) (Nat.le_of_ble_eq_true rfl) (fun B r τ E hl hr hm => ?_)
  subst hl
  refine zr_sub (lv' := [(0, .int x0)]) [0] rfl ?_
  unfold m_X7_isName at hm
  refine zr_iload_n E dX7_isName_0 0 rfl ?_
  refine zr_i2l E dX7_isName_1 ?_
  refine zr_lconst (v := 0) E dX7_isName_2 (by decide) ?_
  refine zr_ldc2 E mw_119 dX7_isName_3 ?_
  obtain ⟨r2, s1, os1, hm⟩ := cl_some hm
  refine zr_cSi (st := []) E mw_120 cm_X7_in (c_X7_in B.2.1 P σ x0.toInt64 0 7) os1 ⟨by decide, by decide⟩ rfl rfl (Nat.le_of_ble_eq_true rfl) dX7_isName_6 ?_
  obtain ⟨hz3, hm⟩ := tt_some hm
  exact zr_iret E hr (zz_nar (zz_some hz3)) hm dX7_isName_9
-- X7_isTask
set_option maxRecDepth 100000 in
set_option maxHeartbeats 4000000 in
theorem c_X7_isTask (l : Launch) (P : zw_P) (σ : zw_S) (x1 : Int32) : zc_i l P yX7_isTask cX7_isTask 2 .boolean 1 [.ref (zw_ad P 57), .int x1] σ (m_X7_isTask σ x1) := by
  refine zc_i.of (by decide) (Nat.le_of_ble_eq_true rfl) (fun B r τ E hl hr hm => ?_)
  subst hl
  refine zr_sub (lv' := [(0, .ref (zw_ad P 57)), (1, .int x1)]) [0, 1] rfl ?_
  unfold m_X7_isTask at hm
  refine zr_iload_n E dX7_isTask_0 1 rfl ?_
  refine zr_i2l E dX7_isTask_1 ?_
  refine zr_lconst (v := 0) E dX7_isTask_2 (by decide) ?_
  refine zr_aload_n E dX7_isTask_3 0 rfl ?_
  refine fg_X7_9 E dX7_isTask_4 ?_
  refine zr_iconst (v := 2) E dX7_isTask_7 (by decide) ?_
  obtain ⟨hv1, v1, ev1, hm⟩ := rd_some hm
  refine zr_iald E ac_58 hv1 ev1 dX7_isTask_8 ?_
  refine zr_iconst (v := 1) E dX7_isTask_9 (by decide) ?_
  refine zr_isub E dX7_isTask_10 ?_
  refine zr_i2l E dX7_isTask_11 ?_
  obtain ⟨r3, s2, os2, hm⟩ := cl_some hm
  refine zr_cSi (st := []) E mw_120 cm_X7_in (c_X7_in B.2.1 P σ x1.toInt64 0 ((v1 - 1).toInt64)) os2 ⟨by decide, by decide⟩ rfl rfl (Nat.le_of_ble_eq_true rfl) dX7_isTask_12 ?_
  obtain ⟨hz4, hm⟩ := tt_some hm
  exact zr_iret E hr (zz_nar (zz_some hz4)) hm dX7_isTask_15
-- X7_isPerson
set_option maxRecDepth 100000 in
set_option maxHeartbeats 4000000 in
theorem c_X7_isPerson (l : Launch) (P : zw_P) (σ : zw_S) (x1 : Int32) : zc_i l P yX7_isPerson cX7_isPerson 2 .boolean 1 [.ref (zw_ad P 57), .int x1] σ (m_X7_isPerson σ x1) := by
  refine zc_i.of (by decide) (Nat.le_of_ble_eq_true rfl) (fun B r τ E hl hr hm => ?_)
  subst hl
  refine zr_sub (lv' := [(0, .ref (zw_ad P 57)), (1, .int x1)]) [0, 1] rfl ?_
  unfold m_X7_isPerson at hm
  refine zr_iload_n E dX7_isPerson_0 1 rfl ?_
  refine zr_i2l E dX7_isPerson_1 ?_
  refine zr_lconst (v := 0) E dX7_isPerson_2 (by decide) ?_
  refine zr_aload_n E dX7_isPerson_3 0 rfl ?_
  refine fg_X7_9 E dX7_isPerson_4 ?_
  refine zr_iconst (v := 3) E dX7_isPerson_7 (by decide) ?_
  obtain ⟨hv1, v1, ev1, hm⟩ := rd_some hm
  refine zr_iald E ac_58 hv1 ev1 dX7_isPerson_8 ?_
  refine zr_iconst (v := 1) E dX7_isPerson_9 (by decide) ?_
  refine zr_isub E dX7_isPerson_10 ?_
  refine zr_i2l E dX7_isPerson_11 ?_
  obtain ⟨r3, s2, os2, hm⟩ := cl_some hm
  refine zr_cSi (st := []) E mw_120 cm_X7_in (c_X7_in B.2.1 P σ x1.toInt64 0 ((v1 - 1).toInt64)) os2 ⟨by decide, by decide⟩ rfl rfl (Nat.le_of_ble_eq_true rfl) dX7_isPerson_12 ?_
  obtain ⟨hz4, hm⟩ := tt_some hm
  exact zr_iret E hr (zz_nar (zz_some hz4)) hm dX7_isPerson_15
-- X7_isKind
set_option maxRecDepth 100000 in
set_option maxHeartbeats 4000000 in
theorem c_X7_isKind (l : Launch) (P : zw_P) (σ : zw_S) (x0 : Int32) : zc_i l P yX7_isKind cX7_isKind 1 .boolean 1 [.int x0] σ (m_X7_isKind σ x0) := by
  refine zc_i.of (by decide) (Nat.le_of_ble_eq_true rfl) (fun B r τ E hl hr hm => ?_)
  subst hl
  refine zr_sub (lv' := [(0, .int x0)]) [0] rfl ?_
  unfold m_X7_isKind at hm
  refine zr_iload_n E dX7_isKind_0 0 rfl ?_
  refine zr_i2l E dX7_isKind_1 ?_
  refine zr_lconst (v := 0) E dX7_isKind_2 (by decide) ?_
  refine zr_ldc2 E mw_156 dX7_isKind_3 ?_
  obtain ⟨r2, s1, os1, hm⟩ := cl_some hm
  refine zr_cSi (st := []) E mw_120 cm_X7_in (c_X7_in B.2.1 P σ x0.toInt64 0 6) os1 ⟨by decide, by decide⟩ rfl rfl (Nat.le_of_ble_eq_true rfl) dX7_isKind_6 ?_
  obtain ⟨hz3, hm⟩ := tt_some hm
  exact zr_iret E hr (zz_nar (zz_some hz3)) hm dX7_isKind_9
-- X7_areHands
set_option maxRecDepth 100000 in
set_option maxHeartbeats 4000000 in
theorem c_X7_areHands (l : Launch) (P : zw_P) (σ : zw_S) (x0 : Int32) : zc_i l P yX7_areHands cX7_areHands 1 .boolean 1 [.int x0] σ (m_X7_areHands σ x0) := by
  refine zc_i.of (by decide) (Nat.le_of_ble_eq_true rfl) (fun B r τ E hl hr hm => ?_)
  subst hl
  refine zr_sub (lv' := [(0, .int x0)]) [0] rfl ?_
  unfold m_X7_areHands at hm
  refine zr_iload_n E dX7_areHands_0 0 rfl ?_
  refine zr_i2l E dX7_areHands_1 ?_
  refine zr_lconst (v := 1) E dX7_areHands_2 (by decide) ?_
  refine zr_ldc2 E mw_333 dX7_areHands_3 ?_
  obtain ⟨r2, s1, os1, hm⟩ := cl_some hm
  refine zr_cSi (st := []) E mw_120 cm_X7_in (c_X7_in B.2.1 P σ x0.toInt64 1 9) os1 ⟨by decide, by decide⟩ rfl rfl (Nat.le_of_ble_eq_true rfl) dX7_areHands_6 ?_
  obtain ⟨hz3, hm⟩ := tt_some hm
  exact zr_iret E hr (zz_nar (zz_some hz3)) hm dX7_areHands_9
-- X7_task0
set_option maxRecDepth 100000 in
set_option maxHeartbeats 4000000 in
theorem c_X7_task0 (l : Launch) (P : zw_P) (σ : zw_S) (x1 : Int32) (x2 : Int32) : zc_i l P yX7_task0 cX7_task0 3 .int 0 [.ref (zw_ad P 57), .int x1, .int x2] σ (m_X7_task0 σ x1 x2) := by
  refine zc_i.of (by decide) (Nat.le_of_ble_eq_true rfl) (fun B r τ E hl hr hm => ?_)
  subst hl
  refine zr_sub (lv' := [(0, .ref (zw_ad P 57)), (1, .int x1), (2, .int x2)]) [0, 1, 2] rfl ?_
  unfold m_X7_task0 at hm
  refine zr_aload_n E dX7_task0_0 0 rfl ?_
  refine fg_X7_9 E dX7_task0_1 ?_
  refine zr_bipush (v := 20) E dX7_task0_4 (by decide) ?_
  refine zr_iconst (v := 4) E dX7_task0_6 (by decide) ?_
  refine zr_iload_n E dX7_task0_7 1 rfl ?_
  refine zr_imul E dX7_task0_8 ?_
  refine zr_iadd E dX7_task0_9 ?_
  refine zr_iload_n E dX7_task0_10 2 rfl ?_
  refine zr_iadd E dX7_task0_11 ?_
  obtain ⟨hv1, v1, ev1, hm⟩ := rd_some hm
  refine zr_iald E ac_58 hv1 ev1 dX7_task0_12 ?_
  exact zr_iret E hr rfl hm dX7_task0_13
-- X7_person0
set_option maxRecDepth 100000 in
set_option maxHeartbeats 4000000 in
theorem c_X7_person0 (l : Launch) (P : zw_P) (σ : zw_S) (x1 : Int32) (x2 : Int32) : zc_i l P yX7_person0 cX7_person0 3 .int 0 [.ref (zw_ad P 57), .int x1, .int x2] σ (m_X7_person0 σ x1 x2) := by
  refine zc_i.of (by decide) (Nat.le_of_ble_eq_true rfl) (fun B r τ E hl hr hm => ?_)
  subst hl
  refine zr_sub (lv' := [(0, .ref (zw_ad P 57)), (1, .int x1), (2, .int x2)]) [0, 1, 2] rfl ?_
  unfold m_X7_person0 at hm
  refine zr_aload_n E dX7_person0_0 0 rfl ?_
  refine fg_X7_9 E dX7_person0_1 ?_
  refine zr_bipush (v := 100) E dX7_person0_4 (by decide) ?_
  refine zr_iconst (v := 4) E dX7_person0_6 (by decide) ?_
  refine zr_iload_n E dX7_person0_7 1 rfl ?_
  refine zr_imul E dX7_person0_8 ?_
  refine zr_iadd E dX7_person0_9 ?_
  refine zr_iload_n E dX7_person0_10 2 rfl ?_
  refine zr_iadd E dX7_person0_11 ?_
  obtain ⟨hv1, v1, ev1, hm⟩ := rd_some hm
  refine zr_iald E ac_58 hv1 ev1 dX7_person0_12 ?_
  exact zr_iret E hr rfl hm dX7_person0_13
-- X7_isEnded
set_option maxRecDepth 100000 in
set_option maxHeartbeats 4000000 in
theorem c_X7_isEnded (l : Launch) (P : zw_P) (σ : zw_S) (x1 : Int32) : zc_i l P yX7_isEnded cX7_isEnded 2 .boolean 1 [.ref (zw_ad P 57), .int x1] σ (m_X7_isEnded σ x1) := by
  refine zc_i.of (by decide) (Nat.le_of_ble_eq_true rfl) (fun B r τ E hl hr hm => ?_)
  subst hl
  refine zr_sub (lv' := [(0, .ref (zw_ad P 57)), (1, .int x1)]) [0, 1] rfl ?_
  unfold m_X7_isEnded at hm
  refine zr_aload_n E dX7_isEnded_0 0 rfl ?_
  refine zr_iload_n E dX7_isEnded_1 1 rfl ?_
  refine zr_iconst (v := 2) E dX7_isEnded_2 (by decide) ?_
  obtain ⟨r2, s1, os1, hm⟩ := cl_some hm
  refine zr_cVi (st := []) E mw_199 cm_X7_task0 (c_X7_task0 B.2.1 P σ x1 2) os1 (rc_57 P) ⟨by decide, by decide⟩ rfl rfl (Nat.le_of_ble_eq_true rfl) dX7_isEnded_3 ?_
  refine zr_if_ne (tgt := 13) E dX7_isEnded_6 (by decide) (fun c3 => ?_) (fun c3 => ?_)
  · rw [if_neg c3] at hm
    refine zr_iconst (v := 0) E dX7_isEnded_13 (by decide) ?_
    exact zr_iret E hr (by decide) hm dX7_isEnded_14
  · rw [if_pos c3] at hm
    refine zr_iconst (v := 1) E dX7_isEnded_9 (by decide) ?_
    refine zr_goto (tgt := 14) E dX7_isEnded_10 (by decide) ?_
    exact zr_iret E hr (by decide) hm dX7_isEnded_14
-- X7_bearer
set_option maxRecDepth 100000 in
set_option maxHeartbeats 4000000 in
theorem t_X7_bearer_2 {B : zw_B} {P : zw_P} {r : Int32} {τ : zw_S} (E : zf B P cX7_bearer RX7 3 1) (hr : B.2.2.2.2.2.2.2.2.1.sig.returnType = some .int) : ∀ (n : Nat) (σ : zw_S) (x1 : Int32) (x2 : Int32), m_X7_bearer_2 n σ x1 x2 = some (r, τ) → zw_G B P (zq_i B P r τ) 3 σ 2 [(0, .ref (zw_ad P 57)), (1, .int x1), (2, .int x2)] [] := by
  intro n
  induction n with
  | zero => intro σ x1 x2 hm; cases hm
  | succ n ih =>
    intro σ x1 x2 hm
    unfold m_X7_bearer_2 at hm
    refine zr_iload_n E dX7_bearer_2 2 rfl ?_
    refine zr_aload_n E dX7_bearer_3 0 rfl ?_
    refine fg_X7_9 E dX7_bearer_4 ?_
    refine zr_iconst (v := 3) E dX7_bearer_7 (by decide) ?_
    obtain ⟨hv1, v1, ev1, hm⟩ := rd_some hm
    refine zr_iald E ac_58 hv1 ev1 dX7_bearer_8 ?_
    refine zr_icmp_ge (tgt := 30) E dX7_bearer_9 (by decide) (fun c2 => ?_) (fun c2 => ?_)
    · rw [if_pos c2] at hm
      refine zr_iconst (v := (-1)) E dX7_bearer_30 (by decide) ?_
      exact zr_iret E hr rfl hm dX7_bearer_31
    · rw [if_neg c2] at hm
      refine zr_aload_n E dX7_bearer_12 0 rfl ?_
      refine zr_iload_n E dX7_bearer_13 2 rfl ?_
      refine zr_iconst (v := 0) E dX7_bearer_14 (by decide) ?_
      obtain ⟨r4, s3, os3, hm⟩ := cl_some hm
      refine zr_cVi (st := []) E mw_289 cm_X7_person0 (c_X7_person0 B.2.1 P σ x2 0) os3 (rc_57 P) ⟨by decide, by decide⟩ rfl rfl (Nat.le_of_ble_eq_true rfl) dX7_bearer_15 ?_
      refine zr_iload_n E dX7_bearer_18 1 rfl ?_
      refine zr_icmp_ne (tgt := 24) E dX7_bearer_19 (by decide) (fun c5 => ?_) (fun c5 => ?_)
      · rw [if_neg c5] at hm
        obtain ⟨v6, ev6, hm⟩ := nm_some hm
        refine zr_iinc (j := 2) (lv' := [(2, .int v6), (0, .ref (zw_ad P 57)), (1, .int x1)]) E dX7_bearer_24 rfl ev6 (by decide) rfl ?_
        refine zr_goto (tgt := 2) E dX7_bearer_27 (by decide) ?_
        refine zr_sub (lv' := [(0, .ref (zw_ad P 57)), (1, .int x1), (2, .int v6)]) [1, 2, 0] rfl ?_
        exact ih s3 x1 v6 hm
      · rw [if_pos c5] at hm
        refine zr_iload_n E dX7_bearer_22 2 rfl ?_
        exact zr_iret E hr rfl hm dX7_bearer_23
set_option maxRecDepth 100000 in
set_option maxHeartbeats 4000000 in
theorem c_X7_bearer (l : Launch) (P : zw_P) (σ : zw_S) (x1 : Int32) : zc_i l P yX7_bearer cX7_bearer 3 .int 1 [.ref (zw_ad P 57), .int x1] σ (m_X7_bearer σ x1) := by
  refine zc_i.of (by decide) (Nat.le_of_ble_eq_true rfl) (fun B r τ E hl hr hm => ?_)
  subst hl
  refine zr_sub (lv' := [(0, .ref (zw_ad P 57)), (1, .int x1)]) [0, 1] rfl ?_
  unfold m_X7_bearer at hm
  refine zr_iconst (v := 0) E dX7_bearer_0 (by decide) ?_
  refine zr_istore_n (lv' := [(2, .int 0), (0, .ref (zw_ad P 57)), (1, .int x1)]) E dX7_bearer_1 (by decide) rfl ?_
  refine zr_sub (lv' := [(0, .ref (zw_ad P 57)), (1, .int x1), (2, .int 0)]) [1, 2, 0] rfl ?_
  exact t_X7_bearer_2 E hr 200 σ x1 0 hm
-- X7_worth
set_option maxRecDepth 100000 in
set_option maxHeartbeats 4000000 in
theorem c_X7_worth (l : Launch) (P : zw_P) (σ : zw_S) (x1 : Int32) (x2 : Int32) : zc_i l P yX7_worth cX7_worth 3 .int 2 [.ref (zw_ad P 57), .int x1, .int x2] σ (m_X7_worth σ x1 x2) := by
  refine zc_i.of (by decide) (Nat.le_of_ble_eq_true rfl) (fun B r τ E hl hr hm => ?_)
  subst hl
  refine zr_sub (lv' := [(0, .ref (zw_ad P 57)), (1, .int x1), (2, .int x2)]) [0, 1, 2] rfl ?_
  unfold m_X7_worth at hm
  refine zr_iload_n E dX7_worth_0 1 rfl ?_
  obtain ⟨r2, s1, os1, hm⟩ := cl_some hm
  refine zr_cSi (st := []) E mw_116 cm_X7_isName (c_X7_isName B.2.1 P σ x1) os1 ⟨by decide, by decide⟩ rfl rfl (Nat.le_of_ble_eq_true rfl) dX7_worth_1 ?_
  refine zr_if_eq (tgt := 32) E dX7_worth_4 (by decide) (fun c3 => ?_) (fun c3 => ?_)
  · rw [if_pos c3] at hm
    refine zr_aload_n E dX7_worth_32 0 rfl ?_
    refine zr_ldc E mw_115 dX7_worth_33 ?_
    obtain ⟨r5, s4, os4, hm⟩ := cl_some hm
    refine zr_cVi (st := []) E mw_127 cm_X7_finds (c_X7_finds B.2.1 P s1 (-1000001)) os4 (rc_57 P) ⟨by decide, by decide⟩ rfl rfl (Nat.le_of_ble_eq_true rfl) dX7_worth_35 ?_
    exact zr_iret E hr rfl hm dX7_worth_38
  · rw [if_neg c3] at hm
    refine zr_iload_n E dX7_worth_7 2 rfl ?_
    refine zr_i2l E dX7_worth_8 ?_
    refine zr_lconst (v := 0) E dX7_worth_9 (by decide) ?_
    refine zr_ldc2 E mw_114 dX7_worth_10 ?_
    obtain ⟨r7, s6, os6, hm⟩ := cl_some hm
    refine zr_cSi (st := []) E mw_120 cm_X7_in (c_X7_in B.2.1 P s1 x2.toInt64 0 99) os6 ⟨by decide, by decide⟩ rfl rfl (Nat.le_of_ble_eq_true rfl) dX7_worth_13 ?_
    refine zr_if_eq (tgt := 32) E dX7_worth_16 (by decide) (fun c8 => ?_) (fun c8 => ?_)
    · rw [if_pos c8] at hm
      refine zr_aload_n E dX7_worth_32 0 rfl ?_
      refine zr_ldc E mw_115 dX7_worth_33 ?_
      obtain ⟨r10, s9, os9, hm⟩ := cl_some hm
      refine zr_cVi (st := []) E mw_127 cm_X7_finds (c_X7_finds B.2.1 P s6 (-1000001)) os9 (rc_57 P) ⟨by decide, by decide⟩ rfl rfl (Nat.le_of_ble_eq_true rfl) dX7_worth_35 ?_
      exact zr_iret E hr rfl hm dX7_worth_38
    · rw [if_neg c8] at hm
      refine zr_aload_n E dX7_worth_19 0 rfl ?_
      refine zr_iconst (v := 4) E dX7_worth_20 (by decide) ?_
      refine zr_iconst (v := 2) E dX7_worth_21 (by decide) ?_
      refine zr_iload_n E dX7_worth_22 1 rfl ?_
      refine zr_imul E dX7_worth_23 ?_
      refine zr_iadd E dX7_worth_24 ?_
      refine zr_iload_n E dX7_worth_25 2 rfl ?_
      obtain ⟨r12, s11, os11, hm⟩ := cl_some hm
      refine zr_cVi (st := []) E mw_123 cm_X7_becomes (c_X7_becomes B.2.1 P s6 (4 + (2 * x1)) x2) os11 (rc_57 P) ⟨by decide, by decide⟩ rfl rfl (Nat.le_of_ble_eq_true rfl) dX7_worth_26 ?_
      refine zr_goto (tgt := 38) E dX7_worth_29 (by decide) ?_
      exact zr_iret E hr rfl hm dX7_worth_38
-- X7_comes
set_option maxRecDepth 100000 in
set_option maxHeartbeats 4000000 in
theorem c_X7_comes (l : Launch) (P : zw_P) (σ : zw_S) (x1 : Int32) (x2 : Int32) (x3 : Int32) (x4 : Int32) : zc_v l P yX7_comes cX7_comes 6 0 [.ref (zw_ad P 57), .int x1, .int x2, .int x3, .int x4] σ (m_X7_comes σ x1 x2 x3 x4) := by
  refine zc_v.of (by decide) (Nat.le_of_ble_eq_true rfl) (fun B τ E hl hr hm => ?_)
  subst hl
  refine zr_sub (lv' := [(0, .ref (zw_ad P 57)), (1, .int x1), (2, .int x2), (3, .int x3), (4, .int x4)]) [0, 1, 2, 3, 4] rfl ?_
  unfold m_X7_comes at hm
  refine zr_bipush (v := 20) E dX7_comes_0 (by decide) ?_
  refine zr_iconst (v := 4) E dX7_comes_2 (by decide) ?_
  refine zr_aload_n E dX7_comes_3 0 rfl ?_
  refine fg_X7_9 E dX7_comes_4 ?_
  refine zr_iconst (v := 2) E dX7_comes_7 (by decide) ?_
  obtain ⟨hv1, v1, ev1, hm⟩ := rd_some hm
  refine zr_iald E ac_58 hv1 ev1 dX7_comes_8 ?_
  refine zr_imul E dX7_comes_9 ?_
  refine zr_iadd E dX7_comes_10 ?_
  obtain ⟨v2, ev2, hm⟩ := nm_some hm
  refine zr_top ev2 ?_
  refine zr_istore (lv' := [(5, .int v2), (0, .ref (zw_ad P 57)), (1, .int x1), (2, .int x2), (3, .int x3), (4, .int x4)]) E dX7_comes_11 (by decide) rfl ?_
  refine zr_aload_n E dX7_comes_13 1 rfl ?_
  refine fg_X7_9 E dX7_comes_14 ?_
  refine zr_iload E dX7_comes_17 0 rfl ?_
  refine zr_iload_n E dX7_comes_19 2 rfl ?_
  obtain ⟨hs3, s3, es3, hm⟩ := wt_some hm
  refine zr_iast E ac_58 hs3 es3 dX7_comes_20 ?_
  refine zr_aload_n E dX7_comes_21 1 rfl ?_
  refine fg_X7_9 E dX7_comes_22 ?_
  refine zr_iload E dX7_comes_25 0 rfl ?_
  refine zr_iconst (v := 1) E dX7_comes_27 (by decide) ?_
  refine zr_iadd E dX7_comes_28 ?_
  refine zr_iload_n E dX7_comes_29 3 rfl ?_
  obtain ⟨hs4, s4, es4, hm⟩ := wt_some hm
  refine zr_iast E ac_58 hs4 es4 dX7_comes_30 ?_
  refine zr_aload_n E dX7_comes_31 1 rfl ?_
  refine fg_X7_9 E dX7_comes_32 ?_
  refine zr_iload E dX7_comes_35 0 rfl ?_
  refine zr_iconst (v := 2) E dX7_comes_37 (by decide) ?_
  refine zr_iadd E dX7_comes_38 ?_
  refine zr_iload_n E dX7_comes_39 4 rfl ?_
  obtain ⟨hs5, s5, es5, hm⟩ := wt_some hm
  refine zr_iast E ac_58 hs5 es5 dX7_comes_40 ?_
  refine zr_aload_n E dX7_comes_41 1 rfl ?_
  refine fg_X7_9 E dX7_comes_42 ?_
  refine zr_iload E dX7_comes_45 0 rfl ?_
  refine zr_iconst (v := 3) E dX7_comes_47 (by decide) ?_
  refine zr_iadd E dX7_comes_48 ?_
  refine zr_iload E dX7_comes_49 5 rfl ?_
  obtain ⟨hs6, s6, es6, hm⟩ := wt_some hm
  refine zr_iast E ac_58 hs6 es6 dX7_comes_51 ?_
  refine zr_aload_n E dX7_comes_52 1 rfl ?_
  refine fg_X7_9 E dX7_comes_53 ?_
  refine zr_iconst (v := 2) E dX7_comes_56 (by decide) ?_
  refine zr_dup2 E dX7_comes_57 rfl rfl ?_
  obtain ⟨hv7, v7, ev7, hm⟩ := rd_some hm
  refine zr_iald E ac_58 hv7 ev7 dX7_comes_58 ?_
  refine zr_iconst (v := 1) E dX7_comes_59 (by decide) ?_
  refine zr_iadd E dX7_comes_60 ?_
  obtain ⟨hs8, s8, es8, hm⟩ := wt_some hm
  refine zr_iast E ac_58 hs8 es8 dX7_comes_61 ?_
  exact zr_vret E hr hm dX7_comes_62
-- X7_task
set_option maxRecDepth 100000 in
set_option maxHeartbeats 4000000 in
theorem c_X7_task (l : Launch) (P : zw_P) (σ : zw_S) (x1 : Int32) (x2 : Int32) (x3 : Int32) : zc_i l P yX7_task cX7_task 4 .int 2 [.ref (zw_ad P 57), .int x1, .int x2, .int x3] σ (m_X7_task σ x1 x2 x3) := by
  refine zc_i.of (by decide) (Nat.le_of_ble_eq_true rfl) (fun B r τ E hl hr hm => ?_)
  subst hl
  refine zr_sub (lv' := [(0, .ref (zw_ad P 57)), (1, .int x1), (2, .int x2), (3, .int x3)]) [0, 1, 2, 3] rfl ?_
  unfold m_X7_task at hm
  refine zr_iload_n E dX7_task_0 1 rfl ?_
  obtain ⟨r2, s1, os1, hm⟩ := cl_some hm
  refine zr_cSi (st := []) E mw_153 cm_X7_isKind (c_X7_isKind B.2.1 P σ x1) os1 ⟨by decide, by decide⟩ rfl rfl (Nat.le_of_ble_eq_true rfl) dX7_task_1 ?_
  refine zr_if_eq (tgt := 26) E dX7_task_4 (by decide) (fun c3 => ?_) (fun c3 => ?_)
  · rw [if_pos c3] at hm
    refine zr_aload_n E dX7_task_26 0 rfl ?_
    refine zr_ldc E mw_115 dX7_task_27 ?_
    obtain ⟨r5, s4, os4, hm⟩ := cl_some hm
    refine zr_cVi (st := []) E mw_127 cm_X7_finds (c_X7_finds B.2.1 P s1 (-1000001)) os4 (rc_57 P) ⟨by decide, by decide⟩ rfl rfl (Nat.le_of_ble_eq_true rfl) dX7_task_29 ?_
    exact zr_iret E hr rfl hm dX7_task_32
  · rw [if_neg c3] at hm
    refine zr_iload_n E dX7_task_7 2 rfl ?_
    obtain ⟨r7, s6, os6, hm⟩ := cl_some hm
    refine zr_cSi (st := []) E mw_116 cm_X7_isName (c_X7_isName B.2.1 P s1 x2) os6 ⟨by decide, by decide⟩ rfl rfl (Nat.le_of_ble_eq_true rfl) dX7_task_8 ?_
    refine zr_if_eq (tgt := 26) E dX7_task_11 (by decide) (fun c8 => ?_) (fun c8 => ?_)
    · rw [if_pos c8] at hm
      refine zr_aload_n E dX7_task_26 0 rfl ?_
      refine zr_ldc E mw_115 dX7_task_27 ?_
      obtain ⟨r10, s9, os9, hm⟩ := cl_some hm
      refine zr_cVi (st := []) E mw_127 cm_X7_finds (c_X7_finds B.2.1 P s6 (-1000001)) os9 (rc_57 P) ⟨by decide, by decide⟩ rfl rfl (Nat.le_of_ble_eq_true rfl) dX7_task_29 ?_
      exact zr_iret E hr rfl hm dX7_task_32
    · rw [if_neg c8] at hm
      refine zr_iload_n E dX7_task_14 3 rfl ?_
      refine zr_i2l E dX7_task_15 ?_
      refine zr_lconst (v := 1) E dX7_task_16 (by decide) ?_
      refine zr_ldc2 E mw_151 dX7_task_17 ?_
      obtain ⟨r12, s11, os11, hm⟩ := cl_some hm
      refine zr_cSi (st := []) E mw_120 cm_X7_in (c_X7_in B.2.1 P s6 x3.toInt64 1 999) os11 ⟨by decide, by decide⟩ rfl rfl (Nat.le_of_ble_eq_true rfl) dX7_task_20 ?_
      refine zr_if_ne (tgt := 33) E dX7_task_23 (by decide) (fun c13 => ?_) (fun c13 => ?_)
      · rw [if_neg c13] at hm
        refine zr_aload_n E dX7_task_33 0 rfl ?_
        refine fg_X7_9 E dX7_task_34 ?_
        refine zr_iconst (v := 2) E dX7_task_37 (by decide) ?_
        obtain ⟨hv14, v14, ev14, hm⟩ := rd_some hm
        refine zr_iald E ac_58 hv14 ev14 dX7_task_38 ?_
        refine zr_bipush (v := 20) E dX7_task_39 (by decide) ?_
        refine zr_icmp_ne (tgt := 51) E dX7_task_41 (by decide) (fun c15 => ?_) (fun c15 => ?_)
        · rw [if_neg c15] at hm
          refine zr_aload_n E dX7_task_51 0 rfl ?_
          refine zr_iload_n E dX7_task_52 1 rfl ?_
          refine zr_iload_n E dX7_task_53 2 rfl ?_
          refine zr_iload_n E dX7_task_54 3 rfl ?_
          refine zr_iconst (v := (-1)) E dX7_task_55 (by decide) ?_
          obtain ⟨s16, os16, hm⟩ := cv_some hm
          refine zr_cVv (st := []) E mw_157 cm_X7_comes (c_X7_comes B.2.1 P s11 x1 x2 x3 (-1)) os16 (rc_57 P) ⟨by decide, by decide⟩ rfl rfl (Nat.le_of_ble_eq_true rfl) dX7_task_56 ?_
          refine zr_aload_n E dX7_task_59 0 rfl ?_
          refine fg_X7_9 E dX7_task_60 ?_
          refine zr_iconst (v := 2) E dX7_task_63 (by decide) ?_
          obtain ⟨hv17, v17, ev17, hm⟩ := rd_some hm
          refine zr_iald E ac_58 hv17 ev17 dX7_task_64 ?_
          refine zr_iconst (v := 1) E dX7_task_65 (by decide) ?_
          refine zr_isub E dX7_task_66 ?_
          exact zr_iret E hr rfl hm dX7_task_67
        · rw [if_pos c15] at hm
          refine zr_aload_n E dX7_task_44 0 rfl ?_
          refine zr_ldc E mw_152 dX7_task_45 ?_
          obtain ⟨r19, s18, os18, hm⟩ := cl_some hm
          refine zr_cVi (st := []) E mw_127 cm_X7_finds (c_X7_finds B.2.1 P s11 (-1000002)) os18 (rc_57 P) ⟨by decide, by decide⟩ rfl rfl (Nat.le_of_ble_eq_true rfl) dX7_task_47 ?_
          exact zr_iret E hr rfl hm dX7_task_50
      · rw [if_pos c13] at hm
        refine zr_aload_n E dX7_task_26 0 rfl ?_
        refine zr_ldc E mw_115 dX7_task_27 ?_
        obtain ⟨r21, s20, os20, hm⟩ := cl_some hm
        refine zr_cVi (st := []) E mw_127 cm_X7_finds (c_X7_finds B.2.1 P s11 (-1000001)) os20 (rc_57 P) ⟨by decide, by decide⟩ rfl rfl (Nat.le_of_ble_eq_true rfl) dX7_task_29 ?_
        exact zr_iret E hr rfl hm dX7_task_32
-- X7_grows
set_option maxRecDepth 100000 in
set_option maxHeartbeats 4000000 in
theorem c_X7_grows (l : Launch) (P : zw_P) (σ : zw_S) (x1 : Int32) : zc_i l P yX7_grows cX7_grows 4 .int 2 [.ref (zw_ad P 57), .int x1] σ (m_X7_grows σ x1) := by
  refine zc_i.of (by decide) (Nat.le_of_ble_eq_true rfl) (fun B r τ E hl hr hm => ?_)
  subst hl
  refine zr_sub (lv' := [(0, .ref (zw_ad P 57)), (1, .int x1)]) [0, 1] rfl ?_
  unfold m_X7_grows at hm
  refine zr_aload_n E dX7_grows_0 0 rfl ?_
  refine zr_iload_n E dX7_grows_1 1 rfl ?_
  obtain ⟨r2, s1, os1, hm⟩ := cl_some hm
  refine zr_cVi (st := []) E mw_207 cm_X7_isEnded (c_X7_isEnded B.2.1 P σ x1) os1 (rc_57 P) ⟨by decide, by decide⟩ rfl rfl (Nat.le_of_ble_eq_true rfl) dX7_grows_2 ?_
  refine zr_if_eq (tgt := 10) E dX7_grows_5 (by decide) (fun c3 => ?_) (fun c3 => ?_)
  · rw [if_pos c3] at hm
    refine zr_aload_n E dX7_grows_10 0 rfl ?_
    refine zr_iload_n E dX7_grows_11 1 rfl ?_
    refine zr_iconst (v := 0) E dX7_grows_12 (by decide) ?_
    obtain ⟨r5, s4, os4, hm⟩ := cl_some hm
    refine zr_cVi (st := []) E mw_199 cm_X7_task0 (c_X7_task0 B.2.1 P s1 x1 0) os4 (rc_57 P) ⟨by decide, by decide⟩ rfl rfl (Nat.le_of_ble_eq_true rfl) dX7_grows_13 ?_
    refine zr_istore_n (lv' := [(2, .int r5), (0, .ref (zw_ad P 57)), (1, .int x1)]) E dX7_grows_16 (by decide) rfl ?_
    refine zr_aload_n E dX7_grows_17 1 rfl ?_
    refine zr_iload_n E dX7_grows_18 2 rfl ?_
    refine zr_iconst (v := 2) E dX7_grows_19 (by decide) ?_
    obtain ⟨r7, s6, os6, hm⟩ := cl_some hm
    refine zr_cVi (st := []) E mw_199 cm_X7_task0 (c_X7_task0 B.2.1 P s4 x1 2) os6 (rc_57 P) ⟨by decide, by decide⟩ rfl rfl (Nat.le_of_ble_eq_true rfl) dX7_grows_20 ?_
    refine zr_bipush (v := 10) E dX7_grows_23 (by decide) ?_
    refine zr_idiv E dX7_grows_25 (by decide) ?_
    obtain ⟨v8, ev8, hm⟩ := nm_some hm
    refine zr_top ev8 ?_
    refine zr_istore_n (lv' := [(3, .int v8), (2, .int r5), (0, .ref (zw_ad P 57)), (1, .int x1)]) E dX7_grows_26 (by decide) rfl ?_
    refine zr_iload_n E dX7_grows_27 1 rfl ?_
    refine zr_iconst (v := 2) E dX7_grows_28 (by decide) ?_
    refine zr_icmp_ne (tgt := 36) E dX7_grows_29 (by decide) (fun c9 => ?_) (fun c9 => ?_)
    · rw [if_neg c9] at hm
      refine zr_iload_n E dX7_grows_36 1 rfl ?_
      refine zr_iconst (v := 3) E dX7_grows_37 (by decide) ?_
      refine zr_icmp_ne (tgt := 47) E dX7_grows_38 (by decide) (fun c10 => ?_) (fun c10 => ?_)
      · rw [if_neg c10] at hm
        refine zr_iload_n E dX7_grows_47 1 rfl ?_
        refine zr_bipush (v := 6) E dX7_grows_48 (by decide) ?_
        refine zr_icmp_ne (tgt := 68) E dX7_grows_50 (by decide) (fun c11 => ?_) (fun c11 => ?_)
        · rw [if_neg c11] at hm
          refine zr_iconst (v := 0) E dX7_grows_68 (by decide) ?_
          exact zr_iret E hr rfl hm dX7_grows_69
        · rw [if_pos c11] at hm
          refine zr_aload_n E dX7_grows_53 2 rfl ?_
          refine fg_X7_9 E dX7_grows_54 ?_
          refine zr_iconst (v := 0) E dX7_grows_57 (by decide) ?_
          obtain ⟨hv12, v12, ev12, hm⟩ := rd_some hm
          refine zr_iald E ac_58 hv12 ev12 dX7_grows_58 ?_
          refine zr_iconst (v := 2) E dX7_grows_59 (by decide) ?_
          refine zr_irem E dX7_grows_60 (by decide) ?_
          refine zr_if_ne (tgt := 68) E dX7_grows_61 (by decide) (fun c13 => ?_) (fun c13 => ?_)
          · rw [if_neg c13] at hm
            refine zr_iconst (v := 0) E dX7_grows_68 (by decide) ?_
            exact zr_iret E hr rfl hm dX7_grows_69
          · rw [if_pos c13] at hm
            refine zr_iconst (v := 1) E dX7_grows_64 (by decide) ?_
            refine zr_goto (tgt := 69) E dX7_grows_65 (by decide) ?_
            exact zr_iret E hr rfl hm dX7_grows_69
      · rw [if_pos c10] at hm
        refine zr_iload_n E dX7_grows_41 0 rfl ?_
        refine zr_iconst (v := 1) E dX7_grows_42 (by decide) ?_
        refine zr_iadd E dX7_grows_43 ?_
        refine zr_goto (tgt := 69) E dX7_grows_44 (by decide) ?_
        exact zr_iret E hr rfl hm dX7_grows_69
    · rw [if_pos c9] at hm
      refine zr_iload_n E dX7_grows_32 0 rfl ?_
      refine zr_goto (tgt := 69) E dX7_grows_33 (by decide) ?_
      exact zr_iret E hr rfl hm dX7_grows_69
  · rw [if_neg c3] at hm
    refine zr_iconst (v := 0) E dX7_grows_8 (by decide) ?_
    exact zr_iret E hr rfl hm dX7_grows_9
-- X7_waitsFor
set_option maxRecDepth 100000 in
set_option maxHeartbeats 4000000 in
theorem c_X7_waitsFor (l : Launch) (P : zw_P) (σ : zw_S) (x1 : Int32) : zc_i l P yX7_waitsFor cX7_waitsFor 3 .int 2 [.ref (zw_ad P 57), .int x1] σ (m_X7_waitsFor σ x1) := by
  refine zc_i.of (by decide) (Nat.le_of_ble_eq_true rfl) (fun B r τ E hl hr hm => ?_)
  subst hl
  refine zr_sub (lv' := [(0, .ref (zw_ad P 57)), (1, .int x1)]) [0, 1] rfl ?_
  unfold m_X7_waitsFor at hm
  refine zr_aload_n E dX7_waitsFor_0 0 rfl ?_
  refine zr_iload_n E dX7_waitsFor_1 1 rfl ?_
  refine zr_iconst (v := 3) E dX7_waitsFor_2 (by decide) ?_
  obtain ⟨r2, s1, os1, hm⟩ := cl_some hm
  refine zr_cVi (st := []) E mw_199 cm_X7_task0 (c_X7_task0 B.2.1 P σ x1 3) os1 (rc_57 P) ⟨by decide, by decide⟩ rfl rfl (Nat.le_of_ble_eq_true rfl) dX7_waitsFor_3 ?_
  refine zr_istore_n (lv' := [(2, .int r2), (0, .ref (zw_ad P 57)), (1, .int x1)]) E dX7_waitsFor_6 (by decide) rfl ?_
  refine zr_aload_n E dX7_waitsFor_7 1 rfl ?_
  refine zr_iload_n E dX7_waitsFor_8 2 rfl ?_
  obtain ⟨r4, s3, os3, hm⟩ := cl_some hm
  refine zr_cVi (st := []) E mw_207 cm_X7_isEnded (c_X7_isEnded B.2.1 P s1 x1) os3 (rc_57 P) ⟨by decide, by decide⟩ rfl rfl (Nat.le_of_ble_eq_true rfl) dX7_waitsFor_9 ?_
  refine zr_if_ne (tgt := 27) E dX7_waitsFor_12 (by decide) (fun c5 => ?_) (fun c5 => ?_)
  · rw [if_neg c5] at hm
    refine zr_iconst (v := (-1)) E dX7_waitsFor_27 (by decide) ?_
    refine zr_goto (tgt := 32) E dX7_waitsFor_28 (by decide) ?_
    exact zr_iret E hr rfl hm dX7_waitsFor_32
  · rw [if_pos c5] at hm
    refine zr_iload_n E dX7_waitsFor_15 0 rfl ?_
    refine zr_if_lt (tgt := 27) E dX7_waitsFor_16 (by decide) (fun c6 => ?_) (fun c6 => ?_)
    · rw [if_pos c6] at hm
      refine zr_iconst (v := (-1)) E dX7_waitsFor_27 (by decide) ?_
      refine zr_goto (tgt := 32) E dX7_waitsFor_28 (by decide) ?_
      exact zr_iret E hr rfl hm dX7_waitsFor_32
    · rw [if_neg c6] at hm
      refine zr_aload_n E dX7_waitsFor_19 1 rfl ?_
      refine zr_iload_n E dX7_waitsFor_20 0 rfl ?_
      obtain ⟨r8, s7, os7, hm⟩ := cl_some hm
      refine zr_cVi (st := []) E mw_207 cm_X7_isEnded (c_X7_isEnded B.2.1 P s3 r2) os7 (rc_57 P) ⟨by decide, by decide⟩ rfl rfl (Nat.le_of_ble_eq_true rfl) dX7_waitsFor_21 ?_
      refine zr_if_eq (tgt := 31) E dX7_waitsFor_24 (by decide) (fun c9 => ?_) (fun c9 => ?_)
      · rw [if_pos c9] at hm
        refine zr_iload_n E dX7_waitsFor_31 0 rfl ?_
        exact zr_iret E hr rfl hm dX7_waitsFor_32
      · rw [if_neg c9] at hm
        refine zr_iconst (v := (-1)) E dX7_waitsFor_27 (by decide) ?_
        refine zr_goto (tgt := 32) E dX7_waitsFor_28 (by decide) ?_
        exact zr_iret E hr rfl hm dX7_waitsFor_32
-- X7_comesTo
set_option maxRecDepth 100000 in
set_option maxHeartbeats 4000000 in
theorem t_X7_comesTo_5 {B : zw_B} {P : zw_P} {r : Int32} {τ : zw_S} (E : zf B P cX7_comesTo RX7 5 3) (hr : B.2.2.2.2.2.2.2.2.1.sig.returnType = some .boolean) : ∀ (n : Nat) (σ : zw_S) (x2 : Int32) (x3 : Int32) (x4 : Int32), m_X7_comesTo_5 n σ x2 x3 x4 = some (r, τ) → zw_G B P (zq_i B P r τ) 5 σ 5 [(0, .ref (zw_ad P 57)), (2, .int x2), (3, .int x3), (4, .int x4)] [] := by
  intro n
  induction n with
  | zero => intro σ x2 x3 x4 hm; cases hm
  | succ n ih =>
    intro σ x2 x3 x4 hm
    unfold m_X7_comesTo_5 at hm
    refine zr_iload E dX7_comesTo_5 3 rfl ?_
    refine zr_bipush (v := 20) E dX7_comesTo_7 (by decide) ?_
    refine zr_icmp_ge (tgt := 35) E dX7_comesTo_9 (by decide) (fun c1 => ?_) (fun c1 => ?_)
    · rw [if_pos c1] at hm
      refine zr_iconst (v := 0) E dX7_comesTo_35 (by decide) ?_
      exact zr_iret E hr (by decide) hm dX7_comesTo_36
    · rw [if_neg c1] at hm
      refine zr_iload_n E dX7_comesTo_12 2 rfl ?_
      refine zr_if_lt (tgt := 35) E dX7_comesTo_13 (by decide) (fun c2 => ?_) (fun c2 => ?_)
      · rw [if_pos c2] at hm
        refine zr_iconst (v := 0) E dX7_comesTo_35 (by decide) ?_
        exact zr_iret E hr (by decide) hm dX7_comesTo_36
      · rw [if_neg c2] at hm
        refine zr_aload_n E dX7_comesTo_16 0 rfl ?_
        refine zr_iload_n E dX7_comesTo_17 2 rfl ?_
        obtain ⟨r4, s3, os3, hm⟩ := cl_some hm
        refine zr_cVi (st := []) E mw_215 cm_X7_waitsFor (c_X7_waitsFor B.2.1 P σ x3) os3 (rc_57 P) ⟨by decide, by decide⟩ rfl rfl (Nat.le_of_ble_eq_true rfl) dX7_comesTo_18 ?_
        refine zr_istore_n (lv' := [(3, .int r4), (0, .ref (zw_ad P 57)), (2, .int x2), (4, .int x4)]) E dX7_comesTo_21 (by decide) rfl ?_
        refine zr_iload_n E dX7_comesTo_22 0 rfl ?_
        refine zr_iload_n E dX7_comesTo_23 2 rfl ?_
        refine zr_icmp_ne (tgt := 29) E dX7_comesTo_24 (by decide) (fun c5 => ?_) (fun c5 => ?_)
        · rw [if_neg c5] at hm
          obtain ⟨v6, ev6, hm⟩ := nm_some hm
          refine zr_iinc (j := 3) (lv' := [(4, .int v6), (3, .int r4), (0, .ref (zw_ad P 57)), (2, .int x2)]) E dX7_comesTo_29 rfl ev6 (by decide) rfl ?_
          refine zr_goto (tgt := 5) E dX7_comesTo_32 (by decide) ?_
          refine zr_sub (lv' := [(0, .ref (zw_ad P 57)), (2, .int x2), (3, .int r4), (4, .int v6)]) [2, 3, 1, 0] rfl ?_
          exact ih s3 x2 r4 v6 hm
        · rw [if_pos c5] at hm
          refine zr_iconst (v := 1) E dX7_comesTo_27 (by decide) ?_
          exact zr_iret E hr (by decide) hm dX7_comesTo_28
set_option maxRecDepth 100000 in
set_option maxHeartbeats 4000000 in
theorem c_X7_comesTo (l : Launch) (P : zw_P) (σ : zw_S) (x1 : Int32) (x2 : Int32) : zc_i l P yX7_comesTo cX7_comesTo 5 .boolean 3 [.ref (zw_ad P 57), .int x1, .int x2] σ (m_X7_comesTo σ x1 x2) := by
  refine zc_i.of (by decide) (Nat.le_of_ble_eq_true rfl) (fun B r τ E hl hr hm => ?_)
  subst hl
  refine zr_sub (lv' := [(0, .ref (zw_ad P 57)), (1, .int x1), (2, .int x2)]) [0, 1, 2] rfl ?_
  unfold m_X7_comesTo at hm
  refine zr_iload_n E dX7_comesTo_0 1 rfl ?_
  refine zr_istore_n (lv' := [(3, .int x1), (0, .ref (zw_ad P 57)), (1, .int x1), (2, .int x2)]) E dX7_comesTo_1 (by decide) rfl ?_
  refine zr_iconst (v := 0) E dX7_comesTo_2 (by decide) ?_
  refine zr_istore (lv' := [(4, .int 0), (3, .int x1), (0, .ref (zw_ad P 57)), (1, .int x1), (2, .int x2)]) E dX7_comesTo_3 (by decide) rfl ?_
  refine zr_sub (lv' := [(0, .ref (zw_ad P 57)), (2, .int x2), (3, .int x1), (4, .int 0)]) [2, 4, 1, 0] rfl ?_
  exact t_X7_comesTo_5 E hr 200 σ x2 x1 0 hm
-- X7_taskOf
set_option maxRecDepth 100000 in
set_option maxHeartbeats 4000000 in
theorem c_X7_taskOf (l : Launch) (P : zw_P) (σ : zw_S) (x1 : Int32) (x2 : Int32) : zc_i l P yX7_taskOf cX7_taskOf 3 .int 4 [.ref (zw_ad P 57), .int x1, .int x2] σ (m_X7_taskOf σ x1 x2) := by
  refine zc_i.of (by decide) (Nat.le_of_ble_eq_true rfl) (fun B r τ E hl hr hm => ?_)
  subst hl
  refine zr_sub (lv' := [(0, .ref (zw_ad P 57)), (1, .int x1), (2, .int x2)]) [0, 1, 2] rfl ?_
  unfold m_X7_taskOf at hm
  refine zr_aload_n E dX7_taskOf_0 0 rfl ?_
  refine zr_iload_n E dX7_taskOf_1 1 rfl ?_
  obtain ⟨r2, s1, os1, hm⟩ := cl_some hm
  refine zr_cVi (st := []) E mw_195 cm_X7_isTask (c_X7_isTask B.2.1 P σ x1) os1 (rc_57 P) ⟨by decide, by decide⟩ rfl rfl (Nat.le_of_ble_eq_true rfl) dX7_taskOf_2 ?_
  refine zr_if_eq (tgt := 20) E dX7_taskOf_5 (by decide) (fun c3 => ?_) (fun c3 => ?_)
  · rw [if_pos c3] at hm
    refine zr_aload_n E dX7_taskOf_20 0 rfl ?_
    refine zr_ldc E mw_115 dX7_taskOf_21 ?_
    obtain ⟨r5, s4, os4, hm⟩ := cl_some hm
    refine zr_cVi (st := []) E mw_127 cm_X7_finds (c_X7_finds B.2.1 P s1 (-1000001)) os4 (rc_57 P) ⟨by decide, by decide⟩ rfl rfl (Nat.le_of_ble_eq_true rfl) dX7_taskOf_23 ?_
    exact zr_iret E hr rfl hm dX7_taskOf_26
  · rw [if_neg c3] at hm
    refine zr_iload_n E dX7_taskOf_8 2 rfl ?_
    refine zr_i2l E dX7_taskOf_9 ?_
    refine zr_lconst (v := 0) E dX7_taskOf_10 (by decide) ?_
    refine zr_ldc2 E mw_194 dX7_taskOf_11 ?_
    obtain ⟨r7, s6, os6, hm⟩ := cl_some hm
    refine zr_cSi (st := []) E mw_120 cm_X7_in (c_X7_in B.2.1 P s1 x2.toInt64 0 5) os6 ⟨by decide, by decide⟩ rfl rfl (Nat.le_of_ble_eq_true rfl) dX7_taskOf_14 ?_
    refine zr_if_ne (tgt := 27) E dX7_taskOf_17 (by decide) (fun c8 => ?_) (fun c8 => ?_)
    · rw [if_neg c8] at hm
      refine zr_iload_n E dX7_taskOf_27 2 rfl ?_
      refine zr_iconst (v := 4) E dX7_taskOf_28 (by decide) ?_
      refine zr_icmp_ge (tgt := 41) E dX7_taskOf_29 (by decide) (fun c9 => ?_) (fun c9 => ?_)
      · rw [if_pos c9] at hm
        refine zr_iload_n E dX7_taskOf_41 2 rfl ?_
        refine zr_iconst (v := 4) E dX7_taskOf_42 (by decide) ?_
        refine zr_icmp_ne (tgt := 54) E dX7_taskOf_43 (by decide) (fun c10 => ?_) (fun c10 => ?_)
        · rw [if_neg c10] at hm
          refine zr_aload_n E dX7_taskOf_54 0 rfl ?_
          refine zr_iload_n E dX7_taskOf_55 1 rfl ?_
          refine zr_iload_n E dX7_taskOf_56 1 rfl ?_
          obtain ⟨r12, s11, os11, hm⟩ := cl_some hm
          refine zr_cVi (st := []) E mw_211 cm_X7_comesTo (c_X7_comesTo B.2.1 P s6 x1 x1) os11 (rc_57 P) ⟨by decide, by decide⟩ rfl rfl (Nat.le_of_ble_eq_true rfl) dX7_taskOf_57 ?_
          refine zr_if_eq (tgt := 67) E dX7_taskOf_60 (by decide) (fun c13 => ?_) (fun c13 => ?_)
          · rw [if_pos c13] at hm
            refine zr_iconst (v := 0) E dX7_taskOf_67 (by decide) ?_
            exact zr_iret E hr rfl hm dX7_taskOf_68
          · rw [if_neg c13] at hm
            refine zr_iconst (v := 1) E dX7_taskOf_63 (by decide) ?_
            refine zr_goto (tgt := 68) E dX7_taskOf_64 (by decide) ?_
            exact zr_iret E hr rfl hm dX7_taskOf_68
        · rw [if_pos c10] at hm
          refine zr_aload_n E dX7_taskOf_46 0 rfl ?_
          refine zr_iload_n E dX7_taskOf_47 1 rfl ?_
          obtain ⟨r15, s14, os14, hm⟩ := cl_some hm
          refine zr_cVi (st := []) E mw_203 cm_X7_grows (c_X7_grows B.2.1 P s6 x1) os14 (rc_57 P) ⟨by decide, by decide⟩ rfl rfl (Nat.le_of_ble_eq_true rfl) dX7_taskOf_48 ?_
          refine zr_goto (tgt := 68) E dX7_taskOf_51 (by decide) ?_
          exact zr_iret E hr rfl hm dX7_taskOf_68
      · rw [if_neg c9] at hm
        refine zr_aload_n E dX7_taskOf_32 0 rfl ?_
        refine zr_iload_n E dX7_taskOf_33 1 rfl ?_
        refine zr_iload_n E dX7_taskOf_34 2 rfl ?_
        obtain ⟨r17, s16, os16, hm⟩ := cl_some hm
        refine zr_cVi (st := []) E mw_199 cm_X7_task0 (c_X7_task0 B.2.1 P s6 x1 x2) os16 (rc_57 P) ⟨by decide, by decide⟩ rfl rfl (Nat.le_of_ble_eq_true rfl) dX7_taskOf_35 ?_
        refine zr_goto (tgt := 68) E dX7_taskOf_38 (by decide) ?_
        exact zr_iret E hr rfl hm dX7_taskOf_68
    · rw [if_pos c8] at hm
      refine zr_aload_n E dX7_taskOf_20 0 rfl ?_
      refine zr_ldc E mw_115 dX7_taskOf_21 ?_
      obtain ⟨r19, s18, os18, hm⟩ := cl_some hm
      refine zr_cVi (st := []) E mw_127 cm_X7_finds (c_X7_finds B.2.1 P s6 (-1000001)) os18 (rc_57 P) ⟨by decide, by decide⟩ rfl rfl (Nat.le_of_ble_eq_true rfl) dX7_taskOf_23 ?_
      exact zr_iret E hr rfl hm dX7_taskOf_26
-- X7_turn
set_option maxRecDepth 100000 in
set_option maxHeartbeats 4000000 in
theorem c_X7_turn (l : Launch) (P : zw_P) (σ : zw_S) (x1 : Int32) (x2 : Int32) : zc_i l P yX7_turn cX7_turn 3 .int 2 [.ref (zw_ad P 57), .int x1, .int x2] σ (m_X7_turn σ x1 x2) := by
  refine zc_i.of (by decide) (Nat.le_of_ble_eq_true rfl) (fun B r τ E hl hr hm => ?_)
  subst hl
  refine zr_sub (lv' := [(0, .ref (zw_ad P 57)), (1, .int x1), (2, .int x2)]) [0, 1, 2] rfl ?_
  unfold m_X7_turn at hm
  refine zr_aload_n E dX7_turn_0 0 rfl ?_
  refine zr_iload_n E dX7_turn_1 1 rfl ?_
  obtain ⟨r2, s1, os1, hm⟩ := cl_some hm
  refine zr_cVi (st := []) E mw_195 cm_X7_isTask (c_X7_isTask B.2.1 P σ x1) os1 (rc_57 P) ⟨by decide, by decide⟩ rfl rfl (Nat.le_of_ble_eq_true rfl) dX7_turn_2 ?_
  refine zr_if_eq (tgt := 29) E dX7_turn_5 (by decide) (fun c3 => ?_) (fun c3 => ?_)
  · rw [if_pos c3] at hm
    refine zr_aload_n E dX7_turn_29 0 rfl ?_
    refine zr_ldc E mw_115 dX7_turn_30 ?_
    obtain ⟨r5, s4, os4, hm⟩ := cl_some hm
    refine zr_cVi (st := []) E mw_127 cm_X7_finds (c_X7_finds B.2.1 P s1 (-1000001)) os4 (rc_57 P) ⟨by decide, by decide⟩ rfl rfl (Nat.le_of_ble_eq_true rfl) dX7_turn_32 ?_
    exact zr_iret E hr rfl hm dX7_turn_35
  · rw [if_neg c3] at hm
    refine zr_iload_n E dX7_turn_8 2 rfl ?_
    obtain ⟨r7, s6, os6, hm⟩ := cl_some hm
    refine zr_cSi (st := []) E mw_153 cm_X7_isKind (c_X7_isKind B.2.1 P s1 x2) os6 ⟨by decide, by decide⟩ rfl rfl (Nat.le_of_ble_eq_true rfl) dX7_turn_9 ?_
    refine zr_if_eq (tgt := 29) E dX7_turn_12 (by decide) (fun c8 => ?_) (fun c8 => ?_)
    · rw [if_pos c8] at hm
      refine zr_aload_n E dX7_turn_29 0 rfl ?_
      refine zr_ldc E mw_115 dX7_turn_30 ?_
      obtain ⟨r10, s9, os9, hm⟩ := cl_some hm
      refine zr_cVi (st := []) E mw_127 cm_X7_finds (c_X7_finds B.2.1 P s6 (-1000001)) os9 (rc_57 P) ⟨by decide, by decide⟩ rfl rfl (Nat.le_of_ble_eq_true rfl) dX7_turn_32 ?_
      exact zr_iret E hr rfl hm dX7_turn_35
    · rw [if_neg c8] at hm
      refine zr_aload_n E dX7_turn_15 0 rfl ?_
      refine zr_bipush (v := 20) E dX7_turn_16 (by decide) ?_
      refine zr_iconst (v := 4) E dX7_turn_18 (by decide) ?_
      refine zr_iload_n E dX7_turn_19 1 rfl ?_
      refine zr_imul E dX7_turn_20 ?_
      refine zr_iadd E dX7_turn_21 ?_
      refine zr_iload_n E dX7_turn_22 2 rfl ?_
      obtain ⟨r12, s11, os11, hm⟩ := cl_some hm
      refine zr_cVi (st := []) E mw_123 cm_X7_becomes (c_X7_becomes B.2.1 P s6 (20 + (4 * x1)) x2) os11 (rc_57 P) ⟨by decide, by decide⟩ rfl rfl (Nat.le_of_ble_eq_true rfl) dX7_turn_23 ?_
      refine zr_goto (tgt := 35) E dX7_turn_26 (by decide) ?_
      exact zr_iret E hr rfl hm dX7_turn_35
-- X7_needs
set_option maxRecDepth 100000 in
set_option maxHeartbeats 4000000 in
theorem t_X7_needs_31 {B : zw_B} {P : zw_P} {r : Int32} {τ : zw_S} (E : zf B P cX7_needs RX7 4 2) (hr : B.2.2.2.2.2.2.2.2.1.sig.returnType = some .int) (σ : zw_S) (x1 : Int32) (x2 : Int32) (y0 : Int32) (hm : m_X7_needs_31 σ x1 x2 y0 = some (r, τ)) : zw_G B P (zq_i B P r τ) 4 σ 31 [(0, .ref (zw_ad P 57)), (1, .int x1), (2, .int x2)] [.int y0] := by
  unfold m_X7_needs_31 at hm
  refine zr_istore_n (lv' := [(3, .int y0), (0, .ref (zw_ad P 57)), (1, .int x1), (2, .int x2)]) E dX7_needs_31 (by decide) rfl ?_
  refine zr_iload_n E dX7_needs_32 0 rfl ?_
  refine zr_if_eq (tgt := 52) E dX7_needs_33 (by decide) (fun c1 => ?_) (fun c1 => ?_)
  · rw [if_pos c1] at hm
    refine zr_aload_n E dX7_needs_52 1 rfl ?_
    refine zr_ldc E mw_115 dX7_needs_53 ?_
    obtain ⟨r3, s2, os2, hm⟩ := cl_some hm
    refine zr_cVi (st := []) E mw_127 cm_X7_finds (c_X7_finds B.2.1 P σ (-1000001)) os2 (rc_57 P) ⟨by decide, by decide⟩ rfl rfl (Nat.le_of_ble_eq_true rfl) dX7_needs_55 ?_
    exact zr_iret E hr rfl hm dX7_needs_58
  · rw [if_neg c1] at hm
    refine zr_aload_n E dX7_needs_36 1 rfl ?_
    refine zr_bipush (v := 20) E dX7_needs_37 (by decide) ?_
    refine zr_iconst (v := 4) E dX7_needs_39 (by decide) ?_
    refine zr_iload_n E dX7_needs_40 2 rfl ?_
    refine zr_imul E dX7_needs_41 ?_
    refine zr_iadd E dX7_needs_42 ?_
    refine zr_iconst (v := 3) E dX7_needs_43 (by decide) ?_
    refine zr_iadd E dX7_needs_44 ?_
    refine zr_iload_n E dX7_needs_45 3 rfl ?_
    obtain ⟨r5, s4, os4, hm⟩ := cl_some hm
    refine zr_cVi (st := []) E mw_123 cm_X7_becomes (c_X7_becomes B.2.1 P σ ((20 + (4 * x1)) + 3) x2) os4 (rc_57 P) ⟨by decide, by decide⟩ rfl rfl (Nat.le_of_ble_eq_true rfl) dX7_needs_46 ?_
    refine zr_goto (tgt := 58) E dX7_needs_49 (by decide) ?_
    exact zr_iret E hr rfl hm dX7_needs_58
set_option maxRecDepth 100000 in
set_option maxHeartbeats 4000000 in
theorem c_X7_needs (l : Launch) (P : zw_P) (σ : zw_S) (x1 : Int32) (x2 : Int32) : zc_i l P yX7_needs cX7_needs 4 .int 2 [.ref (zw_ad P 57), .int x1, .int x2] σ (m_X7_needs σ x1 x2) := by
  refine zc_i.of (by decide) (Nat.le_of_ble_eq_true rfl) (fun B r τ E hl hr hm => ?_)
  subst hl
  refine zr_sub (lv' := [(0, .ref (zw_ad P 57)), (1, .int x1), (2, .int x2)]) [0, 1, 2] rfl ?_
  unfold m_X7_needs at hm
  refine zr_aload_n E dX7_needs_0 0 rfl ?_
  refine zr_iload_n E dX7_needs_1 1 rfl ?_
  obtain ⟨r2, s1, os1, hm⟩ := cl_some hm
  refine zr_cVi (st := []) E mw_195 cm_X7_isTask (c_X7_isTask B.2.1 P σ x1) os1 (rc_57 P) ⟨by decide, by decide⟩ rfl rfl (Nat.le_of_ble_eq_true rfl) dX7_needs_2 ?_
  refine zr_if_eq (tgt := 30) E dX7_needs_5 (by decide) (fun c3 => ?_) (fun c3 => ?_)
  · rw [if_pos c3] at hm
    refine zr_iconst (v := 0) E dX7_needs_30 (by decide) ?_
    refine zr_sub (lv' := [(0, .ref (zw_ad P 57)), (1, .int x1), (2, .int x2)]) [0, 1, 2] rfl ?_
    exact t_X7_needs_31 E hr s1 x1 x2 0 hm
  · rw [if_neg c3] at hm
    refine zr_iload_n E dX7_needs_8 2 rfl ?_
    refine zr_iconst (v := (-1)) E dX7_needs_9 (by decide) ?_
    refine zr_icmp_eq (tgt := 26) E dX7_needs_10 (by decide) (fun c4 => ?_) (fun c4 => ?_)
    · rw [if_pos c4] at hm
      refine zr_iconst (v := 1) E dX7_needs_26 (by decide) ?_
      refine zr_goto (tgt := 31) E dX7_needs_27 (by decide) ?_
      refine zr_sub (lv' := [(0, .ref (zw_ad P 57)), (1, .int x1), (2, .int x2)]) [0, 1, 2] rfl ?_
      exact t_X7_needs_31 E hr s1 x1 x2 1 hm
    · rw [if_neg c4] at hm
      refine zr_aload_n E dX7_needs_13 0 rfl ?_
      refine zr_iload_n E dX7_needs_14 2 rfl ?_
      obtain ⟨r6, s5, os5, hm⟩ := cl_some hm
      refine zr_cVi (st := []) E mw_195 cm_X7_isTask (c_X7_isTask B.2.1 P s1 x2) os5 (rc_57 P) ⟨by decide, by decide⟩ rfl rfl (Nat.le_of_ble_eq_true rfl) dX7_needs_15 ?_
      refine zr_if_eq (tgt := 30) E dX7_needs_18 (by decide) (fun c7 => ?_) (fun c7 => ?_)
      · rw [if_pos c7] at hm
        refine zr_iconst (v := 0) E dX7_needs_30 (by decide) ?_
        refine zr_sub (lv' := [(0, .ref (zw_ad P 57)), (1, .int x1), (2, .int x2)]) [0, 1, 2] rfl ?_
        exact t_X7_needs_31 E hr s5 x1 x2 0 hm
      · rw [if_neg c7] at hm
        refine zr_iload_n E dX7_needs_21 2 rfl ?_
        refine zr_iload_n E dX7_needs_22 1 rfl ?_
        refine zr_icmp_eq (tgt := 30) E dX7_needs_23 (by decide) (fun c8 => ?_) (fun c8 => ?_)
        · rw [if_pos c8] at hm
          refine zr_iconst (v := 0) E dX7_needs_30 (by decide) ?_
          refine zr_sub (lv' := [(0, .ref (zw_ad P 57)), (1, .int x1), (2, .int x2)]) [0, 1, 2] rfl ?_
          exact t_X7_needs_31 E hr s5 x1 x2 0 hm
        · rw [if_neg c8] at hm
          refine zr_iconst (v := 1) E dX7_needs_26 (by decide) ?_
          refine zr_goto (tgt := 31) E dX7_needs_27 (by decide) ?_
          refine zr_sub (lv' := [(0, .ref (zw_ad P 57)), (1, .int x1), (2, .int x2)]) [0, 1, 2] rfl ?_
          exact t_X7_needs_31 E hr s5 x1 x2 1 hm
-- X7_strike
set_option maxRecDepth 100000 in
set_option maxHeartbeats 4000000 in
theorem c_X7_strike (l : Launch) (P : zw_P) (σ : zw_S) (x1 : Int32) : zc_i l P yX7_strike cX7_strike 2 .int 2 [.ref (zw_ad P 57), .int x1] σ (m_X7_strike σ x1) := by
  refine zc_i.of (by decide) (Nat.le_of_ble_eq_true rfl) (fun B r τ E hl hr hm => ?_)
  subst hl
  refine zr_sub (lv' := [(0, .ref (zw_ad P 57)), (1, .int x1)]) [0, 1] rfl ?_
  unfold m_X7_strike at hm
  refine zr_aload_n E dX7_strike_0 0 rfl ?_
  refine zr_iload_n E dX7_strike_1 1 rfl ?_
  obtain ⟨r2, s1, os1, hm⟩ := cl_some hm
  refine zr_cVi (st := []) E mw_195 cm_X7_isTask (c_X7_isTask B.2.1 P σ x1) os1 (rc_57 P) ⟨by decide, by decide⟩ rfl rfl (Nat.le_of_ble_eq_true rfl) dX7_strike_2 ?_
  refine zr_if_eq (tgt := 24) E dX7_strike_5 (by decide) (fun c3 => ?_) (fun c3 => ?_)
  · rw [if_pos c3] at hm
    refine zr_aload_n E dX7_strike_24 0 rfl ?_
    refine zr_ldc E mw_115 dX7_strike_25 ?_
    obtain ⟨r5, s4, os4, hm⟩ := cl_some hm
    refine zr_cVi (st := []) E mw_127 cm_X7_finds (c_X7_finds B.2.1 P s1 (-1000001)) os4 (rc_57 P) ⟨by decide, by decide⟩ rfl rfl (Nat.le_of_ble_eq_true rfl) dX7_strike_27 ?_
    exact zr_iret E hr rfl hm dX7_strike_30
  · rw [if_neg c3] at hm
    refine zr_aload_n E dX7_strike_8 0 rfl ?_
    refine zr_bipush (v := 20) E dX7_strike_9 (by decide) ?_
    refine zr_iconst (v := 4) E dX7_strike_11 (by decide) ?_
    refine zr_iload_n E dX7_strike_12 1 rfl ?_
    refine zr_imul E dX7_strike_13 ?_
    refine zr_iadd E dX7_strike_14 ?_
    refine zr_iconst (v := 2) E dX7_strike_15 (by decide) ?_
    refine zr_iadd E dX7_strike_16 ?_
    refine zr_iconst (v := 0) E dX7_strike_17 (by decide) ?_
    obtain ⟨r7, s6, os6, hm⟩ := cl_some hm
    refine zr_cVi (st := []) E mw_123 cm_X7_becomes (c_X7_becomes B.2.1 P s1 ((20 + (4 * x1)) + 2) 0) os6 (rc_57 P) ⟨by decide, by decide⟩ rfl rfl (Nat.le_of_ble_eq_true rfl) dX7_strike_18 ?_
    refine zr_goto (tgt := 30) E dX7_strike_21 (by decide) ?_
    exact zr_iret E hr rfl hm dX7_strike_30
-- X7_isOpen
set_option maxRecDepth 100000 in
set_option maxHeartbeats 4000000 in
theorem t_X7_isOpen_2 {B : zw_B} {P : zw_P} {r : Int32} {τ : zw_S} (E : zf B P cX7_isOpen RX7 3 2) (hr : B.2.2.2.2.2.2.2.2.1.sig.returnType = some .boolean) : ∀ (n : Nat) (σ : zw_S) (x1 : Int32) (x2 : Int32), m_X7_isOpen_2 n σ x1 x2 = some (r, τ) → zw_G B P (zq_i B P r τ) 3 σ 2 [(0, .ref (zw_ad P 57)), (1, .int x1), (2, .int x2)] [] := by
  intro n
  induction n with
  | zero => intro σ x1 x2 hm; cases hm
  | succ n ih =>
    intro σ x1 x2 hm
    unfold m_X7_isOpen_2 at hm
    refine zr_iload_n E dX7_isOpen_2 2 rfl ?_
    refine zr_aload_n E dX7_isOpen_3 0 rfl ?_
    refine fg_X7_9 E dX7_isOpen_4 ?_
    refine zr_iconst (v := 2) E dX7_isOpen_7 (by decide) ?_
    obtain ⟨hv1, v1, ev1, hm⟩ := rd_some hm
    refine zr_iald E ac_58 hv1 ev1 dX7_isOpen_8 ?_
    refine zr_icmp_ge (tgt := 38) E dX7_isOpen_9 (by decide) (fun c2 => ?_) (fun c2 => ?_)
    · rw [if_pos c2] at hm
      refine zr_iconst (v := 0) E dX7_isOpen_38 (by decide) ?_
      exact zr_iret E hr (by decide) hm dX7_isOpen_39
    · rw [if_neg c2] at hm
      refine zr_aload_n E dX7_isOpen_12 0 rfl ?_
      refine zr_iload_n E dX7_isOpen_13 2 rfl ?_
      refine zr_iconst (v := 1) E dX7_isOpen_14 (by decide) ?_
      obtain ⟨r4, s3, os3, hm⟩ := cl_some hm
      refine zr_cVi (st := []) E mw_199 cm_X7_task0 (c_X7_task0 B.2.1 P σ x2 1) os3 (rc_57 P) ⟨by decide, by decide⟩ rfl rfl (Nat.le_of_ble_eq_true rfl) dX7_isOpen_15 ?_
      refine zr_iload_n E dX7_isOpen_18 1 rfl ?_
      refine zr_icmp_ne (tgt := 32) E dX7_isOpen_19 (by decide) (fun c5 => ?_) (fun c5 => ?_)
      · rw [if_neg c5] at hm
        obtain ⟨v6, ev6, hm⟩ := nm_some hm
        refine zr_iinc (j := 2) (lv' := [(2, .int v6), (0, .ref (zw_ad P 57)), (1, .int x1)]) E dX7_isOpen_32 rfl ev6 (by decide) rfl ?_
        refine zr_goto (tgt := 2) E dX7_isOpen_35 (by decide) ?_
        refine zr_sub (lv' := [(0, .ref (zw_ad P 57)), (1, .int x1), (2, .int v6)]) [1, 2, 0] rfl ?_
        exact ih s3 x1 v6 hm
      · rw [if_pos c5] at hm
        refine zr_aload_n E dX7_isOpen_22 0 rfl ?_
        refine zr_iload_n E dX7_isOpen_23 2 rfl ?_
        obtain ⟨r8, s7, os7, hm⟩ := cl_some hm
        refine zr_cVi (st := []) E mw_207 cm_X7_isEnded (c_X7_isEnded B.2.1 P s3 x2) os7 (rc_57 P) ⟨by decide, by decide⟩ rfl rfl (Nat.le_of_ble_eq_true rfl) dX7_isOpen_24 ?_
        refine zr_if_ne (tgt := 32) E dX7_isOpen_27 (by decide) (fun c9 => ?_) (fun c9 => ?_)
        · rw [if_neg c9] at hm
          obtain ⟨v10, ev10, hm⟩ := nm_some hm
          refine zr_iinc (j := 2) (lv' := [(2, .int v10), (0, .ref (zw_ad P 57)), (1, .int x1)]) E dX7_isOpen_32 rfl ev10 (by decide) rfl ?_
          refine zr_goto (tgt := 2) E dX7_isOpen_35 (by decide) ?_
          refine zr_sub (lv' := [(0, .ref (zw_ad P 57)), (1, .int x1), (2, .int v10)]) [1, 2, 0] rfl ?_
          exact ih s7 x1 v10 hm
        · rw [if_pos c9] at hm
          refine zr_iconst (v := 1) E dX7_isOpen_30 (by decide) ?_
          exact zr_iret E hr (by decide) hm dX7_isOpen_31
set_option maxRecDepth 100000 in
set_option maxHeartbeats 4000000 in
theorem c_X7_isOpen (l : Launch) (P : zw_P) (σ : zw_S) (x1 : Int32) : zc_i l P yX7_isOpen cX7_isOpen 3 .boolean 2 [.ref (zw_ad P 57), .int x1] σ (m_X7_isOpen σ x1) := by
  refine zc_i.of (by decide) (Nat.le_of_ble_eq_true rfl) (fun B r τ E hl hr hm => ?_)
  subst hl
  refine zr_sub (lv' := [(0, .ref (zw_ad P 57)), (1, .int x1)]) [0, 1] rfl ?_
  unfold m_X7_isOpen at hm
  refine zr_iconst (v := 0) E dX7_isOpen_0 (by decide) ?_
  refine zr_istore_n (lv' := [(2, .int 0), (0, .ref (zw_ad P 57)), (1, .int x1)]) E dX7_isOpen_1 (by decide) rfl ?_
  refine zr_sub (lv' := [(0, .ref (zw_ad P 57)), (1, .int x1), (2, .int 0)]) [1, 2, 0] rfl ?_
  exact t_X7_isOpen_2 E hr 200 σ x1 0 hm
-- X7_atHand
set_option maxRecDepth 100000 in
set_option maxHeartbeats 4000000 in
theorem t_X7_atHand_2 {B : zw_B} {P : zw_P} {r : Int32} {τ : zw_S} (E : zf B P cX7_atHand RX7 3 3) (hr : B.2.2.2.2.2.2.2.2.1.sig.returnType = some .int) : ∀ (n : Nat) (σ : zw_S) (x1 : Int32) (x2 : Int32), m_X7_atHand_2 n σ x1 x2 = some (r, τ) → zw_G B P (zq_i B P r τ) 3 σ 2 [(0, .ref (zw_ad P 57)), (1, .int x1), (2, .int x2)] [] := by
  intro n
  induction n with
  | zero => intro σ x1 x2 hm; cases hm
  | succ n ih =>
    intro σ x1 x2 hm
    unfold m_X7_atHand_2 at hm
    refine zr_iload_n E dX7_atHand_2 2 rfl ?_
    refine zr_aload_n E dX7_atHand_3 0 rfl ?_
    refine fg_X7_9 E dX7_atHand_4 ?_
    refine zr_iconst (v := 2) E dX7_atHand_7 (by decide) ?_
    obtain ⟨hv1, v1, ev1, hm⟩ := rd_some hm
    refine zr_iald E ac_58 hv1 ev1 dX7_atHand_8 ?_
    refine zr_icmp_ge (tgt := 46) E dX7_atHand_9 (by decide) (fun c2 => ?_) (fun c2 => ?_)
    · rw [if_pos c2] at hm
      refine zr_iconst (v := (-1)) E dX7_atHand_46 (by decide) ?_
      exact zr_iret E hr rfl hm dX7_atHand_47
    · rw [if_neg c2] at hm
      refine zr_aload_n E dX7_atHand_12 0 rfl ?_
      refine zr_iload_n E dX7_atHand_13 2 rfl ?_
      refine zr_iconst (v := 1) E dX7_atHand_14 (by decide) ?_
      obtain ⟨r4, s3, os3, hm⟩ := cl_some hm
      refine zr_cVi (st := []) E mw_199 cm_X7_task0 (c_X7_task0 B.2.1 P σ x2 1) os3 (rc_57 P) ⟨by decide, by decide⟩ rfl rfl (Nat.le_of_ble_eq_true rfl) dX7_atHand_15 ?_
      refine zr_iload_n E dX7_atHand_18 1 rfl ?_
      refine zr_icmp_ne (tgt := 40) E dX7_atHand_19 (by decide) (fun c5 => ?_) (fun c5 => ?_)
      · rw [if_neg c5] at hm
        obtain ⟨v6, ev6, hm⟩ := nm_some hm
        refine zr_iinc (j := 2) (lv' := [(2, .int v6), (0, .ref (zw_ad P 57)), (1, .int x1)]) E dX7_atHand_40 rfl ev6 (by decide) rfl ?_
        refine zr_goto (tgt := 2) E dX7_atHand_43 (by decide) ?_
        refine zr_sub (lv' := [(0, .ref (zw_ad P 57)), (1, .int x1), (2, .int v6)]) [1, 2, 0] rfl ?_
        exact ih s3 x1 v6 hm
      · rw [if_pos c5] at hm
        refine zr_aload_n E dX7_atHand_22 0 rfl ?_
        refine zr_iload_n E dX7_atHand_23 2 rfl ?_
        obtain ⟨r8, s7, os7, hm⟩ := cl_some hm
        refine zr_cVi (st := []) E mw_207 cm_X7_isEnded (c_X7_isEnded B.2.1 P s3 x2) os7 (rc_57 P) ⟨by decide, by decide⟩ rfl rfl (Nat.le_of_ble_eq_true rfl) dX7_atHand_24 ?_
        refine zr_if_ne (tgt := 40) E dX7_atHand_27 (by decide) (fun c9 => ?_) (fun c9 => ?_)
        · rw [if_neg c9] at hm
          obtain ⟨v10, ev10, hm⟩ := nm_some hm
          refine zr_iinc (j := 2) (lv' := [(2, .int v10), (0, .ref (zw_ad P 57)), (1, .int x1)]) E dX7_atHand_40 rfl ev10 (by decide) rfl ?_
          refine zr_goto (tgt := 2) E dX7_atHand_43 (by decide) ?_
          refine zr_sub (lv' := [(0, .ref (zw_ad P 57)), (1, .int x1), (2, .int v10)]) [1, 2, 0] rfl ?_
          exact ih s7 x1 v10 hm
        · rw [if_pos c9] at hm
          refine zr_aload_n E dX7_atHand_30 0 rfl ?_
          refine zr_iload_n E dX7_atHand_31 2 rfl ?_
          obtain ⟨r12, s11, os11, hm⟩ := cl_some hm
          refine zr_cVi (st := []) E mw_215 cm_X7_waitsFor (c_X7_waitsFor B.2.1 P s7 x2) os11 (rc_57 P) ⟨by decide, by decide⟩ rfl rfl (Nat.le_of_ble_eq_true rfl) dX7_atHand_32 ?_
          refine zr_if_ge (tgt := 40) E dX7_atHand_35 (by decide) (fun c13 => ?_) (fun c13 => ?_)
          · rw [if_pos c13] at hm
            obtain ⟨v14, ev14, hm⟩ := nm_some hm
            refine zr_iinc (j := 2) (lv' := [(2, .int v14), (0, .ref (zw_ad P 57)), (1, .int x1)]) E dX7_atHand_40 rfl ev14 (by decide) rfl ?_
            refine zr_goto (tgt := 2) E dX7_atHand_43 (by decide) ?_
            refine zr_sub (lv' := [(0, .ref (zw_ad P 57)), (1, .int x1), (2, .int v14)]) [1, 2, 0] rfl ?_
            exact ih s11 x1 v14 hm
          · rw [if_neg c13] at hm
            refine zr_iload_n E dX7_atHand_38 2 rfl ?_
            exact zr_iret E hr rfl hm dX7_atHand_39
set_option maxRecDepth 100000 in
set_option maxHeartbeats 4000000 in
theorem c_X7_atHand (l : Launch) (P : zw_P) (σ : zw_S) (x1 : Int32) : zc_i l P yX7_atHand cX7_atHand 3 .int 3 [.ref (zw_ad P 57), .int x1] σ (m_X7_atHand σ x1) := by
  refine zc_i.of (by decide) (Nat.le_of_ble_eq_true rfl) (fun B r τ E hl hr hm => ?_)
  subst hl
  refine zr_sub (lv' := [(0, .ref (zw_ad P 57)), (1, .int x1)]) [0, 1] rfl ?_
  unfold m_X7_atHand at hm
  refine zr_iconst (v := 0) E dX7_atHand_0 (by decide) ?_
  refine zr_istore_n (lv' := [(2, .int 0), (0, .ref (zw_ad P 57)), (1, .int x1)]) E dX7_atHand_1 (by decide) rfl ?_
  refine zr_sub (lv' := [(0, .ref (zw_ad P 57)), (1, .int x1), (2, .int 0)]) [1, 2, 0] rfl ?_
  exact t_X7_atHand_2 E hr 200 σ x1 0 hm
-- X7_sumOf
set_option maxRecDepth 100000 in
set_option maxHeartbeats 4000000 in
theorem t_X7_sumOf_5 {B : zw_B} {P : zw_P} {r : Int32} {τ : zw_S} (E : zf B P cX7_sumOf RX7 5 1) (hr : B.2.2.2.2.2.2.2.2.1.sig.returnType = some .int) : ∀ (n : Nat) (σ : zw_S) (x1 : Int32) (x2 : Int32) (x3 : Int32) (x4 : Int32), m_X7_sumOf_5 n σ x1 x2 x3 x4 = some (r, τ) → zw_G B P (zq_i B P r τ) 5 σ 5 [(0, .ref (zw_ad P 57)), (1, .int x1), (2, .int x2), (3, .int x3), (4, .int x4)] [] := by
  intro n
  induction n with
  | zero => intro σ x1 x2 x3 x4 hm; cases hm
  | succ n ih =>
    intro σ x1 x2 x3 x4 hm
    unfold m_X7_sumOf_5 at hm
    refine zr_iload E dX7_sumOf_5 4 rfl ?_
    refine zr_aload_n E dX7_sumOf_7 0 rfl ?_
    refine fg_X7_9 E dX7_sumOf_8 ?_
    refine zr_iconst (v := 2) E dX7_sumOf_11 (by decide) ?_
    obtain ⟨hv1, v1, ev1, hm⟩ := rd_some hm
    refine zr_iald E ac_58 hv1 ev1 dX7_sumOf_12 ?_
    refine zr_icmp_ge (tgt := 55) E dX7_sumOf_13 (by decide) (fun c2 => ?_) (fun c2 => ?_)
    · rw [if_pos c2] at hm
      refine zr_iload_n E dX7_sumOf_55 3 rfl ?_
      exact zr_iret E hr rfl hm dX7_sumOf_56
    · rw [if_neg c2] at hm
      refine zr_iload_n E dX7_sumOf_16 3 rfl ?_
      refine zr_aload_n E dX7_sumOf_17 0 rfl ?_
      refine zr_iload E dX7_sumOf_18 4 rfl ?_
      refine zr_iconst (v := 1) E dX7_sumOf_20 (by decide) ?_
      obtain ⟨r4, s3, os3, hm⟩ := cl_some hm
      refine zr_cVi (st := [.int x3]) E mw_199 cm_X7_task0 (c_X7_task0 B.2.1 P σ x4 1) os3 (rc_57 P) ⟨by decide, by decide⟩ rfl rfl (Nat.le_of_ble_eq_true rfl) dX7_sumOf_21 ?_
      refine zr_iload_n E dX7_sumOf_24 1 rfl ?_
      refine zr_icmp_eq (tgt := 32) E dX7_sumOf_25 (by decide) (fun c5 => ?_) (fun c5 => ?_)
      · rw [if_pos c5] at hm
        refine zr_iload_n E dX7_sumOf_32 2 rfl ?_
        refine zr_if_eq (tgt := 46) E dX7_sumOf_33 (by decide) (fun c6 => ?_) (fun c6 => ?_)
        · rw [if_pos c6] at hm
          refine zr_iconst (v := 1) E dX7_sumOf_46 (by decide) ?_
          refine zr_iadd E dX7_sumOf_47 ?_
          obtain ⟨v7, ev7, hm⟩ := nm_some hm
          refine zr_top ev7 ?_
          refine zr_istore_n (lv' := [(3, .int v7), (0, .ref (zw_ad P 57)), (1, .int x1), (2, .int x2), (4, .int x4)]) E dX7_sumOf_48 (by decide) rfl ?_
          obtain ⟨v8, ev8, hm⟩ := nm_some hm
          refine zr_iinc (j := 4) (lv' := [(4, .int v8), (3, .int v7), (0, .ref (zw_ad P 57)), (1, .int x1), (2, .int x2)]) E dX7_sumOf_49 rfl ev8 (by decide) rfl ?_
          refine zr_goto (tgt := 5) E dX7_sumOf_52 (by decide) ?_
          refine zr_sub (lv' := [(0, .ref (zw_ad P 57)), (1, .int x1), (2, .int x2), (3, .int v7), (4, .int v8)]) [2, 3, 4, 1, 0] rfl ?_
          exact ih s3 x1 x2 v7 v8 hm
        · rw [if_neg c6] at hm
          refine zr_aload_n E dX7_sumOf_36 0 rfl ?_
          refine zr_iload E dX7_sumOf_37 4 rfl ?_
          refine zr_iconst (v := 2) E dX7_sumOf_39 (by decide) ?_
          obtain ⟨r10, s9, os9, hm⟩ := cl_some hm
          refine zr_cVi (st := [.int x3]) E mw_199 cm_X7_task0 (c_X7_task0 B.2.1 P s3 x4 2) os9 (rc_57 P) ⟨by decide, by decide⟩ rfl rfl (Nat.le_of_ble_eq_true rfl) dX7_sumOf_40 ?_
          refine zr_goto (tgt := 47) E dX7_sumOf_43 (by decide) ?_
          refine zr_iadd E dX7_sumOf_47 ?_
          obtain ⟨v11, ev11, hm⟩ := nm_some hm
          refine zr_top ev11 ?_
          refine zr_istore_n (lv' := [(3, .int v11), (0, .ref (zw_ad P 57)), (1, .int x1), (2, .int x2), (4, .int x4)]) E dX7_sumOf_48 (by decide) rfl ?_
          obtain ⟨v12, ev12, hm⟩ := nm_some hm
          refine zr_iinc (j := 4) (lv' := [(4, .int v12), (3, .int v11), (0, .ref (zw_ad P 57)), (1, .int x1), (2, .int x2)]) E dX7_sumOf_49 rfl ev12 (by decide) rfl ?_
          refine zr_goto (tgt := 5) E dX7_sumOf_52 (by decide) ?_
          refine zr_sub (lv' := [(0, .ref (zw_ad P 57)), (1, .int x1), (2, .int x2), (3, .int v11), (4, .int v12)]) [2, 3, 4, 1, 0] rfl ?_
          exact ih s9 x1 x2 v11 v12 hm
      · rw [if_neg c5] at hm
        refine zr_iconst (v := 0) E dX7_sumOf_28 (by decide) ?_
        refine zr_goto (tgt := 47) E dX7_sumOf_29 (by decide) ?_
        refine zr_iadd E dX7_sumOf_47 ?_
        obtain ⟨v13, ev13, hm⟩ := nm_some hm
        refine zr_top ev13 ?_
        refine zr_istore_n (lv' := [(3, .int v13), (0, .ref (zw_ad P 57)), (1, .int x1), (2, .int x2), (4, .int x4)]) E dX7_sumOf_48 (by decide) rfl ?_
        obtain ⟨v14, ev14, hm⟩ := nm_some hm
        refine zr_iinc (j := 4) (lv' := [(4, .int v14), (3, .int v13), (0, .ref (zw_ad P 57)), (1, .int x1), (2, .int x2)]) E dX7_sumOf_49 rfl ev14 (by decide) rfl ?_
        refine zr_goto (tgt := 5) E dX7_sumOf_52 (by decide) ?_
        refine zr_sub (lv' := [(0, .ref (zw_ad P 57)), (1, .int x1), (2, .int x2), (3, .int v13), (4, .int v14)]) [2, 3, 4, 1, 0] rfl ?_
        exact ih s3 x1 x2 v13 v14 hm
set_option maxRecDepth 100000 in
set_option maxHeartbeats 4000000 in
theorem c_X7_sumOf (l : Launch) (P : zw_P) (σ : zw_S) (x1 : Int32) (x2 : Int32) : zc_i l P yX7_sumOf cX7_sumOf 5 .int 1 [.ref (zw_ad P 57), .int x1, .int x2] σ (m_X7_sumOf σ x1 x2) := by
  refine zc_i.of (by decide) (Nat.le_of_ble_eq_true rfl) (fun B r τ E hl hr hm => ?_)
  subst hl
  refine zr_sub (lv' := [(0, .ref (zw_ad P 57)), (1, .int x1), (2, .int x2)]) [0, 1, 2] rfl ?_
  unfold m_X7_sumOf at hm
  refine zr_iconst (v := 0) E dX7_sumOf_0 (by decide) ?_
  refine zr_istore_n (lv' := [(3, .int 0), (0, .ref (zw_ad P 57)), (1, .int x1), (2, .int x2)]) E dX7_sumOf_1 (by decide) rfl ?_
  refine zr_iconst (v := 0) E dX7_sumOf_2 (by decide) ?_
  refine zr_istore (lv' := [(4, .int 0), (3, .int 0), (0, .ref (zw_ad P 57)), (1, .int x1), (2, .int x2)]) E dX7_sumOf_3 (by decide) rfl ?_
  refine zr_sub (lv' := [(0, .ref (zw_ad P 57)), (1, .int x1), (2, .int x2), (3, .int 0), (4, .int 0)]) [2, 3, 4, 1, 0] rfl ?_
  exact t_X7_sumOf_5 E hr 200 σ x1 x2 0 0 hm
-- X7_nameOf
set_option maxRecDepth 100000 in
set_option maxHeartbeats 4000000 in
theorem c_X7_nameOf (l : Launch) (P : zw_P) (σ : zw_S) (x1 : Int32) (x2 : Int32) : zc_i l P yX7_nameOf cX7_nameOf 3 .int 4 [.ref (zw_ad P 57), .int x1, .int x2] σ (m_X7_nameOf σ x1 x2) := by
  refine zc_i.of (by decide) (Nat.le_of_ble_eq_true rfl) (fun B r τ E hl hr hm => ?_)
  subst hl
  refine zr_sub (lv' := [(0, .ref (zw_ad P 57)), (1, .int x1), (2, .int x2)]) [0, 1, 2] rfl ?_
  unfold m_X7_nameOf at hm
  refine zr_iload_n E dX7_nameOf_0 1 rfl ?_
  obtain ⟨r2, s1, os1, hm⟩ := cl_some hm
  refine zr_cSi (st := []) E mw_116 cm_X7_isName (c_X7_isName B.2.1 P σ x1) os1 ⟨by decide, by decide⟩ rfl rfl (Nat.le_of_ble_eq_true rfl) dX7_nameOf_1 ?_
  refine zr_if_eq (tgt := 19) E dX7_nameOf_4 (by decide) (fun c3 => ?_) (fun c3 => ?_)
  · rw [if_pos c3] at hm
    refine zr_aload_n E dX7_nameOf_19 0 rfl ?_
    refine zr_ldc E mw_115 dX7_nameOf_20 ?_
    obtain ⟨r5, s4, os4, hm⟩ := cl_some hm
    refine zr_cVi (st := []) E mw_127 cm_X7_finds (c_X7_finds B.2.1 P s1 (-1000001)) os4 (rc_57 P) ⟨by decide, by decide⟩ rfl rfl (Nat.le_of_ble_eq_true rfl) dX7_nameOf_22 ?_
    exact zr_iret E hr rfl hm dX7_nameOf_25
  · rw [if_neg c3] at hm
    refine zr_iload_n E dX7_nameOf_7 2 rfl ?_
    refine zr_i2l E dX7_nameOf_8 ?_
    refine zr_lconst (v := 0) E dX7_nameOf_9 (by decide) ?_
    refine zr_ldc2 E mw_156 dX7_nameOf_10 ?_
    obtain ⟨r7, s6, os6, hm⟩ := cl_some hm
    refine zr_cSi (st := []) E mw_120 cm_X7_in (c_X7_in B.2.1 P s1 x2.toInt64 0 6) os6 ⟨by decide, by decide⟩ rfl rfl (Nat.le_of_ble_eq_true rfl) dX7_nameOf_13 ?_
    refine zr_if_ne (tgt := 26) E dX7_nameOf_16 (by decide) (fun c8 => ?_) (fun c8 => ?_)
    · rw [if_neg c8] at hm
      refine zr_iload_n E dX7_nameOf_26 2 rfl ?_
      by_cases c9 : x2 = 0
      · rw [if_pos c9] at hm
        refine zr_tabIn (tgt := 64) E dX7_nameOf_27 c9 (by decide) (by decide) rfl (by decide) ?_
        refine zr_aload_n E dX7_nameOf_64 0 rfl ?_
        refine fg_X7_9 E dX7_nameOf_65 ?_
        refine zr_iconst (v := 4) E dX7_nameOf_68 (by decide) ?_
        refine zr_iconst (v := 2) E dX7_nameOf_69 (by decide) ?_
        refine zr_iload_n E dX7_nameOf_70 1 rfl ?_
        refine zr_imul E dX7_nameOf_71 ?_
        refine zr_iadd E dX7_nameOf_72 ?_
        obtain ⟨hv10, v10, ev10, hm⟩ := rd_some hm
        refine zr_iald E ac_58 hv10 ev10 dX7_nameOf_73 ?_
        exact zr_iret E hr rfl hm dX7_nameOf_74
      · rw [if_neg c9] at hm
        by_cases c11 : x2 = 1
        · rw [if_pos c11] at hm
          refine zr_tabIn (tgt := 75) E dX7_nameOf_27 c11 (by decide) (by decide) rfl (by decide) ?_
          refine zr_aload_n E dX7_nameOf_75 0 rfl ?_
          refine zr_iload_n E dX7_nameOf_76 1 rfl ?_
          obtain ⟨r13, s12, os12, hm⟩ := cl_some hm
          refine zr_cVi (st := []) E mw_281 cm_X7_isOpen (c_X7_isOpen B.2.1 P s6 x1) os12 (rc_57 P) ⟨by decide, by decide⟩ rfl rfl (Nat.le_of_ble_eq_true rfl) dX7_nameOf_77 ?_
          refine zr_if_eq (tgt := 87) E dX7_nameOf_80 (by decide) (fun c14 => ?_) (fun c14 => ?_)
          · rw [if_pos c14] at hm
            refine zr_iconst (v := 0) E dX7_nameOf_87 (by decide) ?_
            exact zr_iret E hr rfl hm dX7_nameOf_88
          · rw [if_neg c14] at hm
            refine zr_iconst (v := 1) E dX7_nameOf_83 (by decide) ?_
            refine zr_goto (tgt := 88) E dX7_nameOf_84 (by decide) ?_
            exact zr_iret E hr rfl hm dX7_nameOf_88
        · rw [if_neg c11] at hm
          by_cases c15 : x2 = 2
          · rw [if_pos c15] at hm
            refine zr_tabIn (tgt := 89) E dX7_nameOf_27 c15 (by decide) (by decide) rfl (by decide) ?_
            refine zr_aload_n E dX7_nameOf_89 0 rfl ?_
            refine zr_iload_n E dX7_nameOf_90 1 rfl ?_
            obtain ⟨r17, s16, os16, hm⟩ := cl_some hm
            refine zr_cVi (st := []) E mw_285 cm_X7_bearer (c_X7_bearer B.2.1 P s6 x1) os16 (rc_57 P) ⟨by decide, by decide⟩ rfl rfl (Nat.le_of_ble_eq_true rfl) dX7_nameOf_91 ?_
            exact zr_iret E hr rfl hm dX7_nameOf_94
          · rw [if_neg c15] at hm
            by_cases c18 : x2 = 3
            · rw [if_pos c18] at hm
              refine zr_tabIn (tgt := 95) E dX7_nameOf_27 c18 (by decide) (by decide) rfl (by decide) ?_
              refine zr_aload_n E dX7_nameOf_95 0 rfl ?_
              refine zr_iload_n E dX7_nameOf_96 1 rfl ?_
              refine zr_iconst (v := 0) E dX7_nameOf_97 (by decide) ?_
              obtain ⟨r20, s19, os19, hm⟩ := cl_some hm
              refine zr_cVi (st := []) E mw_293 cm_X7_sumOf (c_X7_sumOf B.2.1 P s6 x1 0) os19 (rc_57 P) ⟨by decide, by decide⟩ rfl rfl (Nat.le_of_ble_eq_true rfl) dX7_nameOf_98 ?_
              exact zr_iret E hr rfl hm dX7_nameOf_101
            · rw [if_neg c18] at hm
              by_cases c21 : x2 = 4
              · rw [if_pos c21] at hm
                refine zr_tabIn (tgt := 102) E dX7_nameOf_27 c21 (by decide) (by decide) rfl (by decide) ?_
                refine zr_aload_n E dX7_nameOf_102 0 rfl ?_
                refine zr_iload_n E dX7_nameOf_103 1 rfl ?_
                refine zr_iconst (v := 1) E dX7_nameOf_104 (by decide) ?_
                obtain ⟨r23, s22, os22, hm⟩ := cl_some hm
                refine zr_cVi (st := []) E mw_293 cm_X7_sumOf (c_X7_sumOf B.2.1 P s6 x1 1) os22 (rc_57 P) ⟨by decide, by decide⟩ rfl rfl (Nat.le_of_ble_eq_true rfl) dX7_nameOf_105 ?_
                exact zr_iret E hr rfl hm dX7_nameOf_108
              · rw [if_neg c21] at hm
                by_cases c24 : x2 = 5
                · rw [if_pos c24] at hm
                  refine zr_tabIn (tgt := 109) E dX7_nameOf_27 c24 (by decide) (by decide) rfl (by decide) ?_
                  refine zr_aload_n E dX7_nameOf_109 0 rfl ?_
                  refine zr_iload_n E dX7_nameOf_110 1 rfl ?_
                  obtain ⟨r26, s25, os25, hm⟩ := cl_some hm
                  refine zr_cVi (st := []) E mw_297 cm_X7_atHand (c_X7_atHand B.2.1 P s6 x1) os25 (rc_57 P) ⟨by decide, by decide⟩ rfl rfl (Nat.le_of_ble_eq_true rfl) dX7_nameOf_111 ?_
                  exact zr_iret E hr rfl hm dX7_nameOf_114
                · rw [if_neg c24] at hm
                  refine zr_tabOut (tgt := 115) E dX7_nameOf_27 (sw_out (0) 6 (by decide) (by decide) (fun j hj => by match j, hj with | 0, _ => exact c9 | 1, _ => exact c11 | 2, _ => exact c15 | 3, _ => exact c18 | 4, _ => exact c21 | 5, _ => exact c24 | (j + 6), hj => exact absurd hj (by omega)) _ (by decide)) (by decide) ?_
                  refine zr_aload_n E dX7_nameOf_115 0 rfl ?_
                  refine fg_X7_9 E dX7_nameOf_116 ?_
                  refine zr_iconst (v := 4) E dX7_nameOf_119 (by decide) ?_
                  refine zr_iconst (v := 2) E dX7_nameOf_120 (by decide) ?_
                  refine zr_iload_n E dX7_nameOf_121 1 rfl ?_
                  refine zr_imul E dX7_nameOf_122 ?_
                  refine zr_iadd E dX7_nameOf_123 ?_
                  refine zr_iconst (v := 1) E dX7_nameOf_124 (by decide) ?_
                  refine zr_iadd E dX7_nameOf_125 ?_
                  obtain ⟨hv27, v27, ev27, hm⟩ := rd_some hm
                  refine zr_iald E ac_58 hv27 ev27 dX7_nameOf_126 ?_
                  exact zr_iret E hr rfl hm dX7_nameOf_127
    · rw [if_pos c8] at hm
      refine zr_aload_n E dX7_nameOf_19 0 rfl ?_
      refine zr_ldc E mw_115 dX7_nameOf_20 ?_
      obtain ⟨r29, s28, os28, hm⟩ := cl_some hm
      refine zr_cVi (st := []) E mw_127 cm_X7_finds (c_X7_finds B.2.1 P s6 (-1000001)) os28 (rc_57 P) ⟨by decide, by decide⟩ rfl rfl (Nat.le_of_ble_eq_true rfl) dX7_nameOf_22 ?_
      exact zr_iret E hr rfl hm dX7_nameOf_25
-- X7_rings
set_option maxRecDepth 100000 in
set_option maxHeartbeats 4000000 in
theorem t_X7_rings_4 {B : zw_B} {P : zw_P} {r : Int32} {τ : zw_S} (E : zf B P cX7_rings RX7 3 4) (hr : B.2.2.2.2.2.2.2.2.1.sig.returnType = some .int) : ∀ (n : Nat) (σ : zw_S) (x1 : Int32) (x2 : Int32), m_X7_rings_4 n σ x1 x2 = some (r, τ) → zw_G B P (zq_i B P r τ) 3 σ 4 [(0, .ref (zw_ad P 57)), (1, .int x1), (2, .int x2)] [] := by
  intro n
  induction n with
  | zero => intro σ x1 x2 hm; cases hm
  | succ n ih =>
    intro σ x1 x2 hm
    unfold m_X7_rings_4 at hm
    refine zr_iload_n E dX7_rings_4 2 rfl ?_
    refine zr_aload_n E dX7_rings_5 0 rfl ?_
    refine fg_X7_9 E dX7_rings_6 ?_
    refine zr_iconst (v := 2) E dX7_rings_9 (by decide) ?_
    obtain ⟨hv1, v1, ev1, hm⟩ := rd_some hm
    refine zr_iald E ac_58 hv1 ev1 dX7_rings_10 ?_
    refine zr_icmp_ge (tgt := 39) E dX7_rings_11 (by decide) (fun c2 => ?_) (fun c2 => ?_)
    · rw [if_pos c2] at hm
      refine zr_iload_n E dX7_rings_39 1 rfl ?_
      exact zr_iret E hr rfl hm dX7_rings_40
    · rw [if_neg c2] at hm
      refine zr_iload_n E dX7_rings_14 1 rfl ?_
      refine zr_aload_n E dX7_rings_15 0 rfl ?_
      refine zr_iload_n E dX7_rings_16 2 rfl ?_
      refine zr_iload_n E dX7_rings_17 2 rfl ?_
      obtain ⟨r4, s3, os3, hm⟩ := cl_some hm
      refine zr_cVi (st := [.int x1]) E mw_211 cm_X7_comesTo (c_X7_comesTo B.2.1 P σ x2 x2) os3 (rc_57 P) ⟨by decide, by decide⟩ rfl rfl (Nat.le_of_ble_eq_true rfl) dX7_rings_18 ?_
      refine zr_if_eq (tgt := 30) E dX7_rings_21 (by decide) (fun c5 => ?_) (fun c5 => ?_)
      · rw [if_pos c5] at hm
        refine zr_iconst (v := 0) E dX7_rings_30 (by decide) ?_
        refine zr_ior E dX7_rings_31 ?_
        obtain ⟨v6, ev6, hm⟩ := nm_some hm
        refine zr_top ev6 ?_
        refine zr_istore_n (lv' := [(1, .int v6), (0, .ref (zw_ad P 57)), (2, .int x2)]) E dX7_rings_32 (by decide) rfl ?_
        obtain ⟨v7, ev7, hm⟩ := nm_some hm
        refine zr_iinc (j := 2) (lv' := [(2, .int v7), (1, .int v6), (0, .ref (zw_ad P 57))]) E dX7_rings_33 rfl ev7 (by decide) rfl ?_
        refine zr_goto (tgt := 4) E dX7_rings_36 (by decide) ?_
        refine zr_sub (lv' := [(0, .ref (zw_ad P 57)), (1, .int v6), (2, .int v7)]) [2, 1, 0] rfl ?_
        exact ih s3 v6 v7 hm
      · rw [if_neg c5] at hm
        refine zr_iconst (v := 1) E dX7_rings_24 (by decide) ?_
        refine zr_iload_n E dX7_rings_25 2 rfl ?_
        refine zr_ishl E dX7_rings_26 ?_
        refine zr_goto (tgt := 31) E dX7_rings_27 (by decide) ?_
        refine zr_ior E dX7_rings_31 ?_
        obtain ⟨v8, ev8, hm⟩ := nm_some hm
        refine zr_top ev8 ?_
        refine zr_istore_n (lv' := [(1, .int v8), (0, .ref (zw_ad P 57)), (2, .int x2)]) E dX7_rings_32 (by decide) rfl ?_
        obtain ⟨v9, ev9, hm⟩ := nm_some hm
        refine zr_iinc (j := 2) (lv' := [(2, .int v9), (1, .int v8), (0, .ref (zw_ad P 57))]) E dX7_rings_33 rfl ev9 (by decide) rfl ?_
        refine zr_goto (tgt := 4) E dX7_rings_36 (by decide) ?_
        refine zr_sub (lv' := [(0, .ref (zw_ad P 57)), (1, .int v8), (2, .int v9)]) [2, 1, 0] rfl ?_
        exact ih s3 v8 v9 hm
set_option maxRecDepth 100000 in
set_option maxHeartbeats 4000000 in
theorem c_X7_rings (l : Launch) (P : zw_P) (σ : zw_S) : zc_i l P yX7_rings cX7_rings 3 .int 4 [.ref (zw_ad P 57)] σ (m_X7_rings σ) := by
  refine zc_i.of (by decide) (Nat.le_of_ble_eq_true rfl) (fun B r τ E hl hr hm => ?_)
  subst hl
  refine zr_sub (lv' := [(0, .ref (zw_ad P 57))]) [0] rfl ?_
  unfold m_X7_rings at hm
  refine zr_iconst (v := 0) E dX7_rings_0 (by decide) ?_
  refine zr_istore_n (lv' := [(1, .int 0), (0, .ref (zw_ad P 57))]) E dX7_rings_1 (by decide) rfl ?_
  refine zr_iconst (v := 0) E dX7_rings_2 (by decide) ?_
  refine zr_istore_n (lv' := [(2, .int 0), (1, .int 0), (0, .ref (zw_ad P 57))]) E dX7_rings_3 (by decide) rfl ?_
  refine zr_sub (lv' := [(0, .ref (zw_ad P 57)), (1, .int 0), (2, .int 0)]) [2, 1, 0] rfl ?_
  exact t_X7_rings_4 E hr 200 σ 0 0 hm
-- X7_waits
set_option maxRecDepth 100000 in
set_option maxHeartbeats 4000000 in
theorem t_X7_waits_19 {B : zw_B} {P : zw_P} {r : Int32} {τ : zw_S} (E : zf B P cX7_waits RX7 4 4) (hr : B.2.2.2.2.2.2.2.2.1.sig.returnType = some .int) : ∀ (n : Nat) (σ : zw_S) (x1 : Int32) (x2 : Int32) (x3 : Int32), m_X7_waits_19 n σ x1 x2 x3 = some (r, τ) → zw_G B P (zq_i B P r τ) 4 σ 19 [(0, .ref (zw_ad P 57)), (1, .int x1), (2, .int x2), (3, .int x3)] [] := by
  intro n
  induction n with
  | zero => intro σ x1 x2 x3 hm; cases hm
  | succ n ih =>
    intro σ x1 x2 x3 hm
    unfold m_X7_waits_19 at hm
    refine zr_iload_n E dX7_waits_19 3 rfl ?_
    refine zr_aload_n E dX7_waits_20 0 rfl ?_
    refine fg_X7_9 E dX7_waits_21 ?_
    refine zr_iconst (v := 2) E dX7_waits_24 (by decide) ?_
    obtain ⟨hv1, v1, ev1, hm⟩ := rd_some hm
    refine zr_iald E ac_58 hv1 ev1 dX7_waits_25 ?_
    refine zr_icmp_ge (tgt := 54) E dX7_waits_26 (by decide) (fun c2 => ?_) (fun c2 => ?_)
    · rw [if_pos c2] at hm
      refine zr_iload_n E dX7_waits_54 2 rfl ?_
      exact zr_iret E hr rfl hm dX7_waits_55
    · rw [if_neg c2] at hm
      refine zr_iload_n E dX7_waits_29 2 rfl ?_
      refine zr_aload_n E dX7_waits_30 0 rfl ?_
      refine zr_iload_n E dX7_waits_31 3 rfl ?_
      refine zr_iload_n E dX7_waits_32 1 rfl ?_
      obtain ⟨r4, s3, os3, hm⟩ := cl_some hm
      refine zr_cVi (st := [.int x2]) E mw_211 cm_X7_comesTo (c_X7_comesTo B.2.1 P σ x3 x1) os3 (rc_57 P) ⟨by decide, by decide⟩ rfl rfl (Nat.le_of_ble_eq_true rfl) dX7_waits_33 ?_
      refine zr_if_eq (tgt := 45) E dX7_waits_36 (by decide) (fun c5 => ?_) (fun c5 => ?_)
      · rw [if_pos c5] at hm
        refine zr_iconst (v := 0) E dX7_waits_45 (by decide) ?_
        refine zr_ior E dX7_waits_46 ?_
        obtain ⟨v6, ev6, hm⟩ := nm_some hm
        refine zr_top ev6 ?_
        refine zr_istore_n (lv' := [(2, .int v6), (0, .ref (zw_ad P 57)), (1, .int x1), (3, .int x3)]) E dX7_waits_47 (by decide) rfl ?_
        obtain ⟨v7, ev7, hm⟩ := nm_some hm
        refine zr_iinc (j := 3) (lv' := [(3, .int v7), (2, .int v6), (0, .ref (zw_ad P 57)), (1, .int x1)]) E dX7_waits_48 rfl ev7 (by decide) rfl ?_
        refine zr_goto (tgt := 19) E dX7_waits_51 (by decide) ?_
        refine zr_sub (lv' := [(0, .ref (zw_ad P 57)), (1, .int x1), (2, .int v6), (3, .int v7)]) [2, 3, 1, 0] rfl ?_
        exact ih s3 x1 v6 v7 hm
      · rw [if_neg c5] at hm
        refine zr_iconst (v := 1) E dX7_waits_39 (by decide) ?_
        refine zr_iload_n E dX7_waits_40 3 rfl ?_
        refine zr_ishl E dX7_waits_41 ?_
        refine zr_goto (tgt := 46) E dX7_waits_42 (by decide) ?_
        refine zr_ior E dX7_waits_46 ?_
        obtain ⟨v8, ev8, hm⟩ := nm_some hm
        refine zr_top ev8 ?_
        refine zr_istore_n (lv' := [(2, .int v8), (0, .ref (zw_ad P 57)), (1, .int x1), (3, .int x3)]) E dX7_waits_47 (by decide) rfl ?_
        obtain ⟨v9, ev9, hm⟩ := nm_some hm
        refine zr_iinc (j := 3) (lv' := [(3, .int v9), (2, .int v8), (0, .ref (zw_ad P 57)), (1, .int x1)]) E dX7_waits_48 rfl ev9 (by decide) rfl ?_
        refine zr_goto (tgt := 19) E dX7_waits_51 (by decide) ?_
        refine zr_sub (lv' := [(0, .ref (zw_ad P 57)), (1, .int x1), (2, .int v8), (3, .int v9)]) [2, 3, 1, 0] rfl ?_
        exact ih s3 x1 v8 v9 hm
set_option maxRecDepth 100000 in
set_option maxHeartbeats 4000000 in
theorem c_X7_waits (l : Launch) (P : zw_P) (σ : zw_S) (x1 : Int32) : zc_i l P yX7_waits cX7_waits 4 .int 4 [.ref (zw_ad P 57), .int x1] σ (m_X7_waits σ x1) := by
  refine zc_i.of (by decide) (Nat.le_of_ble_eq_true rfl) (fun B r τ E hl hr hm => ?_)
  subst hl
  refine zr_sub (lv' := [(0, .ref (zw_ad P 57)), (1, .int x1)]) [0, 1] rfl ?_
  unfold m_X7_waits at hm
  refine zr_aload_n E dX7_waits_0 0 rfl ?_
  refine zr_iload_n E dX7_waits_1 1 rfl ?_
  obtain ⟨r2, s1, os1, hm⟩ := cl_some hm
  refine zr_cVi (st := []) E mw_195 cm_X7_isTask (c_X7_isTask B.2.1 P σ x1) os1 (rc_57 P) ⟨by decide, by decide⟩ rfl rfl (Nat.le_of_ble_eq_true rfl) dX7_waits_2 ?_
  refine zr_if_ne (tgt := 15) E dX7_waits_5 (by decide) (fun c3 => ?_) (fun c3 => ?_)
  · rw [if_neg c3] at hm
    refine zr_iconst (v := 0) E dX7_waits_15 (by decide) ?_
    refine zr_istore_n (lv' := [(2, .int 0), (0, .ref (zw_ad P 57)), (1, .int x1)]) E dX7_waits_16 (by decide) rfl ?_
    refine zr_iconst (v := 0) E dX7_waits_17 (by decide) ?_
    refine zr_istore_n (lv' := [(3, .int 0), (2, .int 0), (0, .ref (zw_ad P 57)), (1, .int x1)]) E dX7_waits_18 (by decide) rfl ?_
    refine zr_sub (lv' := [(0, .ref (zw_ad P 57)), (1, .int x1), (2, .int 0), (3, .int 0)]) [2, 3, 1, 0] rfl ?_
    exact t_X7_waits_19 E hr 200 s1 x1 0 0 hm
  · rw [if_pos c3] at hm
    refine zr_aload_n E dX7_waits_8 0 rfl ?_
    refine zr_ldc E mw_115 dX7_waits_9 ?_
    obtain ⟨r5, s4, os4, hm⟩ := cl_some hm
    refine zr_cVi (st := []) E mw_127 cm_X7_finds (c_X7_finds B.2.1 P s1 (-1000001)) os4 (rc_57 P) ⟨by decide, by decide⟩ rfl rfl (Nat.le_of_ble_eq_true rfl) dX7_waits_11 ?_
    exact zr_iret E hr rfl hm dX7_waits_14
-- X7_isBorn
set_option maxRecDepth 100000 in
set_option maxHeartbeats 4000000 in
theorem c_X7_isBorn (l : Launch) (P : zw_P) (σ : zw_S) (x1 : Int32) (x2 : Int32) (x3 : Int32) : zc_v l P yX7_isBorn cX7_isBorn 5 0 [.ref (zw_ad P 57), .int x1, .int x2, .int x3] σ (m_X7_isBorn σ x1 x2 x3) := by
  refine zc_v.of (by decide) (Nat.le_of_ble_eq_true rfl) (fun B τ E hl hr hm => ?_)
  subst hl
  refine zr_sub (lv' := [(0, .ref (zw_ad P 57)), (1, .int x1), (2, .int x2), (3, .int x3)]) [0, 1, 2, 3] rfl ?_
  unfold m_X7_isBorn at hm
  refine zr_bipush (v := 100) E dX7_isBorn_0 (by decide) ?_
  refine zr_iconst (v := 4) E dX7_isBorn_2 (by decide) ?_
  refine zr_aload_n E dX7_isBorn_3 0 rfl ?_
  refine fg_X7_9 E dX7_isBorn_4 ?_
  refine zr_iconst (v := 3) E dX7_isBorn_7 (by decide) ?_
  obtain ⟨hv1, v1, ev1, hm⟩ := rd_some hm
  refine zr_iald E ac_58 hv1 ev1 dX7_isBorn_8 ?_
  refine zr_imul E dX7_isBorn_9 ?_
  refine zr_iadd E dX7_isBorn_10 ?_
  obtain ⟨v2, ev2, hm⟩ := nm_some hm
  refine zr_top ev2 ?_
  refine zr_istore (lv' := [(4, .int v2), (0, .ref (zw_ad P 57)), (1, .int x1), (2, .int x2), (3, .int x3)]) E dX7_isBorn_11 (by decide) rfl ?_
  refine zr_aload_n E dX7_isBorn_13 1 rfl ?_
  refine fg_X7_9 E dX7_isBorn_14 ?_
  refine zr_iload E dX7_isBorn_17 0 rfl ?_
  refine zr_iload_n E dX7_isBorn_19 4 rfl ?_
  obtain ⟨hs3, s3, es3, hm⟩ := wt_some hm
  refine zr_iast E ac_58 hs3 es3 dX7_isBorn_20 ?_
  refine zr_aload_n E dX7_isBorn_21 1 rfl ?_
  refine fg_X7_9 E dX7_isBorn_22 ?_
  refine zr_iload E dX7_isBorn_25 0 rfl ?_
  refine zr_iconst (v := 1) E dX7_isBorn_27 (by decide) ?_
  refine zr_iadd E dX7_isBorn_28 ?_
  refine zr_iload_n E dX7_isBorn_29 3 rfl ?_
  obtain ⟨hs4, s4, es4, hm⟩ := wt_some hm
  refine zr_iast E ac_58 hs4 es4 dX7_isBorn_30 ?_
  refine zr_aload_n E dX7_isBorn_31 1 rfl ?_
  refine fg_X7_9 E dX7_isBorn_32 ?_
  refine zr_iload E dX7_isBorn_35 0 rfl ?_
  refine zr_iconst (v := 2) E dX7_isBorn_37 (by decide) ?_
  refine zr_iadd E dX7_isBorn_38 ?_
  refine zr_iload_n E dX7_isBorn_39 2 rfl ?_
  obtain ⟨hs5, s5, es5, hm⟩ := wt_some hm
  refine zr_iast E ac_58 hs5 es5 dX7_isBorn_40 ?_
  refine zr_aload_n E dX7_isBorn_41 1 rfl ?_
  refine fg_X7_9 E dX7_isBorn_42 ?_
  refine zr_iload E dX7_isBorn_45 0 rfl ?_
  refine zr_iconst (v := 3) E dX7_isBorn_47 (by decide) ?_
  refine zr_iadd E dX7_isBorn_48 ?_
  refine zr_iconst (v := (-1)) E dX7_isBorn_49 (by decide) ?_
  obtain ⟨hs6, s6, es6, hm⟩ := wt_some hm
  refine zr_iast E ac_58 hs6 es6 dX7_isBorn_50 ?_
  refine zr_aload_n E dX7_isBorn_51 1 rfl ?_
  refine fg_X7_9 E dX7_isBorn_52 ?_
  refine zr_iconst (v := 3) E dX7_isBorn_55 (by decide) ?_
  refine zr_dup2 E dX7_isBorn_56 rfl rfl ?_
  obtain ⟨hv7, v7, ev7, hm⟩ := rd_some hm
  refine zr_iald E ac_58 hv7 ev7 dX7_isBorn_57 ?_
  refine zr_iconst (v := 1) E dX7_isBorn_58 (by decide) ?_
  refine zr_iadd E dX7_isBorn_59 ?_
  obtain ⟨hs8, s8, es8, hm⟩ := wt_some hm
  refine zr_iast E ac_58 hs8 es8 dX7_isBorn_60 ?_
  exact zr_vret E hr hm dX7_isBorn_61
-- X7_person
set_option maxRecDepth 100000 in
set_option maxHeartbeats 4000000 in
theorem c_X7_person (l : Launch) (P : zw_P) (σ : zw_S) (x1 : Int32) : zc_i l P yX7_person cX7_person 2 .int 2 [.ref (zw_ad P 57), .int x1] σ (m_X7_person σ x1) := by
  refine zc_i.of (by decide) (Nat.le_of_ble_eq_true rfl) (fun B r τ E hl hr hm => ?_)
  subst hl
  refine zr_sub (lv' := [(0, .ref (zw_ad P 57)), (1, .int x1)]) [0, 1] rfl ?_
  unfold m_X7_person at hm
  refine zr_iload_n E dX7_person_0 1 rfl ?_
  obtain ⟨r2, s1, os1, hm⟩ := cl_some hm
  refine zr_cSi (st := []) E mw_330 cm_X7_areHands (c_X7_areHands B.2.1 P σ x1) os1 ⟨by decide, by decide⟩ rfl rfl (Nat.le_of_ble_eq_true rfl) dX7_person_1 ?_
  refine zr_if_ne (tgt := 14) E dX7_person_4 (by decide) (fun c3 => ?_) (fun c3 => ?_)
  · rw [if_neg c3] at hm
    refine zr_aload_n E dX7_person_14 0 rfl ?_
    refine fg_X7_9 E dX7_person_15 ?_
    refine zr_iconst (v := 3) E dX7_person_18 (by decide) ?_
    obtain ⟨hv4, v4, ev4, hm⟩ := rd_some hm
    refine zr_iald E ac_58 hv4 ev4 dX7_person_19 ?_
    refine zr_bipush (v := 8) E dX7_person_20 (by decide) ?_
    refine zr_icmp_ne (tgt := 32) E dX7_person_22 (by decide) (fun c5 => ?_) (fun c5 => ?_)
    · rw [if_neg c5] at hm
      refine zr_aload_n E dX7_person_32 0 rfl ?_
      refine zr_iload_n E dX7_person_33 1 rfl ?_
      refine zr_iconst (v := 0) E dX7_person_34 (by decide) ?_
      refine zr_iconst (v := (-1)) E dX7_person_35 (by decide) ?_
      obtain ⟨s6, os6, hm⟩ := cv_some hm
      refine zr_cVv (st := []) E mw_334 cm_X7_isBorn (c_X7_isBorn B.2.1 P s1 x1 0 (-1)) os6 (rc_57 P) ⟨by decide, by decide⟩ rfl rfl (Nat.le_of_ble_eq_true rfl) dX7_person_36 ?_
      refine zr_aload_n E dX7_person_39 0 rfl ?_
      refine fg_X7_9 E dX7_person_40 ?_
      refine zr_iconst (v := 3) E dX7_person_43 (by decide) ?_
      obtain ⟨hv7, v7, ev7, hm⟩ := rd_some hm
      refine zr_iald E ac_58 hv7 ev7 dX7_person_44 ?_
      refine zr_iconst (v := 1) E dX7_person_45 (by decide) ?_
      refine zr_isub E dX7_person_46 ?_
      exact zr_iret E hr rfl hm dX7_person_47
    · rw [if_pos c5] at hm
      refine zr_aload_n E dX7_person_25 0 rfl ?_
      refine zr_ldc E mw_152 dX7_person_26 ?_
      obtain ⟨r9, s8, os8, hm⟩ := cl_some hm
      refine zr_cVi (st := []) E mw_127 cm_X7_finds (c_X7_finds B.2.1 P s1 (-1000002)) os8 (rc_57 P) ⟨by decide, by decide⟩ rfl rfl (Nat.le_of_ble_eq_true rfl) dX7_person_28 ?_
      exact zr_iret E hr rfl hm dX7_person_31
  · rw [if_pos c3] at hm
    refine zr_aload_n E dX7_person_7 0 rfl ?_
    refine zr_ldc E mw_115 dX7_person_8 ?_
    obtain ⟨r11, s10, os10, hm⟩ := cl_some hm
    refine zr_cVi (st := []) E mw_127 cm_X7_finds (c_X7_finds B.2.1 P s1 (-1000001)) os10 (rc_57 P) ⟨by decide, by decide⟩ rfl rfl (Nat.le_of_ble_eq_true rfl) dX7_person_10 ?_
    exact zr_iret E hr rfl hm dX7_person_13
